/-! blocks -/
theorem dX0_init_0 : decode cX0_init 0 = .ok (.aload_n 0, 1) := by decide +kernel
theorem dX0_init_1 : decode cX0_init 1 = .ok (.invokespecial 1, 3) := by decide +kernel
theorem dX0_init_4 : decode cX0_init 4 = .ok (.aload_n 0, 1) := by decide +kernel
theorem dX0_init_5 : decode cX0_init 5 = .ok (.sipush 1439, 3) := by decide +kernel
theorem dX0_init_8 : decode cX0_init 8 = .ok (.putfield 7, 3) := by decide +kernel
theorem dX0_init_11 : decode cX0_init 11 = .ok (.aload_n 0, 1) := by decide +kernel
theorem dX0_init_12 : decode cX0_init 12 = .ok (.iconst 3, 1) := by decide +kernel
theorem dX0_init_13 : decode cX0_init 13 = .ok (.putfield 13, 3) := by decide +kernel
theorem dX0_init_16 : decode cX0_init 16 = .ok (.aload_n 0, 1) := by decide +kernel
theorem dX0_init_17 : decode cX0_init 17 = .ok (.bipush 24, 2) := by decide +kernel
theorem dX0_init_19 : decode cX0_init 19 = .ok (.newarray .int, 2) := by decide +kernel
theorem dX0_init_21 : decode cX0_init 21 = .ok (.putfield 16, 3) := by decide +kernel
theorem dX0_init_24 : decode cX0_init 24 = .ok (.aload_n 0, 1) := by decide +kernel
theorem dX0_init_25 : decode cX0_init 25 = .ok (.bipush 24, 2) := by decide +kernel
theorem dX0_init_27 : decode cX0_init 27 = .ok (.newarray .int, 2) := by decide +kernel
theorem dX0_init_29 : decode cX0_init 29 = .ok (.putfield 20, 3) := by decide +kernel
theorem dX0_init_32 : decode cX0_init 32 = .ok (.aload_n 0, 1) := by decide +kernel
theorem dX0_init_33 : decode cX0_init 33 = .ok (.iload_n 1, 1) := by decide +kernel
theorem dX0_init_34 : decode cX0_init 34 = .ok (.putfield 23, 3) := by decide +kernel
theorem dX0_init_37 : decode cX0_init 37 = .ok (.return_, 1) := by decide +kernel
theorem bX0_init_0 {d : Nat} {h0 hE h : ea_H} {rv : Option ea_V} {r0 : Option Nat} {x1 : Int32} (H : 1 ≤ d ∧ ∃ a28, r0 = some a28 ∧ a28 < ea_n h ∧ ea_c h a28 = 0 ∧ ∀ h32, h32 = ea_wi h a28 3 1439 → a28 < ea_n h32 ∧ ea_c h32 a28 = 0 ∧ ∀ h36, h36 = ea_wi h32 a28 7 3 → ∀ h38, h38 = ea_new h36 20 24 24 → a28 < ea_n h38 ∧ ea_c h38 a28 = 0 ∧ ∀ h42, h42 = ea_wr h38 a28 9 (some (ea_n h36)) → ∀ h44, h44 = ea_new h42 20 24 24 → a28 < ea_n h44 ∧ ea_c h44 a28 = 0 ∧ ∀ h48, h48 = ea_wr h44 a28 10 (some (ea_n h42)) → a28 < ea_n h48 ∧ ea_c h48 a28 = 0 ∧ ∀ h52, h52 = ea_wi h48 a28 0 x1 → rv = none ∧ hE = h52) : ea_W mX0_init d h0 rv hE 0 [(0, vR r0), (1, vI x1)] [] h := by
  refine ea_aload_n (pc := 0) dX0_init_0 rfl 0 rfl ?_
  obtain ⟨z27, a28, e29, H⟩ := H
  refine ea_deref0 e29 ?_
  refine ea_objInit (pc := 1) dX0_init_1 ew_791 ew_134 ew_135 z27 (Nat.le_of_ble_eq_true rfl) ?_
  refine ea_aload_n (pc := 4) dX0_init_4 rfl 0 rfl ?_
  refine ea_sipush (pc := 5) dX0_init_5 (v := 1439) rfl ?_
  obtain ⟨f30, g31, H⟩ := H
  refine ea_deref1 e29 ?_
  refine ea_putI (pc := 8) dX0_init_8 ec_0 (k := 3) (Nat.le_of_ble_eq_true rfl) rfl (Or.inl ⟨rfl, Or.inl ew_799⟩) rfl rfl f30 g31 ?_
  obtain ⟨h32, E33⟩ : ∃ z, z = ea_wi h a28 3 1439 := ⟨_, rfl⟩
  have H := H h32 E33
  refine ea_nm E33 ?_
  refine ea_aload_n (pc := 11) dX0_init_11 rfl 0 rfl ?_
  refine ea_iconst (pc := 12) dX0_init_12 (v := 3) rfl ?_
  obtain ⟨f34, g35, H⟩ := H
  refine ea_deref1 e29 ?_
  refine ea_putI (pc := 13) dX0_init_13 ec_0 (k := 7) (Nat.le_of_ble_eq_true rfl) rfl (Or.inl ⟨rfl, Or.inl ew_812⟩) rfl rfl f34 g35 ?_
  obtain ⟨h36, E37⟩ : ∃ z, z = ea_wi h32 a28 7 3 := ⟨_, rfl⟩
  have H := H h36 E37
  refine ea_nm E37 ?_
  refine ea_aload_n (pc := 16) dX0_init_16 rfl 0 rfl ?_
  refine ea_bipush (pc := 17) dX0_init_17 (v := 24) rfl ?_
  refine ea_newI (pc := 19) (N := 24) dX0_init_19 ew_170 (by decide) rfl (Nat.le_of_ble_eq_true rfl) ?_
  obtain ⟨h38, E39⟩ : ∃ z, z = ea_new h36 20 24 24 := ⟨_, rfl⟩
  have H := H h38 E39
  refine ea_nm E39 ?_
  obtain ⟨f40, g41, H⟩ := H
  refine ea_deref1 e29 ?_
  refine ea_putR (pc := 21) dX0_init_21 ec_0 (k := 9) (Nat.le_of_ble_eq_true rfl) rfl (Or.inr ⟨rfl, rfl, rfl, ew_818⟩) f40 g41 ?_
  obtain ⟨h42, E43⟩ : ∃ z, z = ea_wr h38 a28 9 (some (ea_n h36)) := ⟨_, rfl⟩
  have H := H h42 E43
  refine ea_nm E43 ?_
  refine ea_aload_n (pc := 24) dX0_init_24 rfl 0 rfl ?_
  refine ea_bipush (pc := 25) dX0_init_25 (v := 24) rfl ?_
  refine ea_newI (pc := 27) (N := 24) dX0_init_27 ew_170 (by decide) rfl (Nat.le_of_ble_eq_true rfl) ?_
  obtain ⟨h44, E45⟩ : ∃ z, z = ea_new h42 20 24 24 := ⟨_, rfl⟩
  have H := H h44 E45
  refine ea_nm E45 ?_
  obtain ⟨f46, g47, H⟩ := H
  refine ea_deref1 e29 ?_
  refine ea_putR (pc := 29) dX0_init_29 ec_0 (k := 10) (Nat.le_of_ble_eq_true rfl) rfl (Or.inr ⟨rfl, rfl, rfl, ew_821⟩) f46 g47 ?_
  obtain ⟨h48, E49⟩ : ∃ z, z = ea_wr h44 a28 10 (some (ea_n h42)) := ⟨_, rfl⟩
  have H := H h48 E49
  refine ea_nm E49 ?_
  refine ea_aload_n (pc := 32) dX0_init_32 rfl 0 rfl ?_
  refine ea_iload_n (pc := 33) dX0_init_33 rfl 1 rfl ?_
  obtain ⟨f50, g51, H⟩ := H
  refine ea_deref1 e29 ?_
  refine ea_putI (pc := 34) dX0_init_34 ec_0 (k := 0) (Nat.le_of_ble_eq_true rfl) rfl (Or.inr ⟨rfl, rfl, rfl, ew_792⟩) rfl rfl f50 g51 ?_
  obtain ⟨h52, E53⟩ : ∃ z, z = ea_wi h48 a28 0 x1 := ⟨_, rfl⟩
  have H := H h52 E53
  refine ea_nm E53 ?_
  obtain ⟨rfl, rfl⟩ := H
  exact ea_return (pc := 37) dX0_init_37 rfl
theorem dX7_init_0 : decode cX7_init 0 = .ok (.aload_n 0, 1) := by decide +kernel
theorem dX7_init_1 : decode cX7_init 1 = .ok (.invokespecial 3, 3) := by decide +kernel
theorem dX7_init_4 : decode cX7_init 4 = .ok (.aload_n 0, 1) := by decide +kernel
theorem dX7_init_5 : decode cX7_init 5 = .ok (.iload_n 1, 1) := by decide +kernel
theorem dX7_init_6 : decode cX7_init 6 = .ok (.putfield 9, 3) := by decide +kernel
theorem dX7_init_9 : decode cX7_init 9 = .ok (.aload_n 0, 1) := by decide +kernel
theorem dX7_init_10 : decode cX7_init 10 = .ok (.iload_n 2, 1) := by decide +kernel
theorem dX7_init_11 : decode cX7_init 11 = .ok (.putfield 15, 3) := by decide +kernel
theorem dX7_init_14 : decode cX7_init 14 = .ok (.aload_n 0, 1) := by decide +kernel
theorem dX7_init_15 : decode cX7_init 15 = .ok (.iload_n 3, 1) := by decide +kernel
theorem dX7_init_16 : decode cX7_init 16 = .ok (.iconst 0, 1) := by decide +kernel
theorem dX7_init_17 : decode cX7_init 17 = .ok (.invokestatic 18, 3) := by decide +kernel
theorem dX7_init_20 : decode cX7_init 20 = .ok (.newarray .int, 2) := by decide +kernel
theorem dX7_init_22 : decode cX7_init 22 = .ok (.putfield 24, 3) := by decide +kernel
theorem dX7_init_25 : decode cX7_init 25 = .ok (.return_, 1) := by decide +kernel
theorem bX7_init_0 {d : Nat} {h0 hE h : ea_H} {rv : Option ea_V} {r0 : Option Nat} {x1 : Int32} {x2 : Int32} {x3 : Int32} (H : 1 ≤ d ∧ ∃ a25, r0 = some a25 ∧ a25 < ea_n h ∧ ea_c h a25 = 7 ∧ ∀ h29, h29 = ea_wi h a25 0 x1 → a25 < ea_n h29 ∧ ea_c h29 a25 = 7 ∧ ∀ h33, h33 = ea_wi h29 a25 1 x2 → ∃ (d35 : Nat) (xc39 : Int32) (h36 : ea_H), ea_Met mJ9_max_7cf53 d35 [vI x3, vI 0] h33 (some (vI xc39)) h36 ∧ d35 + 1 ≤ d ∧ (¬ xc39 < 0) ∧ (Int32.toNatClampNeg xc39) * 4 ≤ 536870912 ∧ ∀ h40, h40 = ea_new h36 20 (Int32.toNatClampNeg xc39) (Int32.toNatClampNeg xc39) → a25 < ea_n h40 ∧ ea_c h40 a25 = 7 ∧ ∀ h46, h46 = ea_wr h40 a25 4 (some (ea_n h36)) → rv = none ∧ hE = h46) : ea_W mX7_init d h0 rv hE 0 [(0, vR r0), (1, vI x1), (2, vI x2), (3, vI x3)] [] h := by
  refine ea_aload_n (pc := 0) dX7_init_0 rfl 0 rfl ?_
  obtain ⟨z24, a25, e26, H⟩ := H
  refine ea_deref0 e26 ?_
  refine ea_objInit (pc := 1) dX7_init_1 ew_1237 ew_134 ew_135 z24 (Nat.le_of_ble_eq_true rfl) ?_
  refine ea_aload_n (pc := 4) dX7_init_4 rfl 0 rfl ?_
  refine ea_iload_n (pc := 5) dX7_init_5 rfl 1 rfl ?_
  obtain ⟨f27, g28, H⟩ := H
  refine ea_deref1 e26 ?_
  refine ea_putI (pc := 6) dX7_init_6 ec_7 (k := 0) (Nat.le_of_ble_eq_true rfl) rfl (Or.inr ⟨rfl, rfl, rfl, ew_1239⟩) rfl rfl f27 g28 ?_
  obtain ⟨h29, E30⟩ : ∃ z, z = ea_wi h a25 0 x1 := ⟨_, rfl⟩
  have H := H h29 E30
  refine ea_nm E30 ?_
  refine ea_aload_n (pc := 9) dX7_init_9 rfl 0 rfl ?_
  refine ea_iload_n (pc := 10) dX7_init_10 rfl 2 rfl ?_
  obtain ⟨f31, g32, H⟩ := H
  refine ea_deref1 e26 ?_
  refine ea_putI (pc := 11) dX7_init_11 ec_7 (k := 1) (Nat.le_of_ble_eq_true rfl) rfl (Or.inr ⟨rfl, rfl, rfl, ew_1241⟩) rfl rfl f31 g32 ?_
  obtain ⟨h33, E34⟩ : ∃ z, z = ea_wi h29 a25 1 x2 := ⟨_, rfl⟩
  have H := H h33 E34
  refine ea_nm E34 ?_
  refine ea_aload_n (pc := 14) dX7_init_14 rfl 0 rfl ?_
  refine ea_iload_n (pc := 15) dX7_init_15 rfl 3 rfl ?_
  refine ea_iconst (pc := 16) dX7_init_16 (v := 0) rfl ?_
  obtain ⟨d35, xc39, h36, m37, q38, H⟩ := H
  refine ea_callS (pc := 17) (As := [vI x3, vI 0]) (st := [vR r0]) dX7_init_17 kJ9_max_7cf53 m37 q38 rfl (Nat.le_of_ble_eq_true rfl) ew_1238 ew_1022 ?_
  obtain ⟨z42, z43, H⟩ := H
  refine ea_newI (pc := 20) (N := (Int32.toNatClampNeg xc39)) dX7_init_20 ew_170 z42 rfl z43 ?_
  obtain ⟨h40, E41⟩ : ∃ z, z = ea_new h36 20 (Int32.toNatClampNeg xc39) (Int32.toNatClampNeg xc39) := ⟨_, rfl⟩
  have H := H h40 E41
  refine ea_nm E41 ?_
  obtain ⟨f44, g45, H⟩ := H
  refine ea_deref1 e26 ?_
  refine ea_putR (pc := 22) dX7_init_22 ec_7 (k := 4) (Nat.le_of_ble_eq_true rfl) rfl (Or.inr ⟨rfl, rfl, rfl, ew_1247⟩) f44 g45 ?_
  obtain ⟨h46, E47⟩ : ∃ z, z = ea_wr h40 a25 4 (some (ea_n h36)) := ⟨_, rfl⟩
  have H := H h46 E47
  refine ea_nm E47 ?_
  obtain ⟨rfl, rfl⟩ := H
  exact ea_return (pc := 25) dX7_init_25 rfl
theorem dX7_take_0 : decode cX7_take 0 = .ok (.aload_n 0, 1) := by decide +kernel
theorem dX7_take_1 : decode cX7_take 1 = .ok (.getfield 28, 3) := by decide +kernel
theorem dX7_take_4 : decode cX7_take 4 = .ok (.aload_n 0, 1) := by decide +kernel
theorem dX7_take_5 : decode cX7_take 5 = .ok (.getfield 24, 3) := by decide +kernel
theorem dX7_take_8 : decode cX7_take 8 = .ok (.arraylength, 1) := by decide +kernel
theorem dX7_take_9 : decode cX7_take 9 = .ok (.if_icmp .ge 33, 3) := by decide +kernel
theorem dX7_take_12 : decode cX7_take 12 = .ok (.aload_n 0, 1) := by decide +kernel
theorem dX7_take_13 : decode cX7_take 13 = .ok (.getfield 24, 3) := by decide +kernel
theorem dX7_take_16 : decode cX7_take 16 = .ok (.aload_n 0, 1) := by decide +kernel
theorem dX7_take_17 : decode cX7_take 17 = .ok (.getfield 28, 3) := by decide +kernel
theorem dX7_take_20 : decode cX7_take 20 = .ok (.iload_n 1, 1) := by decide +kernel
theorem dX7_take_21 : decode cX7_take 21 = .ok (.iastore, 1) := by decide +kernel
theorem dX7_take_22 : decode cX7_take 22 = .ok (.aload_n 0, 1) := by decide +kernel
theorem dX7_take_23 : decode cX7_take 23 = .ok (.dup, 1) := by decide +kernel
theorem dX7_take_24 : decode cX7_take 24 = .ok (.getfield 28, 3) := by decide +kernel
theorem dX7_take_27 : decode cX7_take 27 = .ok (.iconst 1, 1) := by decide +kernel
theorem dX7_take_28 : decode cX7_take 28 = .ok (.iadd, 1) := by decide +kernel
theorem dX7_take_29 : decode cX7_take 29 = .ok (.putfield 28, 3) := by decide +kernel
theorem dX7_take_32 : decode cX7_take 32 = .ok (.aload_n 0, 1) := by decide +kernel
theorem dX7_take_33 : decode cX7_take 33 = .ok (.dup, 1) := by decide +kernel
theorem dX7_take_34 : decode cX7_take 34 = .ok (.getfield 31, 3) := by decide +kernel
theorem dX7_take_37 : decode cX7_take 37 = .ok (.iload_n 2, 1) := by decide +kernel
theorem dX7_take_38 : decode cX7_take 38 = .ok (.iadd, 1) := by decide +kernel
theorem dX7_take_39 : decode cX7_take 39 = .ok (.putfield 31, 3) := by decide +kernel
theorem dX7_take_42 : decode cX7_take 42 = .ok (.return_, 1) := by decide +kernel
theorem bX7_take_0 {d : Nat} {h0 hE h : ea_H} {rv : Option ea_V} {r0 : Option Nat} {x1 : Int32} {x2 : Int32} (H : ∃ a3, r0 = some a3 ∧ a3 < ea_n h ∧ ea_c h a3 = 7 ∧ a3 < ea_n h ∧ ea_c h a3 = 7 ∧ ∃ a9, (ea_r h a3 4) = some a9 ∧ a9 < ea_n h ∧ ea_c h a9 = 20 ∧ ((Int32.ofNat (ea_l h a9)) ≤ (ea_i h a3 2) → rv = none ∧ hE = h) ∧ (¬ (Int32.ofNat (ea_l h a9)) ≤ (ea_i h a3 2) → a3 < ea_n h ∧ ea_c h a3 = 7 ∧ a3 < ea_n h ∧ ea_c h a3 = 7 ∧ a9 < ea_n h ∧ ea_c h a9 = 20 ∧ vp_in (ea_i h a3 2) (ea_l h a9) ∧ ∀ h18, h18 = ea_wi h a9 (Int32.toNatClampNeg (ea_i h a3 2)) x1 → a3 < ea_n h18 ∧ ea_c h18 a3 = 7 ∧ a3 < ea_n h18 ∧ ea_c h18 a3 = 7 ∧ ∀ h24, h24 = ea_wi h18 a3 2 ((ea_i h18 a3 2) + (1 : Int32)) → a3 < ea_n h24 ∧ ea_c h24 a3 = 7 ∧ a3 < ea_n h24 ∧ ea_c h24 a3 = 7 ∧ ∀ h30, h30 = ea_wi h24 a3 3 ((ea_i h24 a3 3) + x2) → rv = none ∧ hE = h30)) : ea_W mX7_take d h0 rv hE 0 [(0, vR r0), (1, vI x1), (2, vI x2)] [] h := by
  refine ea_aload_n (pc := 0) dX7_take_0 rfl 0 rfl ?_
  obtain ⟨a3, e4, f1, g2, H⟩ := H
  refine ea_deref0 e4 ?_
  refine ea_getI (pc := 1) dX7_take_1 ec_7 (k := 2) (Nat.le_of_ble_eq_true rfl) rfl (Or.inl ew_1243) f1 g2 ?_
  refine ea_aload_n (pc := 4) dX7_take_4 rfl 0 rfl ?_
  obtain ⟨f5, g6, H⟩ := H
  refine ea_deref0 e4 ?_
  refine ea_getR (pc := 5) dX7_take_5 ec_7 (k := 4) (Nat.le_of_ble_eq_true rfl) rfl (Or.inl ew_1247) f5 g6 rfl ?_
  obtain ⟨a9, e10, f7, g8, H⟩ := H
  refine ea_deref0 e10 ?_
  refine ea_alen (pc := 8) dX7_take_8 f7 g8 (by decide) (by decide) ?_
  refine ea_icmp_ge (pc := 9) (tgt := 42) dX7_take_9 rfl (fun c32 => ?_) (fun c32 => ?_)
  · have H := H.1 c32
    obtain ⟨rfl, rfl⟩ := H
    exact ea_return (pc := 42) dX7_take_42 rfl
  · have H := H.2 c32
    refine ea_aload_n (pc := 12) dX7_take_12 rfl 0 rfl ?_
    obtain ⟨f11, g12, H⟩ := H
    refine ea_deref0 e4 ?_
    refine ea_getR (pc := 13) dX7_take_13 ec_7 (k := 4) (Nat.le_of_ble_eq_true rfl) rfl (Or.inl ew_1247) f11 g12 rfl ?_
    refine ea_aload_n (pc := 16) dX7_take_16 rfl 0 rfl ?_
    obtain ⟨f13, g14, H⟩ := H
    refine ea_deref0 e4 ?_
    refine ea_getI (pc := 17) dX7_take_17 ec_7 (k := 2) (Nat.le_of_ble_eq_true rfl) rfl (Or.inl ew_1243) f13 g14 ?_
    refine ea_iload_n (pc := 20) dX7_take_20 rfl 1 rfl ?_
    obtain ⟨f15, g16, H⟩ := H
    refine ea_deref2 e10 ?_
    obtain ⟨z17, H⟩ := H
    refine ea_iast (pc := 21) dX7_take_21 f15 g16 z17 ?_
    obtain ⟨h18, E19⟩ : ∃ z, z = ea_wi h a9 (Int32.toNatClampNeg (ea_i h a3 2)) x1 := ⟨_, rfl⟩
    have H := H h18 E19
    refine ea_nm E19 ?_
    refine ea_aload_n (pc := 22) dX7_take_22 rfl 0 rfl ?_
    refine ea_dup (pc := 23) dX7_take_23 rfl ?_
    obtain ⟨f20, g21, H⟩ := H
    refine ea_deref0 e4 ?_
    refine ea_getI (pc := 24) dX7_take_24 ec_7 (k := 2) (Nat.le_of_ble_eq_true rfl) rfl (Or.inl ew_1243) f20 g21 ?_
    refine ea_iconst (pc := 27) dX7_take_27 (v := 1) rfl ?_
    refine ea_iadd (pc := 28) dX7_take_28 ?_
    obtain ⟨f22, g23, H⟩ := H
    refine ea_deref1 e4 ?_
    refine ea_putI (pc := 29) dX7_take_29 ec_7 (k := 2) (Nat.le_of_ble_eq_true rfl) rfl (Or.inl ⟨rfl, Or.inl ew_1243⟩) rfl rfl f22 g23 ?_
    obtain ⟨h24, E25⟩ : ∃ z, z = ea_wi h18 a3 2 ((ea_i h18 a3 2) + (1 : Int32)) := ⟨_, rfl⟩
    have H := H h24 E25
    refine ea_nm E25 ?_
    refine ea_aload_n (pc := 32) dX7_take_32 rfl 0 rfl ?_
    refine ea_dup (pc := 33) dX7_take_33 rfl ?_
    obtain ⟨f26, g27, H⟩ := H
    refine ea_deref0 e4 ?_
    refine ea_getI (pc := 34) dX7_take_34 ec_7 (k := 3) (Nat.le_of_ble_eq_true rfl) rfl (Or.inl ew_1245) f26 g27 ?_
    refine ea_iload_n (pc := 37) dX7_take_37 rfl 2 rfl ?_
    refine ea_iadd (pc := 38) dX7_take_38 ?_
    obtain ⟨f28, g29, H⟩ := H
    refine ea_deref1 e4 ?_
    refine ea_putI (pc := 39) dX7_take_39 ec_7 (k := 3) (Nat.le_of_ble_eq_true rfl) rfl (Or.inl ⟨rfl, Or.inl ew_1245⟩) rfl rfl f28 g29 ?_
    obtain ⟨h30, E31⟩ : ∃ z, z = ea_wi h24 a3 3 ((ea_i h24 a3 3) + x2) := ⟨_, rfl⟩
    have H := H h30 E31
    refine ea_nm E31 ?_
    obtain ⟨rfl, rfl⟩ := H
    exact ea_return (pc := 42) dX7_take_42 rfl
theorem dX7_letterAt_0 : decode cX7_letterAt 0 = .ok (.iload_n 1, 1) := by decide +kernel
theorem dX7_letterAt_1 : decode cX7_letterAt 1 = .ok (.ifCond .lt 20, 3) := by decide +kernel
theorem dX7_letterAt_4 : decode cX7_letterAt 4 = .ok (.iload_n 1, 1) := by decide +kernel
theorem dX7_letterAt_5 : decode cX7_letterAt 5 = .ok (.aload_n 0, 1) := by decide +kernel
theorem dX7_letterAt_6 : decode cX7_letterAt 6 = .ok (.getfield 28, 3) := by decide +kernel
theorem dX7_letterAt_9 : decode cX7_letterAt 9 = .ok (.if_icmp .ge 12, 3) := by decide +kernel
theorem dX7_letterAt_12 : decode cX7_letterAt 12 = .ok (.aload_n 0, 1) := by decide +kernel
theorem dX7_letterAt_13 : decode cX7_letterAt 13 = .ok (.getfield 24, 3) := by decide +kernel
theorem dX7_letterAt_16 : decode cX7_letterAt 16 = .ok (.iload_n 1, 1) := by decide +kernel
theorem dX7_letterAt_17 : decode cX7_letterAt 17 = .ok (.iaload, 1) := by decide +kernel
theorem dX7_letterAt_18 : decode cX7_letterAt 18 = .ok (.goto 4, 3) := by decide +kernel
theorem dX7_letterAt_21 : decode cX7_letterAt 21 = .ok (.iconst (-1), 1) := by decide +kernel
theorem dX7_letterAt_22 : decode cX7_letterAt 22 = .ok (.ireturn, 1) := by decide +kernel
theorem bX7_letterAt_0 {d : Nat} {h0 hE h : ea_H} {rv : Option ea_V} {r0 : Option Nat} {x1 : Int32} (H : (x1 < (0 : Int32) → rv = some (vI (-1)) ∧ hE = h) ∧ (¬ x1 < (0 : Int32) → ∃ a3, r0 = some a3 ∧ a3 < ea_n h ∧ ea_c h a3 = 7 ∧ ((ea_i h a3 2) ≤ x1 → rv = some (vI (-1)) ∧ hE = h) ∧ (¬ (ea_i h a3 2) ≤ x1 → a3 < ea_n h ∧ ea_c h a3 = 7 ∧ ∃ a9, (ea_r h a3 4) = some a9 ∧ a9 < ea_n h ∧ ea_c h a9 = 20 ∧ vp_in x1 (ea_l h a9) ∧ rv = some (vI (ea_i h a9 (Int32.toNatClampNeg x1))) ∧ hE = h))) : ea_W mX7_letterAt d h0 rv hE 0 [(0, vR r0), (1, vI x1)] [] h := by
  refine ea_iload_n (pc := 0) dX7_letterAt_0 rfl 1 rfl ?_
  refine ea_if_lt (pc := 1) (tgt := 21) dX7_letterAt_1 rfl (fun c13 => ?_) (fun c13 => ?_)
  · have H := H.1 c13
    refine ea_iconst (pc := 21) dX7_letterAt_21 (v := (-1)) rfl ?_
    obtain ⟨rfl, rfl⟩ := H
    exact ea_ireturn (pc := 22) dX7_letterAt_22 rfl rfl
  · have H := H.2 c13
    refine ea_iload_n (pc := 4) dX7_letterAt_4 rfl 1 rfl ?_
    refine ea_aload_n (pc := 5) dX7_letterAt_5 rfl 0 rfl ?_
    obtain ⟨a3, e4, f1, g2, H⟩ := H
    refine ea_deref0 e4 ?_
    refine ea_getI (pc := 6) dX7_letterAt_6 ec_7 (k := 2) (Nat.le_of_ble_eq_true rfl) rfl (Or.inl ew_1243) f1 g2 ?_
    refine ea_icmp_ge (pc := 9) (tgt := 21) dX7_letterAt_9 rfl (fun c12 => ?_) (fun c12 => ?_)
    · have H := H.1 c12
      refine ea_iconst (pc := 21) dX7_letterAt_21 (v := (-1)) rfl ?_
      obtain ⟨rfl, rfl⟩ := H
      exact ea_ireturn (pc := 22) dX7_letterAt_22 rfl rfl
    · have H := H.2 c12
      refine ea_aload_n (pc := 12) dX7_letterAt_12 rfl 0 rfl ?_
      obtain ⟨f5, g6, H⟩ := H
      refine ea_deref0 e4 ?_
      refine ea_getR (pc := 13) dX7_letterAt_13 ec_7 (k := 4) (Nat.le_of_ble_eq_true rfl) rfl (Or.inl ew_1247) f5 g6 rfl ?_
      refine ea_iload_n (pc := 16) dX7_letterAt_16 rfl 1 rfl ?_
      obtain ⟨a9, e10, f7, g8, H⟩ := H
      refine ea_deref1 e10 ?_
      obtain ⟨z11, H⟩ := H
      refine ea_iald (pc := 17) dX7_letterAt_17 f7 g8 z11 ?_
      refine ea_goto (pc := 18) (tgt := 22) dX7_letterAt_18 rfl ?_
      obtain ⟨rfl, rfl⟩ := H
      exact ea_ireturn (pc := 22) dX7_letterAt_22 rfl rfl
theorem dX2_init_0 : decode cX2_init 0 = .ok (.aload_n 0, 1) := by decide +kernel
theorem dX2_init_1 : decode cX2_init 1 = .ok (.invokespecial 3, 3) := by decide +kernel
theorem dX2_init_4 : decode cX2_init 4 = .ok (.aload_n 0, 1) := by decide +kernel
theorem dX2_init_5 : decode cX2_init 5 = .ok (.bipush (-60), 2) := by decide +kernel
theorem dX2_init_7 : decode cX2_init 7 = .ok (.putfield 9, 3) := by decide +kernel
theorem dX2_init_10 : decode cX2_init 10 = .ok (.aload_n 0, 1) := by decide +kernel
theorem dX2_init_11 : decode cX2_init 11 = .ok (.bipush 60, 2) := by decide +kernel
theorem dX2_init_13 : decode cX2_init 13 = .ok (.putfield 15, 3) := by decide +kernel
theorem dX2_init_16 : decode cX2_init 16 = .ok (.return_, 1) := by decide +kernel
theorem bX2_init_0 {d : Nat} {h0 hE h : ea_H} {rv : Option ea_V} {r0 : Option Nat} (H : 1 ≤ d ∧ ∃ a12, r0 = some a12 ∧ a12 < ea_n h ∧ ea_c h a12 = 2 ∧ ∀ h16, h16 = ea_wi h a12 1 (-60) → a12 < ea_n h16 ∧ ea_c h16 a12 = 2 ∧ ∀ h20, h20 = ea_wi h16 a12 2 60 → rv = none ∧ hE = h20) : ea_W mX2_init d h0 rv hE 0 [(0, vR r0)] [] h := by
  refine ea_aload_n (pc := 0) dX2_init_0 rfl 0 rfl ?_
  obtain ⟨z11, a12, e13, H⟩ := H
  refine ea_deref0 e13 ?_
  refine ea_objInit (pc := 1) dX2_init_1 ew_423 ew_134 ew_135 z11 (Nat.le_of_ble_eq_true rfl) ?_
  refine ea_aload_n (pc := 4) dX2_init_4 rfl 0 rfl ?_
  refine ea_bipush (pc := 5) dX2_init_5 (v := (-60)) rfl ?_
  obtain ⟨f14, g15, H⟩ := H
  refine ea_deref1 e13 ?_
  refine ea_putI (pc := 7) dX2_init_7 ec_2 (k := 1) (Nat.le_of_ble_eq_true rfl) rfl (Or.inl ⟨rfl, Or.inl ew_426⟩) rfl rfl f14 g15 ?_
  obtain ⟨h16, E17⟩ : ∃ z, z = ea_wi h a12 1 (-60) := ⟨_, rfl⟩
  have H := H h16 E17
  refine ea_nm E17 ?_
  refine ea_aload_n (pc := 10) dX2_init_10 rfl 0 rfl ?_
  refine ea_bipush (pc := 11) dX2_init_11 (v := 60) rfl ?_
  obtain ⟨f18, g19, H⟩ := H
  refine ea_deref1 e13 ?_
  refine ea_putI (pc := 13) dX2_init_13 ec_2 (k := 2) (Nat.le_of_ble_eq_true rfl) rfl (Or.inl ⟨rfl, Or.inl ew_428⟩) rfl rfl f18 g19 ?_
  obtain ⟨h20, E21⟩ : ∃ z, z = ea_wi h16 a12 2 60 := ⟨_, rfl⟩
  have H := H h20 E21
  refine ea_nm E21 ?_
  obtain ⟨rfl, rfl⟩ := H
  exact ea_return (pc := 16) dX2_init_16 rfl
theorem dX2_shown_0 : decode cX2_shown 0 = .ok (.iload_n 0, 1) := by decide +kernel
theorem dX2_shown_1 : decode cX2_shown 1 = .ok (.sipush 3600, 3) := by decide +kernel
theorem dX2_shown_4 : decode cX2_shown 4 = .ok (.iload_n 1, 1) := by decide +kernel
theorem dX2_shown_5 : decode cX2_shown 5 = .ok (.iadd, 1) := by decide +kernel
theorem dX2_shown_6 : decode cX2_shown 6 = .ok (.imul, 1) := by decide +kernel
theorem dX2_shown_7 : decode cX2_shown 7 = .ok (.sipush 3600, 3) := by decide +kernel
theorem dX2_shown_10 : decode cX2_shown 10 = .ok (.idiv, 1) := by decide +kernel
theorem dX2_shown_11 : decode cX2_shown 11 = .ok (.ireturn, 1) := by decide +kernel
theorem bX2_shown_0 {d : Nat} {h0 hE h : ea_H} {rv : Option ea_V} {x0 : Int32} {x1 : Int32} (H : rv = some (vI ((x0 * ((3600 : Int32) + x1)) / (3600 : Int32))) ∧ hE = h) : ea_W mX2_shown d h0 rv hE 0 [(0, vI x0), (1, vI x1)] [] h := by
  refine ea_iload_n (pc := 0) dX2_shown_0 rfl 0 rfl ?_
  refine ea_sipush (pc := 1) dX2_shown_1 (v := 3600) rfl ?_
  refine ea_iload_n (pc := 4) dX2_shown_4 rfl 1 rfl ?_
  refine ea_iadd (pc := 5) dX2_shown_5 ?_
  refine ea_imul (pc := 6) dX2_shown_6 ?_
  refine ea_sipush (pc := 7) dX2_shown_7 (v := 3600) rfl ?_
  refine ea_idiv (pc := 10) dX2_shown_10 (by decide) ?_
  obtain ⟨rfl, rfl⟩ := H
  exact ea_ireturn (pc := 11) dX2_shown_11 rfl rfl
theorem dX2_learn_0 : decode cX2_learn 0 = .ok (.sipush (-1000), 3) := by decide +kernel
theorem dX2_learn_3 : decode cX2_learn 3 = .ok (.istore_n 3, 1) := by decide +kernel
theorem dX2_learn_4 : decode cX2_learn 4 = .ok (.sipush (-1000), 3) := by decide +kernel
theorem dX2_learn_7 : decode cX2_learn 7 = .ok (.istore 4, 2) := by decide +kernel
theorem dX2_learn_9 : decode cX2_learn 9 = .ok (.aload_n 0, 1) := by decide +kernel
theorem dX2_learn_10 : decode cX2_learn 10 = .ok (.getfield 9, 3) := by decide +kernel
theorem dX2_learn_13 : decode cX2_learn 13 = .ok (.istore 5, 2) := by decide +kernel
theorem dX2_learn_15 : decode cX2_learn 15 = .ok (.iload 5, 2) := by decide +kernel
theorem dX2_learn_17 : decode cX2_learn 17 = .ok (.aload_n 0, 1) := by decide +kernel
theorem dX2_learn_18 : decode cX2_learn 18 = .ok (.getfield 15, 3) := by decide +kernel
theorem dX2_learn_21 : decode cX2_learn 21 = .ok (.if_icmp .gt 47, 3) := by decide +kernel
theorem dX2_learn_24 : decode cX2_learn 24 = .ok (.iload_n 1, 1) := by decide +kernel
theorem dX2_learn_25 : decode cX2_learn 25 = .ok (.aload_n 0, 1) := by decide +kernel
theorem dX2_learn_26 : decode cX2_learn 26 = .ok (.getfield 18, 3) := by decide +kernel
theorem dX2_learn_29 : decode cX2_learn 29 = .ok (.isub, 1) := by decide +kernel
theorem dX2_learn_30 : decode cX2_learn 30 = .ok (.iload 5, 2) := by decide +kernel
theorem dX2_learn_32 : decode cX2_learn 32 = .ok (.invokestatic 21, 3) := by decide +kernel
theorem dX2_learn_35 : decode cX2_learn 35 = .ok (.iload_n 2, 1) := by decide +kernel
theorem dX2_learn_36 : decode cX2_learn 36 = .ok (.aload_n 0, 1) := by decide +kernel
theorem dX2_learn_37 : decode cX2_learn 37 = .ok (.getfield 18, 3) := by decide +kernel
theorem dX2_learn_40 : decode cX2_learn 40 = .ok (.isub, 1) := by decide +kernel
theorem dX2_learn_41 : decode cX2_learn 41 = .ok (.if_icmp .ne 21, 3) := by decide +kernel
theorem dX2_learn_44 : decode cX2_learn 44 = .ok (.iload_n 3, 1) := by decide +kernel
theorem dX2_learn_45 : decode cX2_learn 45 = .ok (.sipush (-1000), 3) := by decide +kernel
theorem dX2_learn_48 : decode cX2_learn 48 = .ok (.if_icmp .ne 8, 3) := by decide +kernel
theorem dX2_learn_51 : decode cX2_learn 51 = .ok (.iload 5, 2) := by decide +kernel
theorem dX2_learn_53 : decode cX2_learn 53 = .ok (.goto 4, 3) := by decide +kernel
theorem dX2_learn_56 : decode cX2_learn 56 = .ok (.iload_n 3, 1) := by decide +kernel
theorem dX2_learn_57 : decode cX2_learn 57 = .ok (.istore_n 3, 1) := by decide +kernel
theorem dX2_learn_58 : decode cX2_learn 58 = .ok (.iload 5, 2) := by decide +kernel
theorem dX2_learn_60 : decode cX2_learn 60 = .ok (.istore 4, 2) := by decide +kernel
theorem dX2_learn_62 : decode cX2_learn 62 = .ok (.iinc 5 1, 3) := by decide +kernel
theorem dX2_learn_65 : decode cX2_learn 65 = .ok (.goto (-50), 3) := by decide +kernel
theorem dX2_learn_68 : decode cX2_learn 68 = .ok (.iload_n 3, 1) := by decide +kernel
theorem dX2_learn_69 : decode cX2_learn 69 = .ok (.sipush (-1000), 3) := by decide +kernel
theorem dX2_learn_72 : decode cX2_learn 72 = .ok (.if_icmp .ne 5, 3) := by decide +kernel
theorem dX2_learn_75 : decode cX2_learn 75 = .ok (.iconst 0, 1) := by decide +kernel
theorem dX2_learn_76 : decode cX2_learn 76 = .ok (.ireturn, 1) := by decide +kernel
theorem dX2_learn_77 : decode cX2_learn 77 = .ok (.aload_n 0, 1) := by decide +kernel
theorem dX2_learn_78 : decode cX2_learn 78 = .ok (.iload_n 3, 1) := by decide +kernel
theorem dX2_learn_79 : decode cX2_learn 79 = .ok (.putfield 9, 3) := by decide +kernel
theorem dX2_learn_82 : decode cX2_learn 82 = .ok (.aload_n 0, 1) := by decide +kernel
theorem dX2_learn_83 : decode cX2_learn 83 = .ok (.iload 4, 2) := by decide +kernel
theorem dX2_learn_85 : decode cX2_learn 85 = .ok (.putfield 15, 3) := by decide +kernel
theorem dX2_learn_88 : decode cX2_learn 88 = .ok (.iconst 1, 1) := by decide +kernel
theorem dX2_learn_89 : decode cX2_learn 89 = .ok (.ireturn, 1) := by decide +kernel
theorem bX2_learn_0 {d : Nat} {h0 hE h : ea_H} {rv : Option ea_V} {r0 : Option Nat} {x1 : Int32} {x2 : Int32} (H : ∃ a3, r0 = some a3 ∧ a3 < ea_n h ∧ ea_c h a3 = 2 ∧ ea_W mX2_learn d h0 rv hE 15 [(0, vR r0), (1, vI x1), (2, vI x2), (3, vI (-1000)), (4, vI (-1000)), (5, vI (ea_i h a3 1))] [] h) : ea_W mX2_learn d h0 rv hE 0 [(0, vR r0), (1, vI x1), (2, vI x2)] [] h := by
  refine ea_sipush (pc := 0) dX2_learn_0 (v := (-1000)) rfl ?_
  refine ea_istore_n (pc := 3) (lv' := [(0, vR r0), (1, vI x1), (2, vI x2), (3, vI (-1000))]) dX2_learn_3 rfl (Nat.le_of_ble_eq_true rfl) [1, 2, 3, 0] rfl ?_
  refine ea_sipush (pc := 4) dX2_learn_4 (v := (-1000)) rfl ?_
  refine ea_istore (pc := 7) (lv' := [(0, vR r0), (1, vI x1), (2, vI x2), (3, vI (-1000)), (4, vI (-1000))]) dX2_learn_7 (Nat.le_of_ble_eq_true rfl) [1, 2, 3, 4, 0] rfl ?_
  refine ea_aload_n (pc := 9) dX2_learn_9 rfl 0 rfl ?_
  obtain ⟨a3, e4, f1, g2, H⟩ := H
  refine ea_deref0 e4 ?_
  refine ea_getI (pc := 10) dX2_learn_10 ec_2 (k := 1) (Nat.le_of_ble_eq_true rfl) rfl (Or.inl ew_426) f1 g2 ?_
  refine ea_istore (pc := 13) (lv' := [(0, vR r0), (1, vI x1), (2, vI x2), (3, vI (-1000)), (4, vI (-1000)), (5, vI (ea_i h a3 1))]) dX2_learn_13 (Nat.le_of_ble_eq_true rfl) [1, 2, 3, 4, 5, 0] rfl ?_
  exact H
theorem bX2_learn_15 {d : Nat} {h0 hE h : ea_H} {rv : Option ea_V} {r0 : Option Nat} {x1 : Int32} {x2 : Int32} {x3 : Int32} {x4 : Int32} {x5 : Int32} (H : ∃ a3, r0 = some a3 ∧ a3 < ea_n h ∧ ea_c h a3 = 2 ∧ ((ea_i h a3 2) < x5 → (¬ x3 = ((-1000) : Int32) → a3 < ea_n h ∧ ea_c h a3 = 2 ∧ ∀ h7, h7 = ea_wi h a3 1 x3 → a3 < ea_n h7 ∧ ea_c h7 a3 = 2 ∧ ∀ h11, h11 = ea_wi h7 a3 2 x4 → rv = some (vI 1) ∧ hE = h11) ∧ (x3 = ((-1000) : Int32) → rv = some (vI 0) ∧ hE = h)) ∧ (¬ (ea_i h a3 2) < x5 → a3 < ea_n h ∧ ea_c h a3 = 2 ∧ ∃ (d16 : Nat) (xc20 : Int32) (h17 : ea_H), ea_Met mX2_shown d16 [vI (x1 - (ea_i h a3 0)), vI x5] h (some (vI xc20)) h17 ∧ d16 + 1 ≤ d ∧ a3 < ea_n h17 ∧ ea_c h17 a3 = 2 ∧ (¬ xc20 = (x2 - (ea_i h17 a3 0)) → ea_W mX2_learn d h0 rv hE 15 [(0, vR r0), (1, vI x1), (2, vI x2), (3, vI x3), (4, vI x4), (5, vI (x5 + 1))] [] h17) ∧ (xc20 = (x2 - (ea_i h17 a3 0)) → (¬ x3 = ((-1000) : Int32) → ea_W mX2_learn d h0 rv hE 15 [(0, vR r0), (1, vI x1), (2, vI x2), (3, vI x3), (4, vI x5), (5, vI (x5 + 1))] [] h17) ∧ (x3 = ((-1000) : Int32) → ea_W mX2_learn d h0 rv hE 15 [(0, vR r0), (1, vI x1), (2, vI x2), (3, vI x5), (4, vI x5), (5, vI (x5 + 1))] [] h17)))) : ea_W mX2_learn d h0 rv hE 15 [(0, vR r0), (1, vI x1), (2, vI x2), (3, vI x3), (4, vI x4), (5, vI x5)] [] h := by
  refine ea_iload (pc := 15) dX2_learn_15 5 rfl ?_
  refine ea_aload_n (pc := 17) dX2_learn_17 rfl 0 rfl ?_
  obtain ⟨a3, e4, f1, g2, H⟩ := H
  refine ea_deref0 e4 ?_
  refine ea_getI (pc := 18) dX2_learn_18 ec_2 (k := 2) (Nat.le_of_ble_eq_true rfl) rfl (Or.inl ew_428) f1 g2 ?_
  refine ea_icmp_gt (pc := 21) (tgt := 68) dX2_learn_21 rfl (fun c25 => ?_) (fun c25 => ?_)
  · have H := H.1 c25
    refine ea_iload_n (pc := 68) dX2_learn_68 rfl 3 rfl ?_
    refine ea_sipush (pc := 69) dX2_learn_69 (v := (-1000)) rfl ?_
    refine ea_icmp_ne (pc := 72) (tgt := 77) dX2_learn_72 rfl (fun c13 => ?_) (fun c13 => ?_)
    · have H := H.1 c13
      refine ea_aload_n (pc := 77) dX2_learn_77 rfl 0 rfl ?_
      refine ea_iload_n (pc := 78) dX2_learn_78 rfl 3 rfl ?_
      obtain ⟨f5, g6, H⟩ := H
      refine ea_deref1 e4 ?_
      refine ea_putI (pc := 79) dX2_learn_79 ec_2 (k := 1) (Nat.le_of_ble_eq_true rfl) rfl (Or.inl ⟨rfl, Or.inl ew_426⟩) rfl rfl f5 g6 ?_
      obtain ⟨h7, E8⟩ : ∃ z, z = ea_wi h a3 1 x3 := ⟨_, rfl⟩
      have H := H h7 E8
      refine ea_nm E8 ?_
      refine ea_aload_n (pc := 82) dX2_learn_82 rfl 0 rfl ?_
      refine ea_iload (pc := 83) dX2_learn_83 4 rfl ?_
      obtain ⟨f9, g10, H⟩ := H
      refine ea_deref1 e4 ?_
      refine ea_putI (pc := 85) dX2_learn_85 ec_2 (k := 2) (Nat.le_of_ble_eq_true rfl) rfl (Or.inl ⟨rfl, Or.inl ew_428⟩) rfl rfl f9 g10 ?_
      obtain ⟨h11, E12⟩ : ∃ z, z = ea_wi h7 a3 2 x4 := ⟨_, rfl⟩
      have H := H h11 E12
      refine ea_nm E12 ?_
      refine ea_iconst (pc := 88) dX2_learn_88 (v := 1) rfl ?_
      obtain ⟨rfl, rfl⟩ := H
      exact ea_ireturn (pc := 89) dX2_learn_89 rfl (ea_bn (Or.inr rfl))
    · have H := H.2 c13
      refine ea_iconst (pc := 75) dX2_learn_75 (v := 0) rfl ?_
      obtain ⟨rfl, rfl⟩ := H
      exact ea_ireturn (pc := 76) dX2_learn_76 rfl (ea_bn (Or.inl rfl))
  · have H := H.2 c25
    refine ea_iload_n (pc := 24) dX2_learn_24 rfl 1 rfl ?_
    refine ea_aload_n (pc := 25) dX2_learn_25 rfl 0 rfl ?_
    obtain ⟨f14, g15, H⟩ := H
    refine ea_deref0 e4 ?_
    refine ea_getI (pc := 26) dX2_learn_26 ec_2 (k := 0) (Nat.le_of_ble_eq_true rfl) rfl (Or.inl ew_424) f14 g15 ?_
    refine ea_isub (pc := 29) dX2_learn_29 ?_
    refine ea_iload (pc := 30) dX2_learn_30 5 rfl ?_
    obtain ⟨d16, xc20, h17, m18, q19, H⟩ := H
    refine ea_callS (pc := 32) (As := [vI (x1 - (ea_i h a3 0)), vI x5]) (st := []) dX2_learn_32 kX2_shown m18 q19 rfl (Nat.le_of_ble_eq_true rfl) ew_1284 ew_1285 ?_
    refine ea_iload_n (pc := 35) dX2_learn_35 rfl 2 rfl ?_
    refine ea_aload_n (pc := 36) dX2_learn_36 rfl 0 rfl ?_
    obtain ⟨f21, g22, H⟩ := H
    refine ea_deref0 e4 ?_
    refine ea_getI (pc := 37) dX2_learn_37 ec_2 (k := 0) (Nat.le_of_ble_eq_true rfl) rfl (Or.inl ew_424) f21 g22 ?_
    refine ea_isub (pc := 40) dX2_learn_40 ?_
    refine ea_icmp_ne (pc := 41) (tgt := 62) dX2_learn_41 rfl (fun c24 => ?_) (fun c24 => ?_)
    · have H := H.1 c24
      refine ea_iinc (pc := 62) (v := 1) (lv' := [(0, vR r0), (1, vI x1), (2, vI x2), (3, vI x3), (4, vI x4), (5, vI (x5 + 1))]) dX2_learn_62 5 rfl rfl (Nat.le_of_ble_eq_true rfl) [1, 2, 3, 4, 5, 0] rfl ?_
      refine ea_goto (pc := 65) (tgt := 15) dX2_learn_65 rfl ?_
      exact H
    · have H := H.2 c24
      refine ea_iload_n (pc := 44) dX2_learn_44 rfl 3 rfl ?_
      refine ea_sipush (pc := 45) dX2_learn_45 (v := (-1000)) rfl ?_
      refine ea_icmp_ne (pc := 48) (tgt := 56) dX2_learn_48 rfl (fun c23 => ?_) (fun c23 => ?_)
      · have H := H.1 c23
        refine ea_iload_n (pc := 56) dX2_learn_56 rfl 3 rfl ?_
        refine ea_istore_n (pc := 57) (lv' := [(0, vR r0), (1, vI x1), (2, vI x2), (3, vI x3), (5, vI x5)]) dX2_learn_57 rfl (Nat.le_of_ble_eq_true rfl) [1, 2, 3, 0, 5] rfl ?_
        refine ea_iload (pc := 58) dX2_learn_58 4 rfl ?_
        refine ea_istore (pc := 60) (lv' := [(0, vR r0), (1, vI x1), (2, vI x2), (3, vI x3), (4, vI x5), (5, vI x5)]) dX2_learn_60 (Nat.le_of_ble_eq_true rfl) [1, 2, 3, 4, 0, 5] rfl ?_
        refine ea_iinc (pc := 62) (v := 1) (lv' := [(0, vR r0), (1, vI x1), (2, vI x2), (3, vI x3), (4, vI x5), (5, vI (x5 + 1))]) dX2_learn_62 5 rfl rfl (Nat.le_of_ble_eq_true rfl) [1, 2, 3, 4, 5, 0] rfl ?_
        refine ea_goto (pc := 65) (tgt := 15) dX2_learn_65 rfl ?_
        exact H
      · have H := H.2 c23
        refine ea_iload (pc := 51) dX2_learn_51 5 rfl ?_
        refine ea_goto (pc := 53) (tgt := 57) dX2_learn_53 rfl ?_
        refine ea_istore_n (pc := 57) (lv' := [(0, vR r0), (1, vI x1), (2, vI x2), (3, vI x5), (5, vI x5)]) dX2_learn_57 rfl (Nat.le_of_ble_eq_true rfl) [1, 2, 3, 0, 5] rfl ?_
        refine ea_iload (pc := 58) dX2_learn_58 4 rfl ?_
        refine ea_istore (pc := 60) (lv' := [(0, vR r0), (1, vI x1), (2, vI x2), (3, vI x5), (4, vI x5), (5, vI x5)]) dX2_learn_60 (Nat.le_of_ble_eq_true rfl) [1, 2, 3, 4, 0, 5] rfl ?_
        refine ea_iinc (pc := 62) (v := 1) (lv' := [(0, vR r0), (1, vI x1), (2, vI x2), (3, vI x5), (4, vI x5), (5, vI (x5 + 1))]) dX2_learn_62 5 rfl rfl (Nat.le_of_ble_eq_true rfl) [1, 2, 3, 4, 5, 0] rfl ?_
        refine ea_goto (pc := 65) (tgt := 15) dX2_learn_65 rfl ?_
        exact H
theorem dX2_mayShow_0 : decode cX2_mayShow 0 = .ok (.iload_n 1, 1) := by decide +kernel
theorem dX2_mayShow_1 : decode cX2_mayShow 1 = .ok (.aload_n 0, 1) := by decide +kernel
theorem dX2_mayShow_2 : decode cX2_mayShow 2 = .ok (.getfield 9, 3) := by decide +kernel
theorem dX2_mayShow_5 : decode cX2_mayShow 5 = .ok (.invokestatic 21, 3) := by decide +kernel
theorem dX2_mayShow_8 : decode cX2_mayShow 8 = .ok (.iload_n 2, 1) := by decide +kernel
theorem dX2_mayShow_9 : decode cX2_mayShow 9 = .ok (.if_icmp .gt 15, 3) := by decide +kernel
theorem dX2_mayShow_12 : decode cX2_mayShow 12 = .ok (.iload_n 1, 1) := by decide +kernel
theorem dX2_mayShow_13 : decode cX2_mayShow 13 = .ok (.aload_n 0, 1) := by decide +kernel
theorem dX2_mayShow_14 : decode cX2_mayShow 14 = .ok (.getfield 15, 3) := by decide +kernel
theorem dX2_mayShow_17 : decode cX2_mayShow 17 = .ok (.invokestatic 21, 3) := by decide +kernel
theorem dX2_mayShow_20 : decode cX2_mayShow 20 = .ok (.iload_n 2, 1) := by decide +kernel
theorem dX2_mayShow_21 : decode cX2_mayShow 21 = .ok (.if_icmp .ge 5, 3) := by decide +kernel
theorem dX2_mayShow_24 : decode cX2_mayShow 24 = .ok (.iconst 0, 1) := by decide +kernel
theorem dX2_mayShow_25 : decode cX2_mayShow 25 = .ok (.ireturn, 1) := by decide +kernel
theorem dX2_mayShow_26 : decode cX2_mayShow 26 = .ok (.aload_n 0, 1) := by decide +kernel
theorem dX2_mayShow_27 : decode cX2_mayShow 27 = .ok (.getfield 9, 3) := by decide +kernel
theorem dX2_mayShow_30 : decode cX2_mayShow 30 = .ok (.istore_n 3, 1) := by decide +kernel
theorem dX2_mayShow_31 : decode cX2_mayShow 31 = .ok (.iload_n 3, 1) := by decide +kernel
theorem dX2_mayShow_32 : decode cX2_mayShow 32 = .ok (.aload_n 0, 1) := by decide +kernel
theorem dX2_mayShow_33 : decode cX2_mayShow 33 = .ok (.getfield 15, 3) := by decide +kernel
theorem dX2_mayShow_36 : decode cX2_mayShow 36 = .ok (.if_icmp .gt 20, 3) := by decide +kernel
theorem dX2_mayShow_39 : decode cX2_mayShow 39 = .ok (.iload_n 1, 1) := by decide +kernel
theorem dX2_mayShow_40 : decode cX2_mayShow 40 = .ok (.iload_n 3, 1) := by decide +kernel
theorem dX2_mayShow_41 : decode cX2_mayShow 41 = .ok (.invokestatic 21, 3) := by decide +kernel
theorem dX2_mayShow_44 : decode cX2_mayShow 44 = .ok (.iload_n 2, 1) := by decide +kernel
theorem dX2_mayShow_45 : decode cX2_mayShow 45 = .ok (.if_icmp .ne 5, 3) := by decide +kernel
theorem dX2_mayShow_48 : decode cX2_mayShow 48 = .ok (.iconst 1, 1) := by decide +kernel
theorem dX2_mayShow_49 : decode cX2_mayShow 49 = .ok (.ireturn, 1) := by decide +kernel
theorem dX2_mayShow_50 : decode cX2_mayShow 50 = .ok (.iinc 3 1, 3) := by decide +kernel
theorem dX2_mayShow_53 : decode cX2_mayShow 53 = .ok (.goto (-22), 3) := by decide +kernel
theorem dX2_mayShow_56 : decode cX2_mayShow 56 = .ok (.iconst 0, 1) := by decide +kernel
theorem dX2_mayShow_57 : decode cX2_mayShow 57 = .ok (.ireturn, 1) := by decide +kernel
theorem bX2_mayShow_0 {d : Nat} {h0 hE h : ea_H} {rv : Option ea_V} {r0 : Option Nat} {x1 : Int32} {x2 : Int32} (H : ∃ a3, r0 = some a3 ∧ a3 < ea_n h ∧ ea_c h a3 = 2 ∧ ∃ (d5 : Nat) (xc9 : Int32) (h6 : ea_H), ea_Met mX2_shown d5 [vI x1, vI (ea_i h a3 1)] h (some (vI xc9)) h6 ∧ d5 + 1 ≤ d ∧ (x2 < xc9 → rv = some (vI 0) ∧ hE = h6) ∧ (¬ x2 < xc9 → a3 < ea_n h6 ∧ ea_c h6 a3 = 2 ∧ ∃ (d12 : Nat) (xc16 : Int32) (h13 : ea_H), ea_Met mX2_shown d12 [vI x1, vI (ea_i h6 a3 2)] h6 (some (vI xc16)) h13 ∧ d12 + 1 ≤ d ∧ (x2 ≤ xc16 → a3 < ea_n h13 ∧ ea_c h13 a3 = 2 ∧ ea_W mX2_mayShow d h0 rv hE 31 [(0, vR r0), (1, vI x1), (2, vI x2), (3, vI (ea_i h13 a3 1))] [] h13) ∧ (¬ x2 ≤ xc16 → rv = some (vI 0) ∧ hE = h13))) : ea_W mX2_mayShow d h0 rv hE 0 [(0, vR r0), (1, vI x1), (2, vI x2)] [] h := by
  refine ea_iload_n (pc := 0) dX2_mayShow_0 rfl 1 rfl ?_
  refine ea_aload_n (pc := 1) dX2_mayShow_1 rfl 0 rfl ?_
  obtain ⟨a3, e4, f1, g2, H⟩ := H
  refine ea_deref0 e4 ?_
  refine ea_getI (pc := 2) dX2_mayShow_2 ec_2 (k := 1) (Nat.le_of_ble_eq_true rfl) rfl (Or.inl ew_426) f1 g2 ?_
  obtain ⟨d5, xc9, h6, m7, q8, H⟩ := H
  refine ea_callS (pc := 5) (As := [vI x1, vI (ea_i h a3 1)]) (st := []) dX2_mayShow_5 kX2_shown m7 q8 rfl (Nat.le_of_ble_eq_true rfl) ew_1284 ew_1285 ?_
  refine ea_iload_n (pc := 8) dX2_mayShow_8 rfl 2 rfl ?_
  refine ea_icmp_gt (pc := 9) (tgt := 24) dX2_mayShow_9 rfl (fun c20 => ?_) (fun c20 => ?_)
  · have H := H.1 c20
    refine ea_iconst (pc := 24) dX2_mayShow_24 (v := 0) rfl ?_
    obtain ⟨rfl, rfl⟩ := H
    exact ea_ireturn (pc := 25) dX2_mayShow_25 rfl (ea_bn (Or.inl rfl))
  · have H := H.2 c20
    refine ea_iload_n (pc := 12) dX2_mayShow_12 rfl 1 rfl ?_
    refine ea_aload_n (pc := 13) dX2_mayShow_13 rfl 0 rfl ?_
    obtain ⟨f10, g11, H⟩ := H
    refine ea_deref0 e4 ?_
    refine ea_getI (pc := 14) dX2_mayShow_14 ec_2 (k := 2) (Nat.le_of_ble_eq_true rfl) rfl (Or.inl ew_428) f10 g11 ?_
    obtain ⟨d12, xc16, h13, m14, q15, H⟩ := H
    refine ea_callS (pc := 17) (As := [vI x1, vI (ea_i h6 a3 2)]) (st := []) dX2_mayShow_17 kX2_shown m14 q15 rfl (Nat.le_of_ble_eq_true rfl) ew_1284 ew_1285 ?_
    refine ea_iload_n (pc := 20) dX2_mayShow_20 rfl 2 rfl ?_
    refine ea_icmp_ge (pc := 21) (tgt := 26) dX2_mayShow_21 rfl (fun c19 => ?_) (fun c19 => ?_)
    · have H := H.1 c19
      refine ea_aload_n (pc := 26) dX2_mayShow_26 rfl 0 rfl ?_
      obtain ⟨f17, g18, H⟩ := H
      refine ea_deref0 e4 ?_
      refine ea_getI (pc := 27) dX2_mayShow_27 ec_2 (k := 1) (Nat.le_of_ble_eq_true rfl) rfl (Or.inl ew_426) f17 g18 ?_
      refine ea_istore_n (pc := 30) (lv' := [(0, vR r0), (1, vI x1), (2, vI x2), (3, vI (ea_i h13 a3 1))]) dX2_mayShow_30 rfl (Nat.le_of_ble_eq_true rfl) [1, 2, 3, 0] rfl ?_
      exact H
    · have H := H.2 c19
      refine ea_iconst (pc := 24) dX2_mayShow_24 (v := 0) rfl ?_
      obtain ⟨rfl, rfl⟩ := H
      exact ea_ireturn (pc := 25) dX2_mayShow_25 rfl (ea_bn (Or.inl rfl))
theorem bX2_mayShow_31 {d : Nat} {h0 hE h : ea_H} {rv : Option ea_V} {r0 : Option Nat} {x1 : Int32} {x2 : Int32} {x3 : Int32} (H : ∃ a3, r0 = some a3 ∧ a3 < ea_n h ∧ ea_c h a3 = 2 ∧ ((ea_i h a3 2) < x3 → rv = some (vI 0) ∧ hE = h) ∧ (¬ (ea_i h a3 2) < x3 → ∃ (d5 : Nat) (xc9 : Int32) (h6 : ea_H), ea_Met mX2_shown d5 [vI x1, vI x3] h (some (vI xc9)) h6 ∧ d5 + 1 ≤ d ∧ (¬ xc9 = x2 → ea_W mX2_mayShow d h0 rv hE 31 [(0, vR r0), (1, vI x1), (2, vI x2), (3, vI (x3 + 1))] [] h6) ∧ (xc9 = x2 → rv = some (vI 1) ∧ hE = h6))) : ea_W mX2_mayShow d h0 rv hE 31 [(0, vR r0), (1, vI x1), (2, vI x2), (3, vI x3)] [] h := by
  refine ea_iload_n (pc := 31) dX2_mayShow_31 rfl 3 rfl ?_
  refine ea_aload_n (pc := 32) dX2_mayShow_32 rfl 0 rfl ?_
  obtain ⟨a3, e4, f1, g2, H⟩ := H
  refine ea_deref0 e4 ?_
  refine ea_getI (pc := 33) dX2_mayShow_33 ec_2 (k := 2) (Nat.le_of_ble_eq_true rfl) rfl (Or.inl ew_428) f1 g2 ?_
  refine ea_icmp_gt (pc := 36) (tgt := 56) dX2_mayShow_36 rfl (fun c11 => ?_) (fun c11 => ?_)
  · have H := H.1 c11
    refine ea_iconst (pc := 56) dX2_mayShow_56 (v := 0) rfl ?_
    obtain ⟨rfl, rfl⟩ := H
    exact ea_ireturn (pc := 57) dX2_mayShow_57 rfl (ea_bn (Or.inl rfl))
  · have H := H.2 c11
    refine ea_iload_n (pc := 39) dX2_mayShow_39 rfl 1 rfl ?_
    refine ea_iload_n (pc := 40) dX2_mayShow_40 rfl 3 rfl ?_
    obtain ⟨d5, xc9, h6, m7, q8, H⟩ := H
    refine ea_callS (pc := 41) (As := [vI x1, vI x3]) (st := []) dX2_mayShow_41 kX2_shown m7 q8 rfl (Nat.le_of_ble_eq_true rfl) ew_1284 ew_1285 ?_
    refine ea_iload_n (pc := 44) dX2_mayShow_44 rfl 2 rfl ?_
    refine ea_icmp_ne (pc := 45) (tgt := 50) dX2_mayShow_45 rfl (fun c10 => ?_) (fun c10 => ?_)
    · have H := H.1 c10
      refine ea_iinc (pc := 50) (v := 1) (lv' := [(0, vR r0), (1, vI x1), (2, vI x2), (3, vI (x3 + 1))]) dX2_mayShow_50 3 rfl rfl (Nat.le_of_ble_eq_true rfl) [1, 2, 3, 0] rfl ?_
      refine ea_goto (pc := 53) (tgt := 31) dX2_mayShow_53 rfl ?_
      exact H
    · have H := H.2 c10
      refine ea_iconst (pc := 48) dX2_mayShow_48 (v := 1) rfl ?_
      obtain ⟨rfl, rfl⟩ := H
      exact ea_ireturn (pc := 49) dX2_mayShow_49 rfl (ea_bn (Or.inr rfl))
theorem dX2_least_0 : decode cX2_least 0 = .ok (.aload_n 0, 1) := by decide +kernel
theorem dX2_least_1 : decode cX2_least 1 = .ok (.getfield 18, 3) := by decide +kernel
theorem dX2_least_4 : decode cX2_least 4 = .ok (.istore_n 2, 1) := by decide +kernel
theorem dX2_least_5 : decode cX2_least 5 = .ok (.iload_n 2, 1) := by decide +kernel
theorem dX2_least_6 : decode cX2_least 6 = .ok (.sipush 10079, 3) := by decide +kernel
theorem dX2_least_9 : decode cX2_least 9 = .ok (.if_icmp .gt 30, 3) := by decide +kernel
theorem dX2_least_12 : decode cX2_least 12 = .ok (.aload_n 0, 1) := by decide +kernel
theorem dX2_least_13 : decode cX2_least 13 = .ok (.iload_n 2, 1) := by decide +kernel
theorem dX2_least_14 : decode cX2_least 14 = .ok (.aload_n 0, 1) := by decide +kernel
theorem dX2_least_15 : decode cX2_least 15 = .ok (.getfield 18, 3) := by decide +kernel
theorem dX2_least_18 : decode cX2_least 18 = .ok (.isub, 1) := by decide +kernel
theorem dX2_least_19 : decode cX2_least 19 = .ok (.iload_n 1, 1) := by decide +kernel
theorem dX2_least_20 : decode cX2_least 20 = .ok (.aload_n 0, 1) := by decide +kernel
theorem dX2_least_21 : decode cX2_least 21 = .ok (.getfield 18, 3) := by decide +kernel
theorem dX2_least_24 : decode cX2_least 24 = .ok (.isub, 1) := by decide +kernel
theorem dX2_least_25 : decode cX2_least 25 = .ok (.invokevirtual 25, 3) := by decide +kernel
theorem dX2_least_28 : decode cX2_least 28 = .ok (.ifCond .eq 5, 3) := by decide +kernel
theorem dX2_least_31 : decode cX2_least 31 = .ok (.iload_n 2, 1) := by decide +kernel
theorem dX2_least_32 : decode cX2_least 32 = .ok (.ireturn, 1) := by decide +kernel
theorem dX2_least_33 : decode cX2_least 33 = .ok (.iinc 2 1, 3) := by decide +kernel
theorem dX2_least_36 : decode cX2_least 36 = .ok (.goto (-31), 3) := by decide +kernel
theorem dX2_least_39 : decode cX2_least 39 = .ok (.iconst (-1), 1) := by decide +kernel
theorem dX2_least_40 : decode cX2_least 40 = .ok (.ireturn, 1) := by decide +kernel
theorem bX2_least_0 {d : Nat} {h0 hE h : ea_H} {rv : Option ea_V} {r0 : Option Nat} {x1 : Int32} (H : ∃ a3, r0 = some a3 ∧ a3 < ea_n h ∧ ea_c h a3 = 2 ∧ ea_W mX2_least d h0 rv hE 5 [(0, vR r0), (1, vI x1), (2, vI (ea_i h a3 0))] [] h) : ea_W mX2_least d h0 rv hE 0 [(0, vR r0), (1, vI x1)] [] h := by
  refine ea_aload_n (pc := 0) dX2_least_0 rfl 0 rfl ?_
  obtain ⟨a3, e4, f1, g2, H⟩ := H
  refine ea_deref0 e4 ?_
  refine ea_getI (pc := 1) dX2_least_1 ec_2 (k := 0) (Nat.le_of_ble_eq_true rfl) rfl (Or.inl ew_424) f1 g2 ?_
  refine ea_istore_n (pc := 4) (lv' := [(0, vR r0), (1, vI x1), (2, vI (ea_i h a3 0))]) dX2_least_4 rfl (Nat.le_of_ble_eq_true rfl) [1, 2, 0] rfl ?_
  exact H
theorem bX2_least_5 {d : Nat} {h0 hE h : ea_H} {rv : Option ea_V} {r0 : Option Nat} {x1 : Int32} {x2 : Int32} (H : ((10079 : Int32) < x2 → rv = some (vI (-1)) ∧ hE = h) ∧ (¬ (10079 : Int32) < x2 → ∃ a3, r0 = some a3 ∧ a3 < ea_n h ∧ ea_c h a3 = 2 ∧ a3 < ea_n h ∧ ea_c h a3 = 2 ∧ a3 < ea_n h ∧ ea_c h a3 = 2 ∧ ∃ (d7 : Nat) (xc13 : Int32) (h8 : ea_H), ea_Met mX2_mayShow d7 [vR (some a3), vI (x2 - (ea_i h a3 0)), vI (x1 - (ea_i h a3 0))] h (some (vI xc13)) h8 ∧ d7 + 1 ≤ d ∧ (xc13 = (0 : Int32) → ea_W mX2_least d h0 rv hE 5 [(0, vR r0), (1, vI x1), (2, vI (x2 + 1))] [] h8) ∧ (¬ xc13 = (0 : Int32) → rv = some (vI x2) ∧ hE = h8))) : ea_W mX2_least d h0 rv hE 5 [(0, vR r0), (1, vI x1), (2, vI x2)] [] h := by
  refine ea_iload_n (pc := 5) dX2_least_5 rfl 2 rfl ?_
  refine ea_sipush (pc := 6) dX2_least_6 (v := 10079) rfl ?_
  refine ea_icmp_gt (pc := 9) (tgt := 39) dX2_least_9 rfl (fun c15 => ?_) (fun c15 => ?_)
  · have H := H.1 c15
    refine ea_iconst (pc := 39) dX2_least_39 (v := (-1)) rfl ?_
    obtain ⟨rfl, rfl⟩ := H
    exact ea_ireturn (pc := 40) dX2_least_40 rfl rfl
  · have H := H.2 c15
    refine ea_aload_n (pc := 12) dX2_least_12 rfl 0 rfl ?_
    refine ea_iload_n (pc := 13) dX2_least_13 rfl 2 rfl ?_
    refine ea_aload_n (pc := 14) dX2_least_14 rfl 0 rfl ?_
    obtain ⟨a3, e4, f1, g2, H⟩ := H
    refine ea_deref0 e4 ?_
    refine ea_getI (pc := 15) dX2_least_15 ec_2 (k := 0) (Nat.le_of_ble_eq_true rfl) rfl (Or.inl ew_424) f1 g2 ?_
    refine ea_isub (pc := 18) dX2_least_18 ?_
    refine ea_iload_n (pc := 19) dX2_least_19 rfl 1 rfl ?_
    refine ea_aload_n (pc := 20) dX2_least_20 rfl 0 rfl ?_
    obtain ⟨f5, g6, H⟩ := H
    refine ea_deref0 e4 ?_
    refine ea_getI (pc := 21) dX2_least_21 ec_2 (k := 0) (Nat.le_of_ble_eq_true rfl) rfl (Or.inl ew_424) f5 g6 ?_
    refine ea_isub (pc := 24) dX2_least_24 ?_
    obtain ⟨f11, g12, H⟩ := H
    refine ea_deref2 e4 ?_
    obtain ⟨d7, xc13, h8, m9, q10, H⟩ := H
    refine ea_callV (pc := 25) (As := [vI (x2 - (ea_i h a3 0)), vI (x1 - (ea_i h a3 0))]) (st := []) dX2_least_25 kX2_mayShow m9 q10 rfl (Nat.le_of_ble_eq_true rfl) ew_1299 ew_1301 ew_44 (ci := 2) rfl (by decide) f11 g12 ?_
    refine ea_if_eq (pc := 28) (tgt := 33) dX2_least_28 rfl (fun c14 => ?_) (fun c14 => ?_)
    · have H := H.1 c14
      refine ea_iinc (pc := 33) (v := 1) (lv' := [(0, vR r0), (1, vI x1), (2, vI (x2 + 1))]) dX2_least_33 2 rfl rfl (Nat.le_of_ble_eq_true rfl) [1, 2, 0] rfl ?_
      refine ea_goto (pc := 36) (tgt := 5) dX2_least_36 rfl ?_
      exact H
    · have H := H.2 c14
      refine ea_iload_n (pc := 31) dX2_least_31 rfl 2 rfl ?_
      obtain ⟨rfl, rfl⟩ := H
      exact ea_ireturn (pc := 32) dX2_least_32 rfl rfl
theorem dX2_greatest_0 : decode cX2_greatest 0 = .ok (.sipush 10079, 3) := by decide +kernel
theorem dX2_greatest_3 : decode cX2_greatest 3 = .ok (.istore_n 2, 1) := by decide +kernel
theorem dX2_greatest_4 : decode cX2_greatest 4 = .ok (.iload_n 2, 1) := by decide +kernel
theorem dX2_greatest_5 : decode cX2_greatest 5 = .ok (.aload_n 0, 1) := by decide +kernel
theorem dX2_greatest_6 : decode cX2_greatest 6 = .ok (.getfield 18, 3) := by decide +kernel
theorem dX2_greatest_9 : decode cX2_greatest 9 = .ok (.if_icmp .lt 30, 3) := by decide +kernel
theorem dX2_greatest_12 : decode cX2_greatest 12 = .ok (.aload_n 0, 1) := by decide +kernel
theorem dX2_greatest_13 : decode cX2_greatest 13 = .ok (.iload_n 2, 1) := by decide +kernel
theorem dX2_greatest_14 : decode cX2_greatest 14 = .ok (.aload_n 0, 1) := by decide +kernel
theorem dX2_greatest_15 : decode cX2_greatest 15 = .ok (.getfield 18, 3) := by decide +kernel
theorem dX2_greatest_18 : decode cX2_greatest 18 = .ok (.isub, 1) := by decide +kernel
theorem dX2_greatest_19 : decode cX2_greatest 19 = .ok (.iload_n 1, 1) := by decide +kernel
theorem dX2_greatest_20 : decode cX2_greatest 20 = .ok (.aload_n 0, 1) := by decide +kernel
theorem dX2_greatest_21 : decode cX2_greatest 21 = .ok (.getfield 18, 3) := by decide +kernel
theorem dX2_greatest_24 : decode cX2_greatest 24 = .ok (.isub, 1) := by decide +kernel
theorem dX2_greatest_25 : decode cX2_greatest 25 = .ok (.invokevirtual 25, 3) := by decide +kernel
theorem dX2_greatest_28 : decode cX2_greatest 28 = .ok (.ifCond .eq 5, 3) := by decide +kernel
theorem dX2_greatest_31 : decode cX2_greatest 31 = .ok (.iload_n 2, 1) := by decide +kernel
theorem dX2_greatest_32 : decode cX2_greatest 32 = .ok (.ireturn, 1) := by decide +kernel
theorem dX2_greatest_33 : decode cX2_greatest 33 = .ok (.iinc 2 (-1), 3) := by decide +kernel
theorem dX2_greatest_36 : decode cX2_greatest 36 = .ok (.goto (-32), 3) := by decide +kernel
theorem dX2_greatest_39 : decode cX2_greatest 39 = .ok (.iconst (-1), 1) := by decide +kernel
theorem dX2_greatest_40 : decode cX2_greatest 40 = .ok (.ireturn, 1) := by decide +kernel
theorem bX2_greatest_0 {d : Nat} {h0 hE h : ea_H} {rv : Option ea_V} {r0 : Option Nat} {x1 : Int32} (H : ea_W mX2_greatest d h0 rv hE 4 [(0, vR r0), (1, vI x1), (2, vI 10079)] [] h) : ea_W mX2_greatest d h0 rv hE 0 [(0, vR r0), (1, vI x1)] [] h := by
  refine ea_sipush (pc := 0) dX2_greatest_0 (v := 10079) rfl ?_
  refine ea_istore_n (pc := 3) (lv' := [(0, vR r0), (1, vI x1), (2, vI 10079)]) dX2_greatest_3 rfl (Nat.le_of_ble_eq_true rfl) [1, 2, 0] rfl ?_
  exact H
theorem bX2_greatest_4 {d : Nat} {h0 hE h : ea_H} {rv : Option ea_V} {r0 : Option Nat} {x1 : Int32} {x2 : Int32} (H : ∃ a3, r0 = some a3 ∧ a3 < ea_n h ∧ ea_c h a3 = 2 ∧ (x2 < (ea_i h a3 0) → rv = some (vI (-1)) ∧ hE = h) ∧ (¬ x2 < (ea_i h a3 0) → a3 < ea_n h ∧ ea_c h a3 = 2 ∧ a3 < ea_n h ∧ ea_c h a3 = 2 ∧ a3 < ea_n h ∧ ea_c h a3 = 2 ∧ ∃ (d9 : Nat) (xc15 : Int32) (h10 : ea_H), ea_Met mX2_mayShow d9 [vR (some a3), vI (x2 - (ea_i h a3 0)), vI (x1 - (ea_i h a3 0))] h (some (vI xc15)) h10 ∧ d9 + 1 ≤ d ∧ (xc15 = (0 : Int32) → ea_W mX2_greatest d h0 rv hE 4 [(0, vR r0), (1, vI x1), (2, vI (x2 + (-1)))] [] h10) ∧ (¬ xc15 = (0 : Int32) → rv = some (vI x2) ∧ hE = h10))) : ea_W mX2_greatest d h0 rv hE 4 [(0, vR r0), (1, vI x1), (2, vI x2)] [] h := by
  refine ea_iload_n (pc := 4) dX2_greatest_4 rfl 2 rfl ?_
  refine ea_aload_n (pc := 5) dX2_greatest_5 rfl 0 rfl ?_
  obtain ⟨a3, e4, f1, g2, H⟩ := H
  refine ea_deref0 e4 ?_
  refine ea_getI (pc := 6) dX2_greatest_6 ec_2 (k := 0) (Nat.le_of_ble_eq_true rfl) rfl (Or.inl ew_424) f1 g2 ?_
  refine ea_icmp_lt (pc := 9) (tgt := 39) dX2_greatest_9 rfl (fun c17 => ?_) (fun c17 => ?_)
  · have H := H.1 c17
    refine ea_iconst (pc := 39) dX2_greatest_39 (v := (-1)) rfl ?_
    obtain ⟨rfl, rfl⟩ := H
    exact ea_ireturn (pc := 40) dX2_greatest_40 rfl rfl
  · have H := H.2 c17
    refine ea_aload_n (pc := 12) dX2_greatest_12 rfl 0 rfl ?_
    refine ea_iload_n (pc := 13) dX2_greatest_13 rfl 2 rfl ?_
    refine ea_aload_n (pc := 14) dX2_greatest_14 rfl 0 rfl ?_
    obtain ⟨f5, g6, H⟩ := H
    refine ea_deref0 e4 ?_
    refine ea_getI (pc := 15) dX2_greatest_15 ec_2 (k := 0) (Nat.le_of_ble_eq_true rfl) rfl (Or.inl ew_424) f5 g6 ?_
    refine ea_isub (pc := 18) dX2_greatest_18 ?_
    refine ea_iload_n (pc := 19) dX2_greatest_19 rfl 1 rfl ?_
    refine ea_aload_n (pc := 20) dX2_greatest_20 rfl 0 rfl ?_
    obtain ⟨f7, g8, H⟩ := H
    refine ea_deref0 e4 ?_
    refine ea_getI (pc := 21) dX2_greatest_21 ec_2 (k := 0) (Nat.le_of_ble_eq_true rfl) rfl (Or.inl ew_424) f7 g8 ?_
    refine ea_isub (pc := 24) dX2_greatest_24 ?_
    obtain ⟨f13, g14, H⟩ := H
    refine ea_deref2 e4 ?_
    obtain ⟨d9, xc15, h10, m11, q12, H⟩ := H
    refine ea_callV (pc := 25) (As := [vI (x2 - (ea_i h a3 0)), vI (x1 - (ea_i h a3 0))]) (st := []) dX2_greatest_25 kX2_mayShow m11 q12 rfl (Nat.le_of_ble_eq_true rfl) ew_1299 ew_1301 ew_44 (ci := 2) rfl (by decide) f13 g14 ?_
    refine ea_if_eq (pc := 28) (tgt := 33) dX2_greatest_28 rfl (fun c16 => ?_) (fun c16 => ?_)
    · have H := H.1 c16
      refine ea_iinc (pc := 33) (v := (-1)) (lv' := [(0, vR r0), (1, vI x1), (2, vI (x2 + (-1)))]) dX2_greatest_33 2 rfl rfl (Nat.le_of_ble_eq_true rfl) [1, 2, 0] rfl ?_
      refine ea_goto (pc := 36) (tgt := 4) dX2_greatest_36 rfl ?_
      exact H
    · have H := H.2 c16
      refine ea_iload_n (pc := 31) dX2_greatest_31 rfl 2 rfl ?_
      obtain ⟨rfl, rfl⟩ := H
      exact ea_ireturn (pc := 32) dX2_greatest_32 rfl rfl
theorem dX3_init_0 : decode cX3_init 0 = .ok (.aload_n 0, 1) := by decide +kernel
theorem dX3_init_1 : decode cX3_init 1 = .ok (.invokespecial 3, 3) := by decide +kernel
theorem dX3_init_4 : decode cX3_init 4 = .ok (.aload_n 0, 1) := by decide +kernel
theorem dX3_init_5 : decode cX3_init 5 = .ok (.bipush 8, 2) := by decide +kernel
theorem dX3_init_7 : decode cX3_init 7 = .ok (.newarray .int, 2) := by decide +kernel
theorem dX3_init_9 : decode cX3_init 9 = .ok (.putfield 9, 3) := by decide +kernel
theorem dX3_init_12 : decode cX3_init 12 = .ok (.aload_n 0, 1) := by decide +kernel
theorem dX3_init_13 : decode cX3_init 13 = .ok (.bipush 8, 2) := by decide +kernel
theorem dX3_init_15 : decode cX3_init 15 = .ok (.newarray .int, 2) := by decide +kernel
theorem dX3_init_17 : decode cX3_init 17 = .ok (.putfield 15, 3) := by decide +kernel
theorem dX3_init_20 : decode cX3_init 20 = .ok (.aload_n 0, 1) := by decide +kernel
theorem dX3_init_21 : decode cX3_init 21 = .ok (.bipush 8, 2) := by decide +kernel
theorem dX3_init_23 : decode cX3_init 23 = .ok (.newarray .int, 2) := by decide +kernel
theorem dX3_init_25 : decode cX3_init 25 = .ok (.putfield 18, 3) := by decide +kernel
theorem dX3_init_28 : decode cX3_init 28 = .ok (.aload_n 0, 1) := by decide +kernel
theorem dX3_init_29 : decode cX3_init 29 = .ok (.bipush 8, 2) := by decide +kernel
theorem dX3_init_31 : decode cX3_init 31 = .ok (.newarray .int, 2) := by decide +kernel
theorem dX3_init_33 : decode cX3_init 33 = .ok (.putfield 21, 3) := by decide +kernel
theorem dX3_init_36 : decode cX3_init 36 = .ok (.return_, 1) := by decide +kernel
theorem bX3_init_0 {d : Nat} {h0 hE h : ea_H} {rv : Option ea_V} {r0 : Option Nat} (H : 1 ≤ d ∧ ∃ a28, r0 = some a28 ∧ ∀ h30, h30 = ea_new h 20 8 8 → a28 < ea_n h30 ∧ ea_c h30 a28 = 3 ∧ ∀ h34, h34 = ea_wr h30 a28 1 (some (ea_n h)) → ∀ h36, h36 = ea_new h34 20 8 8 → a28 < ea_n h36 ∧ ea_c h36 a28 = 3 ∧ ∀ h40, h40 = ea_wr h36 a28 2 (some (ea_n h34)) → ∀ h42, h42 = ea_new h40 20 8 8 → a28 < ea_n h42 ∧ ea_c h42 a28 = 3 ∧ ∀ h46, h46 = ea_wr h42 a28 3 (some (ea_n h40)) → ∀ h48, h48 = ea_new h46 20 8 8 → a28 < ea_n h48 ∧ ea_c h48 a28 = 3 ∧ ∀ h52, h52 = ea_wr h48 a28 4 (some (ea_n h46)) → rv = none ∧ hE = h52) : ea_W mX3_init d h0 rv hE 0 [(0, vR r0)] [] h := by
  refine ea_aload_n (pc := 0) dX3_init_0 rfl 0 rfl ?_
  obtain ⟨z27, a28, e29, H⟩ := H
  refine ea_deref0 e29 ?_
  refine ea_objInit (pc := 1) dX3_init_1 ew_260 ew_134 ew_135 z27 (Nat.le_of_ble_eq_true rfl) ?_
  refine ea_aload_n (pc := 4) dX3_init_4 rfl 0 rfl ?_
  refine ea_bipush (pc := 5) dX3_init_5 (v := 8) rfl ?_
  refine ea_newI (pc := 7) (N := 8) dX3_init_7 ew_170 (by decide) rfl (Nat.le_of_ble_eq_true rfl) ?_
  obtain ⟨h30, E31⟩ : ∃ z, z = ea_new h 20 8 8 := ⟨_, rfl⟩
  have H := H h30 E31
  refine ea_nm E31 ?_
  obtain ⟨f32, g33, H⟩ := H
  refine ea_deref1 e29 ?_
  refine ea_putR (pc := 9) dX3_init_9 ec_3 (k := 1) (Nat.le_of_ble_eq_true rfl) rfl (Or.inr ⟨rfl, rfl, rfl, ew_263⟩) f32 g33 ?_
  obtain ⟨h34, E35⟩ : ∃ z, z = ea_wr h30 a28 1 (some (ea_n h)) := ⟨_, rfl⟩
  have H := H h34 E35
  refine ea_nm E35 ?_
  refine ea_aload_n (pc := 12) dX3_init_12 rfl 0 rfl ?_
  refine ea_bipush (pc := 13) dX3_init_13 (v := 8) rfl ?_
  refine ea_newI (pc := 15) (N := 8) dX3_init_15 ew_170 (by decide) rfl (Nat.le_of_ble_eq_true rfl) ?_
  obtain ⟨h36, E37⟩ : ∃ z, z = ea_new h34 20 8 8 := ⟨_, rfl⟩
  have H := H h36 E37
  refine ea_nm E37 ?_
  obtain ⟨f38, g39, H⟩ := H
  refine ea_deref1 e29 ?_
  refine ea_putR (pc := 17) dX3_init_17 ec_3 (k := 2) (Nat.le_of_ble_eq_true rfl) rfl (Or.inr ⟨rfl, rfl, rfl, ew_265⟩) f38 g39 ?_
  obtain ⟨h40, E41⟩ : ∃ z, z = ea_wr h36 a28 2 (some (ea_n h34)) := ⟨_, rfl⟩
  have H := H h40 E41
  refine ea_nm E41 ?_
  refine ea_aload_n (pc := 20) dX3_init_20 rfl 0 rfl ?_
  refine ea_bipush (pc := 21) dX3_init_21 (v := 8) rfl ?_
  refine ea_newI (pc := 23) (N := 8) dX3_init_23 ew_170 (by decide) rfl (Nat.le_of_ble_eq_true rfl) ?_
  obtain ⟨h42, E43⟩ : ∃ z, z = ea_new h40 20 8 8 := ⟨_, rfl⟩
  have H := H h42 E43
  refine ea_nm E43 ?_
  obtain ⟨f44, g45, H⟩ := H
  refine ea_deref1 e29 ?_
  refine ea_putR (pc := 25) dX3_init_25 ec_3 (k := 3) (Nat.le_of_ble_eq_true rfl) rfl (Or.inr ⟨rfl, rfl, rfl, ew_266⟩) f44 g45 ?_
  obtain ⟨h46, E47⟩ : ∃ z, z = ea_wr h42 a28 3 (some (ea_n h40)) := ⟨_, rfl⟩
  have H := H h46 E47
  refine ea_nm E47 ?_
  refine ea_aload_n (pc := 28) dX3_init_28 rfl 0 rfl ?_
  refine ea_bipush (pc := 29) dX3_init_29 (v := 8) rfl ?_
  refine ea_newI (pc := 31) (N := 8) dX3_init_31 ew_170 (by decide) rfl (Nat.le_of_ble_eq_true rfl) ?_
  obtain ⟨h48, E49⟩ : ∃ z, z = ea_new h46 20 8 8 := ⟨_, rfl⟩
  have H := H h48 E49
  refine ea_nm E49 ?_
  obtain ⟨f50, g51, H⟩ := H
  refine ea_deref1 e29 ?_
  refine ea_putR (pc := 33) dX3_init_33 ec_3 (k := 4) (Nat.le_of_ble_eq_true rfl) rfl (Or.inr ⟨rfl, rfl, rfl, ew_267⟩) f50 g51 ?_
  obtain ⟨h52, E53⟩ : ∃ z, z = ea_wr h48 a28 4 (some (ea_n h46)) := ⟨_, rfl⟩
  have H := H h52 E53
  refine ea_nm E53 ?_
  obtain ⟨rfl, rfl⟩ := H
  exact ea_return (pc := 36) dX3_init_36 rfl
theorem dX3_add_0 : decode cX3_add 0 = .ok (.aload_n 0, 1) := by decide +kernel
theorem dX3_add_1 : decode cX3_add 1 = .ok (.getfield 24, 3) := by decide +kernel
theorem dX3_add_4 : decode cX3_add 4 = .ok (.bipush 8, 2) := by decide +kernel
theorem dX3_add_6 : decode cX3_add 6 = .ok (.if_icmp .lt 5, 3) := by decide +kernel
theorem dX3_add_9 : decode cX3_add 9 = .ok (.iconst (-1), 1) := by decide +kernel
theorem dX3_add_10 : decode cX3_add 10 = .ok (.ireturn, 1) := by decide +kernel
theorem dX3_add_11 : decode cX3_add 11 = .ok (.aload_n 0, 1) := by decide +kernel
theorem dX3_add_12 : decode cX3_add 12 = .ok (.getfield 15, 3) := by decide +kernel
theorem dX3_add_15 : decode cX3_add 15 = .ok (.aload_n 0, 1) := by decide +kernel
theorem dX3_add_16 : decode cX3_add 16 = .ok (.getfield 24, 3) := by decide +kernel
theorem dX3_add_19 : decode cX3_add 19 = .ok (.iload_n 1, 1) := by decide +kernel
theorem dX3_add_20 : decode cX3_add 20 = .ok (.iastore, 1) := by decide +kernel
theorem dX3_add_21 : decode cX3_add 21 = .ok (.aload_n 0, 1) := by decide +kernel
theorem dX3_add_22 : decode cX3_add 22 = .ok (.getfield 18, 3) := by decide +kernel
theorem dX3_add_25 : decode cX3_add 25 = .ok (.aload_n 0, 1) := by decide +kernel
theorem dX3_add_26 : decode cX3_add 26 = .ok (.getfield 24, 3) := by decide +kernel
theorem dX3_add_29 : decode cX3_add 29 = .ok (.iload_n 2, 1) := by decide +kernel
theorem dX3_add_30 : decode cX3_add 30 = .ok (.iastore, 1) := by decide +kernel
theorem dX3_add_31 : decode cX3_add 31 = .ok (.aload_n 0, 1) := by decide +kernel
theorem dX3_add_32 : decode cX3_add 32 = .ok (.getfield 9, 3) := by decide +kernel
theorem dX3_add_35 : decode cX3_add 35 = .ok (.aload_n 0, 1) := by decide +kernel
theorem dX3_add_36 : decode cX3_add 36 = .ok (.getfield 24, 3) := by decide +kernel
theorem dX3_add_39 : decode cX3_add 39 = .ok (.iconst (-1), 1) := by decide +kernel
theorem dX3_add_40 : decode cX3_add 40 = .ok (.iastore, 1) := by decide +kernel
theorem dX3_add_41 : decode cX3_add 41 = .ok (.aload_n 0, 1) := by decide +kernel
theorem dX3_add_42 : decode cX3_add 42 = .ok (.dup, 1) := by decide +kernel
theorem dX3_add_43 : decode cX3_add 43 = .ok (.getfield 24, 3) := by decide +kernel
theorem dX3_add_46 : decode cX3_add 46 = .ok (.iconst 1, 1) := by decide +kernel
theorem dX3_add_47 : decode cX3_add 47 = .ok (.iadd, 1) := by decide +kernel
theorem dX3_add_48 : decode cX3_add 48 = .ok (.putfield 24, 3) := by decide +kernel
theorem dX3_add_51 : decode cX3_add 51 = .ok (.aload_n 0, 1) := by decide +kernel
theorem dX3_add_52 : decode cX3_add 52 = .ok (.getfield 24, 3) := by decide +kernel
theorem dX3_add_55 : decode cX3_add 55 = .ok (.iconst 1, 1) := by decide +kernel
theorem dX3_add_56 : decode cX3_add 56 = .ok (.isub, 1) := by decide +kernel
theorem dX3_add_57 : decode cX3_add 57 = .ok (.ireturn, 1) := by decide +kernel
theorem bX3_add_0 {d : Nat} {h0 hE h : ea_H} {rv : Option ea_V} {r0 : Option Nat} {x1 : Int32} {x2 : Int32} (H : ∃ a3, r0 = some a3 ∧ a3 < ea_n h ∧ ea_c h a3 = 3 ∧ ((ea_i h a3 0) < (8 : Int32) → a3 < ea_n h ∧ ea_c h a3 = 3 ∧ a3 < ea_n h ∧ ea_c h a3 = 3 ∧ ∃ a11, (ea_r h a3 2) = some a11 ∧ a11 < ea_n h ∧ ea_c h a11 = 20 ∧ vp_in (ea_i h a3 0) (ea_l h a11) ∧ ∀ h14, h14 = ea_wi h a11 (Int32.toNatClampNeg (ea_i h a3 0)) x1 → a3 < ea_n h14 ∧ ea_c h14 a3 = 3 ∧ a3 < ea_n h14 ∧ ea_c h14 a3 = 3 ∧ ∃ a22, (ea_r h14 a3 3) = some a22 ∧ a22 < ea_n h14 ∧ ea_c h14 a22 = 20 ∧ vp_in (ea_i h14 a3 0) (ea_l h14 a22) ∧ ∀ h25, h25 = ea_wi h14 a22 (Int32.toNatClampNeg (ea_i h14 a3 0)) x2 → a3 < ea_n h25 ∧ ea_c h25 a3 = 3 ∧ a3 < ea_n h25 ∧ ea_c h25 a3 = 3 ∧ ∃ a33, (ea_r h25 a3 1) = some a33 ∧ a33 < ea_n h25 ∧ ea_c h25 a33 = 20 ∧ vp_in (ea_i h25 a3 0) (ea_l h25 a33) ∧ ∀ h36, h36 = ea_wi h25 a33 (Int32.toNatClampNeg (ea_i h25 a3 0)) (-1) → a3 < ea_n h36 ∧ ea_c h36 a3 = 3 ∧ a3 < ea_n h36 ∧ ea_c h36 a3 = 3 ∧ ∀ h42, h42 = ea_wi h36 a3 0 ((ea_i h36 a3 0) + (1 : Int32)) → a3 < ea_n h42 ∧ ea_c h42 a3 = 3 ∧ rv = some (vI ((ea_i h42 a3 0) - (1 : Int32))) ∧ hE = h42) ∧ (¬ (ea_i h a3 0) < (8 : Int32) → rv = some (vI (-1)) ∧ hE = h)) : ea_W mX3_add d h0 rv hE 0 [(0, vR r0), (1, vI x1), (2, vI x2)] [] h := by
  refine ea_aload_n (pc := 0) dX3_add_0 rfl 0 rfl ?_
  obtain ⟨a3, e4, f1, g2, H⟩ := H
  refine ea_deref0 e4 ?_
  refine ea_getI (pc := 1) dX3_add_1 ec_3 (k := 0) (Nat.le_of_ble_eq_true rfl) rfl (Or.inl ew_261) f1 g2 ?_
  refine ea_bipush (pc := 4) dX3_add_4 (v := 8) rfl ?_
  refine ea_icmp_lt (pc := 6) (tgt := 11) dX3_add_6 rfl (fun c46 => ?_) (fun c46 => ?_)
  · have H := H.1 c46
    refine ea_aload_n (pc := 11) dX3_add_11 rfl 0 rfl ?_
    obtain ⟨f5, g6, H⟩ := H
    refine ea_deref0 e4 ?_
    refine ea_getR (pc := 12) dX3_add_12 ec_3 (k := 2) (Nat.le_of_ble_eq_true rfl) rfl (Or.inl ew_265) f5 g6 rfl ?_
    refine ea_aload_n (pc := 15) dX3_add_15 rfl 0 rfl ?_
    obtain ⟨f7, g8, H⟩ := H
    refine ea_deref0 e4 ?_
    refine ea_getI (pc := 16) dX3_add_16 ec_3 (k := 0) (Nat.le_of_ble_eq_true rfl) rfl (Or.inl ew_261) f7 g8 ?_
    refine ea_iload_n (pc := 19) dX3_add_19 rfl 1 rfl ?_
    obtain ⟨a11, e12, f9, g10, H⟩ := H
    refine ea_deref2 e12 ?_
    obtain ⟨z13, H⟩ := H
    refine ea_iast (pc := 20) dX3_add_20 f9 g10 z13 ?_
    obtain ⟨h14, E15⟩ : ∃ z, z = ea_wi h a11 (Int32.toNatClampNeg (ea_i h a3 0)) x1 := ⟨_, rfl⟩
    have H := H h14 E15
    refine ea_nm E15 ?_
    refine ea_aload_n (pc := 21) dX3_add_21 rfl 0 rfl ?_
    obtain ⟨f16, g17, H⟩ := H
    refine ea_deref0 e4 ?_
    refine ea_getR (pc := 22) dX3_add_22 ec_3 (k := 3) (Nat.le_of_ble_eq_true rfl) rfl (Or.inl ew_266) f16 g17 rfl ?_
    refine ea_aload_n (pc := 25) dX3_add_25 rfl 0 rfl ?_
    obtain ⟨f18, g19, H⟩ := H
    refine ea_deref0 e4 ?_
    refine ea_getI (pc := 26) dX3_add_26 ec_3 (k := 0) (Nat.le_of_ble_eq_true rfl) rfl (Or.inl ew_261) f18 g19 ?_
    refine ea_iload_n (pc := 29) dX3_add_29 rfl 2 rfl ?_
    obtain ⟨a22, e23, f20, g21, H⟩ := H
    refine ea_deref2 e23 ?_
    obtain ⟨z24, H⟩ := H
    refine ea_iast (pc := 30) dX3_add_30 f20 g21 z24 ?_
    obtain ⟨h25, E26⟩ : ∃ z, z = ea_wi h14 a22 (Int32.toNatClampNeg (ea_i h14 a3 0)) x2 := ⟨_, rfl⟩
    have H := H h25 E26
    refine ea_nm E26 ?_
    refine ea_aload_n (pc := 31) dX3_add_31 rfl 0 rfl ?_
    obtain ⟨f27, g28, H⟩ := H
    refine ea_deref0 e4 ?_
    refine ea_getR (pc := 32) dX3_add_32 ec_3 (k := 1) (Nat.le_of_ble_eq_true rfl) rfl (Or.inl ew_263) f27 g28 rfl ?_
    refine ea_aload_n (pc := 35) dX3_add_35 rfl 0 rfl ?_
    obtain ⟨f29, g30, H⟩ := H
    refine ea_deref0 e4 ?_
    refine ea_getI (pc := 36) dX3_add_36 ec_3 (k := 0) (Nat.le_of_ble_eq_true rfl) rfl (Or.inl ew_261) f29 g30 ?_
    refine ea_iconst (pc := 39) dX3_add_39 (v := (-1)) rfl ?_
    obtain ⟨a33, e34, f31, g32, H⟩ := H
    refine ea_deref2 e34 ?_
    obtain ⟨z35, H⟩ := H
    refine ea_iast (pc := 40) dX3_add_40 f31 g32 z35 ?_
    obtain ⟨h36, E37⟩ : ∃ z, z = ea_wi h25 a33 (Int32.toNatClampNeg (ea_i h25 a3 0)) (-1) := ⟨_, rfl⟩
    have H := H h36 E37
    refine ea_nm E37 ?_
    refine ea_aload_n (pc := 41) dX3_add_41 rfl 0 rfl ?_
    refine ea_dup (pc := 42) dX3_add_42 rfl ?_
    obtain ⟨f38, g39, H⟩ := H
    refine ea_deref0 e4 ?_
    refine ea_getI (pc := 43) dX3_add_43 ec_3 (k := 0) (Nat.le_of_ble_eq_true rfl) rfl (Or.inl ew_261) f38 g39 ?_
    refine ea_iconst (pc := 46) dX3_add_46 (v := 1) rfl ?_
    refine ea_iadd (pc := 47) dX3_add_47 ?_
    obtain ⟨f40, g41, H⟩ := H
    refine ea_deref1 e4 ?_
    refine ea_putI (pc := 48) dX3_add_48 ec_3 (k := 0) (Nat.le_of_ble_eq_true rfl) rfl (Or.inl ⟨rfl, Or.inl ew_261⟩) rfl rfl f40 g41 ?_
    obtain ⟨h42, E43⟩ : ∃ z, z = ea_wi h36 a3 0 ((ea_i h36 a3 0) + (1 : Int32)) := ⟨_, rfl⟩
    have H := H h42 E43
    refine ea_nm E43 ?_
    refine ea_aload_n (pc := 51) dX3_add_51 rfl 0 rfl ?_
    obtain ⟨f44, g45, H⟩ := H
    refine ea_deref0 e4 ?_
    refine ea_getI (pc := 52) dX3_add_52 ec_3 (k := 0) (Nat.le_of_ble_eq_true rfl) rfl (Or.inl ew_261) f44 g45 ?_
    refine ea_iconst (pc := 55) dX3_add_55 (v := 1) rfl ?_
    refine ea_isub (pc := 56) dX3_add_56 ?_
    obtain ⟨rfl, rfl⟩ := H
    exact ea_ireturn (pc := 57) dX3_add_57 rfl rfl
  · have H := H.2 c46
    refine ea_iconst (pc := 9) dX3_add_9 (v := (-1)) rfl ?_
    obtain ⟨rfl, rfl⟩ := H
    exact ea_ireturn (pc := 10) dX3_add_10 rfl rfl
theorem dX3_sitsIn_0 : decode cX3_sitsIn 0 = .ok (.iconst 0, 1) := by decide +kernel
theorem dX3_sitsIn_1 : decode cX3_sitsIn 1 = .ok (.istore_n 2, 1) := by decide +kernel
theorem dX3_sitsIn_2 : decode cX3_sitsIn 2 = .ok (.iload_n 2, 1) := by decide +kernel
theorem dX3_sitsIn_3 : decode cX3_sitsIn 3 = .ok (.aload_n 0, 1) := by decide +kernel
theorem dX3_sitsIn_4 : decode cX3_sitsIn 4 = .ok (.getfield 24, 3) := by decide +kernel
theorem dX3_sitsIn_7 : decode cX3_sitsIn 7 = .ok (.if_icmp .ge 21, 3) := by decide +kernel
theorem dX3_sitsIn_10 : decode cX3_sitsIn 10 = .ok (.aload_n 0, 1) := by decide +kernel
theorem dX3_sitsIn_11 : decode cX3_sitsIn 11 = .ok (.getfield 9, 3) := by decide +kernel
theorem dX3_sitsIn_14 : decode cX3_sitsIn 14 = .ok (.iload_n 2, 1) := by decide +kernel
theorem dX3_sitsIn_15 : decode cX3_sitsIn 15 = .ok (.iaload, 1) := by decide +kernel
theorem dX3_sitsIn_16 : decode cX3_sitsIn 16 = .ok (.iload_n 1, 1) := by decide +kernel
theorem dX3_sitsIn_17 : decode cX3_sitsIn 17 = .ok (.if_icmp .ne 5, 3) := by decide +kernel
theorem dX3_sitsIn_20 : decode cX3_sitsIn 20 = .ok (.iconst 1, 1) := by decide +kernel
theorem dX3_sitsIn_21 : decode cX3_sitsIn 21 = .ok (.ireturn, 1) := by decide +kernel
theorem dX3_sitsIn_22 : decode cX3_sitsIn 22 = .ok (.iinc 2 1, 3) := by decide +kernel
theorem dX3_sitsIn_25 : decode cX3_sitsIn 25 = .ok (.goto (-23), 3) := by decide +kernel
theorem dX3_sitsIn_28 : decode cX3_sitsIn 28 = .ok (.iconst 0, 1) := by decide +kernel
theorem dX3_sitsIn_29 : decode cX3_sitsIn 29 = .ok (.ireturn, 1) := by decide +kernel
theorem bX3_sitsIn_0 {d : Nat} {h0 hE h : ea_H} {rv : Option ea_V} {r0 : Option Nat} {x1 : Int32} (H : ea_W mX3_sitsIn d h0 rv hE 2 [(0, vR r0), (1, vI x1), (2, vI 0)] [] h) : ea_W mX3_sitsIn d h0 rv hE 0 [(0, vR r0), (1, vI x1)] [] h := by
  refine ea_iconst (pc := 0) dX3_sitsIn_0 (v := 0) rfl ?_
  refine ea_istore_n (pc := 1) (lv' := [(0, vR r0), (1, vI x1), (2, vI 0)]) dX3_sitsIn_1 rfl (Nat.le_of_ble_eq_true rfl) [1, 2, 0] rfl ?_
  exact H
theorem bX3_sitsIn_2 {d : Nat} {h0 hE h : ea_H} {rv : Option ea_V} {r0 : Option Nat} {x1 : Int32} {x2 : Int32} (H : ∃ a3, r0 = some a3 ∧ a3 < ea_n h ∧ ea_c h a3 = 3 ∧ ((ea_i h a3 0) ≤ x2 → rv = some (vI 0) ∧ hE = h) ∧ (¬ (ea_i h a3 0) ≤ x2 → a3 < ea_n h ∧ ea_c h a3 = 3 ∧ ∃ a9, (ea_r h a3 1) = some a9 ∧ a9 < ea_n h ∧ ea_c h a9 = 20 ∧ vp_in x2 (ea_l h a9) ∧ (¬ (ea_i h a9 (Int32.toNatClampNeg x2)) = x1 → ea_W mX3_sitsIn d h0 rv hE 2 [(0, vR r0), (1, vI x1), (2, vI (x2 + 1))] [] h) ∧ ((ea_i h a9 (Int32.toNatClampNeg x2)) = x1 → rv = some (vI 1) ∧ hE = h))) : ea_W mX3_sitsIn d h0 rv hE 2 [(0, vR r0), (1, vI x1), (2, vI x2)] [] h := by
  refine ea_iload_n (pc := 2) dX3_sitsIn_2 rfl 2 rfl ?_
  refine ea_aload_n (pc := 3) dX3_sitsIn_3 rfl 0 rfl ?_
  obtain ⟨a3, e4, f1, g2, H⟩ := H
  refine ea_deref0 e4 ?_
  refine ea_getI (pc := 4) dX3_sitsIn_4 ec_3 (k := 0) (Nat.le_of_ble_eq_true rfl) rfl (Or.inl ew_261) f1 g2 ?_
  refine ea_icmp_ge (pc := 7) (tgt := 28) dX3_sitsIn_7 rfl (fun c13 => ?_) (fun c13 => ?_)
  · have H := H.1 c13
    refine ea_iconst (pc := 28) dX3_sitsIn_28 (v := 0) rfl ?_
    obtain ⟨rfl, rfl⟩ := H
    exact ea_ireturn (pc := 29) dX3_sitsIn_29 rfl (ea_bn (Or.inl rfl))
  · have H := H.2 c13
    refine ea_aload_n (pc := 10) dX3_sitsIn_10 rfl 0 rfl ?_
    obtain ⟨f5, g6, H⟩ := H
    refine ea_deref0 e4 ?_
    refine ea_getR (pc := 11) dX3_sitsIn_11 ec_3 (k := 1) (Nat.le_of_ble_eq_true rfl) rfl (Or.inl ew_263) f5 g6 rfl ?_
    refine ea_iload_n (pc := 14) dX3_sitsIn_14 rfl 2 rfl ?_
    obtain ⟨a9, e10, f7, g8, H⟩ := H
    refine ea_deref1 e10 ?_
    obtain ⟨z11, H⟩ := H
    refine ea_iald (pc := 15) dX3_sitsIn_15 f7 g8 z11 ?_
    refine ea_iload_n (pc := 16) dX3_sitsIn_16 rfl 1 rfl ?_
    refine ea_icmp_ne (pc := 17) (tgt := 22) dX3_sitsIn_17 rfl (fun c12 => ?_) (fun c12 => ?_)
    · have H := H.1 c12
      refine ea_iinc (pc := 22) (v := 1) (lv' := [(0, vR r0), (1, vI x1), (2, vI (x2 + 1))]) dX3_sitsIn_22 2 rfl rfl (Nat.le_of_ble_eq_true rfl) [1, 2, 0] rfl ?_
      refine ea_goto (pc := 25) (tgt := 2) dX3_sitsIn_25 rfl ?_
      exact H
    · have H := H.2 c12
      refine ea_iconst (pc := 20) dX3_sitsIn_20 (v := 1) rfl ?_
      obtain ⟨rfl, rfl⟩ := H
      exact ea_ireturn (pc := 21) dX3_sitsIn_21 rfl (ea_bn (Or.inr rfl))
theorem dX3_begin_0 : decode cX3_begin 0 = .ok (.iconst 0, 1) := by decide +kernel
theorem dX3_begin_1 : decode cX3_begin 1 = .ok (.istore_n 2, 1) := by decide +kernel
theorem dX3_begin_2 : decode cX3_begin 2 = .ok (.iload_n 2, 1) := by decide +kernel
theorem dX3_begin_3 : decode cX3_begin 3 = .ok (.aload_n 0, 1) := by decide +kernel
theorem dX3_begin_4 : decode cX3_begin 4 = .ok (.getfield 24, 3) := by decide +kernel
theorem dX3_begin_7 : decode cX3_begin 7 = .ok (.if_icmp .ge 23, 3) := by decide +kernel
theorem dX3_begin_10 : decode cX3_begin 10 = .ok (.aload_n 0, 1) := by decide +kernel
theorem dX3_begin_11 : decode cX3_begin 11 = .ok (.getfield 21, 3) := by decide +kernel
theorem dX3_begin_14 : decode cX3_begin 14 = .ok (.iload_n 2, 1) := by decide +kernel
theorem dX3_begin_15 : decode cX3_begin 15 = .ok (.aload_n 0, 1) := by decide +kernel
theorem dX3_begin_16 : decode cX3_begin 16 = .ok (.getfield 15, 3) := by decide +kernel
theorem dX3_begin_19 : decode cX3_begin 19 = .ok (.iload_n 2, 1) := by decide +kernel
theorem dX3_begin_20 : decode cX3_begin 20 = .ok (.iaload, 1) := by decide +kernel
theorem dX3_begin_21 : decode cX3_begin 21 = .ok (.iload_n 1, 1) := by decide +kernel
theorem dX3_begin_22 : decode cX3_begin 22 = .ok (.imul, 1) := by decide +kernel
theorem dX3_begin_23 : decode cX3_begin 23 = .ok (.iastore, 1) := by decide +kernel
theorem dX3_begin_24 : decode cX3_begin 24 = .ok (.iinc 2 1, 3) := by decide +kernel
theorem dX3_begin_27 : decode cX3_begin 27 = .ok (.goto (-25), 3) := by decide +kernel
theorem dX3_begin_30 : decode cX3_begin 30 = .ok (.return_, 1) := by decide +kernel
theorem bX3_begin_0 {d : Nat} {h0 hE h : ea_H} {rv : Option ea_V} {r0 : Option Nat} {x1 : Int32} (H : ea_W mX3_begin d h0 rv hE 2 [(0, vR r0), (1, vI x1), (2, vI 0)] [] h) : ea_W mX3_begin d h0 rv hE 0 [(0, vR r0), (1, vI x1)] [] h := by
  refine ea_iconst (pc := 0) dX3_begin_0 (v := 0) rfl ?_
  refine ea_istore_n (pc := 1) (lv' := [(0, vR r0), (1, vI x1), (2, vI 0)]) dX3_begin_1 rfl (Nat.le_of_ble_eq_true rfl) [1, 2, 0] rfl ?_
  exact H
theorem bX3_begin_2 {d : Nat} {h0 hE h : ea_H} {rv : Option ea_V} {r0 : Option Nat} {x1 : Int32} {x2 : Int32} (H : ∃ a3, r0 = some a3 ∧ a3 < ea_n h ∧ ea_c h a3 = 3 ∧ ((ea_i h a3 0) ≤ x2 → rv = none ∧ hE = h) ∧ (¬ (ea_i h a3 0) ≤ x2 → a3 < ea_n h ∧ ea_c h a3 = 3 ∧ a3 < ea_n h ∧ ea_c h a3 = 3 ∧ ∃ a11, (ea_r h a3 2) = some a11 ∧ a11 < ea_n h ∧ ea_c h a11 = 20 ∧ vp_in x2 (ea_l h a11) ∧ ∃ a16, (ea_r h a3 4) = some a16 ∧ a16 < ea_n h ∧ ea_c h a16 = 20 ∧ vp_in x2 (ea_l h a16) ∧ ∀ h19, h19 = ea_wi h a16 (Int32.toNatClampNeg x2) ((ea_i h a11 (Int32.toNatClampNeg x2)) * x1) → ea_W mX3_begin d h0 rv hE 2 [(0, vR r0), (1, vI x1), (2, vI (x2 + 1))] [] h19)) : ea_W mX3_begin d h0 rv hE 2 [(0, vR r0), (1, vI x1), (2, vI x2)] [] h := by
  refine ea_iload_n (pc := 2) dX3_begin_2 rfl 2 rfl ?_
  refine ea_aload_n (pc := 3) dX3_begin_3 rfl 0 rfl ?_
  obtain ⟨a3, e4, f1, g2, H⟩ := H
  refine ea_deref0 e4 ?_
  refine ea_getI (pc := 4) dX3_begin_4 ec_3 (k := 0) (Nat.le_of_ble_eq_true rfl) rfl (Or.inl ew_261) f1 g2 ?_
  refine ea_icmp_ge (pc := 7) (tgt := 30) dX3_begin_7 rfl (fun c21 => ?_) (fun c21 => ?_)
  · have H := H.1 c21
    obtain ⟨rfl, rfl⟩ := H
    exact ea_return (pc := 30) dX3_begin_30 rfl
  · have H := H.2 c21
    refine ea_aload_n (pc := 10) dX3_begin_10 rfl 0 rfl ?_
    obtain ⟨f5, g6, H⟩ := H
    refine ea_deref0 e4 ?_
    refine ea_getR (pc := 11) dX3_begin_11 ec_3 (k := 4) (Nat.le_of_ble_eq_true rfl) rfl (Or.inl ew_267) f5 g6 rfl ?_
    refine ea_iload_n (pc := 14) dX3_begin_14 rfl 2 rfl ?_
    refine ea_aload_n (pc := 15) dX3_begin_15 rfl 0 rfl ?_
    obtain ⟨f7, g8, H⟩ := H
    refine ea_deref0 e4 ?_
    refine ea_getR (pc := 16) dX3_begin_16 ec_3 (k := 2) (Nat.le_of_ble_eq_true rfl) rfl (Or.inl ew_265) f7 g8 rfl ?_
    refine ea_iload_n (pc := 19) dX3_begin_19 rfl 2 rfl ?_
    obtain ⟨a11, e12, f9, g10, H⟩ := H
    refine ea_deref1 e12 ?_
    obtain ⟨z13, H⟩ := H
    refine ea_iald (pc := 20) dX3_begin_20 f9 g10 z13 ?_
    refine ea_iload_n (pc := 21) dX3_begin_21 rfl 1 rfl ?_
    refine ea_imul (pc := 22) dX3_begin_22 ?_
    obtain ⟨a16, e17, f14, g15, H⟩ := H
    refine ea_deref2 e17 ?_
    obtain ⟨z18, H⟩ := H
    refine ea_iast (pc := 23) dX3_begin_23 f14 g15 z18 ?_
    obtain ⟨h19, E20⟩ : ∃ z, z = ea_wi h a16 (Int32.toNatClampNeg x2) ((ea_i h a11 (Int32.toNatClampNeg x2)) * x1) := ⟨_, rfl⟩
    have H := H h19 E20
    refine ea_nm E20 ?_
    refine ea_iinc (pc := 24) (v := 1) (lv' := [(0, vR r0), (1, vI x1), (2, vI (x2 + 1))]) dX3_begin_24 2 rfl rfl (Nat.le_of_ble_eq_true rfl) [1, 2, 0] rfl ?_
    refine ea_goto (pc := 27) (tgt := 2) dX3_begin_27 rfl ?_
    exact H
theorem dX3_sortsOne_0 : decode cX3_sortsOne 0 = .ok (.iconst 0, 1) := by decide +kernel
theorem dX3_sortsOne_1 : decode cX3_sortsOne 1 = .ok (.istore_n 3, 1) := by decide +kernel
theorem dX3_sortsOne_2 : decode cX3_sortsOne 2 = .ok (.iload_n 3, 1) := by decide +kernel
theorem dX3_sortsOne_3 : decode cX3_sortsOne 3 = .ok (.aload_n 0, 1) := by decide +kernel
theorem dX3_sortsOne_4 : decode cX3_sortsOne 4 = .ok (.getfield 24, 3) := by decide +kernel
theorem dX3_sortsOne_7 : decode cX3_sortsOne 7 = .ok (.if_icmp .ge 54, 3) := by decide +kernel
theorem dX3_sortsOne_10 : decode cX3_sortsOne 10 = .ok (.aload_n 0, 1) := by decide +kernel
theorem dX3_sortsOne_11 : decode cX3_sortsOne 11 = .ok (.getfield 9, 3) := by decide +kernel
theorem dX3_sortsOne_14 : decode cX3_sortsOne 14 = .ok (.iload_n 3, 1) := by decide +kernel
theorem dX3_sortsOne_15 : decode cX3_sortsOne 15 = .ok (.iaload, 1) := by decide +kernel
theorem dX3_sortsOne_16 : decode cX3_sortsOne 16 = .ok (.iload_n 1, 1) := by decide +kernel
theorem dX3_sortsOne_17 : decode cX3_sortsOne 17 = .ok (.if_icmp .ne 38, 3) := by decide +kernel
theorem dX3_sortsOne_20 : decode cX3_sortsOne 20 = .ok (.aload_n 0, 1) := by decide +kernel
theorem dX3_sortsOne_21 : decode cX3_sortsOne 21 = .ok (.getfield 21, 3) := by decide +kernel
theorem dX3_sortsOne_24 : decode cX3_sortsOne 24 = .ok (.iload_n 3, 1) := by decide +kernel
theorem dX3_sortsOne_25 : decode cX3_sortsOne 25 = .ok (.iaload, 1) := by decide +kernel
theorem dX3_sortsOne_26 : decode cX3_sortsOne 26 = .ok (.ifCond .le 29, 3) := by decide +kernel
theorem dX3_sortsOne_29 : decode cX3_sortsOne 29 = .ok (.aload_n 0, 1) := by decide +kernel
theorem dX3_sortsOne_30 : decode cX3_sortsOne 30 = .ok (.getfield 18, 3) := by decide +kernel
theorem dX3_sortsOne_33 : decode cX3_sortsOne 33 = .ok (.iload_n 3, 1) := by decide +kernel
theorem dX3_sortsOne_34 : decode cX3_sortsOne 34 = .ok (.iaload, 1) := by decide +kernel
theorem dX3_sortsOne_35 : decode cX3_sortsOne 35 = .ok (.iload_n 2, 1) := by decide +kernel
theorem dX3_sortsOne_36 : decode cX3_sortsOne 36 = .ok (.ishr, 1) := by decide +kernel
theorem dX3_sortsOne_37 : decode cX3_sortsOne 37 = .ok (.iconst 1, 1) := by decide +kernel
theorem dX3_sortsOne_38 : decode cX3_sortsOne 38 = .ok (.iand, 1) := by decide +kernel
theorem dX3_sortsOne_39 : decode cX3_sortsOne 39 = .ok (.iconst 1, 1) := by decide +kernel
theorem dX3_sortsOne_40 : decode cX3_sortsOne 40 = .ok (.if_icmp .ne 15, 3) := by decide +kernel
theorem dX3_sortsOne_43 : decode cX3_sortsOne 43 = .ok (.aload_n 0, 1) := by decide +kernel
theorem dX3_sortsOne_44 : decode cX3_sortsOne 44 = .ok (.getfield 21, 3) := by decide +kernel
theorem dX3_sortsOne_47 : decode cX3_sortsOne 47 = .ok (.iload_n 3, 1) := by decide +kernel
theorem dX3_sortsOne_48 : decode cX3_sortsOne 48 = .ok (.dup2, 1) := by decide +kernel
theorem dX3_sortsOne_49 : decode cX3_sortsOne 49 = .ok (.iaload, 1) := by decide +kernel
theorem dX3_sortsOne_50 : decode cX3_sortsOne 50 = .ok (.iconst 1, 1) := by decide +kernel
theorem dX3_sortsOne_51 : decode cX3_sortsOne 51 = .ok (.isub, 1) := by decide +kernel
theorem dX3_sortsOne_52 : decode cX3_sortsOne 52 = .ok (.iastore, 1) := by decide +kernel
theorem dX3_sortsOne_53 : decode cX3_sortsOne 53 = .ok (.iconst 1, 1) := by decide +kernel
theorem dX3_sortsOne_54 : decode cX3_sortsOne 54 = .ok (.ireturn, 1) := by decide +kernel
theorem dX3_sortsOne_55 : decode cX3_sortsOne 55 = .ok (.iinc 3 1, 3) := by decide +kernel
theorem dX3_sortsOne_58 : decode cX3_sortsOne 58 = .ok (.goto (-56), 3) := by decide +kernel
theorem dX3_sortsOne_61 : decode cX3_sortsOne 61 = .ok (.iconst 0, 1) := by decide +kernel
theorem dX3_sortsOne_62 : decode cX3_sortsOne 62 = .ok (.ireturn, 1) := by decide +kernel
theorem bX3_sortsOne_0 {d : Nat} {h0 hE h : ea_H} {rv : Option ea_V} {r0 : Option Nat} {x1 : Int32} {x2 : Int32} (H : ea_W mX3_sortsOne d h0 rv hE 2 [(0, vR r0), (1, vI x1), (2, vI x2), (3, vI 0)] [] h) : ea_W mX3_sortsOne d h0 rv hE 0 [(0, vR r0), (1, vI x1), (2, vI x2)] [] h := by
  refine ea_iconst (pc := 0) dX3_sortsOne_0 (v := 0) rfl ?_
  refine ea_istore_n (pc := 1) (lv' := [(0, vR r0), (1, vI x1), (2, vI x2), (3, vI 0)]) dX3_sortsOne_1 rfl (Nat.le_of_ble_eq_true rfl) [1, 2, 3, 0] rfl ?_
  exact H
theorem bX3_sortsOne_2 {d : Nat} {h0 hE h : ea_H} {rv : Option ea_V} {r0 : Option Nat} {x1 : Int32} {x2 : Int32} {x3 : Int32} (H : ∃ a3, r0 = some a3 ∧ a3 < ea_n h ∧ ea_c h a3 = 3 ∧ ((ea_i h a3 0) ≤ x3 → rv = some (vI 0) ∧ hE = h) ∧ (¬ (ea_i h a3 0) ≤ x3 → a3 < ea_n h ∧ ea_c h a3 = 3 ∧ ∃ a9, (ea_r h a3 1) = some a9 ∧ a9 < ea_n h ∧ ea_c h a9 = 20 ∧ vp_in x3 (ea_l h a9) ∧ (¬ (ea_i h a9 (Int32.toNatClampNeg x3)) = x1 → ea_W mX3_sortsOne d h0 rv hE 2 [(0, vR r0), (1, vI x1), (2, vI x2), (3, vI (x3 + 1))] [] h) ∧ ((ea_i h a9 (Int32.toNatClampNeg x3)) = x1 → a3 < ea_n h ∧ ea_c h a3 = 3 ∧ ∃ a16, (ea_r h a3 4) = some a16 ∧ a16 < ea_n h ∧ ea_c h a16 = 20 ∧ vp_in x3 (ea_l h a16) ∧ ((ea_i h a16 (Int32.toNatClampNeg x3)) ≤ (0 : Int32) → ea_W mX3_sortsOne d h0 rv hE 2 [(0, vR r0), (1, vI x1), (2, vI x2), (3, vI (x3 + 1))] [] h) ∧ (¬ (ea_i h a16 (Int32.toNatClampNeg x3)) ≤ (0 : Int32) → a3 < ea_n h ∧ ea_c h a3 = 3 ∧ ∃ a23, (ea_r h a3 3) = some a23 ∧ a23 < ea_n h ∧ ea_c h a23 = 20 ∧ vp_in x3 (ea_l h a23) ∧ (¬ (((ea_i h a23 (Int32.toNatClampNeg x3)) >>> (x2 &&& 31)) &&& (1 : Int32)) = (1 : Int32) → ea_W mX3_sortsOne d h0 rv hE 2 [(0, vR r0), (1, vI x1), (2, vI x2), (3, vI (x3 + 1))] [] h) ∧ ((((ea_i h a23 (Int32.toNatClampNeg x3)) >>> (x2 &&& 31)) &&& (1 : Int32)) = (1 : Int32) → a3 < ea_n h ∧ ea_c h a3 = 3 ∧ a16 < ea_n h ∧ ea_c h a16 = 20 ∧ vp_in x3 (ea_l h a16) ∧ a16 < ea_n h ∧ ea_c h a16 = 20 ∧ vp_in x3 (ea_l h a16) ∧ ∀ h34, h34 = ea_wi h a16 (Int32.toNatClampNeg x3) ((ea_i h a16 (Int32.toNatClampNeg x3)) - (1 : Int32)) → rv = some (vI 1) ∧ hE = h34))))) : ea_W mX3_sortsOne d h0 rv hE 2 [(0, vR r0), (1, vI x1), (2, vI x2), (3, vI x3)] [] h := by
  refine ea_iload_n (pc := 2) dX3_sortsOne_2 rfl 3 rfl ?_
  refine ea_aload_n (pc := 3) dX3_sortsOne_3 rfl 0 rfl ?_
  obtain ⟨a3, e4, f1, g2, H⟩ := H
  refine ea_deref0 e4 ?_
  refine ea_getI (pc := 4) dX3_sortsOne_4 ec_3 (k := 0) (Nat.le_of_ble_eq_true rfl) rfl (Or.inl ew_261) f1 g2 ?_
  refine ea_icmp_ge (pc := 7) (tgt := 61) dX3_sortsOne_7 rfl (fun c39 => ?_) (fun c39 => ?_)
  · have H := H.1 c39
    refine ea_iconst (pc := 61) dX3_sortsOne_61 (v := 0) rfl ?_
    obtain ⟨rfl, rfl⟩ := H
    exact ea_ireturn (pc := 62) dX3_sortsOne_62 rfl (ea_bn (Or.inl rfl))
  · have H := H.2 c39
    refine ea_aload_n (pc := 10) dX3_sortsOne_10 rfl 0 rfl ?_
    obtain ⟨f5, g6, H⟩ := H
    refine ea_deref0 e4 ?_
    refine ea_getR (pc := 11) dX3_sortsOne_11 ec_3 (k := 1) (Nat.le_of_ble_eq_true rfl) rfl (Or.inl ew_263) f5 g6 rfl ?_
    refine ea_iload_n (pc := 14) dX3_sortsOne_14 rfl 3 rfl ?_
    obtain ⟨a9, e10, f7, g8, H⟩ := H
    refine ea_deref1 e10 ?_
    obtain ⟨z11, H⟩ := H
    refine ea_iald (pc := 15) dX3_sortsOne_15 f7 g8 z11 ?_
    refine ea_iload_n (pc := 16) dX3_sortsOne_16 rfl 1 rfl ?_
    refine ea_icmp_ne (pc := 17) (tgt := 55) dX3_sortsOne_17 rfl (fun c38 => ?_) (fun c38 => ?_)
    · have H := H.1 c38
      refine ea_iinc (pc := 55) (v := 1) (lv' := [(0, vR r0), (1, vI x1), (2, vI x2), (3, vI (x3 + 1))]) dX3_sortsOne_55 3 rfl rfl (Nat.le_of_ble_eq_true rfl) [1, 2, 3, 0] rfl ?_
      refine ea_goto (pc := 58) (tgt := 2) dX3_sortsOne_58 rfl ?_
      exact H
    · have H := H.2 c38
      refine ea_aload_n (pc := 20) dX3_sortsOne_20 rfl 0 rfl ?_
      obtain ⟨f12, g13, H⟩ := H
      refine ea_deref0 e4 ?_
      refine ea_getR (pc := 21) dX3_sortsOne_21 ec_3 (k := 4) (Nat.le_of_ble_eq_true rfl) rfl (Or.inl ew_267) f12 g13 rfl ?_
      refine ea_iload_n (pc := 24) dX3_sortsOne_24 rfl 3 rfl ?_
      obtain ⟨a16, e17, f14, g15, H⟩ := H
      refine ea_deref1 e17 ?_
      obtain ⟨z18, H⟩ := H
      refine ea_iald (pc := 25) dX3_sortsOne_25 f14 g15 z18 ?_
      refine ea_if_le (pc := 26) (tgt := 55) dX3_sortsOne_26 rfl (fun c37 => ?_) (fun c37 => ?_)
      · have H := H.1 c37
        refine ea_iinc (pc := 55) (v := 1) (lv' := [(0, vR r0), (1, vI x1), (2, vI x2), (3, vI (x3 + 1))]) dX3_sortsOne_55 3 rfl rfl (Nat.le_of_ble_eq_true rfl) [1, 2, 3, 0] rfl ?_
        refine ea_goto (pc := 58) (tgt := 2) dX3_sortsOne_58 rfl ?_
        exact H
      · have H := H.2 c37
        refine ea_aload_n (pc := 29) dX3_sortsOne_29 rfl 0 rfl ?_
        obtain ⟨f19, g20, H⟩ := H
        refine ea_deref0 e4 ?_
        refine ea_getR (pc := 30) dX3_sortsOne_30 ec_3 (k := 3) (Nat.le_of_ble_eq_true rfl) rfl (Or.inl ew_266) f19 g20 rfl ?_
        refine ea_iload_n (pc := 33) dX3_sortsOne_33 rfl 3 rfl ?_
        obtain ⟨a23, e24, f21, g22, H⟩ := H
        refine ea_deref1 e24 ?_
        obtain ⟨z25, H⟩ := H
        refine ea_iald (pc := 34) dX3_sortsOne_34 f21 g22 z25 ?_
        refine ea_iload_n (pc := 35) dX3_sortsOne_35 rfl 2 rfl ?_
        refine ea_ishr (pc := 36) dX3_sortsOne_36 ?_
        refine ea_iconst (pc := 37) dX3_sortsOne_37 (v := 1) rfl ?_
        refine ea_iand (pc := 38) dX3_sortsOne_38 ?_
        refine ea_iconst (pc := 39) dX3_sortsOne_39 (v := 1) rfl ?_
        refine ea_icmp_ne (pc := 40) (tgt := 55) dX3_sortsOne_40 rfl (fun c36 => ?_) (fun c36 => ?_)
        · have H := H.1 c36
          refine ea_iinc (pc := 55) (v := 1) (lv' := [(0, vR r0), (1, vI x1), (2, vI x2), (3, vI (x3 + 1))]) dX3_sortsOne_55 3 rfl rfl (Nat.le_of_ble_eq_true rfl) [1, 2, 3, 0] rfl ?_
          refine ea_goto (pc := 58) (tgt := 2) dX3_sortsOne_58 rfl ?_
          exact H
        · have H := H.2 c36
          refine ea_aload_n (pc := 43) dX3_sortsOne_43 rfl 0 rfl ?_
          obtain ⟨f26, g27, H⟩ := H
          refine ea_deref0 e4 ?_
          refine ea_getR (pc := 44) dX3_sortsOne_44 ec_3 (k := 4) (Nat.le_of_ble_eq_true rfl) rfl (Or.inl ew_267) f26 g27 rfl ?_
          refine ea_iload_n (pc := 47) dX3_sortsOne_47 rfl 3 rfl ?_
          refine ea_dup2 (pc := 48) dX3_sortsOne_48 rfl rfl ?_
          obtain ⟨f28, g29, H⟩ := H
          refine ea_deref1 e17 ?_
          obtain ⟨z30, H⟩ := H
          refine ea_iald (pc := 49) dX3_sortsOne_49 f28 g29 z30 ?_
          refine ea_iconst (pc := 50) dX3_sortsOne_50 (v := 1) rfl ?_
          refine ea_isub (pc := 51) dX3_sortsOne_51 ?_
          obtain ⟨f31, g32, H⟩ := H
          refine ea_deref2 e17 ?_
          obtain ⟨z33, H⟩ := H
          refine ea_iast (pc := 52) dX3_sortsOne_52 f31 g32 z33 ?_
          obtain ⟨h34, E35⟩ : ∃ z, z = ea_wi h a16 (Int32.toNatClampNeg x3) ((ea_i h a16 (Int32.toNatClampNeg x3)) - (1 : Int32)) := ⟨_, rfl⟩
          have H := H h34 E35
          refine ea_nm E35 ?_
          refine ea_iconst (pc := 53) dX3_sortsOne_53 (v := 1) rfl ?_
          obtain ⟨rfl, rfl⟩ := H
          exact ea_ireturn (pc := 54) dX3_sortsOne_54 rfl (ea_bn (Or.inr rfl))
theorem dX4_init_0 : decode cX4_init 0 = .ok (.aload_n 0, 1) := by decide +kernel
theorem dX4_init_1 : decode cX4_init 1 = .ok (.invokespecial 3, 3) := by decide +kernel
theorem dX4_init_4 : decode cX4_init 4 = .ok (.aload_n 0, 1) := by decide +kernel
theorem dX4_init_5 : decode cX4_init 5 = .ok (.iconst (-1), 1) := by decide +kernel
theorem dX4_init_6 : decode cX4_init 6 = .ok (.putfield 9, 3) := by decide +kernel
theorem dX4_init_9 : decode cX4_init 9 = .ok (.aload_n 0, 1) := by decide +kernel
theorem dX4_init_10 : decode cX4_init 10 = .ok (.iconst (-1), 1) := by decide +kernel
theorem dX4_init_11 : decode cX4_init 11 = .ok (.putfield 15, 3) := by decide +kernel
theorem dX4_init_14 : decode cX4_init 14 = .ok (.aload_n 0, 1) := by decide +kernel
theorem dX4_init_15 : decode cX4_init 15 = .ok (.iconst 3, 1) := by decide +kernel
theorem dX4_init_16 : decode cX4_init 16 = .ok (.putfield 18, 3) := by decide +kernel
theorem dX4_init_19 : decode cX4_init 19 = .ok (.aload_n 0, 1) := by decide +kernel
theorem dX4_init_20 : decode cX4_init 20 = .ok (.iconst 4, 1) := by decide +kernel
theorem dX4_init_21 : decode cX4_init 21 = .ok (.newarray .int, 2) := by decide +kernel
theorem dX4_init_23 : decode cX4_init 23 = .ok (.putfield 21, 3) := by decide +kernel
theorem dX4_init_26 : decode cX4_init 26 = .ok (.aload_n 0, 1) := by decide +kernel
theorem dX4_init_27 : decode cX4_init 27 = .ok (.iload_n 1, 1) := by decide +kernel
theorem dX4_init_28 : decode cX4_init 28 = .ok (.putfield 25, 3) := by decide +kernel
theorem dX4_init_31 : decode cX4_init 31 = .ok (.aload_n 0, 1) := by decide +kernel
theorem dX4_init_32 : decode cX4_init 32 = .ok (.iload_n 2, 1) := by decide +kernel
theorem dX4_init_33 : decode cX4_init 33 = .ok (.putfield 28, 3) := by decide +kernel
theorem dX4_init_36 : decode cX4_init 36 = .ok (.aload_n 0, 1) := by decide +kernel
theorem dX4_init_37 : decode cX4_init 37 = .ok (.iload_n 3, 1) := by decide +kernel
theorem dX4_init_38 : decode cX4_init 38 = .ok (.putfield 31, 3) := by decide +kernel
theorem dX4_init_41 : decode cX4_init 41 = .ok (.aload_n 0, 1) := by decide +kernel
theorem dX4_init_42 : decode cX4_init 42 = .ok (.iload 4, 2) := by decide +kernel
theorem dX4_init_44 : decode cX4_init 44 = .ok (.putfield 34, 3) := by decide +kernel
theorem dX4_init_47 : decode cX4_init 47 = .ok (.aload_n 0, 1) := by decide +kernel
theorem dX4_init_48 : decode cX4_init 48 = .ok (.iload 5, 2) := by decide +kernel
theorem dX4_init_50 : decode cX4_init 50 = .ok (.putfield 37, 3) := by decide +kernel
theorem dX4_init_53 : decode cX4_init 53 = .ok (.aload_n 0, 1) := by decide +kernel
theorem dX4_init_54 : decode cX4_init 54 = .ok (.iload 6, 2) := by decide +kernel
theorem dX4_init_56 : decode cX4_init 56 = .ok (.putfield 40, 3) := by decide +kernel
theorem dX4_init_59 : decode cX4_init 59 = .ok (.return_, 1) := by decide +kernel
theorem bX4_init_0 {d : Nat} {h0 hE h : ea_H} {rv : Option ea_V} {r0 : Option Nat} {x1 : Int32} {x2 : Int32} {x3 : Int32} {x4 : Int32} {x5 : Int32} {x6 : Int32} (H : 1 ≤ d ∧ ∃ a46, r0 = some a46 ∧ a46 < ea_n h ∧ ea_c h a46 = 4 ∧ ∀ h50, h50 = ea_wi h a46 11 (-1) → a46 < ea_n h50 ∧ ea_c h50 a46 = 4 ∧ ∀ h54, h54 = ea_wi h50 a46 12 (-1) → a46 < ea_n h54 ∧ ea_c h54 a46 = 4 ∧ ∀ h58, h58 = ea_wi h54 a46 14 3 → ∀ h60, h60 = ea_new h58 20 4 4 → a46 < ea_n h60 ∧ ea_c h60 a46 = 4 ∧ ∀ h64, h64 = ea_wr h60 a46 17 (some (ea_n h58)) → a46 < ea_n h64 ∧ ea_c h64 a46 = 4 ∧ ∀ h68, h68 = ea_wi h64 a46 0 x1 → a46 < ea_n h68 ∧ ea_c h68 a46 = 4 ∧ ∀ h72, h72 = ea_wi h68 a46 1 x2 → a46 < ea_n h72 ∧ ea_c h72 a46 = 4 ∧ ∀ h76, h76 = ea_wi h72 a46 2 x3 → a46 < ea_n h76 ∧ ea_c h76 a46 = 4 ∧ ∀ h80, h80 = ea_wi h76 a46 3 x4 → a46 < ea_n h80 ∧ ea_c h80 a46 = 4 ∧ ∀ h84, h84 = ea_wi h80 a46 4 x5 → a46 < ea_n h84 ∧ ea_c h84 a46 = 4 ∧ ∀ h88, h88 = ea_wi h84 a46 5 x6 → rv = none ∧ hE = h88) : ea_W mX4_init d h0 rv hE 0 [(0, vR r0), (1, vI x1), (2, vI x2), (3, vI x3), (4, vI x4), (5, vI x5), (6, vI x6)] [] h := by
  refine ea_aload_n (pc := 0) dX4_init_0 rfl 0 rfl ?_
  obtain ⟨z45, a46, e47, H⟩ := H
  refine ea_deref0 e47 ?_
  refine ea_objInit (pc := 1) dX4_init_1 ew_932 ew_134 ew_135 z45 (Nat.le_of_ble_eq_true rfl) ?_
  refine ea_aload_n (pc := 4) dX4_init_4 rfl 0 rfl ?_
  refine ea_iconst (pc := 5) dX4_init_5 (v := (-1)) rfl ?_
  obtain ⟨f48, g49, H⟩ := H
  refine ea_deref1 e47 ?_
  refine ea_putI (pc := 6) dX4_init_6 ec_4 (k := 11) (Nat.le_of_ble_eq_true rfl) rfl (Or.inl ⟨rfl, Or.inl ew_961⟩) rfl rfl f48 g49 ?_
  obtain ⟨h50, E51⟩ : ∃ z, z = ea_wi h a46 11 (-1) := ⟨_, rfl⟩
  have H := H h50 E51
  refine ea_nm E51 ?_
  refine ea_aload_n (pc := 9) dX4_init_9 rfl 0 rfl ?_
  refine ea_iconst (pc := 10) dX4_init_10 (v := (-1)) rfl ?_
  obtain ⟨f52, g53, H⟩ := H
  refine ea_deref1 e47 ?_
  refine ea_putI (pc := 11) dX4_init_11 ec_4 (k := 12) (Nat.le_of_ble_eq_true rfl) rfl (Or.inl ⟨rfl, Or.inl ew_964⟩) rfl rfl f52 g53 ?_
  obtain ⟨h54, E55⟩ : ∃ z, z = ea_wi h50 a46 12 (-1) := ⟨_, rfl⟩
  have H := H h54 E55
  refine ea_nm E55 ?_
  refine ea_aload_n (pc := 14) dX4_init_14 rfl 0 rfl ?_
  refine ea_iconst (pc := 15) dX4_init_15 (v := 3) rfl ?_
  obtain ⟨f56, g57, H⟩ := H
  refine ea_deref1 e47 ?_
  refine ea_putI (pc := 16) dX4_init_16 ec_4 (k := 14) (Nat.le_of_ble_eq_true rfl) rfl (Or.inl ⟨rfl, Or.inl ew_969⟩) rfl rfl f56 g57 ?_
  obtain ⟨h58, E59⟩ : ∃ z, z = ea_wi h54 a46 14 3 := ⟨_, rfl⟩
  have H := H h58 E59
  refine ea_nm E59 ?_
  refine ea_aload_n (pc := 19) dX4_init_19 rfl 0 rfl ?_
  refine ea_iconst (pc := 20) dX4_init_20 (v := 4) rfl ?_
  refine ea_newI (pc := 21) (N := 4) dX4_init_21 ew_170 (by decide) rfl (Nat.le_of_ble_eq_true rfl) ?_
  obtain ⟨h60, E61⟩ : ∃ z, z = ea_new h58 20 4 4 := ⟨_, rfl⟩
  have H := H h60 E61
  refine ea_nm E61 ?_
  obtain ⟨f62, g63, H⟩ := H
  refine ea_deref1 e47 ?_
  refine ea_putR (pc := 23) dX4_init_23 ec_4 (k := 17) (Nat.le_of_ble_eq_true rfl) rfl (Or.inl ⟨rfl, Or.inl ew_976⟩) f62 g63 ?_
  obtain ⟨h64, E65⟩ : ∃ z, z = ea_wr h60 a46 17 (some (ea_n h58)) := ⟨_, rfl⟩
  have H := H h64 E65
  refine ea_nm E65 ?_
  refine ea_aload_n (pc := 26) dX4_init_26 rfl 0 rfl ?_
  refine ea_iload_n (pc := 27) dX4_init_27 rfl 1 rfl ?_
  obtain ⟨f66, g67, H⟩ := H
  refine ea_deref1 e47 ?_
  refine ea_putI (pc := 28) dX4_init_28 ec_4 (k := 0) (Nat.le_of_ble_eq_true rfl) rfl (Or.inr ⟨rfl, rfl, rfl, ew_933⟩) rfl rfl f66 g67 ?_
  obtain ⟨h68, E69⟩ : ∃ z, z = ea_wi h64 a46 0 x1 := ⟨_, rfl⟩
  have H := H h68 E69
  refine ea_nm E69 ?_
  refine ea_aload_n (pc := 31) dX4_init_31 rfl 0 rfl ?_
  refine ea_iload_n (pc := 32) dX4_init_32 rfl 2 rfl ?_
  obtain ⟨f70, g71, H⟩ := H
  refine ea_deref1 e47 ?_
  refine ea_putI (pc := 33) dX4_init_33 ec_4 (k := 1) (Nat.le_of_ble_eq_true rfl) rfl (Or.inr ⟨rfl, rfl, rfl, ew_936⟩) rfl rfl f70 g71 ?_
  obtain ⟨h72, E73⟩ : ∃ z, z = ea_wi h68 a46 1 x2 := ⟨_, rfl⟩
  have H := H h72 E73
  refine ea_nm E73 ?_
  refine ea_aload_n (pc := 36) dX4_init_36 rfl 0 rfl ?_
  refine ea_iload_n (pc := 37) dX4_init_37 rfl 3 rfl ?_
  obtain ⟨f74, g75, H⟩ := H
  refine ea_deref1 e47 ?_
  refine ea_putI (pc := 38) dX4_init_38 ec_4 (k := 2) (Nat.le_of_ble_eq_true rfl) rfl (Or.inr ⟨rfl, rfl, rfl, ew_938⟩) rfl rfl f74 g75 ?_
  obtain ⟨h76, E77⟩ : ∃ z, z = ea_wi h72 a46 2 x3 := ⟨_, rfl⟩
  have H := H h76 E77
  refine ea_nm E77 ?_
  refine ea_aload_n (pc := 41) dX4_init_41 rfl 0 rfl ?_
  refine ea_iload (pc := 42) dX4_init_42 4 rfl ?_
  obtain ⟨f78, g79, H⟩ := H
  refine ea_deref1 e47 ?_
  refine ea_putI (pc := 44) dX4_init_44 ec_4 (k := 3) (Nat.le_of_ble_eq_true rfl) rfl (Or.inr ⟨rfl, rfl, rfl, ew_941⟩) rfl rfl f78 g79 ?_
  obtain ⟨h80, E81⟩ : ∃ z, z = ea_wi h76 a46 3 x4 := ⟨_, rfl⟩
  have H := H h80 E81
  refine ea_nm E81 ?_
  refine ea_aload_n (pc := 47) dX4_init_47 rfl 0 rfl ?_
  refine ea_iload (pc := 48) dX4_init_48 5 rfl ?_
  obtain ⟨f82, g83, H⟩ := H
  refine ea_deref1 e47 ?_
  refine ea_putI (pc := 50) dX4_init_50 ec_4 (k := 4) (Nat.le_of_ble_eq_true rfl) rfl (Or.inr ⟨rfl, rfl, rfl, ew_944⟩) rfl rfl f82 g83 ?_
  obtain ⟨h84, E85⟩ : ∃ z, z = ea_wi h80 a46 4 x5 := ⟨_, rfl⟩
  have H := H h84 E85
  refine ea_nm E85 ?_
  refine ea_aload_n (pc := 53) dX4_init_53 rfl 0 rfl ?_
  refine ea_iload (pc := 54) dX4_init_54 6 rfl ?_
  obtain ⟨f86, g87, H⟩ := H
  refine ea_deref1 e47 ?_
  refine ea_putI (pc := 56) dX4_init_56 ec_4 (k := 5) (Nat.le_of_ble_eq_true rfl) rfl (Or.inr ⟨rfl, rfl, rfl, ew_947⟩) rfl rfl f86 g87 ?_
  obtain ⟨h88, E89⟩ : ∃ z, z = ea_wi h84 a46 5 x6 := ⟨_, rfl⟩
  have H := H h88 E89
  refine ea_nm E89 ?_
  obtain ⟨rfl, rfl⟩ := H
  exact ea_return (pc := 59) dX4_init_59 rfl
theorem dX4_dayOf_0 : decode cX4_dayOf 0 = .ok (.aload_n 0, 1) := by decide +kernel
theorem dX4_dayOf_1 : decode cX4_dayOf 1 = .ok (.getfield 43, 3) := by decide +kernel
theorem dX4_dayOf_4 : decode cX4_dayOf 4 = .ok (.sipush 1440, 3) := by decide +kernel
theorem dX4_dayOf_7 : decode cX4_dayOf 7 = .ok (.idiv, 1) := by decide +kernel
theorem dX4_dayOf_8 : decode cX4_dayOf 8 = .ok (.ireturn, 1) := by decide +kernel
theorem bX4_dayOf_0 {d : Nat} {h0 hE h : ea_H} {rv : Option ea_V} {r0 : Option Nat} (H : ∃ a3, r0 = some a3 ∧ a3 < ea_n h ∧ ea_c h a3 = 4 ∧ rv = some (vI ((ea_i h a3 6) / (1440 : Int32))) ∧ hE = h) : ea_W mX4_dayOf d h0 rv hE 0 [(0, vR r0)] [] h := by
  refine ea_aload_n (pc := 0) dX4_dayOf_0 rfl 0 rfl ?_
  obtain ⟨a3, e4, f1, g2, H⟩ := H
  refine ea_deref0 e4 ?_
  refine ea_getI (pc := 1) dX4_dayOf_1 ec_4 (k := 6) (Nat.le_of_ble_eq_true rfl) rfl (Or.inl ew_949) f1 g2 ?_
  refine ea_sipush (pc := 4) dX4_dayOf_4 (v := 1440) rfl ?_
  refine ea_idiv (pc := 7) dX4_dayOf_7 (by decide) ?_
  obtain ⟨rfl, rfl⟩ := H
  exact ea_ireturn (pc := 8) dX4_dayOf_8 rfl rfl
theorem dX4_owed_0 : decode cX4_owed 0 = .ok (.aload_n 0, 1) := by decide +kernel
theorem dX4_owed_1 : decode cX4_owed 1 = .ok (.getfield 25, 3) := by decide +kernel
theorem dX4_owed_4 : decode cX4_owed 4 = .ok (.ifCond .eq 11, 3) := by decide +kernel
theorem dX4_owed_7 : decode cX4_owed 7 = .ok (.aload_n 0, 1) := by decide +kernel
theorem dX4_owed_8 : decode cX4_owed 8 = .ok (.getfield 25, 3) := by decide +kernel
theorem dX4_owed_11 : decode cX4_owed 11 = .ok (.iconst 3, 1) := by decide +kernel
theorem dX4_owed_12 : decode cX4_owed 12 = .ok (.if_icmp .ne 10, 3) := by decide +kernel
theorem dX4_owed_15 : decode cX4_owed 15 = .ok (.aload_n 0, 1) := by decide +kernel
theorem dX4_owed_16 : decode cX4_owed 16 = .ok (.getfield 46, 3) := by decide +kernel
theorem dX4_owed_19 : decode cX4_owed 19 = .ok (.goto 4, 3) := by decide +kernel
theorem dX4_owed_22 : decode cX4_owed 22 = .ok (.iconst 0, 1) := by decide +kernel
theorem dX4_owed_23 : decode cX4_owed 23 = .ok (.ireturn, 1) := by decide +kernel
theorem bX4_owed_0 {d : Nat} {h0 hE h : ea_H} {rv : Option ea_V} {r0 : Option Nat} (H : ∃ a3, r0 = some a3 ∧ a3 < ea_n h ∧ ea_c h a3 = 4 ∧ ((ea_i h a3 0) = (0 : Int32) → a3 < ea_n h ∧ ea_c h a3 = 4 ∧ rv = some (vI (ea_i h a3 10)) ∧ hE = h) ∧ (¬ (ea_i h a3 0) = (0 : Int32) → a3 < ea_n h ∧ ea_c h a3 = 4 ∧ (¬ (ea_i h a3 0) = (3 : Int32) → rv = some (vI 0) ∧ hE = h) ∧ ((ea_i h a3 0) = (3 : Int32) → a3 < ea_n h ∧ ea_c h a3 = 4 ∧ rv = some (vI (ea_i h a3 10)) ∧ hE = h))) : ea_W mX4_owed d h0 rv hE 0 [(0, vR r0)] [] h := by
  refine ea_aload_n (pc := 0) dX4_owed_0 rfl 0 rfl ?_
  obtain ⟨a3, e4, f1, g2, H⟩ := H
  refine ea_deref0 e4 ?_
  refine ea_getI (pc := 1) dX4_owed_1 ec_4 (k := 0) (Nat.le_of_ble_eq_true rfl) rfl (Or.inl ew_933) f1 g2 ?_
  refine ea_if_eq (pc := 4) (tgt := 15) dX4_owed_4 rfl (fun c12 => ?_) (fun c12 => ?_)
  · have H := H.1 c12
    refine ea_aload_n (pc := 15) dX4_owed_15 rfl 0 rfl ?_
    obtain ⟨f5, g6, H⟩ := H
    refine ea_deref0 e4 ?_
    refine ea_getI (pc := 16) dX4_owed_16 ec_4 (k := 10) (Nat.le_of_ble_eq_true rfl) rfl (Or.inl ew_958) f5 g6 ?_
    refine ea_goto (pc := 19) (tgt := 23) dX4_owed_19 rfl ?_
    obtain ⟨rfl, rfl⟩ := H
    exact ea_ireturn (pc := 23) dX4_owed_23 rfl rfl
  · have H := H.2 c12
    refine ea_aload_n (pc := 7) dX4_owed_7 rfl 0 rfl ?_
    obtain ⟨f7, g8, H⟩ := H
    refine ea_deref0 e4 ?_
    refine ea_getI (pc := 8) dX4_owed_8 ec_4 (k := 0) (Nat.le_of_ble_eq_true rfl) rfl (Or.inl ew_933) f7 g8 ?_
    refine ea_iconst (pc := 11) dX4_owed_11 (v := 3) rfl ?_
    refine ea_icmp_ne (pc := 12) (tgt := 22) dX4_owed_12 rfl (fun c11 => ?_) (fun c11 => ?_)
    · have H := H.1 c11
      refine ea_iconst (pc := 22) dX4_owed_22 (v := 0) rfl ?_
      obtain ⟨rfl, rfl⟩ := H
      exact ea_ireturn (pc := 23) dX4_owed_23 rfl rfl
    · have H := H.2 c11
      refine ea_aload_n (pc := 15) dX4_owed_15 rfl 0 rfl ?_
      obtain ⟨f9, g10, H⟩ := H
      refine ea_deref0 e4 ?_
      refine ea_getI (pc := 16) dX4_owed_16 ec_4 (k := 10) (Nat.le_of_ble_eq_true rfl) rfl (Or.inl ew_958) f9 g10 ?_
      refine ea_goto (pc := 19) (tgt := 23) dX4_owed_19 rfl ?_
      obtain ⟨rfl, rfl⟩ := H
      exact ea_ireturn (pc := 23) dX4_owed_23 rfl rfl
theorem dX4_note_0 : decode cX4_note 0 = .ok (.aload_n 0, 1) := by decide +kernel
theorem dX4_note_1 : decode cX4_note 1 = .ok (.getfield 49, 3) := by decide +kernel
theorem dX4_note_4 : decode cX4_note 4 = .ok (.aload_n 0, 1) := by decide +kernel
theorem dX4_note_5 : decode cX4_note 5 = .ok (.getfield 21, 3) := by decide +kernel
theorem dX4_note_8 : decode cX4_note 8 = .ok (.arraylength, 1) := by decide +kernel
theorem dX4_note_9 : decode cX4_note 9 = .ok (.if_icmp .lt 21, 3) := by decide +kernel
theorem dX4_note_12 : decode cX4_note 12 = .ok (.aload_n 0, 1) := by decide +kernel
theorem dX4_note_13 : decode cX4_note 13 = .ok (.aload_n 0, 1) := by decide +kernel
theorem dX4_note_14 : decode cX4_note 14 = .ok (.getfield 21, 3) := by decide +kernel
theorem dX4_note_17 : decode cX4_note 17 = .ok (.iconst 2, 1) := by decide +kernel
theorem dX4_note_18 : decode cX4_note 18 = .ok (.aload_n 0, 1) := by decide +kernel
theorem dX4_note_19 : decode cX4_note 19 = .ok (.getfield 21, 3) := by decide +kernel
theorem dX4_note_22 : decode cX4_note 22 = .ok (.arraylength, 1) := by decide +kernel
theorem dX4_note_23 : decode cX4_note 23 = .ok (.imul, 1) := by decide +kernel
theorem dX4_note_24 : decode cX4_note 24 = .ok (.invokestatic 52, 3) := by decide +kernel
theorem dX4_note_27 : decode cX4_note 27 = .ok (.putfield 21, 3) := by decide +kernel
theorem dX4_note_30 : decode cX4_note 30 = .ok (.aload_n 0, 1) := by decide +kernel
theorem dX4_note_31 : decode cX4_note 31 = .ok (.getfield 21, 3) := by decide +kernel
theorem dX4_note_34 : decode cX4_note 34 = .ok (.aload_n 0, 1) := by decide +kernel
theorem dX4_note_35 : decode cX4_note 35 = .ok (.getfield 49, 3) := by decide +kernel
theorem dX4_note_38 : decode cX4_note 38 = .ok (.iload_n 1, 1) := by decide +kernel
theorem dX4_note_39 : decode cX4_note 39 = .ok (.bipush 10, 2) := by decide +kernel
theorem dX4_note_41 : decode cX4_note 41 = .ok (.ishl, 1) := by decide +kernel
theorem dX4_note_42 : decode cX4_note 42 = .ok (.iload_n 2, 1) := by decide +kernel
theorem dX4_note_43 : decode cX4_note 43 = .ok (.bipush 7, 2) := by decide +kernel
theorem dX4_note_45 : decode cX4_note 45 = .ok (.ishl, 1) := by decide +kernel
theorem dX4_note_46 : decode cX4_note 46 = .ok (.ior, 1) := by decide +kernel
theorem dX4_note_47 : decode cX4_note 47 = .ok (.iload_n 3, 1) := by decide +kernel
theorem dX4_note_48 : decode cX4_note 48 = .ok (.ior, 1) := by decide +kernel
theorem dX4_note_49 : decode cX4_note 49 = .ok (.iastore, 1) := by decide +kernel
theorem dX4_note_50 : decode cX4_note 50 = .ok (.aload_n 0, 1) := by decide +kernel
theorem dX4_note_51 : decode cX4_note 51 = .ok (.dup, 1) := by decide +kernel
theorem dX4_note_52 : decode cX4_note 52 = .ok (.getfield 49, 3) := by decide +kernel
theorem dX4_note_55 : decode cX4_note 55 = .ok (.iconst 1, 1) := by decide +kernel
theorem dX4_note_56 : decode cX4_note 56 = .ok (.iadd, 1) := by decide +kernel
theorem dX4_note_57 : decode cX4_note 57 = .ok (.putfield 49, 3) := by decide +kernel
theorem dX4_note_60 : decode cX4_note 60 = .ok (.return_, 1) := by decide +kernel
theorem bX4_note_0 {d : Nat} {h0 hE h : ea_H} {rv : Option ea_V} {r0 : Option Nat} {x1 : Int32} {x2 : Int32} {x3 : Int32} (H : ∃ a3, r0 = some a3 ∧ a3 < ea_n h ∧ ea_c h a3 = 4 ∧ a3 < ea_n h ∧ ea_c h a3 = 4 ∧ ∃ a9, (ea_r h a3 17) = some a9 ∧ a9 < ea_n h ∧ ea_c h a9 = 20 ∧ ((ea_i h a3 16) < (Int32.ofNat (ea_l h a9)) → ea_W mX4_note d h0 rv hE 30 [(0, vR r0), (1, vI x1), (2, vI x2), (3, vI x3)] [] h) ∧ (¬ (ea_i h a3 16) < (Int32.ofNat (ea_l h a9)) → a3 < ea_n h ∧ ea_c h a3 = 4 ∧ a3 < ea_n h ∧ ea_c h a3 = 4 ∧ a9 < ea_n h ∧ ea_c h a9 = 20 ∧ ∃ (d17 : Nat) (rc21 : Option Nat) (h18 : ea_H), ea_Met mJ7_copyOf_59c91 d17 [vR (ea_r h a3 17), vI ((2 : Int32) * (Int32.ofNat (ea_l h a9)))] h (some (vR rc21)) h18 ∧ d17 + 1 ≤ d ∧ a3 < ea_n h18 ∧ ea_c h18 a3 = 4 ∧ ∀ h24, h24 = ea_wr h18 a3 17 rc21 → ea_W mX4_note d h0 rv hE 30 [(0, vR r0), (1, vI x1), (2, vI x2), (3, vI x3)] [] h24)) : ea_W mX4_note d h0 rv hE 0 [(0, vR r0), (1, vI x1), (2, vI x2), (3, vI x3)] [] h := by
  refine ea_aload_n (pc := 0) dX4_note_0 rfl 0 rfl ?_
  obtain ⟨a3, e4, f1, g2, H⟩ := H
  refine ea_deref0 e4 ?_
  refine ea_getI (pc := 1) dX4_note_1 ec_4 (k := 16) (Nat.le_of_ble_eq_true rfl) rfl (Or.inl ew_974) f1 g2 ?_
  refine ea_aload_n (pc := 4) dX4_note_4 rfl 0 rfl ?_
  obtain ⟨f5, g6, H⟩ := H
  refine ea_deref0 e4 ?_
  refine ea_getR (pc := 5) dX4_note_5 ec_4 (k := 17) (Nat.le_of_ble_eq_true rfl) rfl (Or.inl ew_976) f5 g6 rfl ?_
  obtain ⟨a9, e10, f7, g8, H⟩ := H
  refine ea_deref0 e10 ?_
  refine ea_alen (pc := 8) dX4_note_8 f7 g8 (by decide) (by decide) ?_
  refine ea_icmp_lt (pc := 9) (tgt := 30) dX4_note_9 rfl (fun c26 => ?_) (fun c26 => ?_)
  · have H := H.1 c26
    exact H
  · have H := H.2 c26
    refine ea_aload_n (pc := 12) dX4_note_12 rfl 0 rfl ?_
    refine ea_aload_n (pc := 13) dX4_note_13 rfl 0 rfl ?_
    obtain ⟨f11, g12, H⟩ := H
    refine ea_deref0 e4 ?_
    refine ea_getR (pc := 14) dX4_note_14 ec_4 (k := 17) (Nat.le_of_ble_eq_true rfl) rfl (Or.inl ew_976) f11 g12 rfl ?_
    refine ea_iconst (pc := 17) dX4_note_17 (v := 2) rfl ?_
    refine ea_aload_n (pc := 18) dX4_note_18 rfl 0 rfl ?_
    obtain ⟨f13, g14, H⟩ := H
    refine ea_deref0 e4 ?_
    refine ea_getR (pc := 19) dX4_note_19 ec_4 (k := 17) (Nat.le_of_ble_eq_true rfl) rfl (Or.inl ew_976) f13 g14 rfl ?_
    obtain ⟨f15, g16, H⟩ := H
    refine ea_deref0 e10 ?_
    refine ea_alen (pc := 22) dX4_note_22 f15 g16 (by decide) (by decide) ?_
    refine ea_imul (pc := 23) dX4_note_23 ?_
    obtain ⟨d17, rc21, h18, m19, q20, H⟩ := H
    refine ea_callS (pc := 24) (As := [vR (ea_r h a3 17), vI ((2 : Int32) * (Int32.ofNat (ea_l h a9)))]) (st := [vR r0]) dX4_note_24 kJ7_copyOf_59c91 m19 q20 rfl (Nat.le_of_ble_eq_true rfl) ew_653 ew_654 ?_
    obtain ⟨f22, g23, H⟩ := H
    refine ea_deref1 e4 ?_
    refine ea_putR (pc := 27) dX4_note_27 ec_4 (k := 17) (Nat.le_of_ble_eq_true rfl) rfl (Or.inl ⟨rfl, Or.inl ew_976⟩) f22 g23 ?_
    obtain ⟨h24, E25⟩ : ∃ z, z = ea_wr h18 a3 17 rc21 := ⟨_, rfl⟩
    have H := H h24 E25
    refine ea_nm E25 ?_
    exact H
theorem bX4_note_30 {d : Nat} {h0 hE h : ea_H} {rv : Option ea_V} {r0 : Option Nat} {x1 : Int32} {x2 : Int32} {x3 : Int32} (H : ∃ a3, r0 = some a3 ∧ a3 < ea_n h ∧ ea_c h a3 = 4 ∧ a3 < ea_n h ∧ ea_c h a3 = 4 ∧ ∃ a9, (ea_r h a3 17) = some a9 ∧ a9 < ea_n h ∧ ea_c h a9 = 20 ∧ vp_in (ea_i h a3 16) (ea_l h a9) ∧ ∀ h12, h12 = ea_wi h a9 (Int32.toNatClampNeg (ea_i h a3 16)) (((x1 <<< ((10 : Int32) &&& 31)) ||| (x2 <<< ((7 : Int32) &&& 31))) ||| x3) → a3 < ea_n h12 ∧ ea_c h12 a3 = 4 ∧ a3 < ea_n h12 ∧ ea_c h12 a3 = 4 ∧ ∀ h18, h18 = ea_wi h12 a3 16 ((ea_i h12 a3 16) + (1 : Int32)) → rv = none ∧ hE = h18) : ea_W mX4_note d h0 rv hE 30 [(0, vR r0), (1, vI x1), (2, vI x2), (3, vI x3)] [] h := by
  refine ea_aload_n (pc := 30) dX4_note_30 rfl 0 rfl ?_
  obtain ⟨a3, e4, f1, g2, H⟩ := H
  refine ea_deref0 e4 ?_
  refine ea_getR (pc := 31) dX4_note_31 ec_4 (k := 17) (Nat.le_of_ble_eq_true rfl) rfl (Or.inl ew_976) f1 g2 rfl ?_
  refine ea_aload_n (pc := 34) dX4_note_34 rfl 0 rfl ?_
  obtain ⟨f5, g6, H⟩ := H
  refine ea_deref0 e4 ?_
  refine ea_getI (pc := 35) dX4_note_35 ec_4 (k := 16) (Nat.le_of_ble_eq_true rfl) rfl (Or.inl ew_974) f5 g6 ?_
  refine ea_iload_n (pc := 38) dX4_note_38 rfl 1 rfl ?_
  refine ea_bipush (pc := 39) dX4_note_39 (v := 10) rfl ?_
  refine ea_ishl (pc := 41) dX4_note_41 ?_
  refine ea_iload_n (pc := 42) dX4_note_42 rfl 2 rfl ?_
  refine ea_bipush (pc := 43) dX4_note_43 (v := 7) rfl ?_
  refine ea_ishl (pc := 45) dX4_note_45 ?_
  refine ea_ior (pc := 46) dX4_note_46 ?_
  refine ea_iload_n (pc := 47) dX4_note_47 rfl 3 rfl ?_
  refine ea_ior (pc := 48) dX4_note_48 ?_
  obtain ⟨a9, e10, f7, g8, H⟩ := H
  refine ea_deref2 e10 ?_
  obtain ⟨z11, H⟩ := H
  refine ea_iast (pc := 49) dX4_note_49 f7 g8 z11 ?_
  obtain ⟨h12, E13⟩ : ∃ z, z = ea_wi h a9 (Int32.toNatClampNeg (ea_i h a3 16)) (((x1 <<< ((10 : Int32) &&& 31)) ||| (x2 <<< ((7 : Int32) &&& 31))) ||| x3) := ⟨_, rfl⟩
  have H := H h12 E13
  refine ea_nm E13 ?_
  refine ea_aload_n (pc := 50) dX4_note_50 rfl 0 rfl ?_
  refine ea_dup (pc := 51) dX4_note_51 rfl ?_
  obtain ⟨f14, g15, H⟩ := H
  refine ea_deref0 e4 ?_
  refine ea_getI (pc := 52) dX4_note_52 ec_4 (k := 16) (Nat.le_of_ble_eq_true rfl) rfl (Or.inl ew_974) f14 g15 ?_
  refine ea_iconst (pc := 55) dX4_note_55 (v := 1) rfl ?_
  refine ea_iadd (pc := 56) dX4_note_56 ?_
  obtain ⟨f16, g17, H⟩ := H
  refine ea_deref1 e4 ?_
  refine ea_putI (pc := 57) dX4_note_57 ec_4 (k := 16) (Nat.le_of_ble_eq_true rfl) rfl (Or.inl ⟨rfl, Or.inl ew_974⟩) rfl rfl f16 g17 ?_
  obtain ⟨h18, E19⟩ : ∃ z, z = ea_wi h12 a3 16 ((ea_i h12 a3 16) + (1 : Int32)) := ⟨_, rfl⟩
  have H := H h18 E19
  refine ea_nm E19 ?_
  obtain ⟨rfl, rfl⟩ := H
  exact ea_return (pc := 60) dX4_note_60 rfl
theorem dX4_rowMinute_0 : decode cX4_rowMinute 0 = .ok (.aload_n 0, 1) := by decide +kernel
theorem dX4_rowMinute_1 : decode cX4_rowMinute 1 = .ok (.getfield 21, 3) := by decide +kernel
theorem dX4_rowMinute_4 : decode cX4_rowMinute 4 = .ok (.iload_n 1, 1) := by decide +kernel
theorem dX4_rowMinute_5 : decode cX4_rowMinute 5 = .ok (.iaload, 1) := by decide +kernel
theorem dX4_rowMinute_6 : decode cX4_rowMinute 6 = .ok (.bipush 10, 2) := by decide +kernel
theorem dX4_rowMinute_8 : decode cX4_rowMinute 8 = .ok (.ishr, 1) := by decide +kernel
theorem dX4_rowMinute_9 : decode cX4_rowMinute 9 = .ok (.ireturn, 1) := by decide +kernel
theorem bX4_rowMinute_0 {d : Nat} {h0 hE h : ea_H} {rv : Option ea_V} {r0 : Option Nat} {x1 : Int32} (H : ∃ a3, r0 = some a3 ∧ a3 < ea_n h ∧ ea_c h a3 = 4 ∧ ∃ a7, (ea_r h a3 17) = some a7 ∧ a7 < ea_n h ∧ ea_c h a7 = 20 ∧ vp_in x1 (ea_l h a7) ∧ rv = some (vI ((ea_i h a7 (Int32.toNatClampNeg x1)) >>> ((10 : Int32) &&& 31))) ∧ hE = h) : ea_W mX4_rowMinute d h0 rv hE 0 [(0, vR r0), (1, vI x1)] [] h := by
  refine ea_aload_n (pc := 0) dX4_rowMinute_0 rfl 0 rfl ?_
  obtain ⟨a3, e4, f1, g2, H⟩ := H
  refine ea_deref0 e4 ?_
  refine ea_getR (pc := 1) dX4_rowMinute_1 ec_4 (k := 17) (Nat.le_of_ble_eq_true rfl) rfl (Or.inl ew_976) f1 g2 rfl ?_
  refine ea_iload_n (pc := 4) dX4_rowMinute_4 rfl 1 rfl ?_
  obtain ⟨a7, e8, f5, g6, H⟩ := H
  refine ea_deref1 e8 ?_
  obtain ⟨z9, H⟩ := H
  refine ea_iald (pc := 5) dX4_rowMinute_5 f5 g6 z9 ?_
  refine ea_bipush (pc := 6) dX4_rowMinute_6 (v := 10) rfl ?_
  refine ea_ishr (pc := 8) dX4_rowMinute_8 ?_
  obtain ⟨rfl, rfl⟩ := H
  exact ea_ireturn (pc := 9) dX4_rowMinute_9 rfl rfl
theorem dX4_rowState_0 : decode cX4_rowState 0 = .ok (.aload_n 0, 1) := by decide +kernel
theorem dX4_rowState_1 : decode cX4_rowState 1 = .ok (.getfield 21, 3) := by decide +kernel
theorem dX4_rowState_4 : decode cX4_rowState 4 = .ok (.iload_n 1, 1) := by decide +kernel
theorem dX4_rowState_5 : decode cX4_rowState 5 = .ok (.iaload, 1) := by decide +kernel
theorem dX4_rowState_6 : decode cX4_rowState 6 = .ok (.bipush 7, 2) := by decide +kernel
theorem dX4_rowState_8 : decode cX4_rowState 8 = .ok (.ishr, 1) := by decide +kernel
theorem dX4_rowState_9 : decode cX4_rowState 9 = .ok (.bipush 7, 2) := by decide +kernel
theorem dX4_rowState_11 : decode cX4_rowState 11 = .ok (.iand, 1) := by decide +kernel
theorem dX4_rowState_12 : decode cX4_rowState 12 = .ok (.ireturn, 1) := by decide +kernel
theorem bX4_rowState_0 {d : Nat} {h0 hE h : ea_H} {rv : Option ea_V} {r0 : Option Nat} {x1 : Int32} (H : ∃ a3, r0 = some a3 ∧ a3 < ea_n h ∧ ea_c h a3 = 4 ∧ ∃ a7, (ea_r h a3 17) = some a7 ∧ a7 < ea_n h ∧ ea_c h a7 = 20 ∧ vp_in x1 (ea_l h a7) ∧ rv = some (vI (((ea_i h a7 (Int32.toNatClampNeg x1)) >>> ((7 : Int32) &&& 31)) &&& (7 : Int32))) ∧ hE = h) : ea_W mX4_rowState d h0 rv hE 0 [(0, vR r0), (1, vI x1)] [] h := by
  refine ea_aload_n (pc := 0) dX4_rowState_0 rfl 0 rfl ?_
  obtain ⟨a3, e4, f1, g2, H⟩ := H
  refine ea_deref0 e4 ?_
  refine ea_getR (pc := 1) dX4_rowState_1 ec_4 (k := 17) (Nat.le_of_ble_eq_true rfl) rfl (Or.inl ew_976) f1 g2 rfl ?_
  refine ea_iload_n (pc := 4) dX4_rowState_4 rfl 1 rfl ?_
  obtain ⟨a7, e8, f5, g6, H⟩ := H
  refine ea_deref1 e8 ?_
  obtain ⟨z9, H⟩ := H
  refine ea_iald (pc := 5) dX4_rowState_5 f5 g6 z9 ?_
  refine ea_bipush (pc := 6) dX4_rowState_6 (v := 7) rfl ?_
  refine ea_ishr (pc := 8) dX4_rowState_8 ?_
  refine ea_bipush (pc := 9) dX4_rowState_9 (v := 7) rfl ?_
  refine ea_iand (pc := 11) dX4_rowState_11 ?_
  obtain ⟨rfl, rfl⟩ := H
  exact ea_ireturn (pc := 12) dX4_rowState_12 rfl rfl
theorem dX4_rowPlace_0 : decode cX4_rowPlace 0 = .ok (.aload_n 0, 1) := by decide +kernel
theorem dX4_rowPlace_1 : decode cX4_rowPlace 1 = .ok (.getfield 21, 3) := by decide +kernel
theorem dX4_rowPlace_4 : decode cX4_rowPlace 4 = .ok (.iload_n 1, 1) := by decide +kernel
theorem dX4_rowPlace_5 : decode cX4_rowPlace 5 = .ok (.iaload, 1) := by decide +kernel
theorem dX4_rowPlace_6 : decode cX4_rowPlace 6 = .ok (.bipush 127, 2) := by decide +kernel
theorem dX4_rowPlace_8 : decode cX4_rowPlace 8 = .ok (.iand, 1) := by decide +kernel
theorem dX4_rowPlace_9 : decode cX4_rowPlace 9 = .ok (.ireturn, 1) := by decide +kernel
theorem bX4_rowPlace_0 {d : Nat} {h0 hE h : ea_H} {rv : Option ea_V} {r0 : Option Nat} {x1 : Int32} (H : ∃ a3, r0 = some a3 ∧ a3 < ea_n h ∧ ea_c h a3 = 4 ∧ ∃ a7, (ea_r h a3 17) = some a7 ∧ a7 < ea_n h ∧ ea_c h a7 = 20 ∧ vp_in x1 (ea_l h a7) ∧ rv = some (vI ((ea_i h a7 (Int32.toNatClampNeg x1)) &&& (127 : Int32))) ∧ hE = h) : ea_W mX4_rowPlace d h0 rv hE 0 [(0, vR r0), (1, vI x1)] [] h := by
  refine ea_aload_n (pc := 0) dX4_rowPlace_0 rfl 0 rfl ?_
  obtain ⟨a3, e4, f1, g2, H⟩ := H
  refine ea_deref0 e4 ?_
  refine ea_getR (pc := 1) dX4_rowPlace_1 ec_4 (k := 17) (Nat.le_of_ble_eq_true rfl) rfl (Or.inl ew_976) f1 g2 rfl ?_
  refine ea_iload_n (pc := 4) dX4_rowPlace_4 rfl 1 rfl ?_
  obtain ⟨a7, e8, f5, g6, H⟩ := H
  refine ea_deref1 e8 ?_
  obtain ⟨z9, H⟩ := H
  refine ea_iald (pc := 5) dX4_rowPlace_5 f5 g6 z9 ?_
  refine ea_bipush (pc := 6) dX4_rowPlace_6 (v := 127) rfl ?_
  refine ea_iand (pc := 8) dX4_rowPlace_8 ?_
  obtain ⟨rfl, rfl⟩ := H
  exact ea_ireturn (pc := 9) dX4_rowPlace_9 rfl rfl
theorem dX4_rowAt_0 : decode cX4_rowAt 0 = .ok (.iconst (-1), 1) := by decide +kernel
theorem dX4_rowAt_1 : decode cX4_rowAt 1 = .ok (.istore_n 2, 1) := by decide +kernel
theorem dX4_rowAt_2 : decode cX4_rowAt 2 = .ok (.iconst 0, 1) := by decide +kernel
theorem dX4_rowAt_3 : decode cX4_rowAt 3 = .ok (.istore_n 3, 1) := by decide +kernel
theorem dX4_rowAt_4 : decode cX4_rowAt 4 = .ok (.iload_n 3, 1) := by decide +kernel
theorem dX4_rowAt_5 : decode cX4_rowAt 5 = .ok (.aload_n 0, 1) := by decide +kernel
theorem dX4_rowAt_6 : decode cX4_rowAt 6 = .ok (.getfield 49, 3) := by decide +kernel
theorem dX4_rowAt_9 : decode cX4_rowAt 9 = .ok (.if_icmp .ge 20, 3) := by decide +kernel
theorem dX4_rowAt_12 : decode cX4_rowAt 12 = .ok (.aload_n 0, 1) := by decide +kernel
theorem dX4_rowAt_13 : decode cX4_rowAt 13 = .ok (.iload_n 3, 1) := by decide +kernel
theorem dX4_rowAt_14 : decode cX4_rowAt 14 = .ok (.invokevirtual 58, 3) := by decide +kernel
theorem dX4_rowAt_17 : decode cX4_rowAt 17 = .ok (.iload_n 1, 1) := by decide +kernel
theorem dX4_rowAt_18 : decode cX4_rowAt 18 = .ok (.if_icmp .gt 5, 3) := by decide +kernel
theorem dX4_rowAt_21 : decode cX4_rowAt 21 = .ok (.iload_n 3, 1) := by decide +kernel
theorem dX4_rowAt_22 : decode cX4_rowAt 22 = .ok (.istore_n 2, 1) := by decide +kernel
theorem dX4_rowAt_23 : decode cX4_rowAt 23 = .ok (.iinc 3 1, 3) := by decide +kernel
theorem dX4_rowAt_26 : decode cX4_rowAt 26 = .ok (.goto (-22), 3) := by decide +kernel
theorem dX4_rowAt_29 : decode cX4_rowAt 29 = .ok (.iload_n 2, 1) := by decide +kernel
theorem dX4_rowAt_30 : decode cX4_rowAt 30 = .ok (.ireturn, 1) := by decide +kernel
theorem bX4_rowAt_0 {d : Nat} {h0 hE h : ea_H} {rv : Option ea_V} {r0 : Option Nat} {x1 : Int32} (H : ea_W mX4_rowAt d h0 rv hE 4 [(0, vR r0), (1, vI x1), (2, vI (-1)), (3, vI 0)] [] h) : ea_W mX4_rowAt d h0 rv hE 0 [(0, vR r0), (1, vI x1)] [] h := by
  refine ea_iconst (pc := 0) dX4_rowAt_0 (v := (-1)) rfl ?_
  refine ea_istore_n (pc := 1) (lv' := [(0, vR r0), (1, vI x1), (2, vI (-1))]) dX4_rowAt_1 rfl (Nat.le_of_ble_eq_true rfl) [1, 2, 0] rfl ?_
  refine ea_iconst (pc := 2) dX4_rowAt_2 (v := 0) rfl ?_
  refine ea_istore_n (pc := 3) (lv' := [(0, vR r0), (1, vI x1), (2, vI (-1)), (3, vI 0)]) dX4_rowAt_3 rfl (Nat.le_of_ble_eq_true rfl) [1, 2, 3, 0] rfl ?_
  exact H
theorem bX4_rowAt_4 {d : Nat} {h0 hE h : ea_H} {rv : Option ea_V} {r0 : Option Nat} {x1 : Int32} {x2 : Int32} {x3 : Int32} (H : ∃ a3, r0 = some a3 ∧ a3 < ea_n h ∧ ea_c h a3 = 4 ∧ ((ea_i h a3 16) ≤ x3 → rv = some (vI x2) ∧ hE = h) ∧ (¬ (ea_i h a3 16) ≤ x3 → a3 < ea_n h ∧ ea_c h a3 = 4 ∧ ∃ (d5 : Nat) (xc11 : Int32) (h6 : ea_H), ea_Met mX4_rowMinute d5 [vR (some a3), vI x3] h (some (vI xc11)) h6 ∧ d5 + 1 ≤ d ∧ (x1 < xc11 → ea_W mX4_rowAt d h0 rv hE 4 [(0, vR r0), (1, vI x1), (2, vI x2), (3, vI (x3 + 1))] [] h6) ∧ (¬ x1 < xc11 → ea_W mX4_rowAt d h0 rv hE 4 [(0, vR r0), (1, vI x1), (2, vI x3), (3, vI (x3 + 1))] [] h6))) : ea_W mX4_rowAt d h0 rv hE 4 [(0, vR r0), (1, vI x1), (2, vI x2), (3, vI x3)] [] h := by
  refine ea_iload_n (pc := 4) dX4_rowAt_4 rfl 3 rfl ?_
  refine ea_aload_n (pc := 5) dX4_rowAt_5 rfl 0 rfl ?_
  obtain ⟨a3, e4, f1, g2, H⟩ := H
  refine ea_deref0 e4 ?_
  refine ea_getI (pc := 6) dX4_rowAt_6 ec_4 (k := 16) (Nat.le_of_ble_eq_true rfl) rfl (Or.inl ew_974) f1 g2 ?_
  refine ea_icmp_ge (pc := 9) (tgt := 29) dX4_rowAt_9 rfl (fun c13 => ?_) (fun c13 => ?_)
  · have H := H.1 c13
    refine ea_iload_n (pc := 29) dX4_rowAt_29 rfl 2 rfl ?_
    obtain ⟨rfl, rfl⟩ := H
    exact ea_ireturn (pc := 30) dX4_rowAt_30 rfl rfl
  · have H := H.2 c13
    refine ea_aload_n (pc := 12) dX4_rowAt_12 rfl 0 rfl ?_
    refine ea_iload_n (pc := 13) dX4_rowAt_13 rfl 3 rfl ?_
    obtain ⟨f9, g10, H⟩ := H
    refine ea_deref1 e4 ?_
    obtain ⟨d5, xc11, h6, m7, q8, H⟩ := H
    refine ea_callV (pc := 14) (As := [vI x3]) (st := []) dX4_rowAt_14 kX4_rowMinute m7 q8 rfl (Nat.le_of_ble_eq_true rfl) ew_1132 ew_1113 ew_1114 (ci := 4) rfl (by decide) f9 g10 ?_
    refine ea_iload_n (pc := 17) dX4_rowAt_17 rfl 1 rfl ?_
    refine ea_icmp_gt (pc := 18) (tgt := 23) dX4_rowAt_18 rfl (fun c12 => ?_) (fun c12 => ?_)
    · have H := H.1 c12
      refine ea_iinc (pc := 23) (v := 1) (lv' := [(0, vR r0), (1, vI x1), (2, vI x2), (3, vI (x3 + 1))]) dX4_rowAt_23 3 rfl rfl (Nat.le_of_ble_eq_true rfl) [1, 2, 3, 0] rfl ?_
      refine ea_goto (pc := 26) (tgt := 4) dX4_rowAt_26 rfl ?_
      exact H
    · have H := H.2 c12
      refine ea_iload_n (pc := 21) dX4_rowAt_21 rfl 3 rfl ?_
      refine ea_istore_n (pc := 22) (lv' := [(0, vR r0), (1, vI x1), (2, vI x3), (3, vI x3)]) dX4_rowAt_22 rfl (Nat.le_of_ble_eq_true rfl) [1, 2, 0, 3] rfl ?_
      refine ea_iinc (pc := 23) (v := 1) (lv' := [(0, vR r0), (1, vI x1), (2, vI x3), (3, vI (x3 + 1))]) dX4_rowAt_23 3 rfl rfl (Nat.le_of_ble_eq_true rfl) [1, 2, 3, 0] rfl ?_
      refine ea_goto (pc := 26) (tgt := 4) dX4_rowAt_26 rfl ?_
      exact H
theorem dX4_placeTown_0 : decode cX4_placeTown 0 = .ok (.aload_n 0, 1) := by decide +kernel
theorem dX4_placeTown_1 : decode cX4_placeTown 1 = .ok (.getfield 62, 3) := by decide +kernel
theorem dX4_placeTown_4 : decode cX4_placeTown 4 = .ok (.iload_n 1, 1) := by decide +kernel
theorem dX4_placeTown_5 : decode cX4_placeTown 5 = .ok (.iaload, 1) := by decide +kernel
theorem dX4_placeTown_6 : decode cX4_placeTown 6 = .ok (.bipush 15, 2) := by decide +kernel
theorem dX4_placeTown_8 : decode cX4_placeTown 8 = .ok (.iand, 1) := by decide +kernel
theorem dX4_placeTown_9 : decode cX4_placeTown 9 = .ok (.ireturn, 1) := by decide +kernel
theorem bX4_placeTown_0 {d : Nat} {h0 hE h : ea_H} {rv : Option ea_V} {r0 : Option Nat} {x1 : Int32} (H : ∃ a3, r0 = some a3 ∧ a3 < ea_n h ∧ ea_c h a3 = 4 ∧ ∃ a7, (ea_r h a3 19) = some a7 ∧ a7 < ea_n h ∧ ea_c h a7 = 20 ∧ vp_in x1 (ea_l h a7) ∧ rv = some (vI ((ea_i h a7 (Int32.toNatClampNeg x1)) &&& (15 : Int32))) ∧ hE = h) : ea_W mX4_placeTown d h0 rv hE 0 [(0, vR r0), (1, vI x1)] [] h := by
  refine ea_aload_n (pc := 0) dX4_placeTown_0 rfl 0 rfl ?_
  obtain ⟨a3, e4, f1, g2, H⟩ := H
  refine ea_deref0 e4 ?_
  refine ea_getR (pc := 1) dX4_placeTown_1 ec_4 (k := 19) (Nat.le_of_ble_eq_true rfl) rfl (Or.inl ew_979) f1 g2 rfl ?_
  refine ea_iload_n (pc := 4) dX4_placeTown_4 rfl 1 rfl ?_
  obtain ⟨a7, e8, f5, g6, H⟩ := H
  refine ea_deref1 e8 ?_
  obtain ⟨z9, H⟩ := H
  refine ea_iald (pc := 5) dX4_placeTown_5 f5 g6 z9 ?_
  refine ea_bipush (pc := 6) dX4_placeTown_6 (v := 15) rfl ?_
  refine ea_iand (pc := 8) dX4_placeTown_8 ?_
  obtain ⟨rfl, rfl⟩ := H
  exact ea_ireturn (pc := 9) dX4_placeTown_9 rfl rfl
theorem dX4_placeChance_0 : decode cX4_placeChance 0 = .ok (.bipush 100, 2) := by decide +kernel
theorem dX4_placeChance_2 : decode cX4_placeChance 2 = .ok (.aload_n 0, 1) := by decide +kernel
theorem dX4_placeChance_3 : decode cX4_placeChance 3 = .ok (.getfield 62, 3) := by decide +kernel
theorem dX4_placeChance_6 : decode cX4_placeChance 6 = .ok (.iload_n 1, 1) := by decide +kernel
theorem dX4_placeChance_7 : decode cX4_placeChance 7 = .ok (.iaload, 1) := by decide +kernel
theorem dX4_placeChance_8 : decode cX4_placeChance 8 = .ok (.iconst 4, 1) := by decide +kernel
theorem dX4_placeChance_9 : decode cX4_placeChance 9 = .ok (.ishr, 1) := by decide +kernel
theorem dX4_placeChance_10 : decode cX4_placeChance 10 = .ok (.isub, 1) := by decide +kernel
theorem dX4_placeChance_11 : decode cX4_placeChance 11 = .ok (.ireturn, 1) := by decide +kernel
theorem bX4_placeChance_0 {d : Nat} {h0 hE h : ea_H} {rv : Option ea_V} {r0 : Option Nat} {x1 : Int32} (H : ∃ a3, r0 = some a3 ∧ a3 < ea_n h ∧ ea_c h a3 = 4 ∧ ∃ a7, (ea_r h a3 19) = some a7 ∧ a7 < ea_n h ∧ ea_c h a7 = 20 ∧ vp_in x1 (ea_l h a7) ∧ rv = some (vI ((100 : Int32) - ((ea_i h a7 (Int32.toNatClampNeg x1)) >>> ((4 : Int32) &&& 31)))) ∧ hE = h) : ea_W mX4_placeChance d h0 rv hE 0 [(0, vR r0), (1, vI x1)] [] h := by
  refine ea_bipush (pc := 0) dX4_placeChance_0 (v := 100) rfl ?_
  refine ea_aload_n (pc := 2) dX4_placeChance_2 rfl 0 rfl ?_
  obtain ⟨a3, e4, f1, g2, H⟩ := H
  refine ea_deref0 e4 ?_
  refine ea_getR (pc := 3) dX4_placeChance_3 ec_4 (k := 19) (Nat.le_of_ble_eq_true rfl) rfl (Or.inl ew_979) f1 g2 rfl ?_
  refine ea_iload_n (pc := 6) dX4_placeChance_6 rfl 1 rfl ?_
  obtain ⟨a7, e8, f5, g6, H⟩ := H
  refine ea_deref1 e8 ?_
  obtain ⟨z9, H⟩ := H
  refine ea_iald (pc := 7) dX4_placeChance_7 f5 g6 z9 ?_
  refine ea_iconst (pc := 8) dX4_placeChance_8 (v := 4) rfl ?_
  refine ea_ishr (pc := 9) dX4_placeChance_9 ?_
  refine ea_isub (pc := 10) dX4_placeChance_10 ?_
  obtain ⟨rfl, rfl⟩ := H
  exact ea_ireturn (pc := 11) dX4_placeChance_11 rfl rfl
theorem dX4_placeOf_0 : decode cX4_placeOf 0 = .ok (.iconst 0, 1) := by decide +kernel
theorem dX4_placeOf_1 : decode cX4_placeOf 1 = .ok (.istore_n 2, 1) := by decide +kernel
theorem dX4_placeOf_2 : decode cX4_placeOf 2 = .ok (.iload_n 2, 1) := by decide +kernel
theorem dX4_placeOf_3 : decode cX4_placeOf 3 = .ok (.aload_n 0, 1) := by decide +kernel
theorem dX4_placeOf_4 : decode cX4_placeOf 4 = .ok (.getfield 65, 3) := by decide +kernel
theorem dX4_placeOf_7 : decode cX4_placeOf 7 = .ok (.if_icmp .ge 20, 3) := by decide +kernel
theorem dX4_placeOf_10 : decode cX4_placeOf 10 = .ok (.aload_n 0, 1) := by decide +kernel
theorem dX4_placeOf_11 : decode cX4_placeOf 11 = .ok (.iload_n 2, 1) := by decide +kernel
theorem dX4_placeOf_12 : decode cX4_placeOf 12 = .ok (.invokevirtual 68, 3) := by decide +kernel
theorem dX4_placeOf_15 : decode cX4_placeOf 15 = .ok (.iload_n 1, 1) := by decide +kernel
theorem dX4_placeOf_16 : decode cX4_placeOf 16 = .ok (.if_icmp .ne 5, 3) := by decide +kernel
theorem dX4_placeOf_19 : decode cX4_placeOf 19 = .ok (.iload_n 2, 1) := by decide +kernel
theorem dX4_placeOf_20 : decode cX4_placeOf 20 = .ok (.ireturn, 1) := by decide +kernel
theorem dX4_placeOf_21 : decode cX4_placeOf 21 = .ok (.iinc 2 1, 3) := by decide +kernel
theorem dX4_placeOf_24 : decode cX4_placeOf 24 = .ok (.goto (-22), 3) := by decide +kernel
theorem dX4_placeOf_27 : decode cX4_placeOf 27 = .ok (.iconst (-1), 1) := by decide +kernel
theorem dX4_placeOf_28 : decode cX4_placeOf 28 = .ok (.ireturn, 1) := by decide +kernel
theorem bX4_placeOf_0 {d : Nat} {h0 hE h : ea_H} {rv : Option ea_V} {r0 : Option Nat} {x1 : Int32} (H : ea_W mX4_placeOf d h0 rv hE 2 [(0, vR r0), (1, vI x1), (2, vI 0)] [] h) : ea_W mX4_placeOf d h0 rv hE 0 [(0, vR r0), (1, vI x1)] [] h := by
  refine ea_iconst (pc := 0) dX4_placeOf_0 (v := 0) rfl ?_
  refine ea_istore_n (pc := 1) (lv' := [(0, vR r0), (1, vI x1), (2, vI 0)]) dX4_placeOf_1 rfl (Nat.le_of_ble_eq_true rfl) [1, 2, 0] rfl ?_
  exact H
theorem bX4_placeOf_2 {d : Nat} {h0 hE h : ea_H} {rv : Option ea_V} {r0 : Option Nat} {x1 : Int32} {x2 : Int32} (H : ∃ a3, r0 = some a3 ∧ a3 < ea_n h ∧ ea_c h a3 = 4 ∧ ((ea_i h a3 18) ≤ x2 → rv = some (vI (-1)) ∧ hE = h) ∧ (¬ (ea_i h a3 18) ≤ x2 → a3 < ea_n h ∧ ea_c h a3 = 4 ∧ ∃ (d5 : Nat) (xc11 : Int32) (h6 : ea_H), ea_Met mX4_placeTown d5 [vR (some a3), vI x2] h (some (vI xc11)) h6 ∧ d5 + 1 ≤ d ∧ (¬ xc11 = x1 → ea_W mX4_placeOf d h0 rv hE 2 [(0, vR r0), (1, vI x1), (2, vI (x2 + 1))] [] h6) ∧ (xc11 = x1 → rv = some (vI x2) ∧ hE = h6))) : ea_W mX4_placeOf d h0 rv hE 2 [(0, vR r0), (1, vI x1), (2, vI x2)] [] h := by
  refine ea_iload_n (pc := 2) dX4_placeOf_2 rfl 2 rfl ?_
  refine ea_aload_n (pc := 3) dX4_placeOf_3 rfl 0 rfl ?_
  obtain ⟨a3, e4, f1, g2, H⟩ := H
  refine ea_deref0 e4 ?_
  refine ea_getI (pc := 4) dX4_placeOf_4 ec_4 (k := 18) (Nat.le_of_ble_eq_true rfl) rfl (Or.inl ew_977) f1 g2 ?_
  refine ea_icmp_ge (pc := 7) (tgt := 27) dX4_placeOf_7 rfl (fun c13 => ?_) (fun c13 => ?_)
  · have H := H.1 c13
    refine ea_iconst (pc := 27) dX4_placeOf_27 (v := (-1)) rfl ?_
    obtain ⟨rfl, rfl⟩ := H
    exact ea_ireturn (pc := 28) dX4_placeOf_28 rfl rfl
  · have H := H.2 c13
    refine ea_aload_n (pc := 10) dX4_placeOf_10 rfl 0 rfl ?_
    refine ea_iload_n (pc := 11) dX4_placeOf_11 rfl 2 rfl ?_
    obtain ⟨f9, g10, H⟩ := H
    refine ea_deref1 e4 ?_
    obtain ⟨d5, xc11, h6, m7, q8, H⟩ := H
    refine ea_callV (pc := 12) (As := [vI x2]) (st := []) dX4_placeOf_12 kX4_placeTown m7 q8 rfl (Nat.le_of_ble_eq_true rfl) ew_1198 ew_1199 ew_1200 (ci := 4) rfl (by decide) f9 g10 ?_
    refine ea_iload_n (pc := 15) dX4_placeOf_15 rfl 1 rfl ?_
    refine ea_icmp_ne (pc := 16) (tgt := 21) dX4_placeOf_16 rfl (fun c12 => ?_) (fun c12 => ?_)
    · have H := H.1 c12
      refine ea_iinc (pc := 21) (v := 1) (lv' := [(0, vR r0), (1, vI x1), (2, vI (x2 + 1))]) dX4_placeOf_21 2 rfl rfl (Nat.le_of_ble_eq_true rfl) [1, 2, 0] rfl ?_
      refine ea_goto (pc := 24) (tgt := 2) dX4_placeOf_24 rfl ?_
      exact H
    · have H := H.2 c12
      refine ea_iload_n (pc := 19) dX4_placeOf_19 rfl 2 rfl ?_
      obtain ⟨rfl, rfl⟩ := H
      exact ea_ireturn (pc := 20) dX4_placeOf_20 rfl rfl
theorem dX4_tell_0 : decode cX4_tell 0 = .ok (.aload_n 0, 1) := by decide +kernel
theorem dX4_tell_1 : decode cX4_tell 1 = .ok (.getfield 62, 3) := by decide +kernel
theorem dX4_tell_4 : decode cX4_tell 4 = .ok (.ifnonnull 10, 3) := by decide +kernel
theorem dX4_tell_7 : decode cX4_tell 7 = .ok (.aload_n 0, 1) := by decide +kernel
theorem dX4_tell_8 : decode cX4_tell 8 = .ok (.iconst 4, 1) := by decide +kernel
theorem dX4_tell_9 : decode cX4_tell 9 = .ok (.newarray .int, 2) := by decide +kernel
theorem dX4_tell_11 : decode cX4_tell 11 = .ok (.putfield 62, 3) := by decide +kernel
theorem dX4_tell_14 : decode cX4_tell 14 = .ok (.aload_n 0, 1) := by decide +kernel
theorem dX4_tell_15 : decode cX4_tell 15 = .ok (.iload_n 1, 1) := by decide +kernel
theorem dX4_tell_16 : decode cX4_tell 16 = .ok (.invokevirtual 71, 3) := by decide +kernel
theorem dX4_tell_19 : decode cX4_tell 19 = .ok (.istore_n 3, 1) := by decide +kernel
theorem dX4_tell_20 : decode cX4_tell 20 = .ok (.iload_n 3, 1) := by decide +kernel
theorem dX4_tell_21 : decode cX4_tell 21 = .ok (.iconst (-1), 1) := by decide +kernel
theorem dX4_tell_22 : decode cX4_tell 22 = .ok (.if_icmp .ne 28, 3) := by decide +kernel
theorem dX4_tell_25 : decode cX4_tell 25 = .ok (.aload_n 0, 1) := by decide +kernel
theorem dX4_tell_26 : decode cX4_tell 26 = .ok (.getfield 65, 3) := by decide +kernel
theorem dX4_tell_29 : decode cX4_tell 29 = .ok (.iconst 4, 1) := by decide +kernel
theorem dX4_tell_30 : decode cX4_tell 30 = .ok (.if_icmp .lt 5, 3) := by decide +kernel
theorem dX4_tell_33 : decode cX4_tell 33 = .ok (.iconst 0, 1) := by decide +kernel
theorem dX4_tell_34 : decode cX4_tell 34 = .ok (.ireturn, 1) := by decide +kernel
theorem dX4_tell_35 : decode cX4_tell 35 = .ok (.aload_n 0, 1) := by decide +kernel
theorem dX4_tell_36 : decode cX4_tell 36 = .ok (.getfield 65, 3) := by decide +kernel
theorem dX4_tell_39 : decode cX4_tell 39 = .ok (.istore_n 3, 1) := by decide +kernel
theorem dX4_tell_40 : decode cX4_tell 40 = .ok (.aload_n 0, 1) := by decide +kernel
theorem dX4_tell_41 : decode cX4_tell 41 = .ok (.dup, 1) := by decide +kernel
theorem dX4_tell_42 : decode cX4_tell 42 = .ok (.getfield 65, 3) := by decide +kernel
theorem dX4_tell_45 : decode cX4_tell 45 = .ok (.iconst 1, 1) := by decide +kernel
theorem dX4_tell_46 : decode cX4_tell 46 = .ok (.iadd, 1) := by decide +kernel
theorem dX4_tell_47 : decode cX4_tell 47 = .ok (.putfield 65, 3) := by decide +kernel
theorem dX4_tell_50 : decode cX4_tell 50 = .ok (.bipush 100, 2) := by decide +kernel
theorem dX4_tell_52 : decode cX4_tell 52 = .ok (.iload_n 2, 1) := by decide +kernel
theorem dX4_tell_53 : decode cX4_tell 53 = .ok (.isub, 1) := by decide +kernel
theorem dX4_tell_54 : decode cX4_tell 54 = .ok (.iconst 4, 1) := by decide +kernel
theorem dX4_tell_55 : decode cX4_tell 55 = .ok (.ishl, 1) := by decide +kernel
theorem dX4_tell_56 : decode cX4_tell 56 = .ok (.iload_n 1, 1) := by decide +kernel
theorem dX4_tell_57 : decode cX4_tell 57 = .ok (.ior, 1) := by decide +kernel
theorem dX4_tell_58 : decode cX4_tell 58 = .ok (.istore 4, 2) := by decide +kernel
theorem dX4_tell_60 : decode cX4_tell 60 = .ok (.iload_n 3, 1) := by decide +kernel
theorem dX4_tell_61 : decode cX4_tell 61 = .ok (.aload_n 0, 1) := by decide +kernel
theorem dX4_tell_62 : decode cX4_tell 62 = .ok (.getfield 65, 3) := by decide +kernel
theorem dX4_tell_65 : decode cX4_tell 65 = .ok (.iconst 1, 1) := by decide +kernel
theorem dX4_tell_66 : decode cX4_tell 66 = .ok (.isub, 1) := by decide +kernel
theorem dX4_tell_67 : decode cX4_tell 67 = .ok (.if_icmp .ge 36, 3) := by decide +kernel
theorem dX4_tell_70 : decode cX4_tell 70 = .ok (.aload_n 0, 1) := by decide +kernel
theorem dX4_tell_71 : decode cX4_tell 71 = .ok (.getfield 62, 3) := by decide +kernel
theorem dX4_tell_74 : decode cX4_tell 74 = .ok (.iload_n 3, 1) := by decide +kernel
theorem dX4_tell_75 : decode cX4_tell 75 = .ok (.iconst 1, 1) := by decide +kernel
theorem dX4_tell_76 : decode cX4_tell 76 = .ok (.iadd, 1) := by decide +kernel
theorem dX4_tell_77 : decode cX4_tell 77 = .ok (.iaload, 1) := by decide +kernel
theorem dX4_tell_78 : decode cX4_tell 78 = .ok (.iload 4, 2) := by decide +kernel
theorem dX4_tell_80 : decode cX4_tell 80 = .ok (.if_icmp .ge 23, 3) := by decide +kernel
theorem dX4_tell_83 : decode cX4_tell 83 = .ok (.aload_n 0, 1) := by decide +kernel
theorem dX4_tell_84 : decode cX4_tell 84 = .ok (.getfield 62, 3) := by decide +kernel
theorem dX4_tell_87 : decode cX4_tell 87 = .ok (.iload_n 3, 1) := by decide +kernel
theorem dX4_tell_88 : decode cX4_tell 88 = .ok (.aload_n 0, 1) := by decide +kernel
theorem dX4_tell_89 : decode cX4_tell 89 = .ok (.getfield 62, 3) := by decide +kernel
theorem dX4_tell_92 : decode cX4_tell 92 = .ok (.iload_n 3, 1) := by decide +kernel
theorem dX4_tell_93 : decode cX4_tell 93 = .ok (.iconst 1, 1) := by decide +kernel
theorem dX4_tell_94 : decode cX4_tell 94 = .ok (.iadd, 1) := by decide +kernel
theorem dX4_tell_95 : decode cX4_tell 95 = .ok (.iaload, 1) := by decide +kernel
theorem dX4_tell_96 : decode cX4_tell 96 = .ok (.iastore, 1) := by decide +kernel
theorem dX4_tell_97 : decode cX4_tell 97 = .ok (.iinc 3 1, 3) := by decide +kernel
theorem dX4_tell_100 : decode cX4_tell 100 = .ok (.goto (-40), 3) := by decide +kernel
theorem dX4_tell_103 : decode cX4_tell 103 = .ok (.iload_n 3, 1) := by decide +kernel
theorem dX4_tell_104 : decode cX4_tell 104 = .ok (.ifCond .le 36, 3) := by decide +kernel
theorem dX4_tell_107 : decode cX4_tell 107 = .ok (.aload_n 0, 1) := by decide +kernel
theorem dX4_tell_108 : decode cX4_tell 108 = .ok (.getfield 62, 3) := by decide +kernel
theorem dX4_tell_111 : decode cX4_tell 111 = .ok (.iload_n 3, 1) := by decide +kernel
theorem dX4_tell_112 : decode cX4_tell 112 = .ok (.iconst 1, 1) := by decide +kernel
theorem dX4_tell_113 : decode cX4_tell 113 = .ok (.isub, 1) := by decide +kernel
theorem dX4_tell_114 : decode cX4_tell 114 = .ok (.iaload, 1) := by decide +kernel
theorem dX4_tell_115 : decode cX4_tell 115 = .ok (.iload 4, 2) := by decide +kernel
theorem dX4_tell_117 : decode cX4_tell 117 = .ok (.if_icmp .le 23, 3) := by decide +kernel
theorem dX4_tell_120 : decode cX4_tell 120 = .ok (.aload_n 0, 1) := by decide +kernel
theorem dX4_tell_121 : decode cX4_tell 121 = .ok (.getfield 62, 3) := by decide +kernel
theorem dX4_tell_124 : decode cX4_tell 124 = .ok (.iload_n 3, 1) := by decide +kernel
theorem dX4_tell_125 : decode cX4_tell 125 = .ok (.aload_n 0, 1) := by decide +kernel
theorem dX4_tell_126 : decode cX4_tell 126 = .ok (.getfield 62, 3) := by decide +kernel
theorem dX4_tell_129 : decode cX4_tell 129 = .ok (.iload_n 3, 1) := by decide +kernel
theorem dX4_tell_130 : decode cX4_tell 130 = .ok (.iconst 1, 1) := by decide +kernel
theorem dX4_tell_131 : decode cX4_tell 131 = .ok (.isub, 1) := by decide +kernel
theorem dX4_tell_132 : decode cX4_tell 132 = .ok (.iaload, 1) := by decide +kernel
theorem dX4_tell_133 : decode cX4_tell 133 = .ok (.iastore, 1) := by decide +kernel
theorem dX4_tell_134 : decode cX4_tell 134 = .ok (.iinc 3 (-1), 3) := by decide +kernel
theorem dX4_tell_137 : decode cX4_tell 137 = .ok (.goto (-34), 3) := by decide +kernel
theorem dX4_tell_140 : decode cX4_tell 140 = .ok (.aload_n 0, 1) := by decide +kernel
theorem dX4_tell_141 : decode cX4_tell 141 = .ok (.getfield 62, 3) := by decide +kernel
theorem dX4_tell_144 : decode cX4_tell 144 = .ok (.iload_n 3, 1) := by decide +kernel
theorem dX4_tell_145 : decode cX4_tell 145 = .ok (.iload 4, 2) := by decide +kernel
theorem dX4_tell_147 : decode cX4_tell 147 = .ok (.iastore, 1) := by decide +kernel
theorem dX4_tell_148 : decode cX4_tell 148 = .ok (.iconst 1, 1) := by decide +kernel
theorem dX4_tell_149 : decode cX4_tell 149 = .ok (.ireturn, 1) := by decide +kernel
theorem bX4_tell_0 {d : Nat} {h0 hE h : ea_H} {rv : Option ea_V} {r0 : Option Nat} {x1 : Int32} {x2 : Int32} (H : ∃ a3, r0 = some a3 ∧ a3 < ea_n h ∧ ea_c h a3 = 4 ∧ (∀ a5, (ea_r h a3 19) = some a5 → ea_W mX4_tell d h0 rv hE 14 [(0, vR r0), (1, vI x1), (2, vI x2)] [] h) ∧ ((ea_r h a3 19) = none → ∀ h7, h7 = ea_new h 20 4 4 → a3 < ea_n h7 ∧ ea_c h7 a3 = 4 ∧ ∀ h11, h11 = ea_wr h7 a3 19 (some (ea_n h)) → ea_W mX4_tell d h0 rv hE 14 [(0, vR r0), (1, vI x1), (2, vI x2)] [] h11)) : ea_W mX4_tell d h0 rv hE 0 [(0, vR r0), (1, vI x1), (2, vI x2)] [] h := by
  refine ea_aload_n (pc := 0) dX4_tell_0 rfl 0 rfl ?_
  obtain ⟨a3, e4, f1, g2, H⟩ := H
  refine ea_deref0 e4 ?_
  refine ea_getR (pc := 1) dX4_tell_1 ec_4 (k := 19) (Nat.le_of_ble_eq_true rfl) rfl (Or.inl ew_979) f1 g2 rfl ?_
  refine ea_ifnonnull (pc := 4) (tgt := 14) dX4_tell_4 rfl (fun a5 e6 => ?_) (fun e6 => ?_)
  · have H := H.1 a5 e6
    exact H
  · have H := H.2 e6
    refine ea_aload_n (pc := 7) dX4_tell_7 rfl 0 rfl ?_
    refine ea_iconst (pc := 8) dX4_tell_8 (v := 4) rfl ?_
    refine ea_newI (pc := 9) (N := 4) dX4_tell_9 ew_170 (by decide) rfl (Nat.le_of_ble_eq_true rfl) ?_
    obtain ⟨h7, E8⟩ : ∃ z, z = ea_new h 20 4 4 := ⟨_, rfl⟩
    have H := H h7 E8
    refine ea_nm E8 ?_
    obtain ⟨f9, g10, H⟩ := H
    refine ea_deref1 e4 ?_
    refine ea_putR (pc := 11) dX4_tell_11 ec_4 (k := 19) (Nat.le_of_ble_eq_true rfl) rfl (Or.inl ⟨rfl, Or.inl ew_979⟩) f9 g10 ?_
    obtain ⟨h11, E12⟩ : ∃ z, z = ea_wr h7 a3 19 (some (ea_n h)) := ⟨_, rfl⟩
    have H := H h11 E12
    refine ea_nm E12 ?_
    exact H
theorem bX4_tell_14 {d : Nat} {h0 hE h : ea_H} {rv : Option ea_V} {r0 : Option Nat} {x1 : Int32} {x2 : Int32} (H : ∃ a7, r0 = some a7 ∧ a7 < ea_n h ∧ ea_c h a7 = 4 ∧ ∃ (d1 : Nat) (xc9 : Int32) (h2 : ea_H), ea_Met mX4_placeOf d1 [vR (some a7), vI x1] h (some (vI xc9)) h2 ∧ d1 + 1 ≤ d ∧ (¬ xc9 = ((-1) : Int32) → ea_W mX4_tell d h0 rv hE 60 [(0, vR r0), (3, vI xc9), (4, vI ((((100 : Int32) - x2) <<< ((4 : Int32) &&& 31)) ||| x1))] [] h2) ∧ (xc9 = ((-1) : Int32) → a7 < ea_n h2 ∧ ea_c h2 a7 = 4 ∧ ((ea_i h2 a7 18) < (4 : Int32) → a7 < ea_n h2 ∧ ea_c h2 a7 = 4 ∧ a7 < ea_n h2 ∧ ea_c h2 a7 = 4 ∧ a7 < ea_n h2 ∧ ea_c h2 a7 = 4 ∧ ∀ h18, h18 = ea_wi h2 a7 18 ((ea_i h2 a7 18) + (1 : Int32)) → ea_W mX4_tell d h0 rv hE 60 [(0, vR r0), (3, vI (ea_i h2 a7 18)), (4, vI ((((100 : Int32) - x2) <<< ((4 : Int32) &&& 31)) ||| x1))] [] h18) ∧ (¬ (ea_i h2 a7 18) < (4 : Int32) → rv = some (vI 0) ∧ hE = h2))) : ea_W mX4_tell d h0 rv hE 14 [(0, vR r0), (1, vI x1), (2, vI x2)] [] h := by
  refine ea_aload_n (pc := 14) dX4_tell_14 rfl 0 rfl ?_
  refine ea_iload_n (pc := 15) dX4_tell_15 rfl 1 rfl ?_
  obtain ⟨a7, e8, f5, g6, H⟩ := H
  refine ea_deref1 e8 ?_
  obtain ⟨d1, xc9, h2, m3, q4, H⟩ := H
  refine ea_callV (pc := 16) (As := [vI x1]) (st := []) dX4_tell_16 kX4_placeOf m3 q4 rfl (Nat.le_of_ble_eq_true rfl) ew_1194 ew_1195 ew_1196 (ci := 4) rfl (by decide) f5 g6 ?_
  refine ea_istore_n (pc := 19) (lv' := [(0, vR r0), (1, vI x1), (2, vI x2), (3, vI xc9)]) dX4_tell_19 rfl (Nat.le_of_ble_eq_true rfl) [1, 2, 3, 0] rfl ?_
  refine ea_iload_n (pc := 20) dX4_tell_20 rfl 3 rfl ?_
  refine ea_iconst (pc := 21) dX4_tell_21 (v := (-1)) rfl ?_
  refine ea_icmp_ne (pc := 22) (tgt := 50) dX4_tell_22 rfl (fun c21 => ?_) (fun c21 => ?_)
  · have H := H.1 c21
    refine ea_bipush (pc := 50) dX4_tell_50 (v := 100) rfl ?_
    refine ea_iload_n (pc := 52) dX4_tell_52 rfl 2 rfl ?_
    refine ea_isub (pc := 53) dX4_tell_53 ?_
    refine ea_iconst (pc := 54) dX4_tell_54 (v := 4) rfl ?_
    refine ea_ishl (pc := 55) dX4_tell_55 ?_
    refine ea_iload_n (pc := 56) dX4_tell_56 rfl 1 rfl ?_
    refine ea_ior (pc := 57) dX4_tell_57 ?_
    refine ea_istore (pc := 58) (lv' := [(0, vR r0), (3, vI xc9), (4, vI ((((100 : Int32) - x2) <<< ((4 : Int32) &&& 31)) ||| x1))]) dX4_tell_58 (Nat.le_of_ble_eq_true rfl) [1, 4, 0] rfl ?_
    exact H
  · have H := H.2 c21
    refine ea_aload_n (pc := 25) dX4_tell_25 rfl 0 rfl ?_
    obtain ⟨f10, g11, H⟩ := H
    refine ea_deref0 e8 ?_
    refine ea_getI (pc := 26) dX4_tell_26 ec_4 (k := 18) (Nat.le_of_ble_eq_true rfl) rfl (Or.inl ew_977) f10 g11 ?_
    refine ea_iconst (pc := 29) dX4_tell_29 (v := 4) rfl ?_
    refine ea_icmp_lt (pc := 30) (tgt := 35) dX4_tell_30 rfl (fun c20 => ?_) (fun c20 => ?_)
    · have H := H.1 c20
      refine ea_aload_n (pc := 35) dX4_tell_35 rfl 0 rfl ?_
      obtain ⟨f12, g13, H⟩ := H
      refine ea_deref0 e8 ?_
      refine ea_getI (pc := 36) dX4_tell_36 ec_4 (k := 18) (Nat.le_of_ble_eq_true rfl) rfl (Or.inl ew_977) f12 g13 ?_
      refine ea_istore_n (pc := 39) (lv' := [(0, vR r0), (1, vI x1), (2, vI x2), (3, vI (ea_i h2 a7 18))]) dX4_tell_39 rfl (Nat.le_of_ble_eq_true rfl) [1, 2, 3, 0] rfl ?_
      refine ea_aload_n (pc := 40) dX4_tell_40 rfl 0 rfl ?_
      refine ea_dup (pc := 41) dX4_tell_41 rfl ?_
      obtain ⟨f14, g15, H⟩ := H
      refine ea_deref0 e8 ?_
      refine ea_getI (pc := 42) dX4_tell_42 ec_4 (k := 18) (Nat.le_of_ble_eq_true rfl) rfl (Or.inl ew_977) f14 g15 ?_
      refine ea_iconst (pc := 45) dX4_tell_45 (v := 1) rfl ?_
      refine ea_iadd (pc := 46) dX4_tell_46 ?_
      obtain ⟨f16, g17, H⟩ := H
      refine ea_deref1 e8 ?_
      refine ea_putI (pc := 47) dX4_tell_47 ec_4 (k := 18) (Nat.le_of_ble_eq_true rfl) rfl (Or.inl ⟨rfl, Or.inl ew_977⟩) rfl rfl f16 g17 ?_
      obtain ⟨h18, E19⟩ : ∃ z, z = ea_wi h2 a7 18 ((ea_i h2 a7 18) + (1 : Int32)) := ⟨_, rfl⟩
      have H := H h18 E19
      refine ea_nm E19 ?_
      refine ea_bipush (pc := 50) dX4_tell_50 (v := 100) rfl ?_
      refine ea_iload_n (pc := 52) dX4_tell_52 rfl 2 rfl ?_
      refine ea_isub (pc := 53) dX4_tell_53 ?_
      refine ea_iconst (pc := 54) dX4_tell_54 (v := 4) rfl ?_
      refine ea_ishl (pc := 55) dX4_tell_55 ?_
      refine ea_iload_n (pc := 56) dX4_tell_56 rfl 1 rfl ?_
      refine ea_ior (pc := 57) dX4_tell_57 ?_
      refine ea_istore (pc := 58) (lv' := [(0, vR r0), (3, vI (ea_i h2 a7 18)), (4, vI ((((100 : Int32) - x2) <<< ((4 : Int32) &&& 31)) ||| x1))]) dX4_tell_58 (Nat.le_of_ble_eq_true rfl) [1, 4, 0] rfl ?_
      exact H
    · have H := H.2 c20
      refine ea_iconst (pc := 33) dX4_tell_33 (v := 0) rfl ?_
      obtain ⟨rfl, rfl⟩ := H
      exact ea_ireturn (pc := 34) dX4_tell_34 rfl (ea_bn (Or.inl rfl))
theorem bX4_tell_60 {d : Nat} {h0 hE h : ea_H} {rv : Option ea_V} {r0 : Option Nat} {x3 : Int32} {x4 : Int32} (H : ∃ a3, r0 = some a3 ∧ a3 < ea_n h ∧ ea_c h a3 = 4 ∧ (((ea_i h a3 18) - (1 : Int32)) ≤ x3 → ea_W mX4_tell d h0 rv hE 103 [(0, vR r0), (3, vI x3), (4, vI x4)] [] h) ∧ (¬ ((ea_i h a3 18) - (1 : Int32)) ≤ x3 → a3 < ea_n h ∧ ea_c h a3 = 4 ∧ ∃ a9, (ea_r h a3 19) = some a9 ∧ a9 < ea_n h ∧ ea_c h a9 = 20 ∧ vp_in (x3 + (1 : Int32)) (ea_l h a9) ∧ (x4 ≤ (ea_i h a9 (Int32.toNatClampNeg (x3 + (1 : Int32)))) → ea_W mX4_tell d h0 rv hE 103 [(0, vR r0), (3, vI x3), (4, vI x4)] [] h) ∧ (¬ x4 ≤ (ea_i h a9 (Int32.toNatClampNeg (x3 + (1 : Int32)))) → a3 < ea_n h ∧ ea_c h a3 = 4 ∧ a3 < ea_n h ∧ ea_c h a3 = 4 ∧ a9 < ea_n h ∧ ea_c h a9 = 20 ∧ vp_in (x3 + (1 : Int32)) (ea_l h a9) ∧ a9 < ea_n h ∧ ea_c h a9 = 20 ∧ vp_in x3 (ea_l h a9) ∧ ∀ h22, h22 = ea_wi h a9 (Int32.toNatClampNeg x3) (ea_i h a9 (Int32.toNatClampNeg (x3 + (1 : Int32)))) → ea_W mX4_tell d h0 rv hE 60 [(0, vR r0), (3, vI (x3 + 1)), (4, vI x4)] [] h22))) : ea_W mX4_tell d h0 rv hE 60 [(0, vR r0), (3, vI x3), (4, vI x4)] [] h := by
  refine ea_iload_n (pc := 60) dX4_tell_60 rfl 1 rfl ?_
  refine ea_aload_n (pc := 61) dX4_tell_61 rfl 0 rfl ?_
  obtain ⟨a3, e4, f1, g2, H⟩ := H
  refine ea_deref0 e4 ?_
  refine ea_getI (pc := 62) dX4_tell_62 ec_4 (k := 18) (Nat.le_of_ble_eq_true rfl) rfl (Or.inl ew_977) f1 g2 ?_
  refine ea_iconst (pc := 65) dX4_tell_65 (v := 1) rfl ?_
  refine ea_isub (pc := 66) dX4_tell_66 ?_
  refine ea_icmp_ge (pc := 67) (tgt := 103) dX4_tell_67 rfl (fun c25 => ?_) (fun c25 => ?_)
  · have H := H.1 c25
    exact H
  · have H := H.2 c25
    refine ea_aload_n (pc := 70) dX4_tell_70 rfl 0 rfl ?_
    obtain ⟨f5, g6, H⟩ := H
    refine ea_deref0 e4 ?_
    refine ea_getR (pc := 71) dX4_tell_71 ec_4 (k := 19) (Nat.le_of_ble_eq_true rfl) rfl (Or.inl ew_979) f5 g6 rfl ?_
    refine ea_iload_n (pc := 74) dX4_tell_74 rfl 1 rfl ?_
    refine ea_iconst (pc := 75) dX4_tell_75 (v := 1) rfl ?_
    refine ea_iadd (pc := 76) dX4_tell_76 ?_
    obtain ⟨a9, e10, f7, g8, H⟩ := H
    refine ea_deref1 e10 ?_
    obtain ⟨z11, H⟩ := H
    refine ea_iald (pc := 77) dX4_tell_77 f7 g8 z11 ?_
    refine ea_iload (pc := 78) dX4_tell_78 2 rfl ?_
    refine ea_icmp_ge (pc := 80) (tgt := 103) dX4_tell_80 rfl (fun c24 => ?_) (fun c24 => ?_)
    · have H := H.1 c24
      exact H
    · have H := H.2 c24
      refine ea_aload_n (pc := 83) dX4_tell_83 rfl 0 rfl ?_
      obtain ⟨f12, g13, H⟩ := H
      refine ea_deref0 e4 ?_
      refine ea_getR (pc := 84) dX4_tell_84 ec_4 (k := 19) (Nat.le_of_ble_eq_true rfl) rfl (Or.inl ew_979) f12 g13 rfl ?_
      refine ea_iload_n (pc := 87) dX4_tell_87 rfl 1 rfl ?_
      refine ea_aload_n (pc := 88) dX4_tell_88 rfl 0 rfl ?_
      obtain ⟨f14, g15, H⟩ := H
      refine ea_deref0 e4 ?_
      refine ea_getR (pc := 89) dX4_tell_89 ec_4 (k := 19) (Nat.le_of_ble_eq_true rfl) rfl (Or.inl ew_979) f14 g15 rfl ?_
      refine ea_iload_n (pc := 92) dX4_tell_92 rfl 1 rfl ?_
      refine ea_iconst (pc := 93) dX4_tell_93 (v := 1) rfl ?_
      refine ea_iadd (pc := 94) dX4_tell_94 ?_
      obtain ⟨f16, g17, H⟩ := H
      refine ea_deref1 e10 ?_
      obtain ⟨z18, H⟩ := H
      refine ea_iald (pc := 95) dX4_tell_95 f16 g17 z18 ?_
      obtain ⟨f19, g20, H⟩ := H
      refine ea_deref2 e10 ?_
      obtain ⟨z21, H⟩ := H
      refine ea_iast (pc := 96) dX4_tell_96 f19 g20 z21 ?_
      obtain ⟨h22, E23⟩ : ∃ z, z = ea_wi h a9 (Int32.toNatClampNeg x3) (ea_i h a9 (Int32.toNatClampNeg (x3 + (1 : Int32)))) := ⟨_, rfl⟩
      have H := H h22 E23
      refine ea_nm E23 ?_
      refine ea_iinc (pc := 97) (v := 1) (lv' := [(0, vR r0), (3, vI (x3 + 1)), (4, vI x4)]) dX4_tell_97 1 rfl rfl (Nat.le_of_ble_eq_true rfl) [1, 0, 2] rfl ?_
      refine ea_goto (pc := 100) (tgt := 60) dX4_tell_100 rfl ?_
      exact H
theorem bX4_tell_103 {d : Nat} {h0 hE h : ea_H} {rv : Option ea_V} {r0 : Option Nat} {x3 : Int32} {x4 : Int32} (H : (x3 ≤ (0 : Int32) → ∃ a3, r0 = some a3 ∧ a3 < ea_n h ∧ ea_c h a3 = 4 ∧ ∃ a7, (ea_r h a3 19) = some a7 ∧ a7 < ea_n h ∧ ea_c h a7 = 20 ∧ vp_in x3 (ea_l h a7) ∧ ∀ h10, h10 = ea_wi h a7 (Int32.toNatClampNeg x3) x4 → rv = some (vI 1) ∧ hE = h10) ∧ (¬ x3 ≤ (0 : Int32) → ∃ a14, r0 = some a14 ∧ a14 < ea_n h ∧ ea_c h a14 = 4 ∧ ∃ a18, (ea_r h a14 19) = some a18 ∧ a18 < ea_n h ∧ ea_c h a18 = 20 ∧ vp_in (x3 - (1 : Int32)) (ea_l h a18) ∧ ((ea_i h a18 (Int32.toNatClampNeg (x3 - (1 : Int32)))) ≤ x4 → a14 < ea_n h ∧ ea_c h a14 = 4 ∧ a18 < ea_n h ∧ ea_c h a18 = 20 ∧ vp_in x3 (ea_l h a18) ∧ ∀ h26, h26 = ea_wi h a18 (Int32.toNatClampNeg x3) x4 → rv = some (vI 1) ∧ hE = h26) ∧ (¬ (ea_i h a18 (Int32.toNatClampNeg (x3 - (1 : Int32)))) ≤ x4 → a14 < ea_n h ∧ ea_c h a14 = 4 ∧ a14 < ea_n h ∧ ea_c h a14 = 4 ∧ a18 < ea_n h ∧ ea_c h a18 = 20 ∧ vp_in (x3 - (1 : Int32)) (ea_l h a18) ∧ a18 < ea_n h ∧ ea_c h a18 = 20 ∧ vp_in x3 (ea_l h a18) ∧ ∀ h38, h38 = ea_wi h a18 (Int32.toNatClampNeg x3) (ea_i h a18 (Int32.toNatClampNeg (x3 - (1 : Int32)))) → ea_W mX4_tell d h0 rv hE 103 [(0, vR r0), (3, vI (x3 + (-1))), (4, vI x4)] [] h38))) : ea_W mX4_tell d h0 rv hE 103 [(0, vR r0), (3, vI x3), (4, vI x4)] [] h := by
  refine ea_iload_n (pc := 103) dX4_tell_103 rfl 1 rfl ?_
  refine ea_if_le (pc := 104) (tgt := 140) dX4_tell_104 rfl (fun c41 => ?_) (fun c41 => ?_)
  · have H := H.1 c41
    refine ea_aload_n (pc := 140) dX4_tell_140 rfl 0 rfl ?_
    obtain ⟨a3, e4, f1, g2, H⟩ := H
    refine ea_deref0 e4 ?_
    refine ea_getR (pc := 141) dX4_tell_141 ec_4 (k := 19) (Nat.le_of_ble_eq_true rfl) rfl (Or.inl ew_979) f1 g2 rfl ?_
    refine ea_iload_n (pc := 144) dX4_tell_144 rfl 1 rfl ?_
    refine ea_iload (pc := 145) dX4_tell_145 2 rfl ?_
    obtain ⟨a7, e8, f5, g6, H⟩ := H
    refine ea_deref2 e8 ?_
    obtain ⟨z9, H⟩ := H
    refine ea_iast (pc := 147) dX4_tell_147 f5 g6 z9 ?_
    obtain ⟨h10, E11⟩ : ∃ z, z = ea_wi h a7 (Int32.toNatClampNeg x3) x4 := ⟨_, rfl⟩
    have H := H h10 E11
    refine ea_nm E11 ?_
    refine ea_iconst (pc := 148) dX4_tell_148 (v := 1) rfl ?_
    obtain ⟨rfl, rfl⟩ := H
    exact ea_ireturn (pc := 149) dX4_tell_149 rfl (ea_bn (Or.inr rfl))
  · have H := H.2 c41
    refine ea_aload_n (pc := 107) dX4_tell_107 rfl 0 rfl ?_
    obtain ⟨a14, e15, f12, g13, H⟩ := H
    refine ea_deref0 e15 ?_
    refine ea_getR (pc := 108) dX4_tell_108 ec_4 (k := 19) (Nat.le_of_ble_eq_true rfl) rfl (Or.inl ew_979) f12 g13 rfl ?_
    refine ea_iload_n (pc := 111) dX4_tell_111 rfl 1 rfl ?_
    refine ea_iconst (pc := 112) dX4_tell_112 (v := 1) rfl ?_
    refine ea_isub (pc := 113) dX4_tell_113 ?_
    obtain ⟨a18, e19, f16, g17, H⟩ := H
    refine ea_deref1 e19 ?_
    obtain ⟨z20, H⟩ := H
    refine ea_iald (pc := 114) dX4_tell_114 f16 g17 z20 ?_
    refine ea_iload (pc := 115) dX4_tell_115 2 rfl ?_
    refine ea_icmp_le (pc := 117) (tgt := 140) dX4_tell_117 rfl (fun c40 => ?_) (fun c40 => ?_)
    · have H := H.1 c40
      refine ea_aload_n (pc := 140) dX4_tell_140 rfl 0 rfl ?_
      obtain ⟨f21, g22, H⟩ := H
      refine ea_deref0 e15 ?_
      refine ea_getR (pc := 141) dX4_tell_141 ec_4 (k := 19) (Nat.le_of_ble_eq_true rfl) rfl (Or.inl ew_979) f21 g22 rfl ?_
      refine ea_iload_n (pc := 144) dX4_tell_144 rfl 1 rfl ?_
      refine ea_iload (pc := 145) dX4_tell_145 2 rfl ?_
      obtain ⟨f23, g24, H⟩ := H
      refine ea_deref2 e19 ?_
      obtain ⟨z25, H⟩ := H
      refine ea_iast (pc := 147) dX4_tell_147 f23 g24 z25 ?_
      obtain ⟨h26, E27⟩ : ∃ z, z = ea_wi h a18 (Int32.toNatClampNeg x3) x4 := ⟨_, rfl⟩
      have H := H h26 E27
      refine ea_nm E27 ?_
      refine ea_iconst (pc := 148) dX4_tell_148 (v := 1) rfl ?_
      obtain ⟨rfl, rfl⟩ := H
      exact ea_ireturn (pc := 149) dX4_tell_149 rfl (ea_bn (Or.inr rfl))
    · have H := H.2 c40
      refine ea_aload_n (pc := 120) dX4_tell_120 rfl 0 rfl ?_
      obtain ⟨f28, g29, H⟩ := H
      refine ea_deref0 e15 ?_
      refine ea_getR (pc := 121) dX4_tell_121 ec_4 (k := 19) (Nat.le_of_ble_eq_true rfl) rfl (Or.inl ew_979) f28 g29 rfl ?_
      refine ea_iload_n (pc := 124) dX4_tell_124 rfl 1 rfl ?_
      refine ea_aload_n (pc := 125) dX4_tell_125 rfl 0 rfl ?_
      obtain ⟨f30, g31, H⟩ := H
      refine ea_deref0 e15 ?_
      refine ea_getR (pc := 126) dX4_tell_126 ec_4 (k := 19) (Nat.le_of_ble_eq_true rfl) rfl (Or.inl ew_979) f30 g31 rfl ?_
      refine ea_iload_n (pc := 129) dX4_tell_129 rfl 1 rfl ?_
      refine ea_iconst (pc := 130) dX4_tell_130 (v := 1) rfl ?_
      refine ea_isub (pc := 131) dX4_tell_131 ?_
      obtain ⟨f32, g33, H⟩ := H
      refine ea_deref1 e19 ?_
      obtain ⟨z34, H⟩ := H
      refine ea_iald (pc := 132) dX4_tell_132 f32 g33 z34 ?_
      obtain ⟨f35, g36, H⟩ := H
      refine ea_deref2 e19 ?_
      obtain ⟨z37, H⟩ := H
      refine ea_iast (pc := 133) dX4_tell_133 f35 g36 z37 ?_
      obtain ⟨h38, E39⟩ : ∃ z, z = ea_wi h a18 (Int32.toNatClampNeg x3) (ea_i h a18 (Int32.toNatClampNeg (x3 - (1 : Int32)))) := ⟨_, rfl⟩
      have H := H h38 E39
      refine ea_nm E39 ?_
      refine ea_iinc (pc := 134) (v := (-1)) (lv' := [(0, vR r0), (3, vI (x3 + (-1))), (4, vI x4)]) dX4_tell_134 1 rfl rfl (Nat.le_of_ble_eq_true rfl) [1, 0, 2] rfl ?_
      refine ea_goto (pc := 137) (tgt := 103) dX4_tell_137 rfl ?_
      exact H
theorem dX4_foundByAll_0 : decode cX4_foundByAll 0 = .ok (.lconst 1, 1) := by decide +kernel
theorem dX4_foundByAll_1 : decode cX4_foundByAll 1 = .ok (.lstore_n 2, 1) := by decide +kernel
theorem dX4_foundByAll_2 : decode cX4_foundByAll 2 = .ok (.lconst 1, 1) := by decide +kernel
theorem dX4_foundByAll_3 : decode cX4_foundByAll 3 = .ok (.lstore 4, 2) := by decide +kernel
theorem dX4_foundByAll_5 : decode cX4_foundByAll 5 = .ok (.iconst 0, 1) := by decide +kernel
theorem dX4_foundByAll_6 : decode cX4_foundByAll 6 = .ok (.istore 6, 2) := by decide +kernel
theorem dX4_foundByAll_8 : decode cX4_foundByAll 8 = .ok (.iload 6, 2) := by decide +kernel
theorem dX4_foundByAll_10 : decode cX4_foundByAll 10 = .ok (.aload_n 0, 1) := by decide +kernel
theorem dX4_foundByAll_11 : decode cX4_foundByAll 11 = .ok (.getfield 65, 3) := by decide +kernel
theorem dX4_foundByAll_14 : decode cX4_foundByAll 14 = .ok (.if_icmp .ge 30, 3) := by decide +kernel
theorem dX4_foundByAll_17 : decode cX4_foundByAll 17 = .ok (.lload_n 2, 1) := by decide +kernel
theorem dX4_foundByAll_18 : decode cX4_foundByAll 18 = .ok (.ldc2_w 74, 3) := by decide +kernel
theorem dX4_foundByAll_21 : decode cX4_foundByAll 21 = .ok (.lmul, 1) := by decide +kernel
theorem dX4_foundByAll_22 : decode cX4_foundByAll 22 = .ok (.lstore_n 2, 1) := by decide +kernel
theorem dX4_foundByAll_23 : decode cX4_foundByAll 23 = .ok (.lload 4, 2) := by decide +kernel
theorem dX4_foundByAll_25 : decode cX4_foundByAll 25 = .ok (.bipush 100, 2) := by decide +kernel
theorem dX4_foundByAll_27 : decode cX4_foundByAll 27 = .ok (.aload_n 0, 1) := by decide +kernel
theorem dX4_foundByAll_28 : decode cX4_foundByAll 28 = .ok (.iload 6, 2) := by decide +kernel
theorem dX4_foundByAll_30 : decode cX4_foundByAll 30 = .ok (.invokevirtual 76, 3) := by decide +kernel
theorem dX4_foundByAll_33 : decode cX4_foundByAll 33 = .ok (.isub, 1) := by decide +kernel
theorem dX4_foundByAll_34 : decode cX4_foundByAll 34 = .ok (.i2l, 1) := by decide +kernel
theorem dX4_foundByAll_35 : decode cX4_foundByAll 35 = .ok (.lmul, 1) := by decide +kernel
theorem dX4_foundByAll_36 : decode cX4_foundByAll 36 = .ok (.lstore 4, 2) := by decide +kernel
theorem dX4_foundByAll_38 : decode cX4_foundByAll 38 = .ok (.iinc 6 1, 3) := by decide +kernel
theorem dX4_foundByAll_41 : decode cX4_foundByAll 41 = .ok (.goto (-33), 3) := by decide +kernel
theorem dX4_foundByAll_44 : decode cX4_foundByAll 44 = .ok (.lload_n 2, 1) := by decide +kernel
theorem dX4_foundByAll_45 : decode cX4_foundByAll 45 = .ok (.lstore 6, 2) := by decide +kernel
theorem dX4_foundByAll_47 : decode cX4_foundByAll 47 = .ok (.lload_n 2, 1) := by decide +kernel
theorem dX4_foundByAll_48 : decode cX4_foundByAll 48 = .ok (.lload 4, 2) := by decide +kernel
theorem dX4_foundByAll_50 : decode cX4_foundByAll 50 = .ok (.lsub, 1) := by decide +kernel
theorem dX4_foundByAll_51 : decode cX4_foundByAll 51 = .ok (.lstore 8, 2) := by decide +kernel
theorem dX4_foundByAll_53 : decode cX4_foundByAll 53 = .ok (.iconst 0, 1) := by decide +kernel
theorem dX4_foundByAll_54 : decode cX4_foundByAll 54 = .ok (.istore 10, 2) := by decide +kernel
theorem dX4_foundByAll_56 : decode cX4_foundByAll 56 = .ok (.iload 10, 2) := by decide +kernel
theorem dX4_foundByAll_58 : decode cX4_foundByAll 58 = .ok (.bipush 100, 2) := by decide +kernel
theorem dX4_foundByAll_60 : decode cX4_foundByAll 60 = .ok (.if_icmp .ge 31, 3) := by decide +kernel
theorem dX4_foundByAll_63 : decode cX4_foundByAll 63 = .ok (.lload 8, 2) := by decide +kernel
theorem dX4_foundByAll_65 : decode cX4_foundByAll 65 = .ok (.lconst 0, 1) := by decide +kernel
theorem dX4_foundByAll_66 : decode cX4_foundByAll 66 = .ok (.lcmp, 1) := by decide +kernel
theorem dX4_foundByAll_67 : decode cX4_foundByAll 67 = .ok (.ifCond .le 24, 3) := by decide +kernel
theorem dX4_foundByAll_70 : decode cX4_foundByAll 70 = .ok (.lload 6, 2) := by decide +kernel
theorem dX4_foundByAll_72 : decode cX4_foundByAll 72 = .ok (.lload 8, 2) := by decide +kernel
theorem dX4_foundByAll_74 : decode cX4_foundByAll 74 = .ok (.lrem, 1) := by decide +kernel
theorem dX4_foundByAll_75 : decode cX4_foundByAll 75 = .ok (.lstore 11, 2) := by decide +kernel
theorem dX4_foundByAll_77 : decode cX4_foundByAll 77 = .ok (.lload 8, 2) := by decide +kernel
theorem dX4_foundByAll_79 : decode cX4_foundByAll 79 = .ok (.lstore 6, 2) := by decide +kernel
theorem dX4_foundByAll_81 : decode cX4_foundByAll 81 = .ok (.lload 11, 2) := by decide +kernel
theorem dX4_foundByAll_83 : decode cX4_foundByAll 83 = .ok (.lstore 8, 2) := by decide +kernel
theorem dX4_foundByAll_85 : decode cX4_foundByAll 85 = .ok (.iinc 10 1, 3) := by decide +kernel
theorem dX4_foundByAll_88 : decode cX4_foundByAll 88 = .ok (.goto (-32), 3) := by decide +kernel
theorem dX4_foundByAll_91 : decode cX4_foundByAll 91 = .ok (.lload 6, 2) := by decide +kernel
theorem dX4_foundByAll_93 : decode cX4_foundByAll 93 = .ok (.lconst 0, 1) := by decide +kernel
theorem dX4_foundByAll_94 : decode cX4_foundByAll 94 = .ok (.lcmp, 1) := by decide +kernel
theorem dX4_foundByAll_95 : decode cX4_foundByAll 95 = .ok (.ifCond .ne 7, 3) := by decide +kernel
theorem dX4_foundByAll_98 : decode cX4_foundByAll 98 = .ok (.ldc2_w 79, 3) := by decide +kernel
theorem dX4_foundByAll_101 : decode cX4_foundByAll 101 = .ok (.lreturn, 1) := by decide +kernel
theorem dX4_foundByAll_102 : decode cX4_foundByAll 102 = .ok (.iload_n 1, 1) := by decide +kernel
theorem dX4_foundByAll_103 : decode cX4_foundByAll 103 = .ok (.ifCond .eq 10, 3) := by decide +kernel
theorem dX4_foundByAll_106 : decode cX4_foundByAll 106 = .ok (.lload_n 2, 1) := by decide +kernel
theorem dX4_foundByAll_107 : decode cX4_foundByAll 107 = .ok (.lload 4, 2) := by decide +kernel
theorem dX4_foundByAll_109 : decode cX4_foundByAll 109 = .ok (.lsub, 1) := by decide +kernel
theorem dX4_foundByAll_110 : decode cX4_foundByAll 110 = .ok (.goto 4, 3) := by decide +kernel
theorem dX4_foundByAll_113 : decode cX4_foundByAll 113 = .ok (.lload_n 2, 1) := by decide +kernel
theorem dX4_foundByAll_114 : decode cX4_foundByAll 114 = .ok (.lload 6, 2) := by decide +kernel
theorem dX4_foundByAll_116 : decode cX4_foundByAll 116 = .ok (.ldiv, 1) := by decide +kernel
theorem dX4_foundByAll_117 : decode cX4_foundByAll 117 = .ok (.lreturn, 1) := by decide +kernel
theorem bX4_foundByAll_0 {d : Nat} {h0 hE h : ea_H} {rv : Option ea_V} {r0 : Option Nat} {x1 : Int32} (H : ea_W mX4_foundByAll d h0 rv hE 8 [(0, vR r0), (1, vI x1), (2, vJ 1), (4, vJ 1), (6, vI 0)] [] h) : ea_W mX4_foundByAll d h0 rv hE 0 [(0, vR r0), (1, vI x1)] [] h := by
  refine ea_lconst (pc := 0) dX4_foundByAll_0 (v := 1) rfl ?_
  refine ea_lstore_n (pc := 1) (lv' := [(0, vR r0), (1, vI x1), (2, vJ 1)]) dX4_foundByAll_1 rfl (Nat.le_of_ble_eq_true rfl) [1, 2, 0] rfl ?_
  refine ea_lconst (pc := 2) dX4_foundByAll_2 (v := 1) rfl ?_
  refine ea_lstore (pc := 3) (lv' := [(0, vR r0), (1, vI x1), (2, vJ 1), (4, vJ 1)]) dX4_foundByAll_3 (Nat.le_of_ble_eq_true rfl) [1, 2, 3, 0] rfl ?_
  refine ea_iconst (pc := 5) dX4_foundByAll_5 (v := 0) rfl ?_
  refine ea_istore (pc := 6) (lv' := [(0, vR r0), (1, vI x1), (2, vJ 1), (4, vJ 1), (6, vI 0)]) dX4_foundByAll_6 (Nat.le_of_ble_eq_true rfl) [1, 2, 3, 4, 0] rfl ?_
  exact H
theorem bX4_foundByAll_8 {d : Nat} {h0 hE h : ea_H} {rv : Option ea_V} {r0 : Option Nat} {x1 : Int32} {y2 : Int64} {y4 : Int64} {x6 : Int32} (H : ∃ a3, r0 = some a3 ∧ a3 < ea_n h ∧ ea_c h a3 = 4 ∧ ((ea_i h a3 18) ≤ x6 → ea_W mX4_foundByAll d h0 rv hE 56 [(1, vI x1), (2, vJ y2), (4, vJ y4), (6, vJ y2), (8, vJ (y2 - y4)), (10, vI 0)] [] h) ∧ (¬ (ea_i h a3 18) ≤ x6 → a3 < ea_n h ∧ ea_c h a3 = 4 ∧ ∃ (d5 : Nat) (xc11 : Int32) (h6 : ea_H), ea_Met mX4_placeChance d5 [vR (some a3), vI x6] h (some (vI xc11)) h6 ∧ d5 + 1 ≤ d ∧ ea_W mX4_foundByAll d h0 rv hE 8 [(0, vR r0), (1, vI x1), (2, vJ (y2 * (100 : Int64))), (4, vJ (y4 * (Int32.toInt64 ((100 : Int32) - xc11)))), (6, vI (x6 + 1))] [] h6)) : ea_W mX4_foundByAll d h0 rv hE 8 [(0, vR r0), (1, vI x1), (2, vJ y2), (4, vJ y4), (6, vI x6)] [] h := by
  refine ea_iload (pc := 8) dX4_foundByAll_8 4 rfl ?_
  refine ea_aload_n (pc := 10) dX4_foundByAll_10 rfl 0 rfl ?_
  obtain ⟨a3, e4, f1, g2, H⟩ := H
  refine ea_deref0 e4 ?_
  refine ea_getI (pc := 11) dX4_foundByAll_11 ec_4 (k := 18) (Nat.le_of_ble_eq_true rfl) rfl (Or.inl ew_977) f1 g2 ?_
  refine ea_icmp_ge (pc := 14) (tgt := 44) dX4_foundByAll_14 rfl (fun c12 => ?_) (fun c12 => ?_)
  · have H := H.1 c12
    refine ea_lload_n (pc := 44) dX4_foundByAll_44 rfl 2 rfl ?_
    refine ea_lstore (pc := 45) (lv' := [(1, vI x1), (2, vJ y2), (4, vJ y4), (6, vJ y2)]) dX4_foundByAll_45 (Nat.le_of_ble_eq_true rfl) [2, 3, 4, 0] rfl ?_
    refine ea_lload_n (pc := 47) dX4_foundByAll_47 rfl 1 rfl ?_
    refine ea_lload (pc := 48) dX4_foundByAll_48 2 rfl ?_
    refine ea_lsub (pc := 50) dX4_foundByAll_50 ?_
    refine ea_lstore (pc := 51) (lv' := [(1, vI x1), (2, vJ y2), (4, vJ y4), (6, vJ y2), (8, vJ (y2 - y4))]) dX4_foundByAll_51 (Nat.le_of_ble_eq_true rfl) [1, 2, 3, 4, 0] rfl ?_
    refine ea_iconst (pc := 53) dX4_foundByAll_53 (v := 0) rfl ?_
    refine ea_istore (pc := 54) (lv' := [(1, vI x1), (2, vJ y2), (4, vJ y4), (6, vJ y2), (8, vJ (y2 - y4)), (10, vI 0)]) dX4_foundByAll_54 (Nat.le_of_ble_eq_true rfl) [1, 2, 3, 4, 5, 0] rfl ?_
    exact H
  · have H := H.2 c12
    refine ea_lload_n (pc := 17) dX4_foundByAll_17 rfl 2 rfl ?_
    refine ea_ldc2 (pc := 18) dX4_foundByAll_18 ew_1211 ?_
    refine ea_lmul (pc := 21) dX4_foundByAll_21 ?_
    refine ea_lstore_n (pc := 22) (lv' := [(0, vR r0), (1, vI x1), (2, vJ (y2 * (100 : Int64))), (4, vJ y4), (6, vI x6)]) dX4_foundByAll_22 rfl (Nat.le_of_ble_eq_true rfl) [1, 2, 0, 3, 4] rfl ?_
    refine ea_lload (pc := 23) dX4_foundByAll_23 3 rfl ?_
    refine ea_bipush (pc := 25) dX4_foundByAll_25 (v := 100) rfl ?_
    refine ea_aload_n (pc := 27) dX4_foundByAll_27 rfl 0 rfl ?_
    refine ea_iload (pc := 28) dX4_foundByAll_28 4 rfl ?_
    obtain ⟨f9, g10, H⟩ := H
    refine ea_deref1 e4 ?_
    obtain ⟨d5, xc11, h6, m7, q8, H⟩ := H
    refine ea_callV (pc := 30) (As := [vI x6]) (st := [vI 100, vJ y4]) dX4_foundByAll_30 kX4_placeChance m7 q8 rfl (Nat.le_of_ble_eq_true rfl) ew_1212 ew_1213 ew_1214 (ci := 4) rfl (by decide) f9 g10 ?_
    refine ea_isub (pc := 33) dX4_foundByAll_33 ?_
    refine ea_i2l (pc := 34) dX4_foundByAll_34 ?_
    refine ea_lmul (pc := 35) dX4_foundByAll_35 ?_
    refine ea_lstore (pc := 36) (lv' := [(0, vR r0), (1, vI x1), (2, vJ (y2 * (100 : Int64))), (4, vJ (y4 * (Int32.toInt64 ((100 : Int32) - xc11)))), (6, vI x6)]) dX4_foundByAll_36 (Nat.le_of_ble_eq_true rfl) [1, 2, 3, 0, 4] rfl ?_
    refine ea_iinc (pc := 38) (v := 1) (lv' := [(0, vR r0), (1, vI x1), (2, vJ (y2 * (100 : Int64))), (4, vJ (y4 * (Int32.toInt64 ((100 : Int32) - xc11)))), (6, vI (x6 + 1))]) dX4_foundByAll_38 4 rfl rfl (Nat.le_of_ble_eq_true rfl) [1, 2, 3, 4, 0] rfl ?_
    refine ea_goto (pc := 41) (tgt := 8) dX4_foundByAll_41 rfl ?_
    exact H
theorem bX4_foundByAll_56 {d : Nat} {h0 hE h : ea_H} {rv : Option ea_V} {x1 : Int32} {y2 : Int64} {y4 : Int64} {y6 : Int64} {y8 : Int64} {x10 : Int32} (H : ((100 : Int32) ≤ x10 → ea_W mX4_foundByAll d h0 rv hE 91 [(1, vI x1), (2, vJ y2), (4, vJ y4), (6, vJ y6)] [] h) ∧ (¬ (100 : Int32) ≤ x10 → ((lg_cmp y8 0) ≤ (0 : Int32) → ea_W mX4_foundByAll d h0 rv hE 91 [(1, vI x1), (2, vJ y2), (4, vJ y4), (6, vJ y6)] [] h) ∧ (¬ (lg_cmp y8 0) ≤ (0 : Int32) → (¬ y8 = 0) ∧ ea_W mX4_foundByAll d h0 rv hE 56 [(1, vI x1), (2, vJ y2), (4, vJ y4), (6, vJ y8), (8, vJ (y6 - y6 / y8 * y8)), (10, vI (x10 + 1))] [] h))) : ea_W mX4_foundByAll d h0 rv hE 56 [(1, vI x1), (2, vJ y2), (4, vJ y4), (6, vJ y6), (8, vJ y8), (10, vI x10)] [] h := by
  refine ea_iload (pc := 56) dX4_foundByAll_56 5 rfl ?_
  refine ea_bipush (pc := 58) dX4_foundByAll_58 (v := 100) rfl ?_
  refine ea_icmp_ge (pc := 60) (tgt := 91) dX4_foundByAll_60 rfl (fun c3 => ?_) (fun c3 => ?_)
  · have H := H.1 c3
    exact ea_fewer [0, 1, 2, 3] rfl H
  · have H := H.2 c3
    refine ea_lload (pc := 63) dX4_foundByAll_63 4 rfl ?_
    refine ea_lconst (pc := 65) dX4_foundByAll_65 (v := 0) rfl ?_
    refine ea_lcmp (pc := 66) dX4_foundByAll_66 ?_
    refine ea_if_le (pc := 67) (tgt := 91) dX4_foundByAll_67 rfl (fun c2 => ?_) (fun c2 => ?_)
    · have H := H.1 c2
      exact ea_fewer [0, 1, 2, 3] rfl H
    · have H := H.2 c2
      refine ea_lload (pc := 70) dX4_foundByAll_70 3 rfl ?_
      refine ea_lload (pc := 72) dX4_foundByAll_72 4 rfl ?_
      obtain ⟨z1, H⟩ := H
      refine ea_lrem (pc := 74) dX4_foundByAll_74 z1 ?_
      refine ea_lstore (pc := 75) (lv' := [(1, vI x1), (2, vJ y2), (4, vJ y4), (8, vJ y8), (10, vI x10), (11, vJ (y6 - y6 / y8 * y8))]) dX4_foundByAll_75 (Nat.le_of_ble_eq_true rfl) [1, 2, 3, 5, 6, 0] rfl ?_
      refine ea_lload (pc := 77) dX4_foundByAll_77 3 rfl ?_
      refine ea_lstore (pc := 79) (lv' := [(1, vI x1), (2, vJ y2), (4, vJ y4), (6, vJ y8), (10, vI x10), (11, vJ (y6 - y6 / y8 * y8))]) dX4_foundByAll_79 (Nat.le_of_ble_eq_true rfl) [1, 2, 3, 0, 5, 6] rfl ?_
      refine ea_lload (pc := 81) dX4_foundByAll_81 5 rfl ?_
      refine ea_lstore (pc := 83) (lv' := [(1, vI x1), (2, vJ y2), (4, vJ y4), (6, vJ y8), (8, vJ (y6 - y6 / y8 * y8)), (10, vI x10)]) dX4_foundByAll_83 (Nat.le_of_ble_eq_true rfl) [1, 2, 3, 4, 0, 5] rfl ?_
      refine ea_iinc (pc := 85) (v := 1) (lv' := [(1, vI x1), (2, vJ y2), (4, vJ y4), (6, vJ y8), (8, vJ (y6 - y6 / y8 * y8)), (10, vI (x10 + 1))]) dX4_foundByAll_85 5 rfl rfl (Nat.le_of_ble_eq_true rfl) [1, 2, 3, 4, 5, 0] rfl ?_
      refine ea_goto (pc := 88) (tgt := 56) dX4_foundByAll_88 rfl ?_
      exact H
theorem bX4_foundByAll_91 {d : Nat} {h0 hE h : ea_H} {rv : Option ea_V} {x1 : Int32} {y2 : Int64} {y4 : Int64} {y6 : Int64} (H : (¬ (lg_cmp y6 0) = (0 : Int32) → (x1 = (0 : Int32) → (¬ y6 = 0) ∧ rv = some (vJ (y2 / y6)) ∧ hE = h) ∧ (¬ x1 = (0 : Int32) → (¬ y6 = 0) ∧ rv = some (vJ ((y2 - y4) / y6)) ∧ hE = h)) ∧ ((lg_cmp y6 0) = (0 : Int32) → rv = some (vJ (-1)) ∧ hE = h)) : ea_W mX4_foundByAll d h0 rv hE 91 [(1, vI x1), (2, vJ y2), (4, vJ y4), (6, vJ y6)] [] h := by
  refine ea_lload (pc := 91) dX4_foundByAll_91 3 rfl ?_
  refine ea_lconst (pc := 93) dX4_foundByAll_93 (v := 0) rfl ?_
  refine ea_lcmp (pc := 94) dX4_foundByAll_94 ?_
  refine ea_if_ne (pc := 95) (tgt := 102) dX4_foundByAll_95 rfl (fun c4 => ?_) (fun c4 => ?_)
  · have H := H.1 c4
    refine ea_iload_n (pc := 102) dX4_foundByAll_102 rfl 0 rfl ?_
    refine ea_if_eq (pc := 103) (tgt := 113) dX4_foundByAll_103 rfl (fun c3 => ?_) (fun c3 => ?_)
    · have H := H.1 c3
      refine ea_lload_n (pc := 113) dX4_foundByAll_113 rfl 1 rfl ?_
      refine ea_lload (pc := 114) dX4_foundByAll_114 3 rfl ?_
      obtain ⟨z1, H⟩ := H
      refine ea_ldiv (pc := 116) dX4_foundByAll_116 z1 ?_
      obtain ⟨rfl, rfl⟩ := H
      exact ea_lreturn (pc := 117) dX4_foundByAll_117 rfl
    · have H := H.2 c3
      refine ea_lload_n (pc := 106) dX4_foundByAll_106 rfl 1 rfl ?_
      refine ea_lload (pc := 107) dX4_foundByAll_107 2 rfl ?_
      refine ea_lsub (pc := 109) dX4_foundByAll_109 ?_
      refine ea_goto (pc := 110) (tgt := 114) dX4_foundByAll_110 rfl ?_
      refine ea_lload (pc := 114) dX4_foundByAll_114 3 rfl ?_
      obtain ⟨z2, H⟩ := H
      refine ea_ldiv (pc := 116) dX4_foundByAll_116 z2 ?_
      obtain ⟨rfl, rfl⟩ := H
      exact ea_lreturn (pc := 117) dX4_foundByAll_117 rfl
  · have H := H.2 c4
    refine ea_ldc2 (pc := 98) dX4_foundByAll_98 ew_1216 ?_
    obtain ⟨rfl, rfl⟩ := H
    exact ea_lreturn (pc := 101) dX4_foundByAll_101 rfl
theorem dX6_init_0 : decode cX6_init 0 = .ok (.aload_n 0, 1) := by decide +kernel
theorem dX6_init_1 : decode cX6_init 1 = .ok (.invokespecial 3, 3) := by decide +kernel
theorem dX6_init_4 : decode cX6_init 4 = .ok (.aload_n 0, 1) := by decide +kernel
theorem dX6_init_5 : decode cX6_init 5 = .ok (.sipush 144, 3) := by decide +kernel
theorem dX6_init_8 : decode cX6_init 8 = .ok (.newarray .int, 2) := by decide +kernel
theorem dX6_init_10 : decode cX6_init 10 = .ok (.putfield 9, 3) := by decide +kernel
theorem dX6_init_13 : decode cX6_init 13 = .ok (.aload_n 0, 1) := by decide +kernel
theorem dX6_init_14 : decode cX6_init 14 = .ok (.sipush 144, 3) := by decide +kernel
theorem dX6_init_17 : decode cX6_init 17 = .ok (.newarray .int, 2) := by decide +kernel
theorem dX6_init_19 : decode cX6_init 19 = .ok (.putfield 15, 3) := by decide +kernel
theorem dX6_init_22 : decode cX6_init 22 = .ok (.aload_n 0, 1) := by decide +kernel
theorem dX6_init_23 : decode cX6_init 23 = .ok (.sipush 144, 3) := by decide +kernel
theorem dX6_init_26 : decode cX6_init 26 = .ok (.newarray .int, 2) := by decide +kernel
theorem dX6_init_28 : decode cX6_init 28 = .ok (.putfield 18, 3) := by decide +kernel
theorem dX6_init_31 : decode cX6_init 31 = .ok (.aload_n 0, 1) := by decide +kernel
theorem dX6_init_32 : decode cX6_init 32 = .ok (.getfield 9, 3) := by decide +kernel
theorem dX6_init_35 : decode cX6_init 35 = .ok (.ldc 21, 2) := by decide +kernel
theorem dX6_init_37 : decode cX6_init 37 = .ok (.invokestatic 22, 3) := by decide +kernel
theorem dX6_init_40 : decode cX6_init 40 = .ok (.iconst 0, 1) := by decide +kernel
theorem dX6_init_41 : decode cX6_init 41 = .ok (.istore_n 1, 1) := by decide +kernel
theorem dX6_init_42 : decode cX6_init 42 = .ok (.iload_n 1, 1) := by decide +kernel
theorem dX6_init_43 : decode cX6_init 43 = .ok (.bipush 12, 2) := by decide +kernel
theorem dX6_init_45 : decode cX6_init 45 = .ok (.if_icmp .ge 21, 3) := by decide +kernel
theorem dX6_init_48 : decode cX6_init 48 = .ok (.aload_n 0, 1) := by decide +kernel
theorem dX6_init_49 : decode cX6_init 49 = .ok (.getfield 9, 3) := by decide +kernel
theorem dX6_init_52 : decode cX6_init 52 = .ok (.bipush 12, 2) := by decide +kernel
theorem dX6_init_54 : decode cX6_init 54 = .ok (.iload_n 1, 1) := by decide +kernel
theorem dX6_init_55 : decode cX6_init 55 = .ok (.imul, 1) := by decide +kernel
theorem dX6_init_56 : decode cX6_init 56 = .ok (.iload_n 1, 1) := by decide +kernel
theorem dX6_init_57 : decode cX6_init 57 = .ok (.iadd, 1) := by decide +kernel
theorem dX6_init_58 : decode cX6_init 58 = .ok (.iconst 0, 1) := by decide +kernel
theorem dX6_init_59 : decode cX6_init 59 = .ok (.iastore, 1) := by decide +kernel
theorem dX6_init_60 : decode cX6_init 60 = .ok (.iinc 1 1, 3) := by decide +kernel
theorem dX6_init_63 : decode cX6_init 63 = .ok (.goto (-21), 3) := by decide +kernel
theorem dX6_init_66 : decode cX6_init 66 = .ok (.aload_n 0, 1) := by decide +kernel
theorem dX6_init_67 : decode cX6_init 67 = .ok (.aload_n 0, 1) := by decide +kernel
theorem dX6_init_68 : decode cX6_init 68 = .ok (.getfield 15, 3) := by decide +kernel
theorem dX6_init_71 : decode cX6_init 71 = .ok (.iconst 0, 1) := by decide +kernel
theorem dX6_init_72 : decode cX6_init 72 = .ok (.invokevirtual 28, 3) := by decide +kernel
theorem dX6_init_75 : decode cX6_init 75 = .ok (.aload_n 0, 1) := by decide +kernel
theorem dX6_init_76 : decode cX6_init 76 = .ok (.aload_n 0, 1) := by decide +kernel
theorem dX6_init_77 : decode cX6_init 77 = .ok (.getfield 18, 3) := by decide +kernel
theorem dX6_init_80 : decode cX6_init 80 = .ok (.iconst 1, 1) := by decide +kernel
theorem dX6_init_81 : decode cX6_init 81 = .ok (.invokevirtual 28, 3) := by decide +kernel
theorem dX6_init_84 : decode cX6_init 84 = .ok (.return_, 1) := by decide +kernel
theorem bX6_init_0 {d : Nat} {h0 hE h : ea_H} {rv : Option ea_V} {r0 : Option Nat} (H : 1 ≤ d ∧ ∃ a28, r0 = some a28 ∧ ∀ h30, h30 = ea_new h 20 144 144 → a28 < ea_n h30 ∧ ea_c h30 a28 = 6 ∧ ∀ h34, h34 = ea_wr h30 a28 1 (some (ea_n h)) → ∀ h36, h36 = ea_new h34 20 144 144 → a28 < ea_n h36 ∧ ea_c h36 a28 = 6 ∧ ∀ h40, h40 = ea_wr h36 a28 2 (some (ea_n h34)) → ∀ h42, h42 = ea_new h40 20 144 144 → a28 < ea_n h42 ∧ ea_c h42 a28 = 6 ∧ ∀ h46, h46 = ea_wr h42 a28 3 (some (ea_n h40)) → a28 < ea_n h46 ∧ ea_c h46 a28 = 6 ∧ ∃ (d50 : Nat) (h51 : ea_H), ea_Met mJ7_fill_53178 d50 [vR (ea_r h46 a28 1), vI 1000000] h46 none h51 ∧ d50 + 1 ≤ d ∧ ea_W mX6_init d h0 rv hE 42 [(0, vR r0), (1, vI 0)] [] h51) : ea_W mX6_init d h0 rv hE 0 [(0, vR r0)] [] h := by
  refine ea_aload_n (pc := 0) dX6_init_0 rfl 0 rfl ?_
  obtain ⟨z27, a28, e29, H⟩ := H
  refine ea_deref0 e29 ?_
  refine ea_objInit (pc := 1) dX6_init_1 ew_141 ew_134 ew_135 z27 (Nat.le_of_ble_eq_true rfl) ?_
  refine ea_aload_n (pc := 4) dX6_init_4 rfl 0 rfl ?_
  refine ea_sipush (pc := 5) dX6_init_5 (v := 144) rfl ?_
  refine ea_newI (pc := 8) (N := 144) dX6_init_8 ew_170 (by decide) rfl (Nat.le_of_ble_eq_true rfl) ?_
  obtain ⟨h30, E31⟩ : ∃ z, z = ea_new h 20 144 144 := ⟨_, rfl⟩
  have H := H h30 E31
  refine ea_nm E31 ?_
  obtain ⟨f32, g33, H⟩ := H
  refine ea_deref1 e29 ?_
  refine ea_putR (pc := 10) dX6_init_10 ec_6 (k := 1) (Nat.le_of_ble_eq_true rfl) rfl (Or.inr ⟨rfl, rfl, rfl, ew_158⟩) f32 g33 ?_
  obtain ⟨h34, E35⟩ : ∃ z, z = ea_wr h30 a28 1 (some (ea_n h)) := ⟨_, rfl⟩
  have H := H h34 E35
  refine ea_nm E35 ?_
  refine ea_aload_n (pc := 13) dX6_init_13 rfl 0 rfl ?_
  refine ea_sipush (pc := 14) dX6_init_14 (v := 144) rfl ?_
  refine ea_newI (pc := 17) (N := 144) dX6_init_17 ew_170 (by decide) rfl (Nat.le_of_ble_eq_true rfl) ?_
  obtain ⟨h36, E37⟩ : ∃ z, z = ea_new h34 20 144 144 := ⟨_, rfl⟩
  have H := H h36 E37
  refine ea_nm E37 ?_
  obtain ⟨f38, g39, H⟩ := H
  refine ea_deref1 e29 ?_
  refine ea_putR (pc := 19) dX6_init_19 ec_6 (k := 2) (Nat.le_of_ble_eq_true rfl) rfl (Or.inr ⟨rfl, rfl, rfl, ew_159⟩) f38 g39 ?_
  obtain ⟨h40, E41⟩ : ∃ z, z = ea_wr h36 a28 2 (some (ea_n h34)) := ⟨_, rfl⟩
  have H := H h40 E41
  refine ea_nm E41 ?_
  refine ea_aload_n (pc := 22) dX6_init_22 rfl 0 rfl ?_
  refine ea_sipush (pc := 23) dX6_init_23 (v := 144) rfl ?_
  refine ea_newI (pc := 26) (N := 144) dX6_init_26 ew_170 (by decide) rfl (Nat.le_of_ble_eq_true rfl) ?_
  obtain ⟨h42, E43⟩ : ∃ z, z = ea_new h40 20 144 144 := ⟨_, rfl⟩
  have H := H h42 E43
  refine ea_nm E43 ?_
  obtain ⟨f44, g45, H⟩ := H
  refine ea_deref1 e29 ?_
  refine ea_putR (pc := 28) dX6_init_28 ec_6 (k := 3) (Nat.le_of_ble_eq_true rfl) rfl (Or.inr ⟨rfl, rfl, rfl, ew_160⟩) f44 g45 ?_
  obtain ⟨h46, E47⟩ : ∃ z, z = ea_wr h42 a28 3 (some (ea_n h40)) := ⟨_, rfl⟩
  have H := H h46 E47
  refine ea_nm E47 ?_
  refine ea_aload_n (pc := 31) dX6_init_31 rfl 0 rfl ?_
  obtain ⟨f48, g49, H⟩ := H
  refine ea_deref0 e29 ?_
  refine ea_getR (pc := 32) dX6_init_32 ec_6 (k := 1) (Nat.le_of_ble_eq_true rfl) rfl (Or.inl ew_158) f48 g49 rfl ?_
  refine ea_ldc (pc := 35) dX6_init_35 ew_142 ?_
  obtain ⟨d50, h51, m52, q53, H⟩ := H
  refine ea_callS (pc := 37) (As := [vR (ea_r h46 a28 1), vI 1000000]) (st := []) dX6_init_37 kJ7_fill_53178 m52 q53 rfl (Nat.le_of_ble_eq_true rfl) ew_143 ew_144 ?_
  refine ea_iconst (pc := 40) dX6_init_40 (v := 0) rfl ?_
  refine ea_istore_n (pc := 41) (lv' := [(0, vR r0), (1, vI 0)]) dX6_init_41 rfl (Nat.le_of_ble_eq_true rfl) [1, 0] rfl ?_
  exact H
theorem bX6_init_42 {d : Nat} {h0 hE h : ea_H} {rv : Option ea_V} {r0 : Option Nat} {x1 : Int32} (H : ((12 : Int32) ≤ x1 → ∃ a3, r0 = some a3 ∧ a3 < ea_n h ∧ ea_c h a3 = 6 ∧ a3 < ea_n h ∧ ea_c h a3 = 6 ∧ ∃ (d5 : Nat) (h6 : ea_H), ea_Met mX6_reckon d5 [vR (some a3), vR (ea_r h a3 2), vI 0] h none h6 ∧ d5 + 1 ≤ d ∧ a3 < ea_n h6 ∧ ea_c h6 a3 = 6 ∧ a3 < ea_n h6 ∧ ea_c h6 a3 = 6 ∧ ∃ (d13 : Nat) (h14 : ea_H), ea_Met mX6_reckon d13 [vR (some a3), vR (ea_r h6 a3 3), vI 1] h6 none h14 ∧ d13 + 1 ≤ d ∧ rv = none ∧ hE = h14) ∧ (¬ (12 : Int32) ≤ x1 → ∃ a21, r0 = some a21 ∧ a21 < ea_n h ∧ ea_c h a21 = 6 ∧ ∃ a25, (ea_r h a21 1) = some a25 ∧ a25 < ea_n h ∧ ea_c h a25 = 20 ∧ vp_in (((12 : Int32) * x1) + x1) (ea_l h a25) ∧ ∀ h28, h28 = ea_wi h a25 (Int32.toNatClampNeg (((12 : Int32) * x1) + x1)) 0 → ea_W mX6_init d h0 rv hE 42 [(0, vR r0), (1, vI (x1 + 1))] [] h28)) : ea_W mX6_init d h0 rv hE 42 [(0, vR r0), (1, vI x1)] [] h := by
  refine ea_iload_n (pc := 42) dX6_init_42 rfl 1 rfl ?_
  refine ea_bipush (pc := 43) dX6_init_43 (v := 12) rfl ?_
  refine ea_icmp_ge (pc := 45) (tgt := 66) dX6_init_45 rfl (fun c30 => ?_) (fun c30 => ?_)
  · have H := H.1 c30
    refine ea_aload_n (pc := 66) dX6_init_66 rfl 0 rfl ?_
    refine ea_aload_n (pc := 67) dX6_init_67 rfl 0 rfl ?_
    obtain ⟨a3, e4, f1, g2, H⟩ := H
    refine ea_deref0 e4 ?_
    refine ea_getR (pc := 68) dX6_init_68 ec_6 (k := 2) (Nat.le_of_ble_eq_true rfl) rfl (Or.inl ew_159) f1 g2 rfl ?_
    refine ea_iconst (pc := 71) dX6_init_71 (v := 0) rfl ?_
    obtain ⟨f9, g10, H⟩ := H
    refine ea_deref2 e4 ?_
    obtain ⟨d5, h6, m7, q8, H⟩ := H
    refine ea_callV (pc := 72) (As := [vR (ea_r h a3 2), vI 0]) (st := []) dX6_init_72 kX6_reckon m7 q8 rfl (Nat.le_of_ble_eq_true rfl) ew_146 ew_148 ew_0 (ci := 6) rfl (by decide) f9 g10 ?_
    refine ea_aload_n (pc := 75) dX6_init_75 rfl 0 rfl ?_
    refine ea_aload_n (pc := 76) dX6_init_76 rfl 0 rfl ?_
    obtain ⟨f11, g12, H⟩ := H
    refine ea_deref0 e4 ?_
    refine ea_getR (pc := 77) dX6_init_77 ec_6 (k := 3) (Nat.le_of_ble_eq_true rfl) rfl (Or.inl ew_160) f11 g12 rfl ?_
    refine ea_iconst (pc := 80) dX6_init_80 (v := 1) rfl ?_
    obtain ⟨f17, g18, H⟩ := H
    refine ea_deref2 e4 ?_
    obtain ⟨d13, h14, m15, q16, H⟩ := H
    refine ea_callV (pc := 81) (As := [vR (ea_r h6 a3 3), vI 1]) (st := []) dX6_init_81 kX6_reckon m15 q16 rfl (Nat.le_of_ble_eq_true rfl) ew_146 ew_148 ew_0 (ci := 6) rfl (by decide) f17 g18 ?_
    obtain ⟨rfl, rfl⟩ := H
    exact ea_return (pc := 84) dX6_init_84 rfl
  · have H := H.2 c30
    refine ea_aload_n (pc := 48) dX6_init_48 rfl 0 rfl ?_
    obtain ⟨a21, e22, f19, g20, H⟩ := H
    refine ea_deref0 e22 ?_
    refine ea_getR (pc := 49) dX6_init_49 ec_6 (k := 1) (Nat.le_of_ble_eq_true rfl) rfl (Or.inl ew_158) f19 g20 rfl ?_
    refine ea_bipush (pc := 52) dX6_init_52 (v := 12) rfl ?_
    refine ea_iload_n (pc := 54) dX6_init_54 rfl 1 rfl ?_
    refine ea_imul (pc := 55) dX6_init_55 ?_
    refine ea_iload_n (pc := 56) dX6_init_56 rfl 1 rfl ?_
    refine ea_iadd (pc := 57) dX6_init_57 ?_
    refine ea_iconst (pc := 58) dX6_init_58 (v := 0) rfl ?_
    obtain ⟨a25, e26, f23, g24, H⟩ := H
    refine ea_deref2 e26 ?_
    obtain ⟨z27, H⟩ := H
    refine ea_iast (pc := 59) dX6_init_59 f23 g24 z27 ?_
    obtain ⟨h28, E29⟩ : ∃ z, z = ea_wi h a25 (Int32.toNatClampNeg (((12 : Int32) * x1) + x1)) 0 := ⟨_, rfl⟩
    have H := H h28 E29
    refine ea_nm E29 ?_
    refine ea_iinc (pc := 60) (v := 1) (lv' := [(0, vR r0), (1, vI (x1 + 1))]) dX6_init_60 1 rfl rfl (Nat.le_of_ble_eq_true rfl) [1, 0] rfl ?_
    refine ea_goto (pc := 63) (tgt := 42) dX6_init_63 rfl ?_
    exact H
theorem dX6_has_0 : decode cX6_has 0 = .ok (.iload_n 1, 1) := by decide +kernel
theorem dX6_has_1 : decode cX6_has 1 = .ok (.ifCond .lt 15, 3) := by decide +kernel
theorem dX6_has_4 : decode cX6_has 4 = .ok (.iload_n 1, 1) := by decide +kernel
theorem dX6_has_5 : decode cX6_has 5 = .ok (.aload_n 0, 1) := by decide +kernel
theorem dX6_has_6 : decode cX6_has 6 = .ok (.getfield 31, 3) := by decide +kernel
theorem dX6_has_9 : decode cX6_has 9 = .ok (.if_icmp .ge 7, 3) := by decide +kernel
theorem dX6_has_12 : decode cX6_has 12 = .ok (.iconst 1, 1) := by decide +kernel
theorem dX6_has_13 : decode cX6_has 13 = .ok (.goto 4, 3) := by decide +kernel
theorem dX6_has_16 : decode cX6_has 16 = .ok (.iconst 0, 1) := by decide +kernel
theorem dX6_has_17 : decode cX6_has 17 = .ok (.ireturn, 1) := by decide +kernel
theorem bX6_has_0 {d : Nat} {h0 hE h : ea_H} {rv : Option ea_V} {r0 : Option Nat} {x1 : Int32} (H : (x1 < (0 : Int32) → rv = some (vI 0) ∧ hE = h) ∧ (¬ x1 < (0 : Int32) → ∃ a3, r0 = some a3 ∧ a3 < ea_n h ∧ ea_c h a3 = 6 ∧ ((ea_i h a3 0) ≤ x1 → rv = some (vI 0) ∧ hE = h) ∧ (¬ (ea_i h a3 0) ≤ x1 → rv = some (vI 1) ∧ hE = h))) : ea_W mX6_has d h0 rv hE 0 [(0, vR r0), (1, vI x1)] [] h := by
  refine ea_iload_n (pc := 0) dX6_has_0 rfl 1 rfl ?_
  refine ea_if_lt (pc := 1) (tgt := 16) dX6_has_1 rfl (fun c6 => ?_) (fun c6 => ?_)
  · have H := H.1 c6
    refine ea_iconst (pc := 16) dX6_has_16 (v := 0) rfl ?_
    obtain ⟨rfl, rfl⟩ := H
    exact ea_ireturn (pc := 17) dX6_has_17 rfl (ea_bn (Or.inl rfl))
  · have H := H.2 c6
    refine ea_iload_n (pc := 4) dX6_has_4 rfl 1 rfl ?_
    refine ea_aload_n (pc := 5) dX6_has_5 rfl 0 rfl ?_
    obtain ⟨a3, e4, f1, g2, H⟩ := H
    refine ea_deref0 e4 ?_
    refine ea_getI (pc := 6) dX6_has_6 ec_6 (k := 0) (Nat.le_of_ble_eq_true rfl) rfl (Or.inl ew_157) f1 g2 ?_
    refine ea_icmp_ge (pc := 9) (tgt := 16) dX6_has_9 rfl (fun c5 => ?_) (fun c5 => ?_)
    · have H := H.1 c5
      refine ea_iconst (pc := 16) dX6_has_16 (v := 0) rfl ?_
      obtain ⟨rfl, rfl⟩ := H
      exact ea_ireturn (pc := 17) dX6_has_17 rfl (ea_bn (Or.inl rfl))
    · have H := H.2 c5
      refine ea_iconst (pc := 12) dX6_has_12 (v := 1) rfl ?_
      refine ea_goto (pc := 13) (tgt := 17) dX6_has_13 rfl ?_
      obtain ⟨rfl, rfl⟩ := H
      exact ea_ireturn (pc := 17) dX6_has_17 rfl (ea_bn (Or.inr rfl))
theorem dX6_lay_0 : decode cX6_lay 0 = .ok (.aload_n 0, 1) := by decide +kernel
theorem dX6_lay_1 : decode cX6_lay 1 = .ok (.getfield 9, 3) := by decide +kernel
theorem dX6_lay_4 : decode cX6_lay 4 = .ok (.bipush 12, 2) := by decide +kernel
theorem dX6_lay_6 : decode cX6_lay 6 = .ok (.iload_n 1, 1) := by decide +kernel
theorem dX6_lay_7 : decode cX6_lay 7 = .ok (.imul, 1) := by decide +kernel
theorem dX6_lay_8 : decode cX6_lay 8 = .ok (.iload_n 2, 1) := by decide +kernel
theorem dX6_lay_9 : decode cX6_lay 9 = .ok (.iadd, 1) := by decide +kernel
theorem dX6_lay_10 : decode cX6_lay 10 = .ok (.iload_n 3, 1) := by decide +kernel
theorem dX6_lay_11 : decode cX6_lay 11 = .ok (.iastore, 1) := by decide +kernel
theorem dX6_lay_12 : decode cX6_lay 12 = .ok (.aload_n 0, 1) := by decide +kernel
theorem dX6_lay_13 : decode cX6_lay 13 = .ok (.getfield 9, 3) := by decide +kernel
theorem dX6_lay_16 : decode cX6_lay 16 = .ok (.bipush 12, 2) := by decide +kernel
theorem dX6_lay_18 : decode cX6_lay 18 = .ok (.iload_n 2, 1) := by decide +kernel
theorem dX6_lay_19 : decode cX6_lay 19 = .ok (.imul, 1) := by decide +kernel
theorem dX6_lay_20 : decode cX6_lay 20 = .ok (.iload_n 1, 1) := by decide +kernel
theorem dX6_lay_21 : decode cX6_lay 21 = .ok (.iadd, 1) := by decide +kernel
theorem dX6_lay_22 : decode cX6_lay 22 = .ok (.iload_n 3, 1) := by decide +kernel
theorem dX6_lay_23 : decode cX6_lay 23 = .ok (.iastore, 1) := by decide +kernel
theorem dX6_lay_24 : decode cX6_lay 24 = .ok (.aload_n 0, 1) := by decide +kernel
theorem dX6_lay_25 : decode cX6_lay 25 = .ok (.aload_n 0, 1) := by decide +kernel
theorem dX6_lay_26 : decode cX6_lay 26 = .ok (.getfield 15, 3) := by decide +kernel
theorem dX6_lay_29 : decode cX6_lay 29 = .ok (.iconst 0, 1) := by decide +kernel
theorem dX6_lay_30 : decode cX6_lay 30 = .ok (.invokevirtual 28, 3) := by decide +kernel
theorem dX6_lay_33 : decode cX6_lay 33 = .ok (.aload_n 0, 1) := by decide +kernel
theorem dX6_lay_34 : decode cX6_lay 34 = .ok (.aload_n 0, 1) := by decide +kernel
theorem dX6_lay_35 : decode cX6_lay 35 = .ok (.getfield 18, 3) := by decide +kernel
theorem dX6_lay_38 : decode cX6_lay 38 = .ok (.iconst 1, 1) := by decide +kernel
theorem dX6_lay_39 : decode cX6_lay 39 = .ok (.invokevirtual 28, 3) := by decide +kernel
theorem dX6_lay_42 : decode cX6_lay 42 = .ok (.return_, 1) := by decide +kernel
theorem bX6_lay_0 {d : Nat} {h0 hE h : ea_H} {rv : Option ea_V} {r0 : Option Nat} {x1 : Int32} {x2 : Int32} {x3 : Int32} (H : ∃ a3, r0 = some a3 ∧ a3 < ea_n h ∧ ea_c h a3 = 6 ∧ ∃ a7, (ea_r h a3 1) = some a7 ∧ a7 < ea_n h ∧ ea_c h a7 = 20 ∧ vp_in (((12 : Int32) * x1) + x2) (ea_l h a7) ∧ ∀ h10, h10 = ea_wi h a7 (Int32.toNatClampNeg (((12 : Int32) * x1) + x2)) x3 → a3 < ea_n h10 ∧ ea_c h10 a3 = 6 ∧ ∃ a16, (ea_r h10 a3 1) = some a16 ∧ a16 < ea_n h10 ∧ ea_c h10 a16 = 20 ∧ vp_in (((12 : Int32) * x2) + x1) (ea_l h10 a16) ∧ ∀ h19, h19 = ea_wi h10 a16 (Int32.toNatClampNeg (((12 : Int32) * x2) + x1)) x3 → a3 < ea_n h19 ∧ ea_c h19 a3 = 6 ∧ a3 < ea_n h19 ∧ ea_c h19 a3 = 6 ∧ ∃ (d23 : Nat) (h24 : ea_H), ea_Met mX6_reckon d23 [vR (some a3), vR (ea_r h19 a3 2), vI 0] h19 none h24 ∧ d23 + 1 ≤ d ∧ a3 < ea_n h24 ∧ ea_c h24 a3 = 6 ∧ a3 < ea_n h24 ∧ ea_c h24 a3 = 6 ∧ ∃ (d31 : Nat) (h32 : ea_H), ea_Met mX6_reckon d31 [vR (some a3), vR (ea_r h24 a3 3), vI 1] h24 none h32 ∧ d31 + 1 ≤ d ∧ rv = none ∧ hE = h32) : ea_W mX6_lay d h0 rv hE 0 [(0, vR r0), (1, vI x1), (2, vI x2), (3, vI x3)] [] h := by
  refine ea_aload_n (pc := 0) dX6_lay_0 rfl 0 rfl ?_
  obtain ⟨a3, e4, f1, g2, H⟩ := H
  refine ea_deref0 e4 ?_
  refine ea_getR (pc := 1) dX6_lay_1 ec_6 (k := 1) (Nat.le_of_ble_eq_true rfl) rfl (Or.inl ew_158) f1 g2 rfl ?_
  refine ea_bipush (pc := 4) dX6_lay_4 (v := 12) rfl ?_
  refine ea_iload_n (pc := 6) dX6_lay_6 rfl 1 rfl ?_
  refine ea_imul (pc := 7) dX6_lay_7 ?_
  refine ea_iload_n (pc := 8) dX6_lay_8 rfl 2 rfl ?_
  refine ea_iadd (pc := 9) dX6_lay_9 ?_
  refine ea_iload_n (pc := 10) dX6_lay_10 rfl 3 rfl ?_
  obtain ⟨a7, e8, f5, g6, H⟩ := H
  refine ea_deref2 e8 ?_
  obtain ⟨z9, H⟩ := H
  refine ea_iast (pc := 11) dX6_lay_11 f5 g6 z9 ?_
  obtain ⟨h10, E11⟩ : ∃ z, z = ea_wi h a7 (Int32.toNatClampNeg (((12 : Int32) * x1) + x2)) x3 := ⟨_, rfl⟩
  have H := H h10 E11
  refine ea_nm E11 ?_
  refine ea_aload_n (pc := 12) dX6_lay_12 rfl 0 rfl ?_
  obtain ⟨f12, g13, H⟩ := H
  refine ea_deref0 e4 ?_
  refine ea_getR (pc := 13) dX6_lay_13 ec_6 (k := 1) (Nat.le_of_ble_eq_true rfl) rfl (Or.inl ew_158) f12 g13 rfl ?_
  refine ea_bipush (pc := 16) dX6_lay_16 (v := 12) rfl ?_
  refine ea_iload_n (pc := 18) dX6_lay_18 rfl 2 rfl ?_
  refine ea_imul (pc := 19) dX6_lay_19 ?_
  refine ea_iload_n (pc := 20) dX6_lay_20 rfl 1 rfl ?_
  refine ea_iadd (pc := 21) dX6_lay_21 ?_
  refine ea_iload_n (pc := 22) dX6_lay_22 rfl 3 rfl ?_
  obtain ⟨a16, e17, f14, g15, H⟩ := H
  refine ea_deref2 e17 ?_
  obtain ⟨z18, H⟩ := H
  refine ea_iast (pc := 23) dX6_lay_23 f14 g15 z18 ?_
  obtain ⟨h19, E20⟩ : ∃ z, z = ea_wi h10 a16 (Int32.toNatClampNeg (((12 : Int32) * x2) + x1)) x3 := ⟨_, rfl⟩
  have H := H h19 E20
  refine ea_nm E20 ?_
  refine ea_aload_n (pc := 24) dX6_lay_24 rfl 0 rfl ?_
  refine ea_aload_n (pc := 25) dX6_lay_25 rfl 0 rfl ?_
  obtain ⟨f21, g22, H⟩ := H
  refine ea_deref0 e4 ?_
  refine ea_getR (pc := 26) dX6_lay_26 ec_6 (k := 2) (Nat.le_of_ble_eq_true rfl) rfl (Or.inl ew_159) f21 g22 rfl ?_
  refine ea_iconst (pc := 29) dX6_lay_29 (v := 0) rfl ?_
  obtain ⟨f27, g28, H⟩ := H
  refine ea_deref2 e4 ?_
  obtain ⟨d23, h24, m25, q26, H⟩ := H
  refine ea_callV (pc := 30) (As := [vR (ea_r h19 a3 2), vI 0]) (st := []) dX6_lay_30 kX6_reckon m25 q26 rfl (Nat.le_of_ble_eq_true rfl) ew_146 ew_148 ew_0 (ci := 6) rfl (by decide) f27 g28 ?_
  refine ea_aload_n (pc := 33) dX6_lay_33 rfl 0 rfl ?_
  refine ea_aload_n (pc := 34) dX6_lay_34 rfl 0 rfl ?_
  obtain ⟨f29, g30, H⟩ := H
  refine ea_deref0 e4 ?_
  refine ea_getR (pc := 35) dX6_lay_35 ec_6 (k := 3) (Nat.le_of_ble_eq_true rfl) rfl (Or.inl ew_160) f29 g30 rfl ?_
  refine ea_iconst (pc := 38) dX6_lay_38 (v := 1) rfl ?_
  obtain ⟨f35, g36, H⟩ := H
  refine ea_deref2 e4 ?_
  obtain ⟨d31, h32, m33, q34, H⟩ := H
  refine ea_callV (pc := 39) (As := [vR (ea_r h24 a3 3), vI 1]) (st := []) dX6_lay_39 kX6_reckon m33 q34 rfl (Nat.le_of_ble_eq_true rfl) ew_146 ew_148 ew_0 (ci := 6) rfl (by decide) f35 g36 ?_
  obtain ⟨rfl, rfl⟩ := H
  exact ea_return (pc := 42) dX6_lay_42 rfl
theorem dX6_between_0 : decode cX6_between 0 = .ok (.aload_n 0, 1) := by decide +kernel
theorem dX6_between_1 : decode cX6_between 1 = .ok (.getfield 15, 3) := by decide +kernel
theorem dX6_between_4 : decode cX6_between 4 = .ok (.bipush 12, 2) := by decide +kernel
theorem dX6_between_6 : decode cX6_between 6 = .ok (.iload_n 1, 1) := by decide +kernel
theorem dX6_between_7 : decode cX6_between 7 = .ok (.imul, 1) := by decide +kernel
theorem dX6_between_8 : decode cX6_between 8 = .ok (.iload_n 2, 1) := by decide +kernel
theorem dX6_between_9 : decode cX6_between 9 = .ok (.iadd, 1) := by decide +kernel
theorem dX6_between_10 : decode cX6_between 10 = .ok (.iaload, 1) := by decide +kernel
theorem dX6_between_11 : decode cX6_between 11 = .ok (.istore_n 3, 1) := by decide +kernel
theorem dX6_between_12 : decode cX6_between 12 = .ok (.iload_n 3, 1) := by decide +kernel
theorem dX6_between_13 : decode cX6_between 13 = .ok (.ldc 21, 2) := by decide +kernel
theorem dX6_between_15 : decode cX6_between 15 = .ok (.if_icmp .lt 7, 3) := by decide +kernel
theorem dX6_between_18 : decode cX6_between 18 = .ok (.iconst (-1), 1) := by decide +kernel
theorem dX6_between_19 : decode cX6_between 19 = .ok (.goto 4, 3) := by decide +kernel
theorem dX6_between_22 : decode cX6_between 22 = .ok (.iload_n 3, 1) := by decide +kernel
theorem dX6_between_23 : decode cX6_between 23 = .ok (.ireturn, 1) := by decide +kernel
theorem bX6_between_0 {d : Nat} {h0 hE h : ea_H} {rv : Option ea_V} {r0 : Option Nat} {x1 : Int32} {x2 : Int32} (H : ∃ a3, r0 = some a3 ∧ a3 < ea_n h ∧ ea_c h a3 = 6 ∧ ∃ a7, (ea_r h a3 2) = some a7 ∧ a7 < ea_n h ∧ ea_c h a7 = 20 ∧ vp_in (((12 : Int32) * x1) + x2) (ea_l h a7) ∧ ((ea_i h a7 (Int32.toNatClampNeg (((12 : Int32) * x1) + x2))) < (1000000 : Int32) → rv = some (vI (ea_i h a7 (Int32.toNatClampNeg (((12 : Int32) * x1) + x2)))) ∧ hE = h) ∧ (¬ (ea_i h a7 (Int32.toNatClampNeg (((12 : Int32) * x1) + x2))) < (1000000 : Int32) → rv = some (vI (-1)) ∧ hE = h)) : ea_W mX6_between d h0 rv hE 0 [(0, vR r0), (1, vI x1), (2, vI x2)] [] h := by
  refine ea_aload_n (pc := 0) dX6_between_0 rfl 0 rfl ?_
  obtain ⟨a3, e4, f1, g2, H⟩ := H
  refine ea_deref0 e4 ?_
  refine ea_getR (pc := 1) dX6_between_1 ec_6 (k := 2) (Nat.le_of_ble_eq_true rfl) rfl (Or.inl ew_159) f1 g2 rfl ?_
  refine ea_bipush (pc := 4) dX6_between_4 (v := 12) rfl ?_
  refine ea_iload_n (pc := 6) dX6_between_6 rfl 1 rfl ?_
  refine ea_imul (pc := 7) dX6_between_7 ?_
  refine ea_iload_n (pc := 8) dX6_between_8 rfl 2 rfl ?_
  refine ea_iadd (pc := 9) dX6_between_9 ?_
  obtain ⟨a7, e8, f5, g6, H⟩ := H
  refine ea_deref1 e8 ?_
  obtain ⟨z9, H⟩ := H
  refine ea_iald (pc := 10) dX6_between_10 f5 g6 z9 ?_
  refine ea_istore_n (pc := 11) (lv' := [(3, vI (ea_i h a7 (Int32.toNatClampNeg (((12 : Int32) * x1) + x2))))]) dX6_between_11 rfl (Nat.le_of_ble_eq_true rfl) [0] rfl ?_
  refine ea_iload_n (pc := 12) dX6_between_12 rfl 0 rfl ?_
  refine ea_ldc (pc := 13) dX6_between_13 ew_142 ?_
  refine ea_icmp_lt (pc := 15) (tgt := 22) dX6_between_15 rfl (fun c10 => ?_) (fun c10 => ?_)
  · have H := H.1 c10
    refine ea_iload_n (pc := 22) dX6_between_22 rfl 0 rfl ?_
    obtain ⟨rfl, rfl⟩ := H
    exact ea_ireturn (pc := 23) dX6_between_23 rfl rfl
  · have H := H.2 c10
    refine ea_iconst (pc := 18) dX6_between_18 (v := (-1)) rfl ?_
    refine ea_goto (pc := 19) (tgt := 23) dX6_between_19 rfl ?_
    obtain ⟨rfl, rfl⟩ := H
    exact ea_ireturn (pc := 23) dX6_between_23 rfl rfl
theorem dX6_isCross_0 : decode cX6_isCross 0 = .ok (.aload_n 0, 1) := by decide +kernel
theorem dX6_isCross_1 : decode cX6_isCross 1 = .ok (.getfield 15, 3) := by decide +kernel
theorem dX6_isCross_4 : decode cX6_isCross 4 = .ok (.bipush 12, 2) := by decide +kernel
theorem dX6_isCross_6 : decode cX6_isCross 6 = .ok (.iload_n 1, 1) := by decide +kernel
theorem dX6_isCross_7 : decode cX6_isCross 7 = .ok (.imul, 1) := by decide +kernel
theorem dX6_isCross_8 : decode cX6_isCross 8 = .ok (.iload_n 2, 1) := by decide +kernel
theorem dX6_isCross_9 : decode cX6_isCross 9 = .ok (.iadd, 1) := by decide +kernel
theorem dX6_isCross_10 : decode cX6_isCross 10 = .ok (.iaload, 1) := by decide +kernel
theorem dX6_isCross_11 : decode cX6_isCross 11 = .ok (.istore_n 3, 1) := by decide +kernel
theorem dX6_isCross_12 : decode cX6_isCross 12 = .ok (.iload_n 1, 1) := by decide +kernel
theorem dX6_isCross_13 : decode cX6_isCross 13 = .ok (.ifCond .eq 32, 3) := by decide +kernel
theorem dX6_isCross_16 : decode cX6_isCross 16 = .ok (.iload_n 2, 1) := by decide +kernel
theorem dX6_isCross_17 : decode cX6_isCross 17 = .ok (.ifCond .eq 28, 3) := by decide +kernel
theorem dX6_isCross_20 : decode cX6_isCross 20 = .ok (.iload_n 3, 1) := by decide +kernel
theorem dX6_isCross_21 : decode cX6_isCross 21 = .ok (.ldc 21, 2) := by decide +kernel
theorem dX6_isCross_23 : decode cX6_isCross 23 = .ok (.if_icmp .ge 22, 3) := by decide +kernel
theorem dX6_isCross_26 : decode cX6_isCross 26 = .ok (.aload_n 0, 1) := by decide +kernel
theorem dX6_isCross_27 : decode cX6_isCross 27 = .ok (.getfield 18, 3) := by decide +kernel
theorem dX6_isCross_30 : decode cX6_isCross 30 = .ok (.bipush 12, 2) := by decide +kernel
theorem dX6_isCross_32 : decode cX6_isCross 32 = .ok (.iload_n 1, 1) := by decide +kernel
theorem dX6_isCross_33 : decode cX6_isCross 33 = .ok (.imul, 1) := by decide +kernel
theorem dX6_isCross_34 : decode cX6_isCross 34 = .ok (.iload_n 2, 1) := by decide +kernel
theorem dX6_isCross_35 : decode cX6_isCross 35 = .ok (.iadd, 1) := by decide +kernel
theorem dX6_isCross_36 : decode cX6_isCross 36 = .ok (.iaload, 1) := by decide +kernel
theorem dX6_isCross_37 : decode cX6_isCross 37 = .ok (.iload_n 3, 1) := by decide +kernel
theorem dX6_isCross_38 : decode cX6_isCross 38 = .ok (.if_icmp .ne 7, 3) := by decide +kernel
theorem dX6_isCross_41 : decode cX6_isCross 41 = .ok (.iconst 1, 1) := by decide +kernel
theorem dX6_isCross_42 : decode cX6_isCross 42 = .ok (.goto 4, 3) := by decide +kernel
theorem dX6_isCross_45 : decode cX6_isCross 45 = .ok (.iconst 0, 1) := by decide +kernel
theorem dX6_isCross_46 : decode cX6_isCross 46 = .ok (.ireturn, 1) := by decide +kernel
theorem bX6_isCross_0 {d : Nat} {h0 hE h : ea_H} {rv : Option ea_V} {r0 : Option Nat} {x1 : Int32} {x2 : Int32} (H : ∃ a3, r0 = some a3 ∧ a3 < ea_n h ∧ ea_c h a3 = 6 ∧ ∃ a7, (ea_r h a3 2) = some a7 ∧ a7 < ea_n h ∧ ea_c h a7 = 20 ∧ vp_in (((12 : Int32) * x1) + x2) (ea_l h a7) ∧ (x1 = (0 : Int32) → rv = some (vI 0) ∧ hE = h) ∧ (¬ x1 = (0 : Int32) → (x2 = (0 : Int32) → rv = some (vI 0) ∧ hE = h) ∧ (¬ x2 = (0 : Int32) → ((1000000 : Int32) ≤ (ea_i h a7 (Int32.toNatClampNeg (((12 : Int32) * x1) + x2))) → rv = some (vI 0) ∧ hE = h) ∧ (¬ (1000000 : Int32) ≤ (ea_i h a7 (Int32.toNatClampNeg (((12 : Int32) * x1) + x2))) → a3 < ea_n h ∧ ea_c h a3 = 6 ∧ ∃ a14, (ea_r h a3 3) = some a14 ∧ a14 < ea_n h ∧ ea_c h a14 = 20 ∧ vp_in (((12 : Int32) * x1) + x2) (ea_l h a14) ∧ (¬ (ea_i h a14 (Int32.toNatClampNeg (((12 : Int32) * x1) + x2))) = (ea_i h a7 (Int32.toNatClampNeg (((12 : Int32) * x1) + x2))) → rv = some (vI 0) ∧ hE = h) ∧ ((ea_i h a14 (Int32.toNatClampNeg (((12 : Int32) * x1) + x2))) = (ea_i h a7 (Int32.toNatClampNeg (((12 : Int32) * x1) + x2))) → rv = some (vI 1) ∧ hE = h))))) : ea_W mX6_isCross d h0 rv hE 0 [(0, vR r0), (1, vI x1), (2, vI x2)] [] h := by
  refine ea_aload_n (pc := 0) dX6_isCross_0 rfl 0 rfl ?_
  obtain ⟨a3, e4, f1, g2, H⟩ := H
  refine ea_deref0 e4 ?_
  refine ea_getR (pc := 1) dX6_isCross_1 ec_6 (k := 2) (Nat.le_of_ble_eq_true rfl) rfl (Or.inl ew_159) f1 g2 rfl ?_
  refine ea_bipush (pc := 4) dX6_isCross_4 (v := 12) rfl ?_
  refine ea_iload_n (pc := 6) dX6_isCross_6 rfl 1 rfl ?_
  refine ea_imul (pc := 7) dX6_isCross_7 ?_
  refine ea_iload_n (pc := 8) dX6_isCross_8 rfl 2 rfl ?_
  refine ea_iadd (pc := 9) dX6_isCross_9 ?_
  obtain ⟨a7, e8, f5, g6, H⟩ := H
  refine ea_deref1 e8 ?_
  obtain ⟨z9, H⟩ := H
  refine ea_iald (pc := 10) dX6_isCross_10 f5 g6 z9 ?_
  refine ea_istore_n (pc := 11) (lv' := [(0, vR r0), (1, vI x1), (2, vI x2), (3, vI (ea_i h a7 (Int32.toNatClampNeg (((12 : Int32) * x1) + x2))))]) dX6_isCross_11 rfl (Nat.le_of_ble_eq_true rfl) [1, 2, 3, 0] rfl ?_
  refine ea_iload_n (pc := 12) dX6_isCross_12 rfl 1 rfl ?_
  refine ea_if_eq (pc := 13) (tgt := 45) dX6_isCross_13 rfl (fun c20 => ?_) (fun c20 => ?_)
  · have H := H.1 c20
    refine ea_iconst (pc := 45) dX6_isCross_45 (v := 0) rfl ?_
    obtain ⟨rfl, rfl⟩ := H
    exact ea_ireturn (pc := 46) dX6_isCross_46 rfl (ea_bn (Or.inl rfl))
  · have H := H.2 c20
    refine ea_iload_n (pc := 16) dX6_isCross_16 rfl 2 rfl ?_
    refine ea_if_eq (pc := 17) (tgt := 45) dX6_isCross_17 rfl (fun c19 => ?_) (fun c19 => ?_)
    · have H := H.1 c19
      refine ea_iconst (pc := 45) dX6_isCross_45 (v := 0) rfl ?_
      obtain ⟨rfl, rfl⟩ := H
      exact ea_ireturn (pc := 46) dX6_isCross_46 rfl (ea_bn (Or.inl rfl))
    · have H := H.2 c19
      refine ea_iload_n (pc := 20) dX6_isCross_20 rfl 3 rfl ?_
      refine ea_ldc (pc := 21) dX6_isCross_21 ew_142 ?_
      refine ea_icmp_ge (pc := 23) (tgt := 45) dX6_isCross_23 rfl (fun c18 => ?_) (fun c18 => ?_)
      · have H := H.1 c18
        refine ea_iconst (pc := 45) dX6_isCross_45 (v := 0) rfl ?_
        obtain ⟨rfl, rfl⟩ := H
        exact ea_ireturn (pc := 46) dX6_isCross_46 rfl (ea_bn (Or.inl rfl))
      · have H := H.2 c18
        refine ea_aload_n (pc := 26) dX6_isCross_26 rfl 0 rfl ?_
        obtain ⟨f10, g11, H⟩ := H
        refine ea_deref0 e4 ?_
        refine ea_getR (pc := 27) dX6_isCross_27 ec_6 (k := 3) (Nat.le_of_ble_eq_true rfl) rfl (Or.inl ew_160) f10 g11 rfl ?_
        refine ea_bipush (pc := 30) dX6_isCross_30 (v := 12) rfl ?_
        refine ea_iload_n (pc := 32) dX6_isCross_32 rfl 1 rfl ?_
        refine ea_imul (pc := 33) dX6_isCross_33 ?_
        refine ea_iload_n (pc := 34) dX6_isCross_34 rfl 2 rfl ?_
        refine ea_iadd (pc := 35) dX6_isCross_35 ?_
        obtain ⟨a14, e15, f12, g13, H⟩ := H
        refine ea_deref1 e15 ?_
        obtain ⟨z16, H⟩ := H
        refine ea_iald (pc := 36) dX6_isCross_36 f12 g13 z16 ?_
        refine ea_iload_n (pc := 37) dX6_isCross_37 rfl 3 rfl ?_
        refine ea_icmp_ne (pc := 38) (tgt := 45) dX6_isCross_38 rfl (fun c17 => ?_) (fun c17 => ?_)
        · have H := H.1 c17
          refine ea_iconst (pc := 45) dX6_isCross_45 (v := 0) rfl ?_
          obtain ⟨rfl, rfl⟩ := H
          exact ea_ireturn (pc := 46) dX6_isCross_46 rfl (ea_bn (Or.inl rfl))
        · have H := H.2 c17
          refine ea_iconst (pc := 41) dX6_isCross_41 (v := 1) rfl ?_
          refine ea_goto (pc := 42) (tgt := 46) dX6_isCross_42 rfl ?_
          obtain ⟨rfl, rfl⟩ := H
          exact ea_ireturn (pc := 46) dX6_isCross_46 rfl (ea_bn (Or.inr rfl))
theorem dX6_reckon_0 : decode cX6_reckon 0 = .ok (.aload_n 0, 1) := by decide +kernel
theorem dX6_reckon_1 : decode cX6_reckon 1 = .ok (.getfield 9, 3) := by decide +kernel
theorem dX6_reckon_4 : decode cX6_reckon 4 = .ok (.iconst 0, 1) := by decide +kernel
theorem dX6_reckon_5 : decode cX6_reckon 5 = .ok (.aload_n 1, 1) := by decide +kernel
theorem dX6_reckon_6 : decode cX6_reckon 6 = .ok (.iconst 0, 1) := by decide +kernel
theorem dX6_reckon_7 : decode cX6_reckon 7 = .ok (.sipush 144, 3) := by decide +kernel
theorem dX6_reckon_10 : decode cX6_reckon 10 = .ok (.invokestatic 35, 3) := by decide +kernel
theorem dX6_reckon_13 : decode cX6_reckon 13 = .ok (.iload_n 2, 1) := by decide +kernel
theorem dX6_reckon_14 : decode cX6_reckon 14 = .ok (.istore_n 3, 1) := by decide +kernel
theorem dX6_reckon_15 : decode cX6_reckon 15 = .ok (.iload_n 3, 1) := by decide +kernel
theorem dX6_reckon_16 : decode cX6_reckon 16 = .ok (.bipush 12, 2) := by decide +kernel
theorem dX6_reckon_18 : decode cX6_reckon 18 = .ok (.if_icmp .ge 87, 3) := by decide +kernel
theorem dX6_reckon_21 : decode cX6_reckon 21 = .ok (.iconst 0, 1) := by decide +kernel
theorem dX6_reckon_22 : decode cX6_reckon 22 = .ok (.istore 4, 2) := by decide +kernel
theorem dX6_reckon_24 : decode cX6_reckon 24 = .ok (.iload 4, 2) := by decide +kernel
theorem dX6_reckon_26 : decode cX6_reckon 26 = .ok (.bipush 12, 2) := by decide +kernel
theorem dX6_reckon_28 : decode cX6_reckon 28 = .ok (.if_icmp .ge 71, 3) := by decide +kernel
theorem dX6_reckon_31 : decode cX6_reckon 31 = .ok (.iconst 0, 1) := by decide +kernel
theorem dX6_reckon_32 : decode cX6_reckon 32 = .ok (.istore 5, 2) := by decide +kernel
theorem dX6_reckon_34 : decode cX6_reckon 34 = .ok (.iload 5, 2) := by decide +kernel
theorem dX6_reckon_36 : decode cX6_reckon 36 = .ok (.bipush 12, 2) := by decide +kernel
theorem dX6_reckon_38 : decode cX6_reckon 38 = .ok (.if_icmp .ge 55, 3) := by decide +kernel
theorem dX6_reckon_41 : decode cX6_reckon 41 = .ok (.aload_n 1, 1) := by decide +kernel
theorem dX6_reckon_42 : decode cX6_reckon 42 = .ok (.bipush 12, 2) := by decide +kernel
theorem dX6_reckon_44 : decode cX6_reckon 44 = .ok (.iload 4, 2) := by decide +kernel
theorem dX6_reckon_46 : decode cX6_reckon 46 = .ok (.imul, 1) := by decide +kernel
theorem dX6_reckon_47 : decode cX6_reckon 47 = .ok (.iload_n 3, 1) := by decide +kernel
theorem dX6_reckon_48 : decode cX6_reckon 48 = .ok (.iadd, 1) := by decide +kernel
theorem dX6_reckon_49 : decode cX6_reckon 49 = .ok (.iaload, 1) := by decide +kernel
theorem dX6_reckon_50 : decode cX6_reckon 50 = .ok (.aload_n 1, 1) := by decide +kernel
theorem dX6_reckon_51 : decode cX6_reckon 51 = .ok (.bipush 12, 2) := by decide +kernel
theorem dX6_reckon_53 : decode cX6_reckon 53 = .ok (.iload_n 3, 1) := by decide +kernel
theorem dX6_reckon_54 : decode cX6_reckon 54 = .ok (.imul, 1) := by decide +kernel
theorem dX6_reckon_55 : decode cX6_reckon 55 = .ok (.iload 5, 2) := by decide +kernel
theorem dX6_reckon_57 : decode cX6_reckon 57 = .ok (.iadd, 1) := by decide +kernel
theorem dX6_reckon_58 : decode cX6_reckon 58 = .ok (.iaload, 1) := by decide +kernel
theorem dX6_reckon_59 : decode cX6_reckon 59 = .ok (.iadd, 1) := by decide +kernel
theorem dX6_reckon_60 : decode cX6_reckon 60 = .ok (.istore 6, 2) := by decide +kernel
theorem dX6_reckon_62 : decode cX6_reckon 62 = .ok (.aload_n 1, 1) := by decide +kernel
theorem dX6_reckon_63 : decode cX6_reckon 63 = .ok (.bipush 12, 2) := by decide +kernel
theorem dX6_reckon_65 : decode cX6_reckon 65 = .ok (.iload 4, 2) := by decide +kernel
theorem dX6_reckon_67 : decode cX6_reckon 67 = .ok (.imul, 1) := by decide +kernel
theorem dX6_reckon_68 : decode cX6_reckon 68 = .ok (.iload 5, 2) := by decide +kernel
theorem dX6_reckon_70 : decode cX6_reckon 70 = .ok (.iadd, 1) := by decide +kernel
theorem dX6_reckon_71 : decode cX6_reckon 71 = .ok (.aload_n 1, 1) := by decide +kernel
theorem dX6_reckon_72 : decode cX6_reckon 72 = .ok (.bipush 12, 2) := by decide +kernel
theorem dX6_reckon_74 : decode cX6_reckon 74 = .ok (.iload 4, 2) := by decide +kernel
theorem dX6_reckon_76 : decode cX6_reckon 76 = .ok (.imul, 1) := by decide +kernel
theorem dX6_reckon_77 : decode cX6_reckon 77 = .ok (.iload 5, 2) := by decide +kernel
theorem dX6_reckon_79 : decode cX6_reckon 79 = .ok (.iadd, 1) := by decide +kernel
theorem dX6_reckon_80 : decode cX6_reckon 80 = .ok (.iaload, 1) := by decide +kernel
theorem dX6_reckon_81 : decode cX6_reckon 81 = .ok (.iload 6, 2) := by decide +kernel
theorem dX6_reckon_83 : decode cX6_reckon 83 = .ok (.invokestatic 41, 3) := by decide +kernel
theorem dX6_reckon_86 : decode cX6_reckon 86 = .ok (.iastore, 1) := by decide +kernel
theorem dX6_reckon_87 : decode cX6_reckon 87 = .ok (.iinc 5 1, 3) := by decide +kernel
theorem dX6_reckon_90 : decode cX6_reckon 90 = .ok (.goto (-56), 3) := by decide +kernel
theorem dX6_reckon_93 : decode cX6_reckon 93 = .ok (.iinc 4 1, 3) := by decide +kernel
theorem dX6_reckon_96 : decode cX6_reckon 96 = .ok (.goto (-72), 3) := by decide +kernel
theorem dX6_reckon_99 : decode cX6_reckon 99 = .ok (.iinc 3 1, 3) := by decide +kernel
theorem dX6_reckon_102 : decode cX6_reckon 102 = .ok (.goto (-87), 3) := by decide +kernel
theorem dX6_reckon_105 : decode cX6_reckon 105 = .ok (.return_, 1) := by decide +kernel
theorem bX6_reckon_0 {d : Nat} {h0 hE h : ea_H} {rv : Option ea_V} {r0 : Option Nat} {r1 : Option Nat} {x2 : Int32} (H : ∃ a3, r0 = some a3 ∧ a3 < ea_n h ∧ ea_c h a3 = 6 ∧ False) : ea_W mX6_reckon d h0 rv hE 0 [(0, vR r0), (1, vR r1), (2, vI x2)] [] h := by
  refine ea_aload_n (pc := 0) dX6_reckon_0 rfl 0 rfl ?_
  obtain ⟨a3, e4, f1, g2, H⟩ := H
  refine ea_deref0 e4 ?_
  refine ea_getR (pc := 1) dX6_reckon_1 ec_6 (k := 1) (Nat.le_of_ble_eq_true rfl) rfl (Or.inl ew_158) f1 g2 rfl ?_
  refine ea_iconst (pc := 4) dX6_reckon_4 (v := 0) rfl ?_
  refine ea_aload_n (pc := 5) dX6_reckon_5 rfl 1 rfl ?_
  refine ea_iconst (pc := 6) dX6_reckon_6 (v := 0) rfl ?_
  refine ea_sipush (pc := 7) dX6_reckon_7 (v := 144) rfl ?_
  exact H.elim
theorem bX6_reckon_15 {d : Nat} {h0 hE h : ea_H} {rv : Option ea_V} {r1 : Option Nat} {x3 : Int32} (H : ((12 : Int32) ≤ x3 → rv = none ∧ hE = h) ∧ (¬ (12 : Int32) ≤ x3 → ea_W mX6_reckon d h0 rv hE 24 [(1, vR r1), (3, vI x3), (4, vI 0)] [] h)) : ea_W mX6_reckon d h0 rv hE 15 [(1, vR r1), (3, vI x3)] [] h := by
  refine ea_iload_n (pc := 15) dX6_reckon_15 rfl 1 rfl ?_
  refine ea_bipush (pc := 16) dX6_reckon_16 (v := 12) rfl ?_
  refine ea_icmp_ge (pc := 18) (tgt := 105) dX6_reckon_18 rfl (fun c1 => ?_) (fun c1 => ?_)
  · have H := H.1 c1
    obtain ⟨rfl, rfl⟩ := H
    exact ea_return (pc := 105) dX6_reckon_105 rfl
  · have H := H.2 c1
    refine ea_iconst (pc := 21) dX6_reckon_21 (v := 0) rfl ?_
    refine ea_istore (pc := 22) (lv' := [(1, vR r1), (3, vI x3), (4, vI 0)]) dX6_reckon_22 (Nat.le_of_ble_eq_true rfl) [1, 2, 0] rfl ?_
    exact H
theorem bX6_reckon_24 {d : Nat} {h0 hE h : ea_H} {rv : Option ea_V} {r1 : Option Nat} {x3 : Int32} {x4 : Int32} (H : ((12 : Int32) ≤ x4 → ea_W mX6_reckon d h0 rv hE 15 [(1, vR r1), (3, vI (x3 + 1))] [] h) ∧ (¬ (12 : Int32) ≤ x4 → ea_W mX6_reckon d h0 rv hE 34 [(1, vR r1), (3, vI x3), (4, vI x4), (5, vI 0)] [] h)) : ea_W mX6_reckon d h0 rv hE 24 [(1, vR r1), (3, vI x3), (4, vI x4)] [] h := by
  refine ea_iload (pc := 24) dX6_reckon_24 2 rfl ?_
  refine ea_bipush (pc := 26) dX6_reckon_26 (v := 12) rfl ?_
  refine ea_icmp_ge (pc := 28) (tgt := 99) dX6_reckon_28 rfl (fun c1 => ?_) (fun c1 => ?_)
  · have H := H.1 c1
    refine ea_iinc (pc := 99) (v := 1) (lv' := [(1, vR r1), (3, vI (x3 + 1))]) dX6_reckon_99 1 rfl rfl (Nat.le_of_ble_eq_true rfl) [1, 0] rfl ?_
    refine ea_goto (pc := 102) (tgt := 15) dX6_reckon_102 rfl ?_
    exact H
  · have H := H.2 c1
    refine ea_iconst (pc := 31) dX6_reckon_31 (v := 0) rfl ?_
    refine ea_istore (pc := 32) (lv' := [(1, vR r1), (3, vI x3), (4, vI x4), (5, vI 0)]) dX6_reckon_32 (Nat.le_of_ble_eq_true rfl) [1, 2, 3, 0] rfl ?_
    exact H
theorem bX6_reckon_34 {d : Nat} {h0 hE h : ea_H} {rv : Option ea_V} {r1 : Option Nat} {x3 : Int32} {x4 : Int32} {x5 : Int32} (H : ((12 : Int32) ≤ x5 → ea_W mX6_reckon d h0 rv hE 24 [(1, vR r1), (3, vI x3), (4, vI (x4 + 1))] [] h) ∧ (¬ (12 : Int32) ≤ x5 → ∃ a3, r1 = some a3 ∧ a3 < ea_n h ∧ ea_c h a3 = 20 ∧ vp_in (((12 : Int32) * x4) + x3) (ea_l h a3) ∧ a3 < ea_n h ∧ ea_c h a3 = 20 ∧ vp_in (((12 : Int32) * x3) + x5) (ea_l h a3) ∧ a3 < ea_n h ∧ ea_c h a3 = 20 ∧ vp_in (((12 : Int32) * x4) + x5) (ea_l h a3) ∧ ∃ (d12 : Nat) (xc16 : Int32) (h13 : ea_H), ea_Met mJ9_min_7cf53 d12 [vI (ea_i h a3 (Int32.toNatClampNeg (((12 : Int32) * x4) + x5))), vI ((ea_i h a3 (Int32.toNatClampNeg (((12 : Int32) * x4) + x3))) + (ea_i h a3 (Int32.toNatClampNeg (((12 : Int32) * x3) + x5))))] h (some (vI xc16)) h13 ∧ d12 + 1 ≤ d ∧ a3 < ea_n h13 ∧ ea_c h13 a3 = 20 ∧ vp_in (((12 : Int32) * x4) + x5) (ea_l h13 a3) ∧ ∀ h20, h20 = ea_wi h13 a3 (Int32.toNatClampNeg (((12 : Int32) * x4) + x5)) xc16 → ea_W mX6_reckon d h0 rv hE 34 [(1, vR r1), (3, vI x3), (4, vI x4), (5, vI (x5 + 1))] [] h20)) : ea_W mX6_reckon d h0 rv hE 34 [(1, vR r1), (3, vI x3), (4, vI x4), (5, vI x5)] [] h := by
  refine ea_iload (pc := 34) dX6_reckon_34 3 rfl ?_
  refine ea_bipush (pc := 36) dX6_reckon_36 (v := 12) rfl ?_
  refine ea_icmp_ge (pc := 38) (tgt := 93) dX6_reckon_38 rfl (fun c22 => ?_) (fun c22 => ?_)
  · have H := H.1 c22
    refine ea_iinc (pc := 93) (v := 1) (lv' := [(1, vR r1), (3, vI x3), (4, vI (x4 + 1))]) dX6_reckon_93 2 rfl rfl (Nat.le_of_ble_eq_true rfl) [1, 2, 0] rfl ?_
    refine ea_goto (pc := 96) (tgt := 24) dX6_reckon_96 rfl ?_
    exact H
  · have H := H.2 c22
    refine ea_aload_n (pc := 41) dX6_reckon_41 rfl 0 rfl ?_
    refine ea_bipush (pc := 42) dX6_reckon_42 (v := 12) rfl ?_
    refine ea_iload (pc := 44) dX6_reckon_44 2 rfl ?_
    refine ea_imul (pc := 46) dX6_reckon_46 ?_
    refine ea_iload_n (pc := 47) dX6_reckon_47 rfl 1 rfl ?_
    refine ea_iadd (pc := 48) dX6_reckon_48 ?_
    obtain ⟨a3, e4, f1, g2, H⟩ := H
    refine ea_deref1 e4 ?_
    obtain ⟨z5, H⟩ := H
    refine ea_iald (pc := 49) dX6_reckon_49 f1 g2 z5 ?_
    refine ea_aload_n (pc := 50) dX6_reckon_50 rfl 0 rfl ?_
    refine ea_bipush (pc := 51) dX6_reckon_51 (v := 12) rfl ?_
    refine ea_iload_n (pc := 53) dX6_reckon_53 rfl 1 rfl ?_
    refine ea_imul (pc := 54) dX6_reckon_54 ?_
    refine ea_iload (pc := 55) dX6_reckon_55 3 rfl ?_
    refine ea_iadd (pc := 57) dX6_reckon_57 ?_
    obtain ⟨f6, g7, H⟩ := H
    refine ea_deref1 e4 ?_
    obtain ⟨z8, H⟩ := H
    refine ea_iald (pc := 58) dX6_reckon_58 f6 g7 z8 ?_
    refine ea_iadd (pc := 59) dX6_reckon_59 ?_
    refine ea_istore (pc := 60) (lv' := [(1, vR r1), (3, vI x3), (4, vI x4), (5, vI x5), (6, vI ((ea_i h a3 (Int32.toNatClampNeg (((12 : Int32) * x4) + x3))) + (ea_i h a3 (Int32.toNatClampNeg (((12 : Int32) * x3) + x5)))))]) dX6_reckon_60 (Nat.le_of_ble_eq_true rfl) [1, 2, 3, 4, 0] rfl ?_
    refine ea_aload_n (pc := 62) dX6_reckon_62 rfl 0 rfl ?_
    refine ea_bipush (pc := 63) dX6_reckon_63 (v := 12) rfl ?_
    refine ea_iload (pc := 65) dX6_reckon_65 2 rfl ?_
    refine ea_imul (pc := 67) dX6_reckon_67 ?_
    refine ea_iload (pc := 68) dX6_reckon_68 3 rfl ?_
    refine ea_iadd (pc := 70) dX6_reckon_70 ?_
    refine ea_aload_n (pc := 71) dX6_reckon_71 rfl 0 rfl ?_
    refine ea_bipush (pc := 72) dX6_reckon_72 (v := 12) rfl ?_
    refine ea_iload (pc := 74) dX6_reckon_74 2 rfl ?_
    refine ea_imul (pc := 76) dX6_reckon_76 ?_
    refine ea_iload (pc := 77) dX6_reckon_77 3 rfl ?_
    refine ea_iadd (pc := 79) dX6_reckon_79 ?_
    obtain ⟨f9, g10, H⟩ := H
    refine ea_deref1 e4 ?_
    obtain ⟨z11, H⟩ := H
    refine ea_iald (pc := 80) dX6_reckon_80 f9 g10 z11 ?_
    refine ea_iload (pc := 81) dX6_reckon_81 4 rfl ?_
    obtain ⟨d12, xc16, h13, m14, q15, H⟩ := H
    refine ea_callS (pc := 83) (As := [vI (ea_i h a3 (Int32.toNatClampNeg (((12 : Int32) * x4) + x5))), vI ((ea_i h a3 (Int32.toNatClampNeg (((12 : Int32) * x4) + x3))) + (ea_i h a3 (Int32.toNatClampNeg (((12 : Int32) * x3) + x5))))]) (st := [vI (((12 : Int32) * x4) + x5), vR r1]) dX6_reckon_83 kJ9_min_7cf53 m14 q15 rfl (Nat.le_of_ble_eq_true rfl) ew_153 ew_154 ?_
    obtain ⟨f17, g18, H⟩ := H
    refine ea_deref2 e4 ?_
    obtain ⟨z19, H⟩ := H
    refine ea_iast (pc := 86) dX6_reckon_86 f17 g18 z19 ?_
    obtain ⟨h20, E21⟩ : ∃ z, z = ea_wi h13 a3 (Int32.toNatClampNeg (((12 : Int32) * x4) + x5)) xc16 := ⟨_, rfl⟩
    have H := H h20 E21
    refine ea_nm E21 ?_
    refine ea_iinc (pc := 87) (v := 1) (lv' := [(1, vR r1), (3, vI x3), (4, vI x4), (5, vI (x5 + 1))]) dX6_reckon_87 3 rfl rfl (Nat.le_of_ble_eq_true rfl) [1, 2, 3, 0] rfl ?_
    refine ea_goto (pc := 90) (tgt := 34) dX6_reckon_90 rfl ?_
    exact H
theorem dX9_init_0 : decode cX9_init 0 = .ok (.aload_n 0, 1) := by decide +kernel
theorem dX9_init_1 : decode cX9_init 1 = .ok (.invokespecial 3, 3) := by decide +kernel
theorem dX9_init_4 : decode cX9_init 4 = .ok (.aload_n 0, 1) := by decide +kernel
theorem dX9_init_5 : decode cX9_init 5 = .ok (.bipush 10, 2) := by decide +kernel
theorem dX9_init_7 : decode cX9_init 7 = .ok (.newarray .int, 2) := by decide +kernel
theorem dX9_init_9 : decode cX9_init 9 = .ok (.putfield 9, 3) := by decide +kernel
theorem dX9_init_12 : decode cX9_init 12 = .ok (.aload_n 0, 1) := by decide +kernel
theorem dX9_init_13 : decode cX9_init 13 = .ok (.bipush 80, 2) := by decide +kernel
theorem dX9_init_15 : decode cX9_init 15 = .ok (.newarray .int, 2) := by decide +kernel
theorem dX9_init_17 : decode cX9_init 17 = .ok (.putfield 15, 3) := by decide +kernel
theorem dX9_init_20 : decode cX9_init 20 = .ok (.aload_n 0, 1) := by decide +kernel
theorem dX9_init_21 : decode cX9_init 21 = .ok (.bipush 80, 2) := by decide +kernel
theorem dX9_init_23 : decode cX9_init 23 = .ok (.newarray .int, 2) := by decide +kernel
theorem dX9_init_25 : decode cX9_init 25 = .ok (.putfield 18, 3) := by decide +kernel
theorem dX9_init_28 : decode cX9_init 28 = .ok (.aload_n 0, 1) := by decide +kernel
theorem dX9_init_29 : decode cX9_init 29 = .ok (.bipush 80, 2) := by decide +kernel
theorem dX9_init_31 : decode cX9_init 31 = .ok (.newarray .int, 2) := by decide +kernel
theorem dX9_init_33 : decode cX9_init 33 = .ok (.putfield 21, 3) := by decide +kernel
theorem dX9_init_36 : decode cX9_init 36 = .ok (.aload_n 0, 1) := by decide +kernel
theorem dX9_init_37 : decode cX9_init 37 = .ok (.bipush 80, 2) := by decide +kernel
theorem dX9_init_39 : decode cX9_init 39 = .ok (.newarray .boolean, 2) := by decide +kernel
theorem dX9_init_41 : decode cX9_init 41 = .ok (.putfield 24, 3) := by decide +kernel
theorem dX9_init_44 : decode cX9_init 44 = .ok (.aload_n 0, 1) := by decide +kernel
theorem dX9_init_45 : decode cX9_init 45 = .ok (.bipush 70, 2) := by decide +kernel
theorem dX9_init_47 : decode cX9_init 47 = .ok (.newarray .int, 2) := by decide +kernel
theorem dX9_init_49 : decode cX9_init 49 = .ok (.putfield 28, 3) := by decide +kernel
theorem dX9_init_52 : decode cX9_init 52 = .ok (.aload_n 0, 1) := by decide +kernel
theorem dX9_init_53 : decode cX9_init 53 = .ok (.sipush 560, 3) := by decide +kernel
theorem dX9_init_56 : decode cX9_init 56 = .ok (.newarray .boolean, 2) := by decide +kernel
theorem dX9_init_58 : decode cX9_init 58 = .ok (.putfield 31, 3) := by decide +kernel
theorem dX9_init_61 : decode cX9_init 61 = .ok (.return_, 1) := by decide +kernel
theorem bX9_init_0 {d : Nat} {h0 hE h : ea_H} {rv : Option ea_V} {r0 : Option Nat} (H : 1 ≤ d ∧ ∃ a46, r0 = some a46 ∧ ∀ h48, h48 = ea_new h 20 10 10 → a46 < ea_n h48 ∧ ea_c h48 a46 = 9 ∧ ∀ h52, h52 = ea_wr h48 a46 1 (some (ea_n h)) → ∀ h54, h54 = ea_new h52 20 80 80 → a46 < ea_n h54 ∧ ea_c h54 a46 = 9 ∧ ∀ h58, h58 = ea_wr h54 a46 2 (some (ea_n h52)) → ∀ h60, h60 = ea_new h58 20 80 80 → a46 < ea_n h60 ∧ ea_c h60 a46 = 9 ∧ ∀ h64, h64 = ea_wr h60 a46 3 (some (ea_n h58)) → ∀ h66, h66 = ea_new h64 20 80 80 → a46 < ea_n h66 ∧ ea_c h66 a46 = 9 ∧ ∀ h70, h70 = ea_wr h66 a46 4 (some (ea_n h64)) → ∀ h72, h72 = ea_new h70 21 80 80 → a46 < ea_n h72 ∧ ea_c h72 a46 = 9 ∧ ∀ h76, h76 = ea_wr h72 a46 5 (some (ea_n h70)) → ∀ h78, h78 = ea_new h76 20 70 70 → a46 < ea_n h78 ∧ ea_c h78 a46 = 9 ∧ ∀ h82, h82 = ea_wr h78 a46 6 (some (ea_n h76)) → ∀ h84, h84 = ea_new h82 21 560 560 → a46 < ea_n h84 ∧ ea_c h84 a46 = 9 ∧ ∀ h88, h88 = ea_wr h84 a46 7 (some (ea_n h82)) → rv = none ∧ hE = h88) : ea_W mX9_init d h0 rv hE 0 [(0, vR r0)] [] h := by
  refine ea_aload_n (pc := 0) dX9_init_0 rfl 0 rfl ?_
  obtain ⟨z45, a46, e47, H⟩ := H
  refine ea_deref0 e47 ?_
  refine ea_objInit (pc := 1) dX9_init_1 ew_176 ew_134 ew_135 z45 (Nat.le_of_ble_eq_true rfl) ?_
  refine ea_aload_n (pc := 4) dX9_init_4 rfl 0 rfl ?_
  refine ea_bipush (pc := 5) dX9_init_5 (v := 10) rfl ?_
  refine ea_newI (pc := 7) (N := 10) dX9_init_7 ew_170 (by decide) rfl (Nat.le_of_ble_eq_true rfl) ?_
  obtain ⟨h48, E49⟩ : ∃ z, z = ea_new h 20 10 10 := ⟨_, rfl⟩
  have H := H h48 E49
  refine ea_nm E49 ?_
  obtain ⟨f50, g51, H⟩ := H
  refine ea_deref1 e47 ?_
  refine ea_putR (pc := 9) dX9_init_9 ec_9 (k := 1) (Nat.le_of_ble_eq_true rfl) rfl (Or.inr ⟨rfl, rfl, rfl, ew_180⟩) f50 g51 ?_
  obtain ⟨h52, E53⟩ : ∃ z, z = ea_wr h48 a46 1 (some (ea_n h)) := ⟨_, rfl⟩
  have H := H h52 E53
  refine ea_nm E53 ?_
  refine ea_aload_n (pc := 12) dX9_init_12 rfl 0 rfl ?_
  refine ea_bipush (pc := 13) dX9_init_13 (v := 80) rfl ?_
  refine ea_newI (pc := 15) (N := 80) dX9_init_15 ew_170 (by decide) rfl (Nat.le_of_ble_eq_true rfl) ?_
  obtain ⟨h54, E55⟩ : ∃ z, z = ea_new h52 20 80 80 := ⟨_, rfl⟩
  have H := H h54 E55
  refine ea_nm E55 ?_
  obtain ⟨f56, g57, H⟩ := H
  refine ea_deref1 e47 ?_
  refine ea_putR (pc := 17) dX9_init_17 ec_9 (k := 2) (Nat.le_of_ble_eq_true rfl) rfl (Or.inr ⟨rfl, rfl, rfl, ew_184⟩) f56 g57 ?_
  obtain ⟨h58, E59⟩ : ∃ z, z = ea_wr h54 a46 2 (some (ea_n h52)) := ⟨_, rfl⟩
  have H := H h58 E59
  refine ea_nm E59 ?_
  refine ea_aload_n (pc := 20) dX9_init_20 rfl 0 rfl ?_
  refine ea_bipush (pc := 21) dX9_init_21 (v := 80) rfl ?_
  refine ea_newI (pc := 23) (N := 80) dX9_init_23 ew_170 (by decide) rfl (Nat.le_of_ble_eq_true rfl) ?_
  obtain ⟨h60, E61⟩ : ∃ z, z = ea_new h58 20 80 80 := ⟨_, rfl⟩
  have H := H h60 E61
  refine ea_nm E61 ?_
  obtain ⟨f62, g63, H⟩ := H
  refine ea_deref1 e47 ?_
  refine ea_putR (pc := 25) dX9_init_25 ec_9 (k := 3) (Nat.le_of_ble_eq_true rfl) rfl (Or.inr ⟨rfl, rfl, rfl, ew_188⟩) f62 g63 ?_
  obtain ⟨h64, E65⟩ : ∃ z, z = ea_wr h60 a46 3 (some (ea_n h58)) := ⟨_, rfl⟩
  have H := H h64 E65
  refine ea_nm E65 ?_
  refine ea_aload_n (pc := 28) dX9_init_28 rfl 0 rfl ?_
  refine ea_bipush (pc := 29) dX9_init_29 (v := 80) rfl ?_
  refine ea_newI (pc := 31) (N := 80) dX9_init_31 ew_170 (by decide) rfl (Nat.le_of_ble_eq_true rfl) ?_
  obtain ⟨h66, E67⟩ : ∃ z, z = ea_new h64 20 80 80 := ⟨_, rfl⟩
  have H := H h66 E67
  refine ea_nm E67 ?_
  obtain ⟨f68, g69, H⟩ := H
  refine ea_deref1 e47 ?_
  refine ea_putR (pc := 33) dX9_init_33 ec_9 (k := 4) (Nat.le_of_ble_eq_true rfl) rfl (Or.inr ⟨rfl, rfl, rfl, ew_191⟩) f68 g69 ?_
  obtain ⟨h70, E71⟩ : ∃ z, z = ea_wr h66 a46 4 (some (ea_n h64)) := ⟨_, rfl⟩
  have H := H h70 E71
  refine ea_nm E71 ?_
  refine ea_aload_n (pc := 36) dX9_init_36 rfl 0 rfl ?_
  refine ea_bipush (pc := 37) dX9_init_37 (v := 80) rfl ?_
  refine ea_newZ (pc := 39) (N := 80) dX9_init_39 ew_218 (by decide) rfl (Nat.le_of_ble_eq_true rfl) ?_
  obtain ⟨h72, E73⟩ : ∃ z, z = ea_new h70 21 80 80 := ⟨_, rfl⟩
  have H := H h72 E73
  refine ea_nm E73 ?_
  obtain ⟨f74, g75, H⟩ := H
  refine ea_deref1 e47 ?_
  refine ea_putR (pc := 41) dX9_init_41 ec_9 (k := 5) (Nat.le_of_ble_eq_true rfl) rfl (Or.inr ⟨rfl, rfl, rfl, ew_194⟩) f74 g75 ?_
  obtain ⟨h76, E77⟩ : ∃ z, z = ea_wr h72 a46 5 (some (ea_n h70)) := ⟨_, rfl⟩
  have H := H h76 E77
  refine ea_nm E77 ?_
  refine ea_aload_n (pc := 44) dX9_init_44 rfl 0 rfl ?_
  refine ea_bipush (pc := 45) dX9_init_45 (v := 70) rfl ?_
  refine ea_newI (pc := 47) (N := 70) dX9_init_47 ew_170 (by decide) rfl (Nat.le_of_ble_eq_true rfl) ?_
  obtain ⟨h78, E79⟩ : ∃ z, z = ea_new h76 20 70 70 := ⟨_, rfl⟩
  have H := H h78 E79
  refine ea_nm E79 ?_
  obtain ⟨f80, g81, H⟩ := H
  refine ea_deref1 e47 ?_
  refine ea_putR (pc := 49) dX9_init_49 ec_9 (k := 6) (Nat.le_of_ble_eq_true rfl) rfl (Or.inr ⟨rfl, rfl, rfl, ew_196⟩) f80 g81 ?_
  obtain ⟨h82, E83⟩ : ∃ z, z = ea_wr h78 a46 6 (some (ea_n h76)) := ⟨_, rfl⟩
  have H := H h82 E83
  refine ea_nm E83 ?_
  refine ea_aload_n (pc := 52) dX9_init_52 rfl 0 rfl ?_
  refine ea_sipush (pc := 53) dX9_init_53 (v := 560) rfl ?_
  refine ea_newZ (pc := 56) (N := 560) dX9_init_56 ew_218 (by decide) rfl (Nat.le_of_ble_eq_true rfl) ?_
  obtain ⟨h84, E85⟩ : ∃ z, z = ea_new h82 21 560 560 := ⟨_, rfl⟩
  have H := H h84 E85
  refine ea_nm E85 ?_
  obtain ⟨f86, g87, H⟩ := H
  refine ea_deref1 e47 ?_
  refine ea_putR (pc := 58) dX9_init_58 ec_9 (k := 7) (Nat.le_of_ble_eq_true rfl) rfl (Or.inr ⟨rfl, rfl, rfl, ew_198⟩) f86 g87 ?_
  obtain ⟨h88, E89⟩ : ∃ z, z = ea_wr h84 a46 7 (some (ea_n h82)) := ⟨_, rfl⟩
  have H := H h88 E89
  refine ea_nm E89 ?_
  obtain ⟨rfl, rfl⟩ := H
  exact ea_return (pc := 61) dX9_init_61 rfl
theorem dX9_has_0 : decode cX9_has 0 = .ok (.iload_n 1, 1) := by decide +kernel
theorem dX9_has_1 : decode cX9_has 1 = .ok (.ifCond .lt 15, 3) := by decide +kernel
theorem dX9_has_4 : decode cX9_has 4 = .ok (.iload_n 1, 1) := by decide +kernel
theorem dX9_has_5 : decode cX9_has 5 = .ok (.aload_n 0, 1) := by decide +kernel
theorem dX9_has_6 : decode cX9_has 6 = .ok (.getfield 34, 3) := by decide +kernel
theorem dX9_has_9 : decode cX9_has 9 = .ok (.if_icmp .ge 7, 3) := by decide +kernel
theorem dX9_has_12 : decode cX9_has 12 = .ok (.iconst 1, 1) := by decide +kernel
theorem dX9_has_13 : decode cX9_has 13 = .ok (.goto 4, 3) := by decide +kernel
theorem dX9_has_16 : decode cX9_has 16 = .ok (.iconst 0, 1) := by decide +kernel
theorem dX9_has_17 : decode cX9_has 17 = .ok (.ireturn, 1) := by decide +kernel
theorem bX9_has_0 {d : Nat} {h0 hE h : ea_H} {rv : Option ea_V} {r0 : Option Nat} {x1 : Int32} (H : (x1 < (0 : Int32) → rv = some (vI 0) ∧ hE = h) ∧ (¬ x1 < (0 : Int32) → ∃ a3, r0 = some a3 ∧ a3 < ea_n h ∧ ea_c h a3 = 9 ∧ ((ea_i h a3 0) ≤ x1 → rv = some (vI 0) ∧ hE = h) ∧ (¬ (ea_i h a3 0) ≤ x1 → rv = some (vI 1) ∧ hE = h))) : ea_W mX9_has d h0 rv hE 0 [(0, vR r0), (1, vI x1)] [] h := by
  refine ea_iload_n (pc := 0) dX9_has_0 rfl 1 rfl ?_
  refine ea_if_lt (pc := 1) (tgt := 16) dX9_has_1 rfl (fun c6 => ?_) (fun c6 => ?_)
  · have H := H.1 c6
    refine ea_iconst (pc := 16) dX9_has_16 (v := 0) rfl ?_
    obtain ⟨rfl, rfl⟩ := H
    exact ea_ireturn (pc := 17) dX9_has_17 rfl (ea_bn (Or.inl rfl))
  · have H := H.2 c6
    refine ea_iload_n (pc := 4) dX9_has_4 rfl 1 rfl ?_
    refine ea_aload_n (pc := 5) dX9_has_5 rfl 0 rfl ?_
    obtain ⟨a3, e4, f1, g2, H⟩ := H
    refine ea_deref0 e4 ?_
    refine ea_getI (pc := 6) dX9_has_6 ec_9 (k := 0) (Nat.le_of_ble_eq_true rfl) rfl (Or.inl ew_177) f1 g2 ?_
    refine ea_icmp_ge (pc := 9) (tgt := 16) dX9_has_9 rfl (fun c5 => ?_) (fun c5 => ?_)
    · have H := H.1 c5
      refine ea_iconst (pc := 16) dX9_has_16 (v := 0) rfl ?_
      obtain ⟨rfl, rfl⟩ := H
      exact ea_ireturn (pc := 17) dX9_has_17 rfl (ea_bn (Or.inl rfl))
    · have H := H.2 c5
      refine ea_iconst (pc := 12) dX9_has_12 (v := 1) rfl ?_
      refine ea_goto (pc := 13) (tgt := 17) dX9_has_13 rfl ?_
      obtain ⟨rfl, rfl⟩ := H
      exact ea_ireturn (pc := 17) dX9_has_17 rfl (ea_bn (Or.inr rfl))
theorem dX9_hasRun_0 : decode cX9_hasRun 0 = .ok (.aload_n 0, 1) := by decide +kernel
theorem dX9_hasRun_1 : decode cX9_hasRun 1 = .ok (.iload_n 1, 1) := by decide +kernel
theorem dX9_hasRun_2 : decode cX9_hasRun 2 = .ok (.invokevirtual 38, 3) := by decide +kernel
theorem dX9_hasRun_5 : decode cX9_hasRun 5 = .ok (.ifCond .eq 17, 3) := by decide +kernel
theorem dX9_hasRun_8 : decode cX9_hasRun 8 = .ok (.iload_n 2, 1) := by decide +kernel
theorem dX9_hasRun_9 : decode cX9_hasRun 9 = .ok (.ifCond .lt 13, 3) := by decide +kernel
theorem dX9_hasRun_12 : decode cX9_hasRun 12 = .ok (.iload_n 2, 1) := by decide +kernel
theorem dX9_hasRun_13 : decode cX9_hasRun 13 = .ok (.bipush 7, 2) := by decide +kernel
theorem dX9_hasRun_15 : decode cX9_hasRun 15 = .ok (.if_icmp .ge 7, 3) := by decide +kernel
theorem dX9_hasRun_18 : decode cX9_hasRun 18 = .ok (.iconst 1, 1) := by decide +kernel
theorem dX9_hasRun_19 : decode cX9_hasRun 19 = .ok (.goto 4, 3) := by decide +kernel
theorem dX9_hasRun_22 : decode cX9_hasRun 22 = .ok (.iconst 0, 1) := by decide +kernel
theorem dX9_hasRun_23 : decode cX9_hasRun 23 = .ok (.ireturn, 1) := by decide +kernel
theorem bX9_hasRun_0 {d : Nat} {h0 hE h : ea_H} {rv : Option ea_V} {r0 : Option Nat} {x1 : Int32} {x2 : Int32} (H : ∃ a7, r0 = some a7 ∧ a7 < ea_n h ∧ ea_c h a7 = 9 ∧ ∃ (d1 : Nat) (xc9 : Int32) (h2 : ea_H), ea_Met mX9_has d1 [vR (some a7), vI x1] h (some (vI xc9)) h2 ∧ d1 + 1 ≤ d ∧ (xc9 = (0 : Int32) → rv = some (vI 0) ∧ hE = h2) ∧ (¬ xc9 = (0 : Int32) → (x2 < (0 : Int32) → rv = some (vI 0) ∧ hE = h2) ∧ (¬ x2 < (0 : Int32) → ((7 : Int32) ≤ x2 → rv = some (vI 0) ∧ hE = h2) ∧ (¬ (7 : Int32) ≤ x2 → rv = some (vI 1) ∧ hE = h2)))) : ea_W mX9_hasRun d h0 rv hE 0 [(0, vR r0), (1, vI x1), (2, vI x2)] [] h := by
  refine ea_aload_n (pc := 0) dX9_hasRun_0 rfl 0 rfl ?_
  refine ea_iload_n (pc := 1) dX9_hasRun_1 rfl 1 rfl ?_
  obtain ⟨a7, e8, f5, g6, H⟩ := H
  refine ea_deref1 e8 ?_
  obtain ⟨d1, xc9, h2, m3, q4, H⟩ := H
  refine ea_callV (pc := 2) (As := [vI x1]) (st := []) dX9_hasRun_2 kX9_has m3 q4 rfl (Nat.le_of_ble_eq_true rfl) ew_546 ew_519 ew_520 (ci := 9) rfl (by decide) f5 g6 ?_
  refine ea_if_eq (pc := 5) (tgt := 22) dX9_hasRun_5 rfl (fun c12 => ?_) (fun c12 => ?_)
  · have H := H.1 c12
    refine ea_iconst (pc := 22) dX9_hasRun_22 (v := 0) rfl ?_
    obtain ⟨rfl, rfl⟩ := H
    exact ea_ireturn (pc := 23) dX9_hasRun_23 rfl (ea_bn (Or.inl rfl))
  · have H := H.2 c12
    refine ea_iload_n (pc := 8) dX9_hasRun_8 rfl 2 rfl ?_
    refine ea_if_lt (pc := 9) (tgt := 22) dX9_hasRun_9 rfl (fun c11 => ?_) (fun c11 => ?_)
    · have H := H.1 c11
      refine ea_iconst (pc := 22) dX9_hasRun_22 (v := 0) rfl ?_
      obtain ⟨rfl, rfl⟩ := H
      exact ea_ireturn (pc := 23) dX9_hasRun_23 rfl (ea_bn (Or.inl rfl))
    · have H := H.2 c11
      refine ea_iload_n (pc := 12) dX9_hasRun_12 rfl 2 rfl ?_
      refine ea_bipush (pc := 13) dX9_hasRun_13 (v := 7) rfl ?_
      refine ea_icmp_ge (pc := 15) (tgt := 22) dX9_hasRun_15 rfl (fun c10 => ?_) (fun c10 => ?_)
      · have H := H.1 c10
        refine ea_iconst (pc := 22) dX9_hasRun_22 (v := 0) rfl ?_
        obtain ⟨rfl, rfl⟩ := H
        exact ea_ireturn (pc := 23) dX9_hasRun_23 rfl (ea_bn (Or.inl rfl))
      · have H := H.2 c10
        refine ea_iconst (pc := 18) dX9_hasRun_18 (v := 1) rfl ?_
        refine ea_goto (pc := 19) (tgt := 23) dX9_hasRun_19 rfl ?_
        obtain ⟨rfl, rfl⟩ := H
        exact ea_ireturn (pc := 23) dX9_hasRun_23 rfl (ea_bn (Or.inr rfl))
theorem dX9_add_0 : decode cX9_add 0 = .ok (.aload_n 0, 1) := by decide +kernel
theorem dX9_add_1 : decode cX9_add 1 = .ok (.getfield 9, 3) := by decide +kernel
theorem dX9_add_4 : decode cX9_add 4 = .ok (.iload_n 1, 1) := by decide +kernel
theorem dX9_add_5 : decode cX9_add 5 = .ok (.iaload, 1) := by decide +kernel
theorem dX9_add_6 : decode cX9_add 6 = .ok (.istore 6, 2) := by decide +kernel
theorem dX9_add_8 : decode cX9_add 8 = .ok (.iload 6, 2) := by decide +kernel
theorem dX9_add_10 : decode cX9_add 10 = .ok (.bipush 8, 2) := by decide +kernel
theorem dX9_add_12 : decode cX9_add 12 = .ok (.if_icmp .ge 21, 3) := by decide +kernel
theorem dX9_add_15 : decode cX9_add 15 = .ok (.iload_n 3, 1) := by decide +kernel
theorem dX9_add_16 : decode cX9_add 16 = .ok (.ifCond .lt 17, 3) := by decide +kernel
theorem dX9_add_19 : decode cX9_add 19 = .ok (.iload 4, 2) := by decide +kernel
theorem dX9_add_21 : decode cX9_add 21 = .ok (.iload_n 3, 1) := by decide +kernel
theorem dX9_add_22 : decode cX9_add 22 = .ok (.if_icmp .lt 11, 3) := by decide +kernel
theorem dX9_add_25 : decode cX9_add 25 = .ok (.iload 4, 2) := by decide +kernel
theorem dX9_add_27 : decode cX9_add 27 = .ok (.sipush 2400, 3) := by decide +kernel
theorem dX9_add_30 : decode cX9_add 30 = .ok (.if_icmp .le 5, 3) := by decide +kernel
theorem dX9_add_33 : decode cX9_add 33 = .ok (.iconst (-1), 1) := by decide +kernel
theorem dX9_add_34 : decode cX9_add 34 = .ok (.ireturn, 1) := by decide +kernel
theorem dX9_add_35 : decode cX9_add 35 = .ok (.iload 5, 2) := by decide +kernel
theorem dX9_add_37 : decode cX9_add 37 = .ok (.ifCond .eq 11, 3) := by decide +kernel
theorem dX9_add_40 : decode cX9_add 40 = .ok (.iload_n 3, 1) := by decide +kernel
theorem dX9_add_41 : decode cX9_add 41 = .ok (.iload 4, 2) := by decide +kernel
theorem dX9_add_43 : decode cX9_add 43 = .ok (.if_icmp .eq 5, 3) := by decide +kernel
theorem dX9_add_46 : decode cX9_add 46 = .ok (.iconst (-1), 1) := by decide +kernel
theorem dX9_add_47 : decode cX9_add 47 = .ok (.ireturn, 1) := by decide +kernel
theorem dX9_add_48 : decode cX9_add 48 = .ok (.bipush 8, 2) := by decide +kernel
theorem dX9_add_50 : decode cX9_add 50 = .ok (.iload_n 1, 1) := by decide +kernel
theorem dX9_add_51 : decode cX9_add 51 = .ok (.imul, 1) := by decide +kernel
theorem dX9_add_52 : decode cX9_add 52 = .ok (.iload 6, 2) := by decide +kernel
theorem dX9_add_54 : decode cX9_add 54 = .ok (.iadd, 1) := by decide +kernel
theorem dX9_add_55 : decode cX9_add 55 = .ok (.istore 7, 2) := by decide +kernel
theorem dX9_add_57 : decode cX9_add 57 = .ok (.iload 6, 2) := by decide +kernel
theorem dX9_add_59 : decode cX9_add 59 = .ok (.ifCond .le 31, 3) := by decide +kernel
theorem dX9_add_62 : decode cX9_add 62 = .ok (.aload_n 0, 1) := by decide +kernel
theorem dX9_add_63 : decode cX9_add 63 = .ok (.getfield 15, 3) := by decide +kernel
theorem dX9_add_66 : decode cX9_add 66 = .ok (.iload 7, 2) := by decide +kernel
theorem dX9_add_68 : decode cX9_add 68 = .ok (.iconst 1, 1) := by decide +kernel
theorem dX9_add_69 : decode cX9_add 69 = .ok (.isub, 1) := by decide +kernel
theorem dX9_add_70 : decode cX9_add 70 = .ok (.iaload, 1) := by decide +kernel
theorem dX9_add_71 : decode cX9_add 71 = .ok (.iload_n 2, 1) := by decide +kernel
theorem dX9_add_72 : decode cX9_add 72 = .ok (.if_icmp .eq 16, 3) := by decide +kernel
theorem dX9_add_75 : decode cX9_add 75 = .ok (.iload_n 3, 1) := by decide +kernel
theorem dX9_add_76 : decode cX9_add 76 = .ok (.aload_n 0, 1) := by decide +kernel
theorem dX9_add_77 : decode cX9_add 77 = .ok (.getfield 21, 3) := by decide +kernel
theorem dX9_add_80 : decode cX9_add 80 = .ok (.iload 7, 2) := by decide +kernel
theorem dX9_add_82 : decode cX9_add 82 = .ok (.iconst 1, 1) := by decide +kernel
theorem dX9_add_83 : decode cX9_add 83 = .ok (.isub, 1) := by decide +kernel
theorem dX9_add_84 : decode cX9_add 84 = .ok (.iaload, 1) := by decide +kernel
theorem dX9_add_85 : decode cX9_add 85 = .ok (.if_icmp .gt 5, 3) := by decide +kernel
theorem dX9_add_88 : decode cX9_add 88 = .ok (.iconst (-1), 1) := by decide +kernel
theorem dX9_add_89 : decode cX9_add 89 = .ok (.ireturn, 1) := by decide +kernel
theorem dX9_add_90 : decode cX9_add 90 = .ok (.aload_n 0, 1) := by decide +kernel
theorem dX9_add_91 : decode cX9_add 91 = .ok (.getfield 15, 3) := by decide +kernel
theorem dX9_add_94 : decode cX9_add 94 = .ok (.iload 7, 2) := by decide +kernel
theorem dX9_add_96 : decode cX9_add 96 = .ok (.iload_n 2, 1) := by decide +kernel
theorem dX9_add_97 : decode cX9_add 97 = .ok (.iastore, 1) := by decide +kernel
theorem dX9_add_98 : decode cX9_add 98 = .ok (.aload_n 0, 1) := by decide +kernel
theorem dX9_add_99 : decode cX9_add 99 = .ok (.getfield 18, 3) := by decide +kernel
theorem dX9_add_102 : decode cX9_add 102 = .ok (.iload 7, 2) := by decide +kernel
theorem dX9_add_104 : decode cX9_add 104 = .ok (.iload_n 3, 1) := by decide +kernel
theorem dX9_add_105 : decode cX9_add 105 = .ok (.iastore, 1) := by decide +kernel
theorem dX9_add_106 : decode cX9_add 106 = .ok (.aload_n 0, 1) := by decide +kernel
theorem dX9_add_107 : decode cX9_add 107 = .ok (.getfield 21, 3) := by decide +kernel
theorem dX9_add_110 : decode cX9_add 110 = .ok (.iload 7, 2) := by decide +kernel
theorem dX9_add_112 : decode cX9_add 112 = .ok (.iload 4, 2) := by decide +kernel
theorem dX9_add_114 : decode cX9_add 114 = .ok (.iastore, 1) := by decide +kernel
theorem dX9_add_115 : decode cX9_add 115 = .ok (.aload_n 0, 1) := by decide +kernel
theorem dX9_add_116 : decode cX9_add 116 = .ok (.getfield 24, 3) := by decide +kernel
theorem dX9_add_119 : decode cX9_add 119 = .ok (.iload 7, 2) := by decide +kernel
theorem dX9_add_121 : decode cX9_add 121 = .ok (.iload 5, 2) := by decide +kernel
theorem dX9_add_123 : decode cX9_add 123 = .ok (.bastore, 1) := by decide +kernel
theorem dX9_add_124 : decode cX9_add 124 = .ok (.aload_n 0, 1) := by decide +kernel
theorem dX9_add_125 : decode cX9_add 125 = .ok (.getfield 9, 3) := by decide +kernel
theorem dX9_add_128 : decode cX9_add 128 = .ok (.iload_n 1, 1) := by decide +kernel
theorem dX9_add_129 : decode cX9_add 129 = .ok (.dup2, 1) := by decide +kernel
theorem dX9_add_130 : decode cX9_add 130 = .ok (.iaload, 1) := by decide +kernel
theorem dX9_add_131 : decode cX9_add 131 = .ok (.iconst 1, 1) := by decide +kernel
theorem dX9_add_132 : decode cX9_add 132 = .ok (.iadd, 1) := by decide +kernel
theorem dX9_add_133 : decode cX9_add 133 = .ok (.iastore, 1) := by decide +kernel
theorem dX9_add_134 : decode cX9_add 134 = .ok (.iload 6, 2) := by decide +kernel
theorem dX9_add_136 : decode cX9_add 136 = .ok (.ireturn, 1) := by decide +kernel
theorem bX9_add_0 {d : Nat} {h0 hE h : ea_H} {rv : Option ea_V} {r0 : Option Nat} {x1 : Int32} {x2 : Int32} {x3 : Int32} {x4 : Int32} {x5 : Int32} (H : ∃ a3, r0 = some a3 ∧ a3 < ea_n h ∧ ea_c h a3 = 9 ∧ ∃ a7, (ea_r h a3 1) = some a7 ∧ a7 < ea_n h ∧ ea_c h a7 = 20 ∧ vp_in x1 (ea_l h a7) ∧ ((8 : Int32) ≤ (ea_i h a7 (Int32.toNatClampNeg x1)) → rv = some (vI (-1)) ∧ hE = h) ∧ (¬ (8 : Int32) ≤ (ea_i h a7 (Int32.toNatClampNeg x1)) → (x3 < (0 : Int32) → rv = some (vI (-1)) ∧ hE = h) ∧ (¬ x3 < (0 : Int32) → (x4 < x3 → rv = some (vI (-1)) ∧ hE = h) ∧ (¬ x4 < x3 → (x4 ≤ (2400 : Int32) → (x5 = (0 : Int32) → ea_W mX9_add d h0 rv hE 48 [(0, vR r0), (1, vI x1), (2, vI x2), (3, vI x3), (4, vI x4), (5, vI x5), (6, vI (ea_i h a7 (Int32.toNatClampNeg x1)))] [] h) ∧ (¬ x5 = (0 : Int32) → (x3 = x4 → ea_W mX9_add d h0 rv hE 48 [(0, vR r0), (1, vI x1), (2, vI x2), (3, vI x3), (4, vI x4), (5, vI x5), (6, vI (ea_i h a7 (Int32.toNatClampNeg x1)))] [] h) ∧ (¬ x3 = x4 → rv = some (vI (-1)) ∧ hE = h))) ∧ (¬ x4 ≤ (2400 : Int32) → rv = some (vI (-1)) ∧ hE = h))))) : ea_W mX9_add d h0 rv hE 0 [(0, vR r0), (1, vI x1), (2, vI x2), (3, vI x3), (4, vI x4), (5, vI x5)] [] h := by
  refine ea_aload_n (pc := 0) dX9_add_0 rfl 0 rfl ?_
  obtain ⟨a3, e4, f1, g2, H⟩ := H
  refine ea_deref0 e4 ?_
  refine ea_getR (pc := 1) dX9_add_1 ec_9 (k := 1) (Nat.le_of_ble_eq_true rfl) rfl (Or.inl ew_180) f1 g2 rfl ?_
  refine ea_iload_n (pc := 4) dX9_add_4 rfl 1 rfl ?_
  obtain ⟨a7, e8, f5, g6, H⟩ := H
  refine ea_deref1 e8 ?_
  obtain ⟨z9, H⟩ := H
  refine ea_iald (pc := 5) dX9_add_5 f5 g6 z9 ?_
  refine ea_istore (pc := 6) (lv' := [(0, vR r0), (1, vI x1), (2, vI x2), (3, vI x3), (4, vI x4), (5, vI x5), (6, vI (ea_i h a7 (Int32.toNatClampNeg x1)))]) dX9_add_6 (Nat.le_of_ble_eq_true rfl) [1, 2, 3, 4, 5, 6, 0] rfl ?_
  refine ea_iload (pc := 8) dX9_add_8 6 rfl ?_
  refine ea_bipush (pc := 10) dX9_add_10 (v := 8) rfl ?_
  refine ea_icmp_ge (pc := 12) (tgt := 33) dX9_add_12 rfl (fun c15 => ?_) (fun c15 => ?_)
  · have H := H.1 c15
    refine ea_iconst (pc := 33) dX9_add_33 (v := (-1)) rfl ?_
    obtain ⟨rfl, rfl⟩ := H
    exact ea_ireturn (pc := 34) dX9_add_34 rfl rfl
  · have H := H.2 c15
    refine ea_iload_n (pc := 15) dX9_add_15 rfl 3 rfl ?_
    refine ea_if_lt (pc := 16) (tgt := 33) dX9_add_16 rfl (fun c14 => ?_) (fun c14 => ?_)
    · have H := H.1 c14
      refine ea_iconst (pc := 33) dX9_add_33 (v := (-1)) rfl ?_
      obtain ⟨rfl, rfl⟩ := H
      exact ea_ireturn (pc := 34) dX9_add_34 rfl rfl
    · have H := H.2 c14
      refine ea_iload (pc := 19) dX9_add_19 4 rfl ?_
      refine ea_iload_n (pc := 21) dX9_add_21 rfl 3 rfl ?_
      refine ea_icmp_lt (pc := 22) (tgt := 33) dX9_add_22 rfl (fun c13 => ?_) (fun c13 => ?_)
      · have H := H.1 c13
        refine ea_iconst (pc := 33) dX9_add_33 (v := (-1)) rfl ?_
        obtain ⟨rfl, rfl⟩ := H
        exact ea_ireturn (pc := 34) dX9_add_34 rfl rfl
      · have H := H.2 c13
        refine ea_iload (pc := 25) dX9_add_25 4 rfl ?_
        refine ea_sipush (pc := 27) dX9_add_27 (v := 2400) rfl ?_
        refine ea_icmp_le (pc := 30) (tgt := 35) dX9_add_30 rfl (fun c12 => ?_) (fun c12 => ?_)
        · have H := H.1 c12
          refine ea_iload (pc := 35) dX9_add_35 5 rfl ?_
          refine ea_if_eq (pc := 37) (tgt := 48) dX9_add_37 rfl (fun c11 => ?_) (fun c11 => ?_)
          · have H := H.1 c11
            exact H
          · have H := H.2 c11
            refine ea_iload_n (pc := 40) dX9_add_40 rfl 3 rfl ?_
            refine ea_iload (pc := 41) dX9_add_41 4 rfl ?_
            refine ea_icmp_eq (pc := 43) (tgt := 48) dX9_add_43 rfl (fun c10 => ?_) (fun c10 => ?_)
            · have H := H.1 c10
              exact H
            · have H := H.2 c10
              refine ea_iconst (pc := 46) dX9_add_46 (v := (-1)) rfl ?_
              obtain ⟨rfl, rfl⟩ := H
              exact ea_ireturn (pc := 47) dX9_add_47 rfl rfl
        · have H := H.2 c12
          refine ea_iconst (pc := 33) dX9_add_33 (v := (-1)) rfl ?_
          obtain ⟨rfl, rfl⟩ := H
          exact ea_ireturn (pc := 34) dX9_add_34 rfl rfl
theorem bX9_add_48 {d : Nat} {h0 hE h : ea_H} {rv : Option ea_V} {r0 : Option Nat} {x1 : Int32} {x2 : Int32} {x3 : Int32} {x4 : Int32} {x5 : Int32} {x6 : Int32} (H : (x6 ≤ (0 : Int32) → ea_W mX9_add d h0 rv hE 90 [(0, vR r0), (1, vI x1), (2, vI x2), (3, vI x3), (4, vI x4), (5, vI x5), (6, vI x6), (7, vI (((8 : Int32) * x1) + x6))] [] h) ∧ (¬ x6 ≤ (0 : Int32) → ∃ a3, r0 = some a3 ∧ a3 < ea_n h ∧ ea_c h a3 = 9 ∧ ∃ a7, (ea_r h a3 2) = some a7 ∧ a7 < ea_n h ∧ ea_c h a7 = 20 ∧ vp_in ((((8 : Int32) * x1) + x6) - (1 : Int32)) (ea_l h a7) ∧ ((ea_i h a7 (Int32.toNatClampNeg ((((8 : Int32) * x1) + x6) - (1 : Int32)))) = x2 → rv = some (vI (-1)) ∧ hE = h) ∧ (¬ (ea_i h a7 (Int32.toNatClampNeg ((((8 : Int32) * x1) + x6) - (1 : Int32)))) = x2 → a3 < ea_n h ∧ ea_c h a3 = 9 ∧ ∃ a14, (ea_r h a3 4) = some a14 ∧ a14 < ea_n h ∧ ea_c h a14 = 20 ∧ vp_in ((((8 : Int32) * x1) + x6) - (1 : Int32)) (ea_l h a14) ∧ ((ea_i h a14 (Int32.toNatClampNeg ((((8 : Int32) * x1) + x6) - (1 : Int32)))) < x3 → ea_W mX9_add d h0 rv hE 90 [(0, vR r0), (1, vI x1), (2, vI x2), (3, vI x3), (4, vI x4), (5, vI x5), (6, vI x6), (7, vI (((8 : Int32) * x1) + x6))] [] h) ∧ (¬ (ea_i h a14 (Int32.toNatClampNeg ((((8 : Int32) * x1) + x6) - (1 : Int32)))) < x3 → rv = some (vI (-1)) ∧ hE = h)))) : ea_W mX9_add d h0 rv hE 48 [(0, vR r0), (1, vI x1), (2, vI x2), (3, vI x3), (4, vI x4), (5, vI x5), (6, vI x6)] [] h := by
  refine ea_bipush (pc := 48) dX9_add_48 (v := 8) rfl ?_
  refine ea_iload_n (pc := 50) dX9_add_50 rfl 1 rfl ?_
  refine ea_imul (pc := 51) dX9_add_51 ?_
  refine ea_iload (pc := 52) dX9_add_52 6 rfl ?_
  refine ea_iadd (pc := 54) dX9_add_54 ?_
  refine ea_istore (pc := 55) (lv' := [(0, vR r0), (1, vI x1), (2, vI x2), (3, vI x3), (4, vI x4), (5, vI x5), (6, vI x6), (7, vI (((8 : Int32) * x1) + x6))]) dX9_add_55 (Nat.le_of_ble_eq_true rfl) [1, 2, 3, 4, 5, 6, 7, 0] rfl ?_
  refine ea_iload (pc := 57) dX9_add_57 6 rfl ?_
  refine ea_if_le (pc := 59) (tgt := 90) dX9_add_59 rfl (fun c19 => ?_) (fun c19 => ?_)
  · have H := H.1 c19
    exact H
  · have H := H.2 c19
    refine ea_aload_n (pc := 62) dX9_add_62 rfl 0 rfl ?_
    obtain ⟨a3, e4, f1, g2, H⟩ := H
    refine ea_deref0 e4 ?_
    refine ea_getR (pc := 63) dX9_add_63 ec_9 (k := 2) (Nat.le_of_ble_eq_true rfl) rfl (Or.inl ew_184) f1 g2 rfl ?_
    refine ea_iload (pc := 66) dX9_add_66 7 rfl ?_
    refine ea_iconst (pc := 68) dX9_add_68 (v := 1) rfl ?_
    refine ea_isub (pc := 69) dX9_add_69 ?_
    obtain ⟨a7, e8, f5, g6, H⟩ := H
    refine ea_deref1 e8 ?_
    obtain ⟨z9, H⟩ := H
    refine ea_iald (pc := 70) dX9_add_70 f5 g6 z9 ?_
    refine ea_iload_n (pc := 71) dX9_add_71 rfl 2 rfl ?_
    refine ea_icmp_eq (pc := 72) (tgt := 88) dX9_add_72 rfl (fun c18 => ?_) (fun c18 => ?_)
    · have H := H.1 c18
      refine ea_iconst (pc := 88) dX9_add_88 (v := (-1)) rfl ?_
      obtain ⟨rfl, rfl⟩ := H
      exact ea_ireturn (pc := 89) dX9_add_89 rfl rfl
    · have H := H.2 c18
      refine ea_iload_n (pc := 75) dX9_add_75 rfl 3 rfl ?_
      refine ea_aload_n (pc := 76) dX9_add_76 rfl 0 rfl ?_
      obtain ⟨f10, g11, H⟩ := H
      refine ea_deref0 e4 ?_
      refine ea_getR (pc := 77) dX9_add_77 ec_9 (k := 4) (Nat.le_of_ble_eq_true rfl) rfl (Or.inl ew_191) f10 g11 rfl ?_
      refine ea_iload (pc := 80) dX9_add_80 7 rfl ?_
      refine ea_iconst (pc := 82) dX9_add_82 (v := 1) rfl ?_
      refine ea_isub (pc := 83) dX9_add_83 ?_
      obtain ⟨a14, e15, f12, g13, H⟩ := H
      refine ea_deref1 e15 ?_
      obtain ⟨z16, H⟩ := H
      refine ea_iald (pc := 84) dX9_add_84 f12 g13 z16 ?_
      refine ea_icmp_gt (pc := 85) (tgt := 90) dX9_add_85 rfl (fun c17 => ?_) (fun c17 => ?_)
      · have H := H.1 c17
        exact H
      · have H := H.2 c17
        refine ea_iconst (pc := 88) dX9_add_88 (v := (-1)) rfl ?_
        obtain ⟨rfl, rfl⟩ := H
        exact ea_ireturn (pc := 89) dX9_add_89 rfl rfl
theorem bX9_add_90 {d : Nat} {h0 hE h : ea_H} {rv : Option ea_V} {r0 : Option Nat} {x1 : Int32} {x2 : Int32} {x3 : Int32} {x4 : Int32} {x5 : Int32} {x6 : Int32} {x7 : Int32} (H : ∃ a3, r0 = some a3 ∧ a3 < ea_n h ∧ ea_c h a3 = 9 ∧ ∃ a7, (ea_r h a3 2) = some a7 ∧ a7 < ea_n h ∧ ea_c h a7 = 20 ∧ vp_in x7 (ea_l h a7) ∧ ∀ h10, h10 = ea_wi h a7 (Int32.toNatClampNeg x7) x2 → a3 < ea_n h10 ∧ ea_c h10 a3 = 9 ∧ ∃ a16, (ea_r h10 a3 3) = some a16 ∧ a16 < ea_n h10 ∧ ea_c h10 a16 = 20 ∧ vp_in x7 (ea_l h10 a16) ∧ ∀ h19, h19 = ea_wi h10 a16 (Int32.toNatClampNeg x7) x3 → a3 < ea_n h19 ∧ ea_c h19 a3 = 9 ∧ ∃ a25, (ea_r h19 a3 4) = some a25 ∧ a25 < ea_n h19 ∧ ea_c h19 a25 = 20 ∧ vp_in x7 (ea_l h19 a25) ∧ ∀ h28, h28 = ea_wi h19 a25 (Int32.toNatClampNeg x7) x4 → a3 < ea_n h28 ∧ ea_c h28 a3 = 9 ∧ ∃ a34, (ea_r h28 a3 5) = some a34 ∧ a34 < ea_n h28 ∧ ea_c h28 a34 = 21 ∧ vp_in x7 (ea_l h28 a34) ∧ (x5 = 0 ∨ x5 = 1) ∧ ∀ h37, h37 = ea_wi h28 a34 (Int32.toNatClampNeg x7) x5 → a3 < ea_n h37 ∧ ea_c h37 a3 = 9 ∧ ∃ a44, (ea_r h37 a3 1) = some a44 ∧ a44 < ea_n h37 ∧ ea_c h37 a44 = 20 ∧ vp_in x1 (ea_l h37 a44) ∧ a44 < ea_n h37 ∧ ea_c h37 a44 = 20 ∧ vp_in x1 (ea_l h37 a44) ∧ ∀ h50, h50 = ea_wi h37 a44 (Int32.toNatClampNeg x1) ((ea_i h37 a44 (Int32.toNatClampNeg x1)) + (1 : Int32)) → rv = some (vI x6) ∧ hE = h50) : ea_W mX9_add d h0 rv hE 90 [(0, vR r0), (1, vI x1), (2, vI x2), (3, vI x3), (4, vI x4), (5, vI x5), (6, vI x6), (7, vI x7)] [] h := by
  refine ea_aload_n (pc := 90) dX9_add_90 rfl 0 rfl ?_
  obtain ⟨a3, e4, f1, g2, H⟩ := H
  refine ea_deref0 e4 ?_
  refine ea_getR (pc := 91) dX9_add_91 ec_9 (k := 2) (Nat.le_of_ble_eq_true rfl) rfl (Or.inl ew_184) f1 g2 rfl ?_
  refine ea_iload (pc := 94) dX9_add_94 7 rfl ?_
  refine ea_iload_n (pc := 96) dX9_add_96 rfl 2 rfl ?_
  obtain ⟨a7, e8, f5, g6, H⟩ := H
  refine ea_deref2 e8 ?_
  obtain ⟨z9, H⟩ := H
  refine ea_iast (pc := 97) dX9_add_97 f5 g6 z9 ?_
  obtain ⟨h10, E11⟩ : ∃ z, z = ea_wi h a7 (Int32.toNatClampNeg x7) x2 := ⟨_, rfl⟩
  have H := H h10 E11
  refine ea_nm E11 ?_
  refine ea_aload_n (pc := 98) dX9_add_98 rfl 0 rfl ?_
  obtain ⟨f12, g13, H⟩ := H
  refine ea_deref0 e4 ?_
  refine ea_getR (pc := 99) dX9_add_99 ec_9 (k := 3) (Nat.le_of_ble_eq_true rfl) rfl (Or.inl ew_188) f12 g13 rfl ?_
  refine ea_iload (pc := 102) dX9_add_102 7 rfl ?_
  refine ea_iload_n (pc := 104) dX9_add_104 rfl 3 rfl ?_
  obtain ⟨a16, e17, f14, g15, H⟩ := H
  refine ea_deref2 e17 ?_
  obtain ⟨z18, H⟩ := H
  refine ea_iast (pc := 105) dX9_add_105 f14 g15 z18 ?_
  obtain ⟨h19, E20⟩ : ∃ z, z = ea_wi h10 a16 (Int32.toNatClampNeg x7) x3 := ⟨_, rfl⟩
  have H := H h19 E20
  refine ea_nm E20 ?_
  refine ea_aload_n (pc := 106) dX9_add_106 rfl 0 rfl ?_
  obtain ⟨f21, g22, H⟩ := H
  refine ea_deref0 e4 ?_
  refine ea_getR (pc := 107) dX9_add_107 ec_9 (k := 4) (Nat.le_of_ble_eq_true rfl) rfl (Or.inl ew_191) f21 g22 rfl ?_
  refine ea_iload (pc := 110) dX9_add_110 7 rfl ?_
  refine ea_iload (pc := 112) dX9_add_112 4 rfl ?_
  obtain ⟨a25, e26, f23, g24, H⟩ := H
  refine ea_deref2 e26 ?_
  obtain ⟨z27, H⟩ := H
  refine ea_iast (pc := 114) dX9_add_114 f23 g24 z27 ?_
  obtain ⟨h28, E29⟩ : ∃ z, z = ea_wi h19 a25 (Int32.toNatClampNeg x7) x4 := ⟨_, rfl⟩
  have H := H h28 E29
  refine ea_nm E29 ?_
  refine ea_aload_n (pc := 115) dX9_add_115 rfl 0 rfl ?_
  obtain ⟨f30, g31, H⟩ := H
  refine ea_deref0 e4 ?_
  refine ea_getR (pc := 116) dX9_add_116 ec_9 (k := 5) (Nat.le_of_ble_eq_true rfl) rfl (Or.inl ew_194) f30 g31 rfl ?_
  refine ea_iload (pc := 119) dX9_add_119 7 rfl ?_
  refine ea_iload (pc := 121) dX9_add_121 5 rfl ?_
  obtain ⟨a34, e35, f32, g33, H⟩ := H
  refine ea_deref2 e35 ?_
  obtain ⟨z36, H⟩ := H
  obtain ⟨z39, H⟩ := H
  refine ea_zast (pc := 123) dX9_add_123 (y := x5) (ea_bn z39) f32 g33 z36 ?_
  obtain ⟨h37, E38⟩ : ∃ z, z = ea_wi h28 a34 (Int32.toNatClampNeg x7) x5 := ⟨_, rfl⟩
  have H := H h37 E38
  refine ea_nm E38 ?_
  refine ea_aload_n (pc := 124) dX9_add_124 rfl 0 rfl ?_
  obtain ⟨f40, g41, H⟩ := H
  refine ea_deref0 e4 ?_
  refine ea_getR (pc := 125) dX9_add_125 ec_9 (k := 1) (Nat.le_of_ble_eq_true rfl) rfl (Or.inl ew_180) f40 g41 rfl ?_
  refine ea_iload_n (pc := 128) dX9_add_128 rfl 1 rfl ?_
  refine ea_dup2 (pc := 129) dX9_add_129 rfl rfl ?_
  obtain ⟨a44, e45, f42, g43, H⟩ := H
  refine ea_deref1 e45 ?_
  obtain ⟨z46, H⟩ := H
  refine ea_iald (pc := 130) dX9_add_130 f42 g43 z46 ?_
  refine ea_iconst (pc := 131) dX9_add_131 (v := 1) rfl ?_
  refine ea_iadd (pc := 132) dX9_add_132 ?_
  obtain ⟨f47, g48, H⟩ := H
  refine ea_deref2 e45 ?_
  obtain ⟨z49, H⟩ := H
  refine ea_iast (pc := 133) dX9_add_133 f47 g48 z49 ?_
  obtain ⟨h50, E51⟩ : ∃ z, z = ea_wi h37 a44 (Int32.toNatClampNeg x1) ((ea_i h37 a44 (Int32.toNatClampNeg x1)) + (1 : Int32)) := ⟨_, rfl⟩
  have H := H h50 E51
  refine ea_nm E51 ?_
  refine ea_iload (pc := 134) dX9_add_134 6 rfl ?_
  obtain ⟨rfl, rfl⟩ := H
  exact ea_ireturn (pc := 136) dX9_add_136 rfl rfl
theorem dX9_comesAt_0 : decode cX9_comesAt 0 = .ok (.sipush 1440, 3) := by decide +kernel
theorem dX9_comesAt_3 : decode cX9_comesAt 3 = .ok (.iload_n 2, 1) := by decide +kernel
theorem dX9_comesAt_4 : decode cX9_comesAt 4 = .ok (.imul, 1) := by decide +kernel
theorem dX9_comesAt_5 : decode cX9_comesAt 5 = .ok (.aload_n 0, 1) := by decide +kernel
theorem dX9_comesAt_6 : decode cX9_comesAt 6 = .ok (.getfield 18, 3) := by decide +kernel
theorem dX9_comesAt_9 : decode cX9_comesAt 9 = .ok (.bipush 8, 2) := by decide +kernel
theorem dX9_comesAt_11 : decode cX9_comesAt 11 = .ok (.iload_n 1, 1) := by decide +kernel
theorem dX9_comesAt_12 : decode cX9_comesAt 12 = .ok (.imul, 1) := by decide +kernel
theorem dX9_comesAt_13 : decode cX9_comesAt 13 = .ok (.iload_n 3, 1) := by decide +kernel
theorem dX9_comesAt_14 : decode cX9_comesAt 14 = .ok (.iadd, 1) := by decide +kernel
theorem dX9_comesAt_15 : decode cX9_comesAt 15 = .ok (.iaload, 1) := by decide +kernel
theorem dX9_comesAt_16 : decode cX9_comesAt 16 = .ok (.iadd, 1) := by decide +kernel
theorem dX9_comesAt_17 : decode cX9_comesAt 17 = .ok (.aload_n 0, 1) := by decide +kernel
theorem dX9_comesAt_18 : decode cX9_comesAt 18 = .ok (.getfield 28, 3) := by decide +kernel
theorem dX9_comesAt_21 : decode cX9_comesAt 21 = .ok (.bipush 10, 2) := by decide +kernel
theorem dX9_comesAt_23 : decode cX9_comesAt 23 = .ok (.iload_n 2, 1) := by decide +kernel
theorem dX9_comesAt_24 : decode cX9_comesAt 24 = .ok (.imul, 1) := by decide +kernel
theorem dX9_comesAt_25 : decode cX9_comesAt 25 = .ok (.iload_n 1, 1) := by decide +kernel
theorem dX9_comesAt_26 : decode cX9_comesAt 26 = .ok (.iadd, 1) := by decide +kernel
theorem dX9_comesAt_27 : decode cX9_comesAt 27 = .ok (.iaload, 1) := by decide +kernel
theorem dX9_comesAt_28 : decode cX9_comesAt 28 = .ok (.iadd, 1) := by decide +kernel
theorem dX9_comesAt_29 : decode cX9_comesAt 29 = .ok (.ireturn, 1) := by decide +kernel
theorem bX9_comesAt_0 {d : Nat} {h0 hE h : ea_H} {rv : Option ea_V} {r0 : Option Nat} {x1 : Int32} {x2 : Int32} {x3 : Int32} (H : ∃ a3, r0 = some a3 ∧ a3 < ea_n h ∧ ea_c h a3 = 9 ∧ ∃ a7, (ea_r h a3 3) = some a7 ∧ a7 < ea_n h ∧ ea_c h a7 = 20 ∧ vp_in (((8 : Int32) * x1) + x3) (ea_l h a7) ∧ a3 < ea_n h ∧ ea_c h a3 = 9 ∧ ∃ a14, (ea_r h a3 6) = some a14 ∧ a14 < ea_n h ∧ ea_c h a14 = 20 ∧ vp_in (((10 : Int32) * x2) + x1) (ea_l h a14) ∧ rv = some (vI ((((1440 : Int32) * x2) + (ea_i h a7 (Int32.toNatClampNeg (((8 : Int32) * x1) + x3)))) + (ea_i h a14 (Int32.toNatClampNeg (((10 : Int32) * x2) + x1))))) ∧ hE = h) : ea_W mX9_comesAt d h0 rv hE 0 [(0, vR r0), (1, vI x1), (2, vI x2), (3, vI x3)] [] h := by
  refine ea_sipush (pc := 0) dX9_comesAt_0 (v := 1440) rfl ?_
  refine ea_iload_n (pc := 3) dX9_comesAt_3 rfl 2 rfl ?_
  refine ea_imul (pc := 4) dX9_comesAt_4 ?_
  refine ea_aload_n (pc := 5) dX9_comesAt_5 rfl 0 rfl ?_
  obtain ⟨a3, e4, f1, g2, H⟩ := H
  refine ea_deref0 e4 ?_
  refine ea_getR (pc := 6) dX9_comesAt_6 ec_9 (k := 3) (Nat.le_of_ble_eq_true rfl) rfl (Or.inl ew_188) f1 g2 rfl ?_
  refine ea_bipush (pc := 9) dX9_comesAt_9 (v := 8) rfl ?_
  refine ea_iload_n (pc := 11) dX9_comesAt_11 rfl 1 rfl ?_
  refine ea_imul (pc := 12) dX9_comesAt_12 ?_
  refine ea_iload_n (pc := 13) dX9_comesAt_13 rfl 3 rfl ?_
  refine ea_iadd (pc := 14) dX9_comesAt_14 ?_
  obtain ⟨a7, e8, f5, g6, H⟩ := H
  refine ea_deref1 e8 ?_
  obtain ⟨z9, H⟩ := H
  refine ea_iald (pc := 15) dX9_comesAt_15 f5 g6 z9 ?_
  refine ea_iadd (pc := 16) dX9_comesAt_16 ?_
  refine ea_aload_n (pc := 17) dX9_comesAt_17 rfl 0 rfl ?_
  obtain ⟨f10, g11, H⟩ := H
  refine ea_deref0 e4 ?_
  refine ea_getR (pc := 18) dX9_comesAt_18 ec_9 (k := 6) (Nat.le_of_ble_eq_true rfl) rfl (Or.inl ew_196) f10 g11 rfl ?_
  refine ea_bipush (pc := 21) dX9_comesAt_21 (v := 10) rfl ?_
  refine ea_iload_n (pc := 23) dX9_comesAt_23 rfl 2 rfl ?_
  refine ea_imul (pc := 24) dX9_comesAt_24 ?_
  refine ea_iload_n (pc := 25) dX9_comesAt_25 rfl 1 rfl ?_
  refine ea_iadd (pc := 26) dX9_comesAt_26 ?_
  obtain ⟨a14, e15, f12, g13, H⟩ := H
  refine ea_deref1 e15 ?_
  obtain ⟨z16, H⟩ := H
  refine ea_iald (pc := 27) dX9_comesAt_27 f12 g13 z16 ?_
  refine ea_iadd (pc := 28) dX9_comesAt_28 ?_
  obtain ⟨rfl, rfl⟩ := H
  exact ea_ireturn (pc := 29) dX9_comesAt_29 rfl rfl
theorem dX9_goesAt_0 : decode cX9_goesAt 0 = .ok (.sipush 1440, 3) := by decide +kernel
theorem dX9_goesAt_3 : decode cX9_goesAt 3 = .ok (.iload_n 2, 1) := by decide +kernel
theorem dX9_goesAt_4 : decode cX9_goesAt 4 = .ok (.imul, 1) := by decide +kernel
theorem dX9_goesAt_5 : decode cX9_goesAt 5 = .ok (.aload_n 0, 1) := by decide +kernel
theorem dX9_goesAt_6 : decode cX9_goesAt 6 = .ok (.getfield 21, 3) := by decide +kernel
theorem dX9_goesAt_9 : decode cX9_goesAt 9 = .ok (.bipush 8, 2) := by decide +kernel
theorem dX9_goesAt_11 : decode cX9_goesAt 11 = .ok (.iload_n 1, 1) := by decide +kernel
theorem dX9_goesAt_12 : decode cX9_goesAt 12 = .ok (.imul, 1) := by decide +kernel
theorem dX9_goesAt_13 : decode cX9_goesAt 13 = .ok (.iload_n 3, 1) := by decide +kernel
theorem dX9_goesAt_14 : decode cX9_goesAt 14 = .ok (.iadd, 1) := by decide +kernel
theorem dX9_goesAt_15 : decode cX9_goesAt 15 = .ok (.iaload, 1) := by decide +kernel
theorem dX9_goesAt_16 : decode cX9_goesAt 16 = .ok (.iadd, 1) := by decide +kernel
theorem dX9_goesAt_17 : decode cX9_goesAt 17 = .ok (.aload_n 0, 1) := by decide +kernel
theorem dX9_goesAt_18 : decode cX9_goesAt 18 = .ok (.getfield 28, 3) := by decide +kernel
theorem dX9_goesAt_21 : decode cX9_goesAt 21 = .ok (.bipush 10, 2) := by decide +kernel
theorem dX9_goesAt_23 : decode cX9_goesAt 23 = .ok (.iload_n 2, 1) := by decide +kernel
theorem dX9_goesAt_24 : decode cX9_goesAt 24 = .ok (.imul, 1) := by decide +kernel
theorem dX9_goesAt_25 : decode cX9_goesAt 25 = .ok (.iload_n 1, 1) := by decide +kernel
theorem dX9_goesAt_26 : decode cX9_goesAt 26 = .ok (.iadd, 1) := by decide +kernel
theorem dX9_goesAt_27 : decode cX9_goesAt 27 = .ok (.iaload, 1) := by decide +kernel
theorem dX9_goesAt_28 : decode cX9_goesAt 28 = .ok (.iadd, 1) := by decide +kernel
theorem dX9_goesAt_29 : decode cX9_goesAt 29 = .ok (.ireturn, 1) := by decide +kernel
theorem bX9_goesAt_0 {d : Nat} {h0 hE h : ea_H} {rv : Option ea_V} {r0 : Option Nat} {x1 : Int32} {x2 : Int32} {x3 : Int32} (H : ∃ a3, r0 = some a3 ∧ a3 < ea_n h ∧ ea_c h a3 = 9 ∧ ∃ a7, (ea_r h a3 4) = some a7 ∧ a7 < ea_n h ∧ ea_c h a7 = 20 ∧ vp_in (((8 : Int32) * x1) + x3) (ea_l h a7) ∧ a3 < ea_n h ∧ ea_c h a3 = 9 ∧ ∃ a14, (ea_r h a3 6) = some a14 ∧ a14 < ea_n h ∧ ea_c h a14 = 20 ∧ vp_in (((10 : Int32) * x2) + x1) (ea_l h a14) ∧ rv = some (vI ((((1440 : Int32) * x2) + (ea_i h a7 (Int32.toNatClampNeg (((8 : Int32) * x1) + x3)))) + (ea_i h a14 (Int32.toNatClampNeg (((10 : Int32) * x2) + x1))))) ∧ hE = h) : ea_W mX9_goesAt d h0 rv hE 0 [(0, vR r0), (1, vI x1), (2, vI x2), (3, vI x3)] [] h := by
  refine ea_sipush (pc := 0) dX9_goesAt_0 (v := 1440) rfl ?_
  refine ea_iload_n (pc := 3) dX9_goesAt_3 rfl 2 rfl ?_
  refine ea_imul (pc := 4) dX9_goesAt_4 ?_
  refine ea_aload_n (pc := 5) dX9_goesAt_5 rfl 0 rfl ?_
  obtain ⟨a3, e4, f1, g2, H⟩ := H
  refine ea_deref0 e4 ?_
  refine ea_getR (pc := 6) dX9_goesAt_6 ec_9 (k := 4) (Nat.le_of_ble_eq_true rfl) rfl (Or.inl ew_191) f1 g2 rfl ?_
  refine ea_bipush (pc := 9) dX9_goesAt_9 (v := 8) rfl ?_
  refine ea_iload_n (pc := 11) dX9_goesAt_11 rfl 1 rfl ?_
  refine ea_imul (pc := 12) dX9_goesAt_12 ?_
  refine ea_iload_n (pc := 13) dX9_goesAt_13 rfl 3 rfl ?_
  refine ea_iadd (pc := 14) dX9_goesAt_14 ?_
  obtain ⟨a7, e8, f5, g6, H⟩ := H
  refine ea_deref1 e8 ?_
  obtain ⟨z9, H⟩ := H
  refine ea_iald (pc := 15) dX9_goesAt_15 f5 g6 z9 ?_
  refine ea_iadd (pc := 16) dX9_goesAt_16 ?_
  refine ea_aload_n (pc := 17) dX9_goesAt_17 rfl 0 rfl ?_
  obtain ⟨f10, g11, H⟩ := H
  refine ea_deref0 e4 ?_
  refine ea_getR (pc := 18) dX9_goesAt_18 ec_9 (k := 6) (Nat.le_of_ble_eq_true rfl) rfl (Or.inl ew_196) f10 g11 rfl ?_
  refine ea_bipush (pc := 21) dX9_goesAt_21 (v := 10) rfl ?_
  refine ea_iload_n (pc := 23) dX9_goesAt_23 rfl 2 rfl ?_
  refine ea_imul (pc := 24) dX9_goesAt_24 ?_
  refine ea_iload_n (pc := 25) dX9_goesAt_25 rfl 1 rfl ?_
  refine ea_iadd (pc := 26) dX9_goesAt_26 ?_
  obtain ⟨a14, e15, f12, g13, H⟩ := H
  refine ea_deref1 e15 ?_
  obtain ⟨z16, H⟩ := H
  refine ea_iald (pc := 27) dX9_goesAt_27 f12 g13 z16 ?_
  refine ea_iadd (pc := 28) dX9_goesAt_28 ?_
  obtain ⟨rfl, rfl⟩ := H
  exact ea_ireturn (pc := 29) dX9_goesAt_29 rfl rfl
theorem dX9_goneFrom_0 : decode cX9_goneFrom 0 = .ok (.iconst (-1), 1) := by decide +kernel
theorem dX9_goneFrom_1 : decode cX9_goneFrom 1 = .ok (.istore 4, 2) := by decide +kernel
theorem dX9_goneFrom_3 : decode cX9_goneFrom 3 = .ok (.iconst 0, 1) := by decide +kernel
theorem dX9_goneFrom_4 : decode cX9_goneFrom 4 = .ok (.istore 5, 2) := by decide +kernel
theorem dX9_goneFrom_6 : decode cX9_goneFrom 6 = .ok (.iload 5, 2) := by decide +kernel
theorem dX9_goneFrom_8 : decode cX9_goneFrom 8 = .ok (.aload_n 0, 1) := by decide +kernel
theorem dX9_goneFrom_9 : decode cX9_goneFrom 9 = .ok (.getfield 9, 3) := by decide +kernel
theorem dX9_goneFrom_12 : decode cX9_goneFrom 12 = .ok (.iload_n 1, 1) := by decide +kernel
theorem dX9_goneFrom_13 : decode cX9_goneFrom 13 = .ok (.iaload, 1) := by decide +kernel
theorem dX9_goneFrom_14 : decode cX9_goneFrom 14 = .ok (.iconst 1, 1) := by decide +kernel
theorem dX9_goneFrom_15 : decode cX9_goneFrom 15 = .ok (.isub, 1) := by decide +kernel
theorem dX9_goneFrom_16 : decode cX9_goneFrom 16 = .ok (.if_icmp .ge 25, 3) := by decide +kernel
theorem dX9_goneFrom_19 : decode cX9_goneFrom 19 = .ok (.aload_n 0, 1) := by decide +kernel
theorem dX9_goneFrom_20 : decode cX9_goneFrom 20 = .ok (.iload_n 1, 1) := by decide +kernel
theorem dX9_goneFrom_21 : decode cX9_goneFrom 21 = .ok (.iload_n 2, 1) := by decide +kernel
theorem dX9_goneFrom_22 : decode cX9_goneFrom 22 = .ok (.iload 5, 2) := by decide +kernel
theorem dX9_goneFrom_24 : decode cX9_goneFrom 24 = .ok (.invokevirtual 42, 3) := by decide +kernel
theorem dX9_goneFrom_27 : decode cX9_goneFrom 27 = .ok (.iload_n 3, 1) := by decide +kernel
theorem dX9_goneFrom_28 : decode cX9_goneFrom 28 = .ok (.if_icmp .gt 7, 3) := by decide +kernel
theorem dX9_goneFrom_31 : decode cX9_goneFrom 31 = .ok (.iload 5, 2) := by decide +kernel
theorem dX9_goneFrom_33 : decode cX9_goneFrom 33 = .ok (.istore 4, 2) := by decide +kernel
theorem dX9_goneFrom_35 : decode cX9_goneFrom 35 = .ok (.iinc 5 1, 3) := by decide +kernel
theorem dX9_goneFrom_38 : decode cX9_goneFrom 38 = .ok (.goto (-32), 3) := by decide +kernel
theorem dX9_goneFrom_41 : decode cX9_goneFrom 41 = .ok (.iload 4, 2) := by decide +kernel
theorem dX9_goneFrom_43 : decode cX9_goneFrom 43 = .ok (.ireturn, 1) := by decide +kernel
theorem bX9_goneFrom_0 {d : Nat} {h0 hE h : ea_H} {rv : Option ea_V} {r0 : Option Nat} {x1 : Int32} {x2 : Int32} {x3 : Int32} (H : ea_W mX9_goneFrom d h0 rv hE 6 [(0, vR r0), (1, vI x1), (2, vI x2), (3, vI x3), (4, vI (-1)), (5, vI 0)] [] h) : ea_W mX9_goneFrom d h0 rv hE 0 [(0, vR r0), (1, vI x1), (2, vI x2), (3, vI x3)] [] h := by
  refine ea_iconst (pc := 0) dX9_goneFrom_0 (v := (-1)) rfl ?_
  refine ea_istore (pc := 1) (lv' := [(0, vR r0), (1, vI x1), (2, vI x2), (3, vI x3), (4, vI (-1))]) dX9_goneFrom_1 (Nat.le_of_ble_eq_true rfl) [1, 2, 3, 4, 0] rfl ?_
  refine ea_iconst (pc := 3) dX9_goneFrom_3 (v := 0) rfl ?_
  refine ea_istore (pc := 4) (lv' := [(0, vR r0), (1, vI x1), (2, vI x2), (3, vI x3), (4, vI (-1)), (5, vI 0)]) dX9_goneFrom_4 (Nat.le_of_ble_eq_true rfl) [1, 2, 3, 4, 5, 0] rfl ?_
  exact H
theorem bX9_goneFrom_6 {d : Nat} {h0 hE h : ea_H} {rv : Option ea_V} {r0 : Option Nat} {x1 : Int32} {x2 : Int32} {x3 : Int32} {x4 : Int32} {x5 : Int32} (H : ∃ a3, r0 = some a3 ∧ a3 < ea_n h ∧ ea_c h a3 = 9 ∧ ∃ a7, (ea_r h a3 1) = some a7 ∧ a7 < ea_n h ∧ ea_c h a7 = 20 ∧ vp_in x1 (ea_l h a7) ∧ (((ea_i h a7 (Int32.toNatClampNeg x1)) - (1 : Int32)) ≤ x5 → rv = some (vI x4) ∧ hE = h) ∧ (¬ ((ea_i h a7 (Int32.toNatClampNeg x1)) - (1 : Int32)) ≤ x5 → a3 < ea_n h ∧ ea_c h a3 = 9 ∧ ∃ (d10 : Nat) (xc16 : Int32) (h11 : ea_H), ea_Met mX9_goesAt d10 [vR (some a3), vI x1, vI x2, vI x5] h (some (vI xc16)) h11 ∧ d10 + 1 ≤ d ∧ (x3 < xc16 → ea_W mX9_goneFrom d h0 rv hE 6 [(0, vR r0), (1, vI x1), (2, vI x2), (3, vI x3), (4, vI x4), (5, vI (x5 + 1))] [] h11) ∧ (¬ x3 < xc16 → ea_W mX9_goneFrom d h0 rv hE 6 [(0, vR r0), (1, vI x1), (2, vI x2), (3, vI x3), (4, vI x5), (5, vI (x5 + 1))] [] h11))) : ea_W mX9_goneFrom d h0 rv hE 6 [(0, vR r0), (1, vI x1), (2, vI x2), (3, vI x3), (4, vI x4), (5, vI x5)] [] h := by
  refine ea_iload (pc := 6) dX9_goneFrom_6 5 rfl ?_
  refine ea_aload_n (pc := 8) dX9_goneFrom_8 rfl 0 rfl ?_
  obtain ⟨a3, e4, f1, g2, H⟩ := H
  refine ea_deref0 e4 ?_
  refine ea_getR (pc := 9) dX9_goneFrom_9 ec_9 (k := 1) (Nat.le_of_ble_eq_true rfl) rfl (Or.inl ew_180) f1 g2 rfl ?_
  refine ea_iload_n (pc := 12) dX9_goneFrom_12 rfl 1 rfl ?_
  obtain ⟨a7, e8, f5, g6, H⟩ := H
  refine ea_deref1 e8 ?_
  obtain ⟨z9, H⟩ := H
  refine ea_iald (pc := 13) dX9_goneFrom_13 f5 g6 z9 ?_
  refine ea_iconst (pc := 14) dX9_goneFrom_14 (v := 1) rfl ?_
  refine ea_isub (pc := 15) dX9_goneFrom_15 ?_
  refine ea_icmp_ge (pc := 16) (tgt := 41) dX9_goneFrom_16 rfl (fun c18 => ?_) (fun c18 => ?_)
  · have H := H.1 c18
    refine ea_iload (pc := 41) dX9_goneFrom_41 4 rfl ?_
    obtain ⟨rfl, rfl⟩ := H
    exact ea_ireturn (pc := 43) dX9_goneFrom_43 rfl rfl
  · have H := H.2 c18
    refine ea_aload_n (pc := 19) dX9_goneFrom_19 rfl 0 rfl ?_
    refine ea_iload_n (pc := 20) dX9_goneFrom_20 rfl 1 rfl ?_
    refine ea_iload_n (pc := 21) dX9_goneFrom_21 rfl 2 rfl ?_
    refine ea_iload (pc := 22) dX9_goneFrom_22 5 rfl ?_
    obtain ⟨f14, g15, H⟩ := H
    refine ea_deref3 e4 ?_
    obtain ⟨d10, xc16, h11, m12, q13, H⟩ := H
    refine ea_callV (pc := 24) (As := [vI x1, vI x2, vI x5]) (st := []) dX9_goneFrom_24 kX9_goesAt m12 q13 rfl (Nat.le_of_ble_eq_true rfl) ew_1157 ew_577 ew_578 (ci := 9) rfl (by decide) f14 g15 ?_
    refine ea_iload_n (pc := 27) dX9_goneFrom_27 rfl 3 rfl ?_
    refine ea_icmp_gt (pc := 28) (tgt := 35) dX9_goneFrom_28 rfl (fun c17 => ?_) (fun c17 => ?_)
    · have H := H.1 c17
      refine ea_iinc (pc := 35) (v := 1) (lv' := [(0, vR r0), (1, vI x1), (2, vI x2), (3, vI x3), (4, vI x4), (5, vI (x5 + 1))]) dX9_goneFrom_35 5 rfl rfl (Nat.le_of_ble_eq_true rfl) [1, 2, 3, 4, 5, 0] rfl ?_
      refine ea_goto (pc := 38) (tgt := 6) dX9_goneFrom_38 rfl ?_
      exact H
    · have H := H.2 c17
      refine ea_iload (pc := 31) dX9_goneFrom_31 5 rfl ?_
      refine ea_istore (pc := 33) (lv' := [(0, vR r0), (1, vI x1), (2, vI x2), (3, vI x3), (4, vI x5), (5, vI x5)]) dX9_goneFrom_33 (Nat.le_of_ble_eq_true rfl) [1, 2, 3, 4, 0, 5] rfl ?_
      refine ea_iinc (pc := 35) (v := 1) (lv' := [(0, vR r0), (1, vI x1), (2, vI x2), (3, vI x3), (4, vI x5), (5, vI (x5 + 1))]) dX9_goneFrom_35 5 rfl rfl (Nat.le_of_ble_eq_true rfl) [1, 2, 3, 4, 5, 0] rfl ?_
      refine ea_goto (pc := 38) (tgt := 6) dX9_goneFrom_38 rfl ?_
      exact H
theorem dX10_init_0 : decode cX10_init 0 = .ok (.aload_n 0, 1) := by decide +kernel
theorem dX10_init_1 : decode cX10_init 1 = .ok (.invokespecial 5, 3) := by decide +kernel
theorem dX10_init_4 : decode cX10_init 4 = .ok (.aload_n 0, 1) := by decide +kernel
theorem dX10_init_5 : decode cX10_init 5 = .ok (.bipush 12, 2) := by decide +kernel
theorem dX10_init_7 : decode cX10_init 7 = .ok (.newarray .int, 2) := by decide +kernel
theorem dX10_init_9 : decode cX10_init 9 = .ok (.putfield 11, 3) := by decide +kernel
theorem dX10_init_12 : decode cX10_init 12 = .ok (.aload_n 0, 1) := by decide +kernel
theorem dX10_init_13 : decode cX10_init 13 = .ok (.bipush 12, 2) := by decide +kernel
theorem dX10_init_15 : decode cX10_init 15 = .ok (.newarray .int, 2) := by decide +kernel
theorem dX10_init_17 : decode cX10_init 17 = .ok (.putfield 17, 3) := by decide +kernel
theorem dX10_init_20 : decode cX10_init 20 = .ok (.aload_n 0, 1) := by decide +kernel
theorem dX10_init_21 : decode cX10_init 21 = .ok (.aload_n 1, 1) := by decide +kernel
theorem dX10_init_22 : decode cX10_init 22 = .ok (.putfield 20, 3) := by decide +kernel
theorem dX10_init_25 : decode cX10_init 25 = .ok (.return_, 1) := by decide +kernel
theorem bX10_init_0 {d : Nat} {h0 hE h : ea_H} {rv : Option ea_V} {r0 : Option Nat} {r1 : Option Nat} (H : 1 ≤ d ∧ ∃ a20, r0 = some a20 ∧ ∀ h22, h22 = ea_new h 20 12 12 → a20 < ea_n h22 ∧ ea_c h22 a20 = 10 ∧ ∀ h26, h26 = ea_wr h22 a20 7 (some (ea_n h)) → ∀ h28, h28 = ea_new h26 20 12 12 → a20 < ea_n h28 ∧ ea_c h28 a20 = 10 ∧ ∀ h32, h32 = ea_wr h28 a20 8 (some (ea_n h26)) → a20 < ea_n h32 ∧ ea_c h32 a20 = 10 ∧ ∀ h36, h36 = ea_wr h32 a20 2 r1 → rv = none ∧ hE = h36) : ea_W mX10_init d h0 rv hE 0 [(0, vR r0), (1, vR r1)] [] h := by
  refine ea_aload_n (pc := 0) dX10_init_0 rfl 0 rfl ?_
  obtain ⟨z19, a20, e21, H⟩ := H
  refine ea_deref0 e21 ?_
  refine ea_objInit (pc := 1) dX10_init_1 ew_224 ew_134 ew_135 z19 (Nat.le_of_ble_eq_true rfl) ?_
  refine ea_aload_n (pc := 4) dX10_init_4 rfl 0 rfl ?_
  refine ea_bipush (pc := 5) dX10_init_5 (v := 12) rfl ?_
  refine ea_newI (pc := 7) (N := 12) dX10_init_7 ew_170 (by decide) rfl (Nat.le_of_ble_eq_true rfl) ?_
  obtain ⟨h22, E23⟩ : ∃ z, z = ea_new h 20 12 12 := ⟨_, rfl⟩
  have H := H h22 E23
  refine ea_nm E23 ?_
  obtain ⟨f24, g25, H⟩ := H
  refine ea_deref1 e21 ?_
  refine ea_putR (pc := 9) dX10_init_9 ec_10 (k := 7) (Nat.le_of_ble_eq_true rfl) rfl (Or.inr ⟨rfl, rfl, rfl, ew_234⟩) f24 g25 ?_
  obtain ⟨h26, E27⟩ : ∃ z, z = ea_wr h22 a20 7 (some (ea_n h)) := ⟨_, rfl⟩
  have H := H h26 E27
  refine ea_nm E27 ?_
  refine ea_aload_n (pc := 12) dX10_init_12 rfl 0 rfl ?_
  refine ea_bipush (pc := 13) dX10_init_13 (v := 12) rfl ?_
  refine ea_newI (pc := 15) (N := 12) dX10_init_15 ew_170 (by decide) rfl (Nat.le_of_ble_eq_true rfl) ?_
  obtain ⟨h28, E29⟩ : ∃ z, z = ea_new h26 20 12 12 := ⟨_, rfl⟩
  have H := H h28 E29
  refine ea_nm E29 ?_
  obtain ⟨f30, g31, H⟩ := H
  refine ea_deref1 e21 ?_
  refine ea_putR (pc := 17) dX10_init_17 ec_10 (k := 8) (Nat.le_of_ble_eq_true rfl) rfl (Or.inr ⟨rfl, rfl, rfl, ew_235⟩) f30 g31 ?_
  obtain ⟨h32, E33⟩ : ∃ z, z = ea_wr h28 a20 8 (some (ea_n h26)) := ⟨_, rfl⟩
  have H := H h32 E33
  refine ea_nm E33 ?_
  refine ea_aload_n (pc := 20) dX10_init_20 rfl 0 rfl ?_
  refine ea_aload_n (pc := 21) dX10_init_21 rfl 1 rfl ?_
  obtain ⟨f34, g35, H⟩ := H
  refine ea_deref1 e21 ?_
  refine ea_putR (pc := 22) dX10_init_22 ec_10 (k := 2) (Nat.le_of_ble_eq_true rfl) rfl (Or.inr ⟨rfl, rfl, rfl, ew_229⟩) f34 g35 ?_
  obtain ⟨h36, E37⟩ : ∃ z, z = ea_wr h32 a20 2 r1 := ⟨_, rfl⟩
  have H := H h36 E37
  refine ea_nm E37 ?_
  obtain ⟨rfl, rfl⟩ := H
  exact ea_return (pc := 25) dX10_init_25 rfl
theorem dX10_minuteOf_0 : decode cX10_minuteOf 0 = .ok (.lload_n 0, 1) := by decide +kernel
theorem dX10_minuteOf_1 : decode cX10_minuteOf 1 = .ok (.bipush 21, 2) := by decide +kernel
theorem dX10_minuteOf_3 : decode cX10_minuteOf 3 = .ok (.lshr, 1) := by decide +kernel
theorem dX10_minuteOf_4 : decode cX10_minuteOf 4 = .ok (.l2i, 1) := by decide +kernel
theorem dX10_minuteOf_5 : decode cX10_minuteOf 5 = .ok (.ireturn, 1) := by decide +kernel
theorem bX10_minuteOf_0 {d : Nat} {h0 hE h : ea_H} {rv : Option ea_V} {y0 : Int64} (H : rv = some (vI (Int64.toInt32 (y0 >>> (Int32.toInt64 21 &&& 63)))) ∧ hE = h) : ea_W mX10_minuteOf d h0 rv hE 0 [(0, vJ y0)] [] h := by
  refine ea_lload_n (pc := 0) dX10_minuteOf_0 rfl 0 rfl ?_
  refine ea_bipush (pc := 1) dX10_minuteOf_1 (v := 21) rfl ?_
  refine ea_lshr (pc := 3) dX10_minuteOf_3 ?_
  refine ea_l2i (pc := 4) dX10_minuteOf_4 ?_
  obtain ⟨rfl, rfl⟩ := H
  exact ea_ireturn (pc := 5) dX10_minuteOf_5 rfl rfl
theorem dX10_runsOf_0 : decode cX10_runsOf 0 = .ok (.lload_n 0, 1) := by decide +kernel
theorem dX10_runsOf_1 : decode cX10_runsOf 1 = .ok (.bipush 13, 2) := by decide +kernel
theorem dX10_runsOf_3 : decode cX10_runsOf 3 = .ok (.lshr, 1) := by decide +kernel
theorem dX10_runsOf_4 : decode cX10_runsOf 4 = .ok (.l2i, 1) := by decide +kernel
theorem dX10_runsOf_5 : decode cX10_runsOf 5 = .ok (.sipush 255, 3) := by decide +kernel
theorem dX10_runsOf_8 : decode cX10_runsOf 8 = .ok (.iand, 1) := by decide +kernel
theorem dX10_runsOf_9 : decode cX10_runsOf 9 = .ok (.ireturn, 1) := by decide +kernel
theorem bX10_runsOf_0 {d : Nat} {h0 hE h : ea_H} {rv : Option ea_V} {y0 : Int64} (H : rv = some (vI ((Int64.toInt32 (y0 >>> (Int32.toInt64 13 &&& 63))) &&& (255 : Int32))) ∧ hE = h) : ea_W mX10_runsOf d h0 rv hE 0 [(0, vJ y0)] [] h := by
  refine ea_lload_n (pc := 0) dX10_runsOf_0 rfl 0 rfl ?_
  refine ea_bipush (pc := 1) dX10_runsOf_1 (v := 13) rfl ?_
  refine ea_lshr (pc := 3) dX10_runsOf_3 ?_
  refine ea_l2i (pc := 4) dX10_runsOf_4 ?_
  refine ea_sipush (pc := 5) dX10_runsOf_5 (v := 255) rfl ?_
  refine ea_iand (pc := 8) dX10_runsOf_8 ?_
  obtain ⟨rfl, rfl⟩ := H
  exact ea_ireturn (pc := 9) dX10_runsOf_9 rfl rfl
theorem dX10_trainOf_0 : decode cX10_trainOf 0 = .ok (.lload_n 0, 1) := by decide +kernel
theorem dX10_trainOf_1 : decode cX10_trainOf 1 = .ok (.bipush 9, 2) := by decide +kernel
theorem dX10_trainOf_3 : decode cX10_trainOf 3 = .ok (.lshr, 1) := by decide +kernel
theorem dX10_trainOf_4 : decode cX10_trainOf 4 = .ok (.l2i, 1) := by decide +kernel
theorem dX10_trainOf_5 : decode cX10_trainOf 5 = .ok (.bipush 15, 2) := by decide +kernel
theorem dX10_trainOf_7 : decode cX10_trainOf 7 = .ok (.iand, 1) := by decide +kernel
theorem dX10_trainOf_8 : decode cX10_trainOf 8 = .ok (.ireturn, 1) := by decide +kernel
theorem bX10_trainOf_0 {d : Nat} {h0 hE h : ea_H} {rv : Option ea_V} {y0 : Int64} (H : rv = some (vI ((Int64.toInt32 (y0 >>> (Int32.toInt64 9 &&& 63))) &&& (15 : Int32))) ∧ hE = h) : ea_W mX10_trainOf d h0 rv hE 0 [(0, vJ y0)] [] h := by
  refine ea_lload_n (pc := 0) dX10_trainOf_0 rfl 0 rfl ?_
  refine ea_bipush (pc := 1) dX10_trainOf_1 (v := 9) rfl ?_
  refine ea_lshr (pc := 3) dX10_trainOf_3 ?_
  refine ea_l2i (pc := 4) dX10_trainOf_4 ?_
  refine ea_bipush (pc := 5) dX10_trainOf_5 (v := 15) rfl ?_
  refine ea_iand (pc := 7) dX10_trainOf_7 ?_
  obtain ⟨rfl, rfl⟩ := H
  exact ea_ireturn (pc := 8) dX10_trainOf_8 rfl rfl
theorem dX10_dayOf_0 : decode cX10_dayOf 0 = .ok (.lload_n 0, 1) := by decide +kernel
theorem dX10_dayOf_1 : decode cX10_dayOf 1 = .ok (.bipush 6, 2) := by decide +kernel
theorem dX10_dayOf_3 : decode cX10_dayOf 3 = .ok (.lshr, 1) := by decide +kernel
theorem dX10_dayOf_4 : decode cX10_dayOf 4 = .ok (.l2i, 1) := by decide +kernel
theorem dX10_dayOf_5 : decode cX10_dayOf 5 = .ok (.bipush 7, 2) := by decide +kernel
theorem dX10_dayOf_7 : decode cX10_dayOf 7 = .ok (.iand, 1) := by decide +kernel
theorem dX10_dayOf_8 : decode cX10_dayOf 8 = .ok (.ireturn, 1) := by decide +kernel
theorem bX10_dayOf_0 {d : Nat} {h0 hE h : ea_H} {rv : Option ea_V} {y0 : Int64} (H : rv = some (vI ((Int64.toInt32 (y0 >>> (Int32.toInt64 6 &&& 63))) &&& (7 : Int32))) ∧ hE = h) : ea_W mX10_dayOf d h0 rv hE 0 [(0, vJ y0)] [] h := by
  refine ea_lload_n (pc := 0) dX10_dayOf_0 rfl 0 rfl ?_
  refine ea_bipush (pc := 1) dX10_dayOf_1 (v := 6) rfl ?_
  refine ea_lshr (pc := 3) dX10_dayOf_3 ?_
  refine ea_l2i (pc := 4) dX10_dayOf_4 ?_
  refine ea_bipush (pc := 5) dX10_dayOf_5 (v := 7) rfl ?_
  refine ea_iand (pc := 7) dX10_dayOf_7 ?_
  obtain ⟨rfl, rfl⟩ := H
  exact ea_ireturn (pc := 8) dX10_dayOf_8 rfl rfl
theorem dX10_takenOf_0 : decode cX10_takenOf 0 = .ok (.lload_n 0, 1) := by decide +kernel
theorem dX10_takenOf_1 : decode cX10_takenOf 1 = .ok (.iconst 3, 1) := by decide +kernel
theorem dX10_takenOf_2 : decode cX10_takenOf 2 = .ok (.lshr, 1) := by decide +kernel
theorem dX10_takenOf_3 : decode cX10_takenOf 3 = .ok (.l2i, 1) := by decide +kernel
theorem dX10_takenOf_4 : decode cX10_takenOf 4 = .ok (.bipush 7, 2) := by decide +kernel
theorem dX10_takenOf_6 : decode cX10_takenOf 6 = .ok (.iand, 1) := by decide +kernel
theorem dX10_takenOf_7 : decode cX10_takenOf 7 = .ok (.ireturn, 1) := by decide +kernel
theorem bX10_takenOf_0 {d : Nat} {h0 hE h : ea_H} {rv : Option ea_V} {y0 : Int64} (H : rv = some (vI ((Int64.toInt32 (y0 >>> (Int32.toInt64 3 &&& 63))) &&& (7 : Int32))) ∧ hE = h) : ea_W mX10_takenOf d h0 rv hE 0 [(0, vJ y0)] [] h := by
  refine ea_lload_n (pc := 0) dX10_takenOf_0 rfl 0 rfl ?_
  refine ea_iconst (pc := 1) dX10_takenOf_1 (v := 3) rfl ?_
  refine ea_lshr (pc := 2) dX10_takenOf_2 ?_
  refine ea_l2i (pc := 3) dX10_takenOf_3 ?_
  refine ea_bipush (pc := 4) dX10_takenOf_4 (v := 7) rfl ?_
  refine ea_iand (pc := 6) dX10_takenOf_6 ?_
  obtain ⟨rfl, rfl⟩ := H
  exact ea_ireturn (pc := 7) dX10_takenOf_7 rfl rfl
theorem dX10_leftOf_0 : decode cX10_leftOf 0 = .ok (.lload_n 0, 1) := by decide +kernel
theorem dX10_leftOf_1 : decode cX10_leftOf 1 = .ok (.l2i, 1) := by decide +kernel
theorem dX10_leftOf_2 : decode cX10_leftOf 2 = .ok (.bipush 7, 2) := by decide +kernel
theorem dX10_leftOf_4 : decode cX10_leftOf 4 = .ok (.iand, 1) := by decide +kernel
theorem dX10_leftOf_5 : decode cX10_leftOf 5 = .ok (.ireturn, 1) := by decide +kernel
theorem bX10_leftOf_0 {d : Nat} {h0 hE h : ea_H} {rv : Option ea_V} {y0 : Int64} (H : rv = some (vI ((Int64.toInt32 y0) &&& (7 : Int32))) ∧ hE = h) : ea_W mX10_leftOf d h0 rv hE 0 [(0, vJ y0)] [] h := by
  refine ea_lload_n (pc := 0) dX10_leftOf_0 rfl 0 rfl ?_
  refine ea_l2i (pc := 1) dX10_leftOf_1 ?_
  refine ea_bipush (pc := 2) dX10_leftOf_2 (v := 7) rfl ?_
  refine ea_iand (pc := 4) dX10_leftOf_4 ?_
  obtain ⟨rfl, rfl⟩ := H
  exact ea_ireturn (pc := 5) dX10_leftOf_5 rfl rfl
theorem dX10_refresh_0 : decode cX10_refresh 0 = .ok (.aload_n 0, 1) := by decide +kernel
theorem dX10_refresh_1 : decode cX10_refresh 1 = .ok (.getfield 24, 3) := by decide +kernel
theorem dX10_refresh_4 : decode cX10_refresh 4 = .ok (.ifCond .eq 4, 3) := by decide +kernel
theorem dX10_refresh_7 : decode cX10_refresh 7 = .ok (.return_, 1) := by decide +kernel
theorem dX10_refresh_8 : decode cX10_refresh 8 = .ok (.aload_n 0, 1) := by decide +kernel
theorem dX10_refresh_9 : decode cX10_refresh 9 = .ok (.getfield 28, 3) := by decide +kernel
theorem dX10_refresh_12 : decode cX10_refresh 12 = .ok (.ifnonnull 39, 3) := by decide +kernel
theorem dX10_refresh_15 : decode cX10_refresh 15 = .ok (.aload_n 0, 1) := by decide +kernel
theorem dX10_refresh_16 : decode cX10_refresh 16 = .ok (.sipush 1120, 3) := by decide +kernel
theorem dX10_refresh_19 : decode cX10_refresh 19 = .ok (.newarray .int, 2) := by decide +kernel
theorem dX10_refresh_21 : decode cX10_refresh 21 = .ok (.putfield 28, 3) := by decide +kernel
theorem dX10_refresh_24 : decode cX10_refresh 24 = .ok (.aload_n 0, 1) := by decide +kernel
theorem dX10_refresh_25 : decode cX10_refresh 25 = .ok (.sipush 6720, 3) := by decide +kernel
theorem dX10_refresh_28 : decode cX10_refresh 28 = .ok (.newarray .long, 2) := by decide +kernel
theorem dX10_refresh_30 : decode cX10_refresh 30 = .ok (.putfield 31, 3) := by decide +kernel
theorem dX10_refresh_33 : decode cX10_refresh 33 = .ok (.aload_n 0, 1) := by decide +kernel
theorem dX10_refresh_34 : decode cX10_refresh 34 = .ok (.sipush 840, 3) := by decide +kernel
theorem dX10_refresh_37 : decode cX10_refresh 37 = .ok (.newarray .long, 2) := by decide +kernel
theorem dX10_refresh_39 : decode cX10_refresh 39 = .ok (.putfield 35, 3) := by decide +kernel
theorem dX10_refresh_42 : decode cX10_refresh 42 = .ok (.aload_n 0, 1) := by decide +kernel
theorem dX10_refresh_43 : decode cX10_refresh 43 = .ok (.sipush 560, 3) := by decide +kernel
theorem dX10_refresh_46 : decode cX10_refresh 46 = .ok (.newarray .int, 2) := by decide +kernel
theorem dX10_refresh_48 : decode cX10_refresh 48 = .ok (.putfield 38, 3) := by decide +kernel
theorem dX10_refresh_51 : decode cX10_refresh 51 = .ok (.aload_n 0, 1) := by decide +kernel
theorem dX10_refresh_52 : decode cX10_refresh 52 = .ok (.invokevirtual 41, 3) := by decide +kernel
theorem dX10_refresh_55 : decode cX10_refresh 55 = .ok (.aload_n 0, 1) := by decide +kernel
theorem dX10_refresh_56 : decode cX10_refresh 56 = .ok (.invokevirtual 44, 3) := by decide +kernel
theorem dX10_refresh_59 : decode cX10_refresh 59 = .ok (.aload_n 0, 1) := by decide +kernel
theorem dX10_refresh_60 : decode cX10_refresh 60 = .ok (.invokevirtual 47, 3) := by decide +kernel
theorem dX10_refresh_63 : decode cX10_refresh 63 = .ok (.aload_n 0, 1) := by decide +kernel
theorem dX10_refresh_64 : decode cX10_refresh 64 = .ok (.invokevirtual 50, 3) := by decide +kernel
theorem dX10_refresh_67 : decode cX10_refresh 67 = .ok (.aload_n 0, 1) := by decide +kernel
theorem dX10_refresh_68 : decode cX10_refresh 68 = .ok (.iconst 1, 1) := by decide +kernel
theorem dX10_refresh_69 : decode cX10_refresh 69 = .ok (.putfield 24, 3) := by decide +kernel
theorem dX10_refresh_72 : decode cX10_refresh 72 = .ok (.return_, 1) := by decide +kernel
theorem bX10_refresh_0 {d : Nat} {h0 hE h : ea_H} {rv : Option ea_V} {r0 : Option Nat} (H : ∃ a3, r0 = some a3 ∧ a3 < ea_n h ∧ ea_c h a3 = 10 ∧ ((ea_i h a3 0) = (0 : Int32) → a3 < ea_n h ∧ ea_c h a3 = 10 ∧ (∀ a7, (ea_r h a3 3) = some a7 → ea_W mX10_refresh d h0 rv hE 51 [(0, vR r0)] [] h) ∧ ((ea_r h a3 3) = none → ∀ h9, h9 = ea_new h 20 1120 1120 → a3 < ea_n h9 ∧ ea_c h9 a3 = 10 ∧ ∀ h13, h13 = ea_wr h9 a3 3 (some (ea_n h)) → ∀ h15, h15 = ea_new h13 22 6720 6720 → a3 < ea_n h15 ∧ ea_c h15 a3 = 10 ∧ ∀ h19, h19 = ea_wr h15 a3 4 (some (ea_n h13)) → ∀ h21, h21 = ea_new h19 22 840 840 → a3 < ea_n h21 ∧ ea_c h21 a3 = 10 ∧ ∀ h25, h25 = ea_wr h21 a3 5 (some (ea_n h19)) → ∀ h27, h27 = ea_new h25 20 560 560 → a3 < ea_n h27 ∧ ea_c h27 a3 = 10 ∧ ∀ h31, h31 = ea_wr h27 a3 6 (some (ea_n h25)) → ea_W mX10_refresh d h0 rv hE 51 [(0, vR r0)] [] h31)) ∧ (¬ (ea_i h a3 0) = (0 : Int32) → rv = none ∧ hE = h)) : ea_W mX10_refresh d h0 rv hE 0 [(0, vR r0)] [] h := by
  refine ea_aload_n (pc := 0) dX10_refresh_0 rfl 0 rfl ?_
  obtain ⟨a3, e4, f1, g2, H⟩ := H
  refine ea_deref0 e4 ?_
  refine ea_getI (pc := 1) dX10_refresh_1 ec_10 (k := 0) (Nat.le_of_ble_eq_true rfl) rfl (Or.inl ew_225) f1 g2 ?_
  refine ea_if_eq (pc := 4) (tgt := 8) dX10_refresh_4 rfl (fun c33 => ?_) (fun c33 => ?_)
  · have H := H.1 c33
    refine ea_aload_n (pc := 8) dX10_refresh_8 rfl 0 rfl ?_
    obtain ⟨f5, g6, H⟩ := H
    refine ea_deref0 e4 ?_
    refine ea_getR (pc := 9) dX10_refresh_9 ec_10 (k := 3) (Nat.le_of_ble_eq_true rfl) rfl (Or.inl ew_230) f5 g6 rfl ?_
    refine ea_ifnonnull (pc := 12) (tgt := 51) dX10_refresh_12 rfl (fun a7 e8 => ?_) (fun e8 => ?_)
    · have H := H.1 a7 e8
      exact H
    · have H := H.2 e8
      refine ea_aload_n (pc := 15) dX10_refresh_15 rfl 0 rfl ?_
      refine ea_sipush (pc := 16) dX10_refresh_16 (v := 1120) rfl ?_
      refine ea_newI (pc := 19) (N := 1120) dX10_refresh_19 ew_170 (by decide) rfl (Nat.le_of_ble_eq_true rfl) ?_
      obtain ⟨h9, E10⟩ : ∃ z, z = ea_new h 20 1120 1120 := ⟨_, rfl⟩
      have H := H h9 E10
      refine ea_nm E10 ?_
      obtain ⟨f11, g12, H⟩ := H
      refine ea_deref1 e4 ?_
      refine ea_putR (pc := 21) dX10_refresh_21 ec_10 (k := 3) (Nat.le_of_ble_eq_true rfl) rfl (Or.inl ⟨rfl, Or.inl ew_230⟩) f11 g12 ?_
      obtain ⟨h13, E14⟩ : ∃ z, z = ea_wr h9 a3 3 (some (ea_n h)) := ⟨_, rfl⟩
      have H := H h13 E14
      refine ea_nm E14 ?_
      refine ea_aload_n (pc := 24) dX10_refresh_24 rfl 0 rfl ?_
      refine ea_sipush (pc := 25) dX10_refresh_25 (v := 6720) rfl ?_
      refine ea_newJ (pc := 28) (N := 6720) dX10_refresh_28 ew_720 (by decide) rfl (Nat.le_of_ble_eq_true rfl) ?_
      obtain ⟨h15, E16⟩ : ∃ z, z = ea_new h13 22 6720 6720 := ⟨_, rfl⟩
      have H := H h15 E16
      refine ea_nm E16 ?_
      obtain ⟨f17, g18, H⟩ := H
      refine ea_deref1 e4 ?_
      refine ea_putR (pc := 30) dX10_refresh_30 ec_10 (k := 4) (Nat.le_of_ble_eq_true rfl) rfl (Or.inl ⟨rfl, Or.inl ew_231⟩) f17 g18 ?_
      obtain ⟨h19, E20⟩ : ∃ z, z = ea_wr h15 a3 4 (some (ea_n h13)) := ⟨_, rfl⟩
      have H := H h19 E20
      refine ea_nm E20 ?_
      refine ea_aload_n (pc := 33) dX10_refresh_33 rfl 0 rfl ?_
      refine ea_sipush (pc := 34) dX10_refresh_34 (v := 840) rfl ?_
      refine ea_newJ (pc := 37) (N := 840) dX10_refresh_37 ew_720 (by decide) rfl (Nat.le_of_ble_eq_true rfl) ?_
      obtain ⟨h21, E22⟩ : ∃ z, z = ea_new h19 22 840 840 := ⟨_, rfl⟩
      have H := H h21 E22
      refine ea_nm E22 ?_
      obtain ⟨f23, g24, H⟩ := H
      refine ea_deref1 e4 ?_
      refine ea_putR (pc := 39) dX10_refresh_39 ec_10 (k := 5) (Nat.le_of_ble_eq_true rfl) rfl (Or.inl ⟨rfl, Or.inl ew_232⟩) f23 g24 ?_
      obtain ⟨h25, E26⟩ : ∃ z, z = ea_wr h21 a3 5 (some (ea_n h19)) := ⟨_, rfl⟩
      have H := H h25 E26
      refine ea_nm E26 ?_
      refine ea_aload_n (pc := 42) dX10_refresh_42 rfl 0 rfl ?_
      refine ea_sipush (pc := 43) dX10_refresh_43 (v := 560) rfl ?_
      refine ea_newI (pc := 46) (N := 560) dX10_refresh_46 ew_170 (by decide) rfl (Nat.le_of_ble_eq_true rfl) ?_
      obtain ⟨h27, E28⟩ : ∃ z, z = ea_new h25 20 560 560 := ⟨_, rfl⟩
      have H := H h27 E28
      refine ea_nm E28 ?_
      obtain ⟨f29, g30, H⟩ := H
      refine ea_deref1 e4 ?_
      refine ea_putR (pc := 48) dX10_refresh_48 ec_10 (k := 6) (Nat.le_of_ble_eq_true rfl) rfl (Or.inl ⟨rfl, Or.inl ew_233⟩) f29 g30 ?_
      obtain ⟨h31, E32⟩ : ∃ z, z = ea_wr h27 a3 6 (some (ea_n h25)) := ⟨_, rfl⟩
      have H := H h31 E32
      refine ea_nm E32 ?_
      exact H
  · have H := H.2 c33
    obtain ⟨rfl, rfl⟩ := H
    exact ea_return (pc := 7) dX10_refresh_7 rfl
theorem bX10_refresh_51 {d : Nat} {h0 hE h : ea_H} {rv : Option ea_V} {r0 : Option Nat} (H : ∃ a7, r0 = some a7 ∧ a7 < ea_n h ∧ ea_c h a7 = 10 ∧ ∃ (d1 : Nat) (h2 : ea_H), ea_Met mX10_collect d1 [vR (some a7)] h none h2 ∧ d1 + 1 ≤ d ∧ a7 < ea_n h2 ∧ ea_c h2 a7 = 10 ∧ ∃ (d9 : Nat) (h10 : ea_H), ea_Met mX10_sortKeys d9 [vR (some a7)] h2 none h10 ∧ d9 + 1 ≤ d ∧ a7 < ea_n h10 ∧ ea_c h10 a7 = 10 ∧ ∃ (d15 : Nat) (h16 : ea_H), ea_Met mX10_linkMinutes d15 [vR (some a7)] h10 none h16 ∧ d15 + 1 ≤ d ∧ a7 < ea_n h16 ∧ ea_c h16 a7 = 10 ∧ ∃ (d21 : Nat) (h22 : ea_H), ea_Met mX10_trace d21 [vR (some a7)] h16 none h22 ∧ d21 + 1 ≤ d ∧ a7 < ea_n h22 ∧ ea_c h22 a7 = 10 ∧ ∀ h29, h29 = ea_wi h22 a7 0 1 → rv = none ∧ hE = h29) : ea_W mX10_refresh d h0 rv hE 51 [(0, vR r0)] [] h := by
  refine ea_aload_n (pc := 51) dX10_refresh_51 rfl 0 rfl ?_
  obtain ⟨a7, e8, f5, g6, H⟩ := H
  refine ea_deref0 e8 ?_
  obtain ⟨d1, h2, m3, q4, H⟩ := H
  refine ea_callV (pc := 52) (As := []) (st := []) dX10_refresh_52 kX10_collect m3 q4 rfl (Nat.le_of_ble_eq_true rfl) ew_567 ew_569 ew_3 (ci := 10) rfl (by decide) f5 g6 ?_
  refine ea_aload_n (pc := 55) dX10_refresh_55 rfl 0 rfl ?_
  obtain ⟨f13, g14, H⟩ := H
  refine ea_deref0 e8 ?_
  obtain ⟨d9, h10, m11, q12, H⟩ := H
  refine ea_callV (pc := 56) (As := []) (st := []) dX10_refresh_56 kX10_sortKeys m11 q12 rfl (Nat.le_of_ble_eq_true rfl) ew_580 ew_582 ew_5 (ci := 10) rfl (by decide) f13 g14 ?_
  refine ea_aload_n (pc := 59) dX10_refresh_59 rfl 0 rfl ?_
  obtain ⟨f19, g20, H⟩ := H
  refine ea_deref0 e8 ?_
  obtain ⟨d15, h16, m17, q18, H⟩ := H
  refine ea_callV (pc := 60) (As := []) (st := []) dX10_refresh_60 kX10_linkMinutes m17 q18 rfl (Nat.le_of_ble_eq_true rfl) ew_584 ew_586 ew_6 (ci := 10) rfl (by decide) f19 g20 ?_
  refine ea_aload_n (pc := 63) dX10_refresh_63 rfl 0 rfl ?_
  obtain ⟨f25, g26, H⟩ := H
  refine ea_deref0 e8 ?_
  obtain ⟨d21, h22, m23, q24, H⟩ := H
  refine ea_callV (pc := 64) (As := []) (st := []) dX10_refresh_64 kX10_trace m23 q24 rfl (Nat.le_of_ble_eq_true rfl) ew_611 ew_613 ew_8 (ci := 10) rfl (by decide) f25 g26 ?_
  refine ea_aload_n (pc := 67) dX10_refresh_67 rfl 0 rfl ?_
  refine ea_iconst (pc := 68) dX10_refresh_68 (v := 1) rfl ?_
  obtain ⟨f27, g28, H⟩ := H
  refine ea_deref1 e8 ?_
  refine ea_putI (pc := 69) dX10_refresh_69 ec_10 (k := 0) (Nat.le_of_ble_eq_true rfl) rfl (Or.inl ⟨rfl, Or.inl ew_225⟩) (ea_bn (Or.inr rfl)) (ea_bf (Or.inr rfl)) f27 g28 ?_
  obtain ⟨h29, E30⟩ : ∃ z, z = ea_wi h22 a7 0 1 := ⟨_, rfl⟩
  have H := H h29 E30
  refine ea_nm E30 ?_
  obtain ⟨rfl, rfl⟩ := H
  exact ea_return (pc := 72) dX10_refresh_72 rfl
theorem dX10_keyAt_0 : decode cX10_keyAt 0 = .ok (.iload_n 1, 1) := by decide +kernel
theorem dX10_keyAt_1 : decode cX10_keyAt 1 = .ok (.ifCond .lt 27, 3) := by decide +kernel
theorem dX10_keyAt_4 : decode cX10_keyAt 4 = .ok (.iload_n 1, 1) := by decide +kernel
theorem dX10_keyAt_5 : decode cX10_keyAt 5 = .ok (.aload_n 0, 1) := by decide +kernel
theorem dX10_keyAt_6 : decode cX10_keyAt 6 = .ok (.getfield 53, 3) := by decide +kernel
theorem dX10_keyAt_9 : decode cX10_keyAt 9 = .ok (.if_icmp .ge 19, 3) := by decide +kernel
theorem dX10_keyAt_12 : decode cX10_keyAt 12 = .ok (.aload_n 0, 1) := by decide +kernel
theorem dX10_keyAt_13 : decode cX10_keyAt 13 = .ok (.getfield 28, 3) := by decide +kernel
theorem dX10_keyAt_16 : decode cX10_keyAt 16 = .ok (.ifnull 12, 3) := by decide +kernel
theorem dX10_keyAt_19 : decode cX10_keyAt 19 = .ok (.aload_n 0, 1) := by decide +kernel
theorem dX10_keyAt_20 : decode cX10_keyAt 20 = .ok (.getfield 28, 3) := by decide +kernel
theorem dX10_keyAt_23 : decode cX10_keyAt 23 = .ok (.iload_n 1, 1) := by decide +kernel
theorem dX10_keyAt_24 : decode cX10_keyAt 24 = .ok (.iaload, 1) := by decide +kernel
theorem dX10_keyAt_25 : decode cX10_keyAt 25 = .ok (.goto 4, 3) := by decide +kernel
theorem dX10_keyAt_28 : decode cX10_keyAt 28 = .ok (.iconst 0, 1) := by decide +kernel
theorem dX10_keyAt_29 : decode cX10_keyAt 29 = .ok (.ireturn, 1) := by decide +kernel
theorem bX10_keyAt_0 {d : Nat} {h0 hE h : ea_H} {rv : Option ea_V} {r0 : Option Nat} {x1 : Int32} (H : (x1 < (0 : Int32) → rv = some (vI 0) ∧ hE = h) ∧ (¬ x1 < (0 : Int32) → ∃ a3, r0 = some a3 ∧ a3 < ea_n h ∧ ea_c h a3 = 10 ∧ ((ea_i h a3 1) ≤ x1 → rv = some (vI 0) ∧ hE = h) ∧ (¬ (ea_i h a3 1) ≤ x1 → a3 < ea_n h ∧ ea_c h a3 = 10 ∧ ((ea_r h a3 3) = none → rv = some (vI 0) ∧ hE = h) ∧ (∀ a7, (ea_r h a3 3) = some a7 → a3 < ea_n h ∧ ea_c h a3 = 10 ∧ a7 < ea_n h ∧ ea_c h a7 = 20 ∧ vp_in x1 (ea_l h a7) ∧ rv = some (vI (ea_i h a7 (Int32.toNatClampNeg x1))) ∧ hE = h)))) : ea_W mX10_keyAt d h0 rv hE 0 [(0, vR r0), (1, vI x1)] [] h := by
  refine ea_iload_n (pc := 0) dX10_keyAt_0 rfl 1 rfl ?_
  refine ea_if_lt (pc := 1) (tgt := 28) dX10_keyAt_1 rfl (fun c15 => ?_) (fun c15 => ?_)
  · have H := H.1 c15
    refine ea_iconst (pc := 28) dX10_keyAt_28 (v := 0) rfl ?_
    obtain ⟨rfl, rfl⟩ := H
    exact ea_ireturn (pc := 29) dX10_keyAt_29 rfl rfl
  · have H := H.2 c15
    refine ea_iload_n (pc := 4) dX10_keyAt_4 rfl 1 rfl ?_
    refine ea_aload_n (pc := 5) dX10_keyAt_5 rfl 0 rfl ?_
    obtain ⟨a3, e4, f1, g2, H⟩ := H
    refine ea_deref0 e4 ?_
    refine ea_getI (pc := 6) dX10_keyAt_6 ec_10 (k := 1) (Nat.le_of_ble_eq_true rfl) rfl (Or.inl ew_227) f1 g2 ?_
    refine ea_icmp_ge (pc := 9) (tgt := 28) dX10_keyAt_9 rfl (fun c14 => ?_) (fun c14 => ?_)
    · have H := H.1 c14
      refine ea_iconst (pc := 28) dX10_keyAt_28 (v := 0) rfl ?_
      obtain ⟨rfl, rfl⟩ := H
      exact ea_ireturn (pc := 29) dX10_keyAt_29 rfl rfl
    · have H := H.2 c14
      refine ea_aload_n (pc := 12) dX10_keyAt_12 rfl 0 rfl ?_
      obtain ⟨f5, g6, H⟩ := H
      refine ea_deref0 e4 ?_
      refine ea_getR (pc := 13) dX10_keyAt_13 ec_10 (k := 3) (Nat.le_of_ble_eq_true rfl) rfl (Or.inl ew_230) f5 g6 rfl ?_
      refine ea_ifnull (pc := 16) (tgt := 28) dX10_keyAt_16 rfl (fun e8 => ?_) (fun a7 e8 => ?_)
      · have H := H.1 e8
        refine ea_iconst (pc := 28) dX10_keyAt_28 (v := 0) rfl ?_
        obtain ⟨rfl, rfl⟩ := H
        exact ea_ireturn (pc := 29) dX10_keyAt_29 rfl rfl
      · have H := H.2 a7 e8
        refine ea_aload_n (pc := 19) dX10_keyAt_19 rfl 0 rfl ?_
        obtain ⟨f9, g10, H⟩ := H
        refine ea_deref0 e4 ?_
        refine ea_getR (pc := 20) dX10_keyAt_20 ec_10 (k := 3) (Nat.le_of_ble_eq_true rfl) rfl (Or.inl ew_230) f9 g10 rfl ?_
        refine ea_iload_n (pc := 23) dX10_keyAt_23 rfl 1 rfl ?_
        obtain ⟨f11, g12, H⟩ := H
        refine ea_deref1 e8 ?_
        obtain ⟨z13, H⟩ := H
        refine ea_iald (pc := 24) dX10_keyAt_24 f11 g12 z13 ?_
        refine ea_goto (pc := 25) (tgt := 29) dX10_keyAt_25 rfl ?_
        obtain ⟨rfl, rfl⟩ := H
        exact ea_ireturn (pc := 29) dX10_keyAt_29 rfl rfl
theorem dX10_firstBehind_0 : decode cX10_firstBehind 0 = .ok (.iconst 0, 1) := by decide +kernel
theorem dX10_firstBehind_1 : decode cX10_firstBehind 1 = .ok (.istore_n 2, 1) := by decide +kernel
theorem dX10_firstBehind_2 : decode cX10_firstBehind 2 = .ok (.iload_n 2, 1) := by decide +kernel
theorem dX10_firstBehind_3 : decode cX10_firstBehind 3 = .ok (.aload_n 0, 1) := by decide +kernel
theorem dX10_firstBehind_4 : decode cX10_firstBehind 4 = .ok (.getfield 53, 3) := by decide +kernel
theorem dX10_firstBehind_7 : decode cX10_firstBehind 7 = .ok (.if_icmp .ge 23, 3) := by decide +kernel
theorem dX10_firstBehind_10 : decode cX10_firstBehind 10 = .ok (.aload_n 0, 1) := by decide +kernel
theorem dX10_firstBehind_11 : decode cX10_firstBehind 11 = .ok (.iload_n 2, 1) := by decide +kernel
theorem dX10_firstBehind_12 : decode cX10_firstBehind 12 = .ok (.invokevirtual 57, 3) := by decide +kernel
theorem dX10_firstBehind_15 : decode cX10_firstBehind 15 = .ok (.invokestatic 61, 3) := by decide +kernel
theorem dX10_firstBehind_18 : decode cX10_firstBehind 18 = .ok (.iload_n 1, 1) := by decide +kernel
theorem dX10_firstBehind_19 : decode cX10_firstBehind 19 = .ok (.if_icmp .le 5, 3) := by decide +kernel
theorem dX10_firstBehind_22 : decode cX10_firstBehind 22 = .ok (.iload_n 2, 1) := by decide +kernel
theorem dX10_firstBehind_23 : decode cX10_firstBehind 23 = .ok (.ireturn, 1) := by decide +kernel
theorem dX10_firstBehind_24 : decode cX10_firstBehind 24 = .ok (.iinc 2 1, 3) := by decide +kernel
theorem dX10_firstBehind_27 : decode cX10_firstBehind 27 = .ok (.goto (-25), 3) := by decide +kernel
theorem dX10_firstBehind_30 : decode cX10_firstBehind 30 = .ok (.aload_n 0, 1) := by decide +kernel
theorem dX10_firstBehind_31 : decode cX10_firstBehind 31 = .ok (.getfield 53, 3) := by decide +kernel
theorem dX10_firstBehind_34 : decode cX10_firstBehind 34 = .ok (.ireturn, 1) := by decide +kernel
theorem bX10_firstBehind_0 {d : Nat} {h0 hE h : ea_H} {rv : Option ea_V} {r0 : Option Nat} {x1 : Int32} (H : ea_W mX10_firstBehind d h0 rv hE 2 [(0, vR r0), (1, vI x1), (2, vI 0)] [] h) : ea_W mX10_firstBehind d h0 rv hE 0 [(0, vR r0), (1, vI x1)] [] h := by
  refine ea_iconst (pc := 0) dX10_firstBehind_0 (v := 0) rfl ?_
  refine ea_istore_n (pc := 1) (lv' := [(0, vR r0), (1, vI x1), (2, vI 0)]) dX10_firstBehind_1 rfl (Nat.le_of_ble_eq_true rfl) [1, 2, 0] rfl ?_
  exact H
theorem bX10_firstBehind_2 {d : Nat} {h0 hE h : ea_H} {rv : Option ea_V} {r0 : Option Nat} {x1 : Int32} {x2 : Int32} (H : ∃ a3, r0 = some a3 ∧ a3 < ea_n h ∧ ea_c h a3 = 10 ∧ ((ea_i h a3 1) ≤ x2 → a3 < ea_n h ∧ ea_c h a3 = 10 ∧ rv = some (vI (ea_i h a3 1)) ∧ hE = h) ∧ (¬ (ea_i h a3 1) ≤ x2 → a3 < ea_n h ∧ ea_c h a3 = 10 ∧ ∃ (d7 : Nat) (xc13 : Int32) (h8 : ea_H), ea_Met mX10_keyAt d7 [vR (some a3), vI x2] h (some (vI xc13)) h8 ∧ d7 + 1 ≤ d ∧ ∃ (d14 : Nat) (xc18 : Int32) (h15 : ea_H), ea_Met mX10_minuteIn d14 [vI xc13] h8 (some (vI xc18)) h15 ∧ d14 + 1 ≤ d ∧ (xc18 ≤ x1 → ea_W mX10_firstBehind d h0 rv hE 2 [(0, vR r0), (1, vI x1), (2, vI (x2 + 1))] [] h15) ∧ (¬ xc18 ≤ x1 → rv = some (vI x2) ∧ hE = h15))) : ea_W mX10_firstBehind d h0 rv hE 2 [(0, vR r0), (1, vI x1), (2, vI x2)] [] h := by
  refine ea_iload_n (pc := 2) dX10_firstBehind_2 rfl 2 rfl ?_
  refine ea_aload_n (pc := 3) dX10_firstBehind_3 rfl 0 rfl ?_
  obtain ⟨a3, e4, f1, g2, H⟩ := H
  refine ea_deref0 e4 ?_
  refine ea_getI (pc := 4) dX10_firstBehind_4 ec_10 (k := 1) (Nat.le_of_ble_eq_true rfl) rfl (Or.inl ew_227) f1 g2 ?_
  refine ea_icmp_ge (pc := 7) (tgt := 30) dX10_firstBehind_7 rfl (fun c20 => ?_) (fun c20 => ?_)
  · have H := H.1 c20
    refine ea_aload_n (pc := 30) dX10_firstBehind_30 rfl 0 rfl ?_
    obtain ⟨f5, g6, H⟩ := H
    refine ea_deref0 e4 ?_
    refine ea_getI (pc := 31) dX10_firstBehind_31 ec_10 (k := 1) (Nat.le_of_ble_eq_true rfl) rfl (Or.inl ew_227) f5 g6 ?_
    obtain ⟨rfl, rfl⟩ := H
    exact ea_ireturn (pc := 34) dX10_firstBehind_34 rfl rfl
  · have H := H.2 c20
    refine ea_aload_n (pc := 10) dX10_firstBehind_10 rfl 0 rfl ?_
    refine ea_iload_n (pc := 11) dX10_firstBehind_11 rfl 2 rfl ?_
    obtain ⟨f11, g12, H⟩ := H
    refine ea_deref1 e4 ?_
    obtain ⟨d7, xc13, h8, m9, q10, H⟩ := H
    refine ea_callV (pc := 12) (As := [vI x2]) (st := []) dX10_firstBehind_12 kX10_keyAt m9 q10 rfl (Nat.le_of_ble_eq_true rfl) ew_635 ew_636 ew_637 (ci := 10) rfl (by decide) f11 g12 ?_
    obtain ⟨d14, xc18, h15, m16, q17, H⟩ := H
    refine ea_callS (pc := 15) (As := [vI xc13]) (st := []) dX10_firstBehind_15 kX10_minuteIn m16 q17 rfl (Nat.le_of_ble_eq_true rfl) ew_602 ew_603 ?_
    refine ea_iload_n (pc := 18) dX10_firstBehind_18 rfl 1 rfl ?_
    refine ea_icmp_le (pc := 19) (tgt := 24) dX10_firstBehind_19 rfl (fun c19 => ?_) (fun c19 => ?_)
    · have H := H.1 c19
      refine ea_iinc (pc := 24) (v := 1) (lv' := [(0, vR r0), (1, vI x1), (2, vI (x2 + 1))]) dX10_firstBehind_24 2 rfl rfl (Nat.le_of_ble_eq_true rfl) [1, 2, 0] rfl ?_
      refine ea_goto (pc := 27) (tgt := 2) dX10_firstBehind_27 rfl ?_
      exact H
    · have H := H.2 c19
      refine ea_iload_n (pc := 22) dX10_firstBehind_22 rfl 2 rfl ?_
      obtain ⟨rfl, rfl⟩ := H
      exact ea_ireturn (pc := 23) dX10_firstBehind_23 rfl rfl
theorem dX10_minuteIn_0 : decode cX10_minuteIn 0 = .ok (.iload_n 0, 1) := by decide +kernel
theorem dX10_minuteIn_1 : decode cX10_minuteIn 1 = .ok (.bipush 11, 2) := by decide +kernel
theorem dX10_minuteIn_3 : decode cX10_minuteIn 3 = .ok (.ishr, 1) := by decide +kernel
theorem dX10_minuteIn_4 : decode cX10_minuteIn 4 = .ok (.ireturn, 1) := by decide +kernel
theorem bX10_minuteIn_0 {d : Nat} {h0 hE h : ea_H} {rv : Option ea_V} {x0 : Int32} (H : rv = some (vI (x0 >>> ((11 : Int32) &&& 31))) ∧ hE = h) : ea_W mX10_minuteIn d h0 rv hE 0 [(0, vI x0)] [] h := by
  refine ea_iload_n (pc := 0) dX10_minuteIn_0 rfl 0 rfl ?_
  refine ea_bipush (pc := 1) dX10_minuteIn_1 (v := 11) rfl ?_
  refine ea_ishr (pc := 3) dX10_minuteIn_3 ?_
  obtain ⟨rfl, rfl⟩ := H
  exact ea_ireturn (pc := 4) dX10_minuteIn_4 rfl rfl
theorem dX10_isGoing_0 : decode cX10_isGoing 0 = .ok (.iload_n 0, 1) := by decide +kernel
theorem dX10_isGoing_1 : decode cX10_isGoing 1 = .ok (.sipush 1024, 3) := by decide +kernel
theorem dX10_isGoing_4 : decode cX10_isGoing 4 = .ok (.iand, 1) := by decide +kernel
theorem dX10_isGoing_5 : decode cX10_isGoing 5 = .ok (.ifCond .eq 7, 3) := by decide +kernel
theorem dX10_isGoing_8 : decode cX10_isGoing 8 = .ok (.iconst 1, 1) := by decide +kernel
theorem dX10_isGoing_9 : decode cX10_isGoing 9 = .ok (.goto 4, 3) := by decide +kernel
theorem dX10_isGoing_12 : decode cX10_isGoing 12 = .ok (.iconst 0, 1) := by decide +kernel
theorem dX10_isGoing_13 : decode cX10_isGoing 13 = .ok (.ireturn, 1) := by decide +kernel
theorem bX10_isGoing_0 {d : Nat} {h0 hE h : ea_H} {rv : Option ea_V} {x0 : Int32} (H : ((x0 &&& (1024 : Int32)) = (0 : Int32) → rv = some (vI 0) ∧ hE = h) ∧ (¬ (x0 &&& (1024 : Int32)) = (0 : Int32) → rv = some (vI 1) ∧ hE = h)) : ea_W mX10_isGoing d h0 rv hE 0 [(0, vI x0)] [] h := by
  refine ea_iload_n (pc := 0) dX10_isGoing_0 rfl 0 rfl ?_
  refine ea_sipush (pc := 1) dX10_isGoing_1 (v := 1024) rfl ?_
  refine ea_iand (pc := 4) dX10_isGoing_4 ?_
  refine ea_if_eq (pc := 5) (tgt := 12) dX10_isGoing_5 rfl (fun c1 => ?_) (fun c1 => ?_)
  · have H := H.1 c1
    refine ea_iconst (pc := 12) dX10_isGoing_12 (v := 0) rfl ?_
    obtain ⟨rfl, rfl⟩ := H
    exact ea_ireturn (pc := 13) dX10_isGoing_13 rfl (ea_bn (Or.inl rfl))
  · have H := H.2 c1
    refine ea_iconst (pc := 8) dX10_isGoing_8 (v := 1) rfl ?_
    refine ea_goto (pc := 9) (tgt := 13) dX10_isGoing_9 rfl ?_
    obtain ⟨rfl, rfl⟩ := H
    exact ea_ireturn (pc := 13) dX10_isGoing_13 rfl (ea_bn (Or.inr rfl))
theorem dX10_trainIn_0 : decode cX10_trainIn 0 = .ok (.iload_n 0, 1) := by decide +kernel
theorem dX10_trainIn_1 : decode cX10_trainIn 1 = .ok (.bipush 6, 2) := by decide +kernel
theorem dX10_trainIn_3 : decode cX10_trainIn 3 = .ok (.ishr, 1) := by decide +kernel
theorem dX10_trainIn_4 : decode cX10_trainIn 4 = .ok (.bipush 15, 2) := by decide +kernel
theorem dX10_trainIn_6 : decode cX10_trainIn 6 = .ok (.iand, 1) := by decide +kernel
theorem dX10_trainIn_7 : decode cX10_trainIn 7 = .ok (.ireturn, 1) := by decide +kernel
theorem bX10_trainIn_0 {d : Nat} {h0 hE h : ea_H} {rv : Option ea_V} {x0 : Int32} (H : rv = some (vI ((x0 >>> ((6 : Int32) &&& 31)) &&& (15 : Int32))) ∧ hE = h) : ea_W mX10_trainIn d h0 rv hE 0 [(0, vI x0)] [] h := by
  refine ea_iload_n (pc := 0) dX10_trainIn_0 rfl 0 rfl ?_
  refine ea_bipush (pc := 1) dX10_trainIn_1 (v := 6) rfl ?_
  refine ea_ishr (pc := 3) dX10_trainIn_3 ?_
  refine ea_bipush (pc := 4) dX10_trainIn_4 (v := 15) rfl ?_
  refine ea_iand (pc := 6) dX10_trainIn_6 ?_
  obtain ⟨rfl, rfl⟩ := H
  exact ea_ireturn (pc := 7) dX10_trainIn_7 rfl rfl
theorem dX10_dayIn_0 : decode cX10_dayIn 0 = .ok (.iload_n 0, 1) := by decide +kernel
theorem dX10_dayIn_1 : decode cX10_dayIn 1 = .ok (.iconst 3, 1) := by decide +kernel
theorem dX10_dayIn_2 : decode cX10_dayIn 2 = .ok (.ishr, 1) := by decide +kernel
theorem dX10_dayIn_3 : decode cX10_dayIn 3 = .ok (.bipush 7, 2) := by decide +kernel
theorem dX10_dayIn_5 : decode cX10_dayIn 5 = .ok (.iand, 1) := by decide +kernel
theorem dX10_dayIn_6 : decode cX10_dayIn 6 = .ok (.ireturn, 1) := by decide +kernel
theorem bX10_dayIn_0 {d : Nat} {h0 hE h : ea_H} {rv : Option ea_V} {x0 : Int32} (H : rv = some (vI ((x0 >>> ((3 : Int32) &&& 31)) &&& (7 : Int32))) ∧ hE = h) : ea_W mX10_dayIn d h0 rv hE 0 [(0, vI x0)] [] h := by
  refine ea_iload_n (pc := 0) dX10_dayIn_0 rfl 0 rfl ?_
  refine ea_iconst (pc := 1) dX10_dayIn_1 (v := 3) rfl ?_
  refine ea_ishr (pc := 2) dX10_dayIn_2 ?_
  refine ea_bipush (pc := 3) dX10_dayIn_3 (v := 7) rfl ?_
  refine ea_iand (pc := 5) dX10_dayIn_5 ?_
  obtain ⟨rfl, rfl⟩ := H
  exact ea_ireturn (pc := 6) dX10_dayIn_6 rfl rfl
theorem dX10_stopIn_0 : decode cX10_stopIn 0 = .ok (.iload_n 0, 1) := by decide +kernel
theorem dX10_stopIn_1 : decode cX10_stopIn 1 = .ok (.bipush 7, 2) := by decide +kernel
theorem dX10_stopIn_3 : decode cX10_stopIn 3 = .ok (.iand, 1) := by decide +kernel
theorem dX10_stopIn_4 : decode cX10_stopIn 4 = .ok (.ireturn, 1) := by decide +kernel
theorem bX10_stopIn_0 {d : Nat} {h0 hE h : ea_H} {rv : Option ea_V} {x0 : Int32} (H : rv = some (vI (x0 &&& (7 : Int32))) ∧ hE = h) : ea_W mX10_stopIn d h0 rv hE 0 [(0, vI x0)] [] h := by
  refine ea_iload_n (pc := 0) dX10_stopIn_0 rfl 0 rfl ?_
  refine ea_bipush (pc := 1) dX10_stopIn_1 (v := 7) rfl ?_
  refine ea_iand (pc := 3) dX10_stopIn_3 ?_
  obtain ⟨rfl, rfl⟩ := H
  exact ea_ireturn (pc := 4) dX10_stopIn_4 rfl rfl
theorem dX10_townIn_0 : decode cX10_townIn 0 = .ok (.aload_n 0, 1) := by decide +kernel
theorem dX10_townIn_1 : decode cX10_townIn 1 = .ok (.getfield 20, 3) := by decide +kernel
theorem dX10_townIn_4 : decode cX10_townIn 4 = .ok (.getfield 64, 3) := by decide +kernel
theorem dX10_townIn_7 : decode cX10_townIn 7 = .ok (.bipush 8, 2) := by decide +kernel
theorem dX10_townIn_9 : decode cX10_townIn 9 = .ok (.iload_n 1, 1) := by decide +kernel
theorem dX10_townIn_10 : decode cX10_townIn 10 = .ok (.invokestatic 69, 3) := by decide +kernel
theorem dX10_townIn_13 : decode cX10_townIn 13 = .ok (.imul, 1) := by decide +kernel
theorem dX10_townIn_14 : decode cX10_townIn 14 = .ok (.iload_n 1, 1) := by decide +kernel
theorem dX10_townIn_15 : decode cX10_townIn 15 = .ok (.invokestatic 72, 3) := by decide +kernel
theorem dX10_townIn_18 : decode cX10_townIn 18 = .ok (.iadd, 1) := by decide +kernel
theorem dX10_townIn_19 : decode cX10_townIn 19 = .ok (.iaload, 1) := by decide +kernel
theorem dX10_townIn_20 : decode cX10_townIn 20 = .ok (.ireturn, 1) := by decide +kernel
theorem bX10_townIn_0 {d : Nat} {h0 hE h : ea_H} {rv : Option ea_V} {r0 : Option Nat} {x1 : Int32} (H : ∃ a3, r0 = some a3 ∧ a3 < ea_n h ∧ ea_c h a3 = 10 ∧ ∃ a7, (ea_r h a3 2) = some a7 ∧ a7 < ea_n h ∧ ea_c h a7 = 9 ∧ ∃ (d9 : Nat) (xc13 : Int32) (h10 : ea_H), ea_Met mX10_trainIn d9 [vI x1] h (some (vI xc13)) h10 ∧ d9 + 1 ≤ d ∧ ∃ (d14 : Nat) (xc18 : Int32) (h15 : ea_H), ea_Met mX10_stopIn d14 [vI x1] h10 (some (vI xc18)) h15 ∧ d14 + 1 ≤ d ∧ ∃ a21, (ea_r h a7 2) = some a21 ∧ a21 < ea_n h15 ∧ ea_c h15 a21 = 20 ∧ vp_in (((8 : Int32) * xc13) + xc18) (ea_l h15 a21) ∧ rv = some (vI (ea_i h15 a21 (Int32.toNatClampNeg (((8 : Int32) * xc13) + xc18)))) ∧ hE = h15) : ea_W mX10_townIn d h0 rv hE 0 [(0, vR r0), (1, vI x1)] [] h := by
  refine ea_aload_n (pc := 0) dX10_townIn_0 rfl 0 rfl ?_
  obtain ⟨a3, e4, f1, g2, H⟩ := H
  refine ea_deref0 e4 ?_
  refine ea_getR (pc := 1) dX10_townIn_1 ec_10 (k := 2) (Nat.le_of_ble_eq_true rfl) rfl (Or.inl ew_229) f1 g2 rfl ?_
  obtain ⟨a7, e8, f5, g6, H⟩ := H
  refine ea_deref0 e8 ?_
  refine ea_getR (pc := 4) dX10_townIn_4 ec_9 (k := 2) (Nat.le_of_ble_eq_true rfl) rfl (Or.inl ew_187) f5 g6 rfl ?_
  refine ea_bipush (pc := 7) dX10_townIn_7 (v := 8) rfl ?_
  refine ea_iload_n (pc := 9) dX10_townIn_9 rfl 1 rfl ?_
  obtain ⟨d9, xc13, h10, m11, q12, H⟩ := H
  refine ea_callS (pc := 10) (As := [vI x1]) (st := [vI 8, vR (ea_r h a7 2)]) dX10_townIn_10 kX10_trainIn m11 q12 rfl (Nat.le_of_ble_eq_true rfl) ew_596 ew_597 ?_
  refine ea_imul (pc := 13) dX10_townIn_13 ?_
  refine ea_iload_n (pc := 14) dX10_townIn_14 rfl 1 rfl ?_
  obtain ⟨d14, xc18, h15, m16, q17, H⟩ := H
  refine ea_callS (pc := 15) (As := [vI x1]) (st := [vI ((8 : Int32) * xc13), vR (ea_r h a7 2)]) dX10_townIn_15 kX10_stopIn m16 q17 rfl (Nat.le_of_ble_eq_true rfl) ew_599 ew_600 ?_
  refine ea_iadd (pc := 18) dX10_townIn_18 ?_
  obtain ⟨a21, e22, f19, g20, H⟩ := H
  refine ea_deref1 e22 ?_
  obtain ⟨z23, H⟩ := H
  refine ea_iald (pc := 19) dX10_townIn_19 f19 g20 z23 ?_
  obtain ⟨rfl, rfl⟩ := H
  exact ea_ireturn (pc := 20) dX10_townIn_20 rfl rfl
theorem dX10_slotIn_0 : decode cX10_slotIn 0 = .ok (.bipush 8, 2) := by decide +kernel
theorem dX10_slotIn_2 : decode cX10_slotIn 2 = .ok (.bipush 10, 2) := by decide +kernel
theorem dX10_slotIn_4 : decode cX10_slotIn 4 = .ok (.iload_n 0, 1) := by decide +kernel
theorem dX10_slotIn_5 : decode cX10_slotIn 5 = .ok (.invokestatic 75, 3) := by decide +kernel
theorem dX10_slotIn_8 : decode cX10_slotIn 8 = .ok (.imul, 1) := by decide +kernel
theorem dX10_slotIn_9 : decode cX10_slotIn 9 = .ok (.iload_n 0, 1) := by decide +kernel
theorem dX10_slotIn_10 : decode cX10_slotIn 10 = .ok (.invokestatic 69, 3) := by decide +kernel
theorem dX10_slotIn_13 : decode cX10_slotIn 13 = .ok (.iadd, 1) := by decide +kernel
theorem dX10_slotIn_14 : decode cX10_slotIn 14 = .ok (.imul, 1) := by decide +kernel
theorem dX10_slotIn_15 : decode cX10_slotIn 15 = .ok (.iload_n 0, 1) := by decide +kernel
theorem dX10_slotIn_16 : decode cX10_slotIn 16 = .ok (.invokestatic 72, 3) := by decide +kernel
theorem dX10_slotIn_19 : decode cX10_slotIn 19 = .ok (.iadd, 1) := by decide +kernel
theorem dX10_slotIn_20 : decode cX10_slotIn 20 = .ok (.ireturn, 1) := by decide +kernel
theorem bX10_slotIn_0 {d : Nat} {h0 hE h : ea_H} {rv : Option ea_V} {x0 : Int32} (H : ∃ (d1 : Nat) (xc5 : Int32) (h2 : ea_H), ea_Met mX10_dayIn d1 [vI x0] h (some (vI xc5)) h2 ∧ d1 + 1 ≤ d ∧ ∃ (d6 : Nat) (xc10 : Int32) (h7 : ea_H), ea_Met mX10_trainIn d6 [vI x0] h2 (some (vI xc10)) h7 ∧ d6 + 1 ≤ d ∧ ∃ (d11 : Nat) (xc15 : Int32) (h12 : ea_H), ea_Met mX10_stopIn d11 [vI x0] h7 (some (vI xc15)) h12 ∧ d11 + 1 ≤ d ∧ rv = some (vI (((8 : Int32) * (((10 : Int32) * xc5) + xc10)) + xc15)) ∧ hE = h12) : ea_W mX10_slotIn d h0 rv hE 0 [(0, vI x0)] [] h := by
  refine ea_bipush (pc := 0) dX10_slotIn_0 (v := 8) rfl ?_
  refine ea_bipush (pc := 2) dX10_slotIn_2 (v := 10) rfl ?_
  refine ea_iload_n (pc := 4) dX10_slotIn_4 rfl 0 rfl ?_
  obtain ⟨d1, xc5, h2, m3, q4, H⟩ := H
  refine ea_callS (pc := 5) (As := [vI x0]) (st := [vI 10, vI 8]) dX10_slotIn_5 kX10_dayIn m3 q4 rfl (Nat.le_of_ble_eq_true rfl) ew_608 ew_609 ?_
  refine ea_imul (pc := 8) dX10_slotIn_8 ?_
  refine ea_iload_n (pc := 9) dX10_slotIn_9 rfl 0 rfl ?_
  obtain ⟨d6, xc10, h7, m8, q9, H⟩ := H
  refine ea_callS (pc := 10) (As := [vI x0]) (st := [vI ((10 : Int32) * xc5), vI 8]) dX10_slotIn_10 kX10_trainIn m8 q9 rfl (Nat.le_of_ble_eq_true rfl) ew_596 ew_597 ?_
  refine ea_iadd (pc := 13) dX10_slotIn_13 ?_
  refine ea_imul (pc := 14) dX10_slotIn_14 ?_
  refine ea_iload_n (pc := 15) dX10_slotIn_15 rfl 0 rfl ?_
  obtain ⟨d11, xc15, h12, m13, q14, H⟩ := H
  refine ea_callS (pc := 16) (As := [vI x0]) (st := [vI ((8 : Int32) * (((10 : Int32) * xc5) + xc10))]) dX10_slotIn_16 kX10_stopIn m13 q14 rfl (Nat.le_of_ble_eq_true rfl) ew_599 ew_600 ?_
  refine ea_iadd (pc := 19) dX10_slotIn_19 ?_
  obtain ⟨rfl, rfl⟩ := H
  exact ea_ireturn (pc := 20) dX10_slotIn_20 rfl rfl
theorem dX10_begins_0 : decode cX10_begins 0 = .ok (.lload_n 0, 1) := by decide +kernel
theorem dX10_begins_1 : decode cX10_begins 1 = .ok (.ldc2_w 78, 3) := by decide +kernel
theorem dX10_begins_4 : decode cX10_begins 4 = .ok (.lcmp, 1) := by decide +kernel
theorem dX10_begins_5 : decode cX10_begins 5 = .ok (.ifCond .eq 40, 3) := by decide +kernel
theorem dX10_begins_8 : decode cX10_begins 8 = .ok (.lload_n 0, 1) := by decide +kernel
theorem dX10_begins_9 : decode cX10_begins 9 = .ok (.invokestatic 80, 3) := by decide +kernel
theorem dX10_begins_12 : decode cX10_begins 12 = .ok (.iload_n 2, 1) := by decide +kernel
theorem dX10_begins_13 : decode cX10_begins 13 = .ok (.invokestatic 69, 3) := by decide +kernel
theorem dX10_begins_16 : decode cX10_begins 16 = .ok (.if_icmp .ne 29, 3) := by decide +kernel
theorem dX10_begins_19 : decode cX10_begins 19 = .ok (.lload_n 0, 1) := by decide +kernel
theorem dX10_begins_20 : decode cX10_begins 20 = .ok (.invokestatic 84, 3) := by decide +kernel
theorem dX10_begins_23 : decode cX10_begins 23 = .ok (.iload_n 2, 1) := by decide +kernel
theorem dX10_begins_24 : decode cX10_begins 24 = .ok (.invokestatic 75, 3) := by decide +kernel
theorem dX10_begins_27 : decode cX10_begins 27 = .ok (.if_icmp .ne 18, 3) := by decide +kernel
theorem dX10_begins_30 : decode cX10_begins 30 = .ok (.lload_n 0, 1) := by decide +kernel
theorem dX10_begins_31 : decode cX10_begins 31 = .ok (.invokestatic 87, 3) := by decide +kernel
theorem dX10_begins_34 : decode cX10_begins 34 = .ok (.iload_n 2, 1) := by decide +kernel
theorem dX10_begins_35 : decode cX10_begins 35 = .ok (.invokestatic 72, 3) := by decide +kernel
theorem dX10_begins_38 : decode cX10_begins 38 = .ok (.if_icmp .ne 7, 3) := by decide +kernel
theorem dX10_begins_41 : decode cX10_begins 41 = .ok (.iconst 1, 1) := by decide +kernel
theorem dX10_begins_42 : decode cX10_begins 42 = .ok (.goto 4, 3) := by decide +kernel
theorem dX10_begins_45 : decode cX10_begins 45 = .ok (.iconst 0, 1) := by decide +kernel
theorem dX10_begins_46 : decode cX10_begins 46 = .ok (.ireturn, 1) := by decide +kernel
theorem bX10_begins_0 {d : Nat} {h0 hE h : ea_H} {rv : Option ea_V} {y0 : Int64} {x2 : Int32} (H : ((lg_cmp y0 9223372036854775807) = (0 : Int32) → rv = some (vI 0) ∧ hE = h) ∧ (¬ (lg_cmp y0 9223372036854775807) = (0 : Int32) → ∃ (d1 : Nat) (xc5 : Int32) (h2 : ea_H), ea_Met mX10_trainOf d1 [vJ y0] h (some (vI xc5)) h2 ∧ d1 + 1 ≤ d ∧ ∃ (d6 : Nat) (xc10 : Int32) (h7 : ea_H), ea_Met mX10_trainIn d6 [vI x2] h2 (some (vI xc10)) h7 ∧ d6 + 1 ≤ d ∧ (¬ xc5 = xc10 → rv = some (vI 0) ∧ hE = h7) ∧ (xc5 = xc10 → ∃ (d11 : Nat) (xc15 : Int32) (h12 : ea_H), ea_Met mX10_dayOf d11 [vJ y0] h7 (some (vI xc15)) h12 ∧ d11 + 1 ≤ d ∧ ∃ (d16 : Nat) (xc20 : Int32) (h17 : ea_H), ea_Met mX10_dayIn d16 [vI x2] h12 (some (vI xc20)) h17 ∧ d16 + 1 ≤ d ∧ (¬ xc15 = xc20 → rv = some (vI 0) ∧ hE = h17) ∧ (xc15 = xc20 → ∃ (d21 : Nat) (xc25 : Int32) (h22 : ea_H), ea_Met mX10_takenOf d21 [vJ y0] h17 (some (vI xc25)) h22 ∧ d21 + 1 ≤ d ∧ ∃ (d26 : Nat) (xc30 : Int32) (h27 : ea_H), ea_Met mX10_stopIn d26 [vI x2] h22 (some (vI xc30)) h27 ∧ d26 + 1 ≤ d ∧ (¬ xc25 = xc30 → rv = some (vI 0) ∧ hE = h27) ∧ (xc25 = xc30 → rv = some (vI 1) ∧ hE = h27))))) : ea_W mX10_begins d h0 rv hE 0 [(0, vJ y0), (2, vI x2)] [] h := by
  refine ea_lload_n (pc := 0) dX10_begins_0 rfl 0 rfl ?_
  refine ea_ldc2 (pc := 1) dX10_begins_1 ew_615 ?_
  refine ea_lcmp (pc := 4) dX10_begins_4 ?_
  refine ea_if_eq (pc := 5) (tgt := 45) dX10_begins_5 rfl (fun c34 => ?_) (fun c34 => ?_)
  · have H := H.1 c34
    refine ea_iconst (pc := 45) dX10_begins_45 (v := 0) rfl ?_
    obtain ⟨rfl, rfl⟩ := H
    exact ea_ireturn (pc := 46) dX10_begins_46 rfl (ea_bn (Or.inl rfl))
  · have H := H.2 c34
    refine ea_lload_n (pc := 8) dX10_begins_8 rfl 0 rfl ?_
    obtain ⟨d1, xc5, h2, m3, q4, H⟩ := H
    refine ea_callS (pc := 9) (As := [vJ y0]) (st := []) dX10_begins_9 kX10_trainOf m3 q4 rfl (Nat.le_of_ble_eq_true rfl) ew_680 ew_681 ?_
    refine ea_iload_n (pc := 12) dX10_begins_12 rfl 1 rfl ?_
    obtain ⟨d6, xc10, h7, m8, q9, H⟩ := H
    refine ea_callS (pc := 13) (As := [vI x2]) (st := [vI xc5]) dX10_begins_13 kX10_trainIn m8 q9 rfl (Nat.le_of_ble_eq_true rfl) ew_596 ew_597 ?_
    refine ea_icmp_ne (pc := 16) (tgt := 45) dX10_begins_16 rfl (fun c33 => ?_) (fun c33 => ?_)
    · have H := H.1 c33
      refine ea_iconst (pc := 45) dX10_begins_45 (v := 0) rfl ?_
      obtain ⟨rfl, rfl⟩ := H
      exact ea_ireturn (pc := 46) dX10_begins_46 rfl (ea_bn (Or.inl rfl))
    · have H := H.2 c33
      refine ea_lload_n (pc := 19) dX10_begins_19 rfl 0 rfl ?_
      obtain ⟨d11, xc15, h12, m13, q14, H⟩ := H
      refine ea_callS (pc := 20) (As := [vJ y0]) (st := []) dX10_begins_20 kX10_dayOf m13 q14 rfl (Nat.le_of_ble_eq_true rfl) ew_683 ew_684 ?_
      refine ea_iload_n (pc := 23) dX10_begins_23 rfl 1 rfl ?_
      obtain ⟨d16, xc20, h17, m18, q19, H⟩ := H
      refine ea_callS (pc := 24) (As := [vI x2]) (st := [vI xc15]) dX10_begins_24 kX10_dayIn m18 q19 rfl (Nat.le_of_ble_eq_true rfl) ew_608 ew_609 ?_
      refine ea_icmp_ne (pc := 27) (tgt := 45) dX10_begins_27 rfl (fun c32 => ?_) (fun c32 => ?_)
      · have H := H.1 c32
        refine ea_iconst (pc := 45) dX10_begins_45 (v := 0) rfl ?_
        obtain ⟨rfl, rfl⟩ := H
        exact ea_ireturn (pc := 46) dX10_begins_46 rfl (ea_bn (Or.inl rfl))
      · have H := H.2 c32
        refine ea_lload_n (pc := 30) dX10_begins_30 rfl 0 rfl ?_
        obtain ⟨d21, xc25, h22, m23, q24, H⟩ := H
        refine ea_callS (pc := 31) (As := [vJ y0]) (st := []) dX10_begins_31 kX10_takenOf m23 q24 rfl (Nat.le_of_ble_eq_true rfl) ew_686 ew_687 ?_
        refine ea_iload_n (pc := 34) dX10_begins_34 rfl 1 rfl ?_
        obtain ⟨d26, xc30, h27, m28, q29, H⟩ := H
        refine ea_callS (pc := 35) (As := [vI x2]) (st := [vI xc25]) dX10_begins_35 kX10_stopIn m28 q29 rfl (Nat.le_of_ble_eq_true rfl) ew_599 ew_600 ?_
        refine ea_icmp_ne (pc := 38) (tgt := 45) dX10_begins_38 rfl (fun c31 => ?_) (fun c31 => ?_)
        · have H := H.1 c31
          refine ea_iconst (pc := 45) dX10_begins_45 (v := 0) rfl ?_
          obtain ⟨rfl, rfl⟩ := H
          exact ea_ireturn (pc := 46) dX10_begins_46 rfl (ea_bn (Or.inl rfl))
        · have H := H.2 c31
          refine ea_iconst (pc := 41) dX10_begins_41 (v := 1) rfl ?_
          refine ea_goto (pc := 42) (tgt := 46) dX10_begins_42 rfl ?_
          obtain ⟨rfl, rfl⟩ := H
          exact ea_ireturn (pc := 46) dX10_begins_46 rfl (ea_bn (Or.inr rfl))
theorem dX10_bestAtGoing_0 : decode cX10_bestAtGoing 0 = .ok (.aload_n 0, 1) := by decide +kernel
theorem dX10_bestAtGoing_1 : decode cX10_bestAtGoing 1 = .ok (.getfield 31, 3) := by decide +kernel
theorem dX10_bestAtGoing_4 : decode cX10_bestAtGoing 4 = .ok (.ifnull 10, 3) := by decide +kernel
theorem dX10_bestAtGoing_7 : decode cX10_bestAtGoing 7 = .ok (.aload_n 0, 1) := by decide +kernel
theorem dX10_bestAtGoing_8 : decode cX10_bestAtGoing 8 = .ok (.getfield 38, 3) := by decide +kernel
theorem dX10_bestAtGoing_11 : decode cX10_bestAtGoing 11 = .ok (.ifnonnull 7, 3) := by decide +kernel
theorem dX10_bestAtGoing_14 : decode cX10_bestAtGoing 14 = .ok (.ldc2_w 78, 3) := by decide +kernel
theorem dX10_bestAtGoing_17 : decode cX10_bestAtGoing 17 = .ok (.lreturn, 1) := by decide +kernel
theorem dX10_bestAtGoing_18 : decode cX10_bestAtGoing 18 = .ok (.aload_n 0, 1) := by decide +kernel
theorem dX10_bestAtGoing_19 : decode cX10_bestAtGoing 19 = .ok (.getfield 31, 3) := by decide +kernel
theorem dX10_bestAtGoing_22 : decode cX10_bestAtGoing 22 = .ok (.bipush 12, 2) := by decide +kernel
theorem dX10_bestAtGoing_24 : decode cX10_bestAtGoing 24 = .ok (.aload_n 0, 1) := by decide +kernel
theorem dX10_bestAtGoing_25 : decode cX10_bestAtGoing 25 = .ok (.getfield 38, 3) := by decide +kernel
theorem dX10_bestAtGoing_28 : decode cX10_bestAtGoing 28 = .ok (.bipush 8, 2) := by decide +kernel
theorem dX10_bestAtGoing_30 : decode cX10_bestAtGoing 30 = .ok (.iload_n 1, 1) := by decide +kernel
theorem dX10_bestAtGoing_31 : decode cX10_bestAtGoing 31 = .ok (.imul, 1) := by decide +kernel
theorem dX10_bestAtGoing_32 : decode cX10_bestAtGoing 32 = .ok (.iload_n 2, 1) := by decide +kernel
theorem dX10_bestAtGoing_33 : decode cX10_bestAtGoing 33 = .ok (.iadd, 1) := by decide +kernel
theorem dX10_bestAtGoing_34 : decode cX10_bestAtGoing 34 = .ok (.iaload, 1) := by decide +kernel
theorem dX10_bestAtGoing_35 : decode cX10_bestAtGoing 35 = .ok (.imul, 1) := by decide +kernel
theorem dX10_bestAtGoing_36 : decode cX10_bestAtGoing 36 = .ok (.iload_n 3, 1) := by decide +kernel
theorem dX10_bestAtGoing_37 : decode cX10_bestAtGoing 37 = .ok (.iadd, 1) := by decide +kernel
theorem dX10_bestAtGoing_38 : decode cX10_bestAtGoing 38 = .ok (.laload, 1) := by decide +kernel
theorem dX10_bestAtGoing_39 : decode cX10_bestAtGoing 39 = .ok (.lreturn, 1) := by decide +kernel
theorem bX10_bestAtGoing_0 {d : Nat} {h0 hE h : ea_H} {rv : Option ea_V} {r0 : Option Nat} {x1 : Int32} {x2 : Int32} {x3 : Int32} (H : ∃ a3, r0 = some a3 ∧ a3 < ea_n h ∧ ea_c h a3 = 10 ∧ ((ea_r h a3 4) = none → rv = some (vJ 9223372036854775807) ∧ hE = h) ∧ (∀ a5, (ea_r h a3 4) = some a5 → a3 < ea_n h ∧ ea_c h a3 = 10 ∧ (∀ a9, (ea_r h a3 6) = some a9 → a3 < ea_n h ∧ ea_c h a3 = 10 ∧ a3 < ea_n h ∧ ea_c h a3 = 10 ∧ a9 < ea_n h ∧ ea_c h a9 = 20 ∧ vp_in (((8 : Int32) * x1) + x2) (ea_l h a9) ∧ a5 < ea_n h ∧ ea_c h a5 = 22 ∧ vp_in (((12 : Int32) * (ea_i h a9 (Int32.toNatClampNeg (((8 : Int32) * x1) + x2)))) + x3) (ea_l h a5) ∧ rv = some (vJ (ea_j h a5 (Int32.toNatClampNeg (((12 : Int32) * (ea_i h a9 (Int32.toNatClampNeg (((8 : Int32) * x1) + x2)))) + x3)))) ∧ hE = h) ∧ ((ea_r h a3 6) = none → rv = some (vJ 9223372036854775807) ∧ hE = h))) : ea_W mX10_bestAtGoing d h0 rv hE 0 [(0, vR r0), (1, vI x1), (2, vI x2), (3, vI x3)] [] h := by
  refine ea_aload_n (pc := 0) dX10_bestAtGoing_0 rfl 0 rfl ?_
  obtain ⟨a3, e4, f1, g2, H⟩ := H
  refine ea_deref0 e4 ?_
  refine ea_getR (pc := 1) dX10_bestAtGoing_1 ec_10 (k := 4) (Nat.le_of_ble_eq_true rfl) rfl (Or.inl ew_231) f1 g2 rfl ?_
  refine ea_ifnull (pc := 4) (tgt := 14) dX10_bestAtGoing_4 rfl (fun e6 => ?_) (fun a5 e6 => ?_)
  · have H := H.1 e6
    refine ea_ldc2 (pc := 14) dX10_bestAtGoing_14 ew_615 ?_
    obtain ⟨rfl, rfl⟩ := H
    exact ea_lreturn (pc := 17) dX10_bestAtGoing_17 rfl
  · have H := H.2 a5 e6
    refine ea_aload_n (pc := 7) dX10_bestAtGoing_7 rfl 0 rfl ?_
    obtain ⟨f7, g8, H⟩ := H
    refine ea_deref0 e4 ?_
    refine ea_getR (pc := 8) dX10_bestAtGoing_8 ec_10 (k := 6) (Nat.le_of_ble_eq_true rfl) rfl (Or.inl ew_233) f7 g8 rfl ?_
    refine ea_ifnonnull (pc := 11) (tgt := 18) dX10_bestAtGoing_11 rfl (fun a9 e10 => ?_) (fun e10 => ?_)
    · have H := H.1 a9 e10
      refine ea_aload_n (pc := 18) dX10_bestAtGoing_18 rfl 0 rfl ?_
      obtain ⟨f11, g12, H⟩ := H
      refine ea_deref0 e4 ?_
      refine ea_getR (pc := 19) dX10_bestAtGoing_19 ec_10 (k := 4) (Nat.le_of_ble_eq_true rfl) rfl (Or.inl ew_231) f11 g12 rfl ?_
      refine ea_bipush (pc := 22) dX10_bestAtGoing_22 (v := 12) rfl ?_
      refine ea_aload_n (pc := 24) dX10_bestAtGoing_24 rfl 0 rfl ?_
      obtain ⟨f13, g14, H⟩ := H
      refine ea_deref0 e4 ?_
      refine ea_getR (pc := 25) dX10_bestAtGoing_25 ec_10 (k := 6) (Nat.le_of_ble_eq_true rfl) rfl (Or.inl ew_233) f13 g14 rfl ?_
      refine ea_bipush (pc := 28) dX10_bestAtGoing_28 (v := 8) rfl ?_
      refine ea_iload_n (pc := 30) dX10_bestAtGoing_30 rfl 1 rfl ?_
      refine ea_imul (pc := 31) dX10_bestAtGoing_31 ?_
      refine ea_iload_n (pc := 32) dX10_bestAtGoing_32 rfl 2 rfl ?_
      refine ea_iadd (pc := 33) dX10_bestAtGoing_33 ?_
      obtain ⟨f15, g16, H⟩ := H
      refine ea_deref1 e10 ?_
      obtain ⟨z17, H⟩ := H
      refine ea_iald (pc := 34) dX10_bestAtGoing_34 f15 g16 z17 ?_
      refine ea_imul (pc := 35) dX10_bestAtGoing_35 ?_
      refine ea_iload_n (pc := 36) dX10_bestAtGoing_36 rfl 3 rfl ?_
      refine ea_iadd (pc := 37) dX10_bestAtGoing_37 ?_
      obtain ⟨f18, g19, H⟩ := H
      refine ea_deref1 e6 ?_
      obtain ⟨z20, H⟩ := H
      refine ea_lald (pc := 38) dX10_bestAtGoing_38 f18 g19 z20 ?_
      obtain ⟨rfl, rfl⟩ := H
      exact ea_lreturn (pc := 39) dX10_bestAtGoing_39 rfl
    · have H := H.2 e10
      refine ea_ldc2 (pc := 14) dX10_bestAtGoing_14 ew_615 ?_
      obtain ⟨rfl, rfl⟩ := H
      exact ea_lreturn (pc := 17) dX10_bestAtGoing_17 rfl
theorem dX10_bestFrom_0 : decode cX10_bestFrom 0 = .ok (.aload_n 0, 1) := by decide +kernel
theorem dX10_bestFrom_1 : decode cX10_bestFrom 1 = .ok (.invokevirtual 90, 3) := by decide +kernel
theorem dX10_bestFrom_4 : decode cX10_bestFrom 4 = .ok (.iconst 0, 1) := by decide +kernel
theorem dX10_bestFrom_5 : decode cX10_bestFrom 5 = .ok (.istore 4, 2) := by decide +kernel
theorem dX10_bestFrom_7 : decode cX10_bestFrom 7 = .ok (.iload 4, 2) := by decide +kernel
theorem dX10_bestFrom_9 : decode cX10_bestFrom 9 = .ok (.aload_n 0, 1) := by decide +kernel
theorem dX10_bestFrom_10 : decode cX10_bestFrom 10 = .ok (.getfield 53, 3) := by decide +kernel
theorem dX10_bestFrom_13 : decode cX10_bestFrom 13 = .ok (.if_icmp .ge 60, 3) := by decide +kernel
theorem dX10_bestFrom_16 : decode cX10_bestFrom 16 = .ok (.aload_n 0, 1) := by decide +kernel
theorem dX10_bestFrom_17 : decode cX10_bestFrom 17 = .ok (.iload 4, 2) := by decide +kernel
theorem dX10_bestFrom_19 : decode cX10_bestFrom 19 = .ok (.invokevirtual 57, 3) := by decide +kernel
theorem dX10_bestFrom_22 : decode cX10_bestFrom 22 = .ok (.istore 5, 2) := by decide +kernel
theorem dX10_bestFrom_24 : decode cX10_bestFrom 24 = .ok (.iload 5, 2) := by decide +kernel
theorem dX10_bestFrom_26 : decode cX10_bestFrom 26 = .ok (.invokestatic 93, 3) := by decide +kernel
theorem dX10_bestFrom_29 : decode cX10_bestFrom 29 = .ok (.ifCond .eq 38, 3) := by decide +kernel
theorem dX10_bestFrom_32 : decode cX10_bestFrom 32 = .ok (.iload 5, 2) := by decide +kernel
theorem dX10_bestFrom_34 : decode cX10_bestFrom 34 = .ok (.invokestatic 61, 3) := by decide +kernel
theorem dX10_bestFrom_37 : decode cX10_bestFrom 37 = .ok (.iload_n 2, 1) := by decide +kernel
theorem dX10_bestFrom_38 : decode cX10_bestFrom 38 = .ok (.if_icmp .lt 29, 3) := by decide +kernel
theorem dX10_bestFrom_41 : decode cX10_bestFrom 41 = .ok (.aload_n 0, 1) := by decide +kernel
theorem dX10_bestFrom_42 : decode cX10_bestFrom 42 = .ok (.iload 5, 2) := by decide +kernel
theorem dX10_bestFrom_44 : decode cX10_bestFrom 44 = .ok (.invokevirtual 97, 3) := by decide +kernel
theorem dX10_bestFrom_47 : decode cX10_bestFrom 47 = .ok (.iload_n 1, 1) := by decide +kernel
theorem dX10_bestFrom_48 : decode cX10_bestFrom 48 = .ok (.if_icmp .ne 19, 3) := by decide +kernel
theorem dX10_bestFrom_51 : decode cX10_bestFrom 51 = .ok (.aload_n 0, 1) := by decide +kernel
theorem dX10_bestFrom_52 : decode cX10_bestFrom 52 = .ok (.getfield 31, 3) := by decide +kernel
theorem dX10_bestFrom_55 : decode cX10_bestFrom 55 = .ok (.bipush 12, 2) := by decide +kernel
theorem dX10_bestFrom_57 : decode cX10_bestFrom 57 = .ok (.iload 5, 2) := by decide +kernel
theorem dX10_bestFrom_59 : decode cX10_bestFrom 59 = .ok (.invokestatic 100, 3) := by decide +kernel
theorem dX10_bestFrom_62 : decode cX10_bestFrom 62 = .ok (.imul, 1) := by decide +kernel
theorem dX10_bestFrom_63 : decode cX10_bestFrom 63 = .ok (.iload_n 3, 1) := by decide +kernel
theorem dX10_bestFrom_64 : decode cX10_bestFrom 64 = .ok (.iadd, 1) := by decide +kernel
theorem dX10_bestFrom_65 : decode cX10_bestFrom 65 = .ok (.laload, 1) := by decide +kernel
theorem dX10_bestFrom_66 : decode cX10_bestFrom 66 = .ok (.lreturn, 1) := by decide +kernel
theorem dX10_bestFrom_67 : decode cX10_bestFrom 67 = .ok (.iinc 4 1, 3) := by decide +kernel
theorem dX10_bestFrom_70 : decode cX10_bestFrom 70 = .ok (.goto (-63), 3) := by decide +kernel
theorem dX10_bestFrom_73 : decode cX10_bestFrom 73 = .ok (.ldc2_w 78, 3) := by decide +kernel
theorem dX10_bestFrom_76 : decode cX10_bestFrom 76 = .ok (.lreturn, 1) := by decide +kernel
theorem bX10_bestFrom_0 {d : Nat} {h0 hE h : ea_H} {rv : Option ea_V} {r0 : Option Nat} {x1 : Int32} {x2 : Int32} {x3 : Int32} (H : ∃ a7, r0 = some a7 ∧ a7 < ea_n h ∧ ea_c h a7 = 10 ∧ ∃ (d1 : Nat) (h2 : ea_H), ea_Met mX10_refresh d1 [vR (some a7)] h none h2 ∧ d1 + 1 ≤ d ∧ ea_W mX10_bestFrom d h0 rv hE 7 [(0, vR r0), (1, vI x1), (2, vI x2), (3, vI x3), (4, vI 0)] [] h2) : ea_W mX10_bestFrom d h0 rv hE 0 [(0, vR r0), (1, vI x1), (2, vI x2), (3, vI x3)] [] h := by
  refine ea_aload_n (pc := 0) dX10_bestFrom_0 rfl 0 rfl ?_
  obtain ⟨a7, e8, f5, g6, H⟩ := H
  refine ea_deref0 e8 ?_
  obtain ⟨d1, h2, m3, q4, H⟩ := H
  refine ea_callV (pc := 1) (As := []) (st := []) dX10_bestFrom_1 kX10_refresh m3 q4 rfl (Nat.le_of_ble_eq_true rfl) ew_1096 ew_564 ew_565 (ci := 10) rfl (by decide) f5 g6 ?_
  refine ea_iconst (pc := 4) dX10_bestFrom_4 (v := 0) rfl ?_
  refine ea_istore (pc := 5) (lv' := [(0, vR r0), (1, vI x1), (2, vI x2), (3, vI x3), (4, vI 0)]) dX10_bestFrom_5 (Nat.le_of_ble_eq_true rfl) [1, 2, 3, 4, 0] rfl ?_
  exact H
theorem bX10_bestFrom_7 {d : Nat} {h0 hE h : ea_H} {rv : Option ea_V} {r0 : Option Nat} {x1 : Int32} {x2 : Int32} {x3 : Int32} {x4 : Int32} (H : ∃ a3, r0 = some a3 ∧ a3 < ea_n h ∧ ea_c h a3 = 10 ∧ ((ea_i h a3 1) ≤ x4 → rv = some (vJ 9223372036854775807) ∧ hE = h) ∧ (¬ (ea_i h a3 1) ≤ x4 → a3 < ea_n h ∧ ea_c h a3 = 10 ∧ ∃ (d5 : Nat) (xc11 : Int32) (h6 : ea_H), ea_Met mX10_keyAt d5 [vR (some a3), vI x4] h (some (vI xc11)) h6 ∧ d5 + 1 ≤ d ∧ ∃ (d12 : Nat) (xc16 : Int32) (h13 : ea_H), ea_Met mX10_isGoing d12 [vI xc11] h6 (some (vI xc16)) h13 ∧ d12 + 1 ≤ d ∧ (xc16 = (0 : Int32) → ea_W mX10_bestFrom d h0 rv hE 7 [(0, vR r0), (1, vI x1), (2, vI x2), (3, vI x3), (4, vI (x4 + 1))] [] h13) ∧ (¬ xc16 = (0 : Int32) → ∃ (d17 : Nat) (xc21 : Int32) (h18 : ea_H), ea_Met mX10_minuteIn d17 [vI xc11] h13 (some (vI xc21)) h18 ∧ d17 + 1 ≤ d ∧ (xc21 < x2 → ea_W mX10_bestFrom d h0 rv hE 7 [(0, vR r0), (1, vI x1), (2, vI x2), (3, vI x3), (4, vI (x4 + 1))] [] h18) ∧ (¬ xc21 < x2 → a3 < ea_n h18 ∧ ea_c h18 a3 = 10 ∧ ∃ (d22 : Nat) (xc28 : Int32) (h23 : ea_H), ea_Met mX10_townIn d22 [vR (some a3), vI xc11] h18 (some (vI xc28)) h23 ∧ d22 + 1 ≤ d ∧ (¬ xc28 = x1 → ea_W mX10_bestFrom d h0 rv hE 7 [(0, vR r0), (1, vI x1), (2, vI x2), (3, vI x3), (4, vI (x4 + 1))] [] h23) ∧ (xc28 = x1 → a3 < ea_n h23 ∧ ea_c h23 a3 = 10 ∧ ∃ (d31 : Nat) (xc35 : Int32) (h32 : ea_H), ea_Met mX10_slotIn d31 [vI xc11] h23 (some (vI xc35)) h32 ∧ d31 + 1 ≤ d ∧ ∃ a38, (ea_r h23 a3 4) = some a38 ∧ a38 < ea_n h32 ∧ ea_c h32 a38 = 22 ∧ vp_in (((12 : Int32) * xc35) + x3) (ea_l h32 a38) ∧ rv = some (vJ (ea_j h32 a38 (Int32.toNatClampNeg (((12 : Int32) * xc35) + x3)))) ∧ hE = h32))))) : ea_W mX10_bestFrom d h0 rv hE 7 [(0, vR r0), (1, vI x1), (2, vI x2), (3, vI x3), (4, vI x4)] [] h := by
  refine ea_iload (pc := 7) dX10_bestFrom_7 4 rfl ?_
  refine ea_aload_n (pc := 9) dX10_bestFrom_9 rfl 0 rfl ?_
  obtain ⟨a3, e4, f1, g2, H⟩ := H
  refine ea_deref0 e4 ?_
  refine ea_getI (pc := 10) dX10_bestFrom_10 ec_10 (k := 1) (Nat.le_of_ble_eq_true rfl) rfl (Or.inl ew_227) f1 g2 ?_
  refine ea_icmp_ge (pc := 13) (tgt := 73) dX10_bestFrom_13 rfl (fun c44 => ?_) (fun c44 => ?_)
  · have H := H.1 c44
    refine ea_ldc2 (pc := 73) dX10_bestFrom_73 ew_615 ?_
    obtain ⟨rfl, rfl⟩ := H
    exact ea_lreturn (pc := 76) dX10_bestFrom_76 rfl
  · have H := H.2 c44
    refine ea_aload_n (pc := 16) dX10_bestFrom_16 rfl 0 rfl ?_
    refine ea_iload (pc := 17) dX10_bestFrom_17 4 rfl ?_
    obtain ⟨f9, g10, H⟩ := H
    refine ea_deref1 e4 ?_
    obtain ⟨d5, xc11, h6, m7, q8, H⟩ := H
    refine ea_callV (pc := 19) (As := [vI x4]) (st := []) dX10_bestFrom_19 kX10_keyAt m7 q8 rfl (Nat.le_of_ble_eq_true rfl) ew_635 ew_636 ew_637 (ci := 10) rfl (by decide) f9 g10 ?_
    refine ea_istore (pc := 22) (lv' := [(0, vR r0), (1, vI x1), (2, vI x2), (3, vI x3), (4, vI x4), (5, vI xc11)]) dX10_bestFrom_22 (Nat.le_of_ble_eq_true rfl) [1, 2, 3, 4, 5, 0] rfl ?_
    refine ea_iload (pc := 24) dX10_bestFrom_24 5 rfl ?_
    obtain ⟨d12, xc16, h13, m14, q15, H⟩ := H
    refine ea_callS (pc := 26) (As := [vI xc11]) (st := []) dX10_bestFrom_26 kX10_isGoing m14 q15 rfl (Nat.le_of_ble_eq_true rfl) ew_589 ew_590 ?_
    refine ea_if_eq (pc := 29) (tgt := 67) dX10_bestFrom_29 rfl (fun c43 => ?_) (fun c43 => ?_)
    · have H := H.1 c43
      refine ea_iinc (pc := 67) (v := 1) (lv' := [(0, vR r0), (1, vI x1), (2, vI x2), (3, vI x3), (4, vI (x4 + 1))]) dX10_bestFrom_67 4 rfl rfl (Nat.le_of_ble_eq_true rfl) [1, 2, 3, 4, 0] rfl ?_
      refine ea_goto (pc := 70) (tgt := 7) dX10_bestFrom_70 rfl ?_
      exact H
    · have H := H.2 c43
      refine ea_iload (pc := 32) dX10_bestFrom_32 5 rfl ?_
      obtain ⟨d17, xc21, h18, m19, q20, H⟩ := H
      refine ea_callS (pc := 34) (As := [vI xc11]) (st := []) dX10_bestFrom_34 kX10_minuteIn m19 q20 rfl (Nat.le_of_ble_eq_true rfl) ew_602 ew_603 ?_
      refine ea_iload_n (pc := 37) dX10_bestFrom_37 rfl 2 rfl ?_
      refine ea_icmp_lt (pc := 38) (tgt := 67) dX10_bestFrom_38 rfl (fun c42 => ?_) (fun c42 => ?_)
      · have H := H.1 c42
        refine ea_iinc (pc := 67) (v := 1) (lv' := [(0, vR r0), (1, vI x1), (2, vI x2), (3, vI x3), (4, vI (x4 + 1))]) dX10_bestFrom_67 4 rfl rfl (Nat.le_of_ble_eq_true rfl) [1, 2, 3, 4, 0] rfl ?_
        refine ea_goto (pc := 70) (tgt := 7) dX10_bestFrom_70 rfl ?_
        exact H
      · have H := H.2 c42
        refine ea_aload_n (pc := 41) dX10_bestFrom_41 rfl 0 rfl ?_
        refine ea_iload (pc := 42) dX10_bestFrom_42 5 rfl ?_
        obtain ⟨f26, g27, H⟩ := H
        refine ea_deref1 e4 ?_
        obtain ⟨d22, xc28, h23, m24, q25, H⟩ := H
        refine ea_callV (pc := 44) (As := [vI xc11]) (st := []) dX10_bestFrom_44 kX10_townIn m24 q25 rfl (Nat.le_of_ble_eq_true rfl) ew_592 ew_594 ew_7 (ci := 10) rfl (by decide) f26 g27 ?_
        refine ea_iload_n (pc := 47) dX10_bestFrom_47 rfl 1 rfl ?_
        refine ea_icmp_ne (pc := 48) (tgt := 67) dX10_bestFrom_48 rfl (fun c41 => ?_) (fun c41 => ?_)
        · have H := H.1 c41
          refine ea_iinc (pc := 67) (v := 1) (lv' := [(0, vR r0), (1, vI x1), (2, vI x2), (3, vI x3), (4, vI (x4 + 1))]) dX10_bestFrom_67 4 rfl rfl (Nat.le_of_ble_eq_true rfl) [1, 2, 3, 4, 0] rfl ?_
          refine ea_goto (pc := 70) (tgt := 7) dX10_bestFrom_70 rfl ?_
          exact H
        · have H := H.2 c41
          refine ea_aload_n (pc := 51) dX10_bestFrom_51 rfl 0 rfl ?_
          obtain ⟨f29, g30, H⟩ := H
          refine ea_deref0 e4 ?_
          refine ea_getR (pc := 52) dX10_bestFrom_52 ec_10 (k := 4) (Nat.le_of_ble_eq_true rfl) rfl (Or.inl ew_231) f29 g30 rfl ?_
          refine ea_bipush (pc := 55) dX10_bestFrom_55 (v := 12) rfl ?_
          refine ea_iload (pc := 57) dX10_bestFrom_57 5 rfl ?_
          obtain ⟨d31, xc35, h32, m33, q34, H⟩ := H
          refine ea_callS (pc := 59) (As := [vI xc11]) (st := [vI 12, vR (ea_r h23 a3 4)]) dX10_bestFrom_59 kX10_slotIn m33 q34 rfl (Nat.le_of_ble_eq_true rfl) ew_605 ew_606 ?_
          refine ea_imul (pc := 62) dX10_bestFrom_62 ?_
          refine ea_iload_n (pc := 63) dX10_bestFrom_63 rfl 3 rfl ?_
          refine ea_iadd (pc := 64) dX10_bestFrom_64 ?_
          obtain ⟨a38, e39, f36, g37, H⟩ := H
          refine ea_deref1 e39 ?_
          obtain ⟨z40, H⟩ := H
          refine ea_lald (pc := 65) dX10_bestFrom_65 f36 g37 z40 ?_
          obtain ⟨rfl, rfl⟩ := H
          exact ea_lreturn (pc := 66) dX10_bestFrom_66 rfl
theorem dX10_collect_0 : decode cX10_collect 0 = .ok (.aload_n 0, 1) := by decide +kernel
theorem dX10_collect_1 : decode cX10_collect 1 = .ok (.iconst 0, 1) := by decide +kernel
theorem dX10_collect_2 : decode cX10_collect 2 = .ok (.putfield 53, 3) := by decide +kernel
theorem dX10_collect_5 : decode cX10_collect 5 = .ok (.iconst 0, 1) := by decide +kernel
theorem dX10_collect_6 : decode cX10_collect 6 = .ok (.istore_n 1, 1) := by decide +kernel
theorem dX10_collect_7 : decode cX10_collect 7 = .ok (.iload_n 1, 1) := by decide +kernel
theorem dX10_collect_8 : decode cX10_collect 8 = .ok (.aload_n 0, 1) := by decide +kernel
theorem dX10_collect_9 : decode cX10_collect 9 = .ok (.getfield 20, 3) := by decide +kernel
theorem dX10_collect_12 : decode cX10_collect 12 = .ok (.getfield 103, 3) := by decide +kernel
theorem dX10_collect_15 : decode cX10_collect 15 = .ok (.if_icmp .ge 111, 3) := by decide +kernel
theorem dX10_collect_18 : decode cX10_collect 18 = .ok (.iconst 0, 1) := by decide +kernel
theorem dX10_collect_19 : decode cX10_collect 19 = .ok (.istore_n 2, 1) := by decide +kernel
theorem dX10_collect_20 : decode cX10_collect 20 = .ok (.iload_n 2, 1) := by decide +kernel
theorem dX10_collect_21 : decode cX10_collect 21 = .ok (.bipush 7, 2) := by decide +kernel
theorem dX10_collect_23 : decode cX10_collect 23 = .ok (.if_icmp .ge 97, 3) := by decide +kernel
theorem dX10_collect_26 : decode cX10_collect 26 = .ok (.iconst 0, 1) := by decide +kernel
theorem dX10_collect_27 : decode cX10_collect 27 = .ok (.istore_n 3, 1) := by decide +kernel
theorem dX10_collect_28 : decode cX10_collect 28 = .ok (.iload_n 3, 1) := by decide +kernel
theorem dX10_collect_29 : decode cX10_collect 29 = .ok (.aload_n 0, 1) := by decide +kernel
theorem dX10_collect_30 : decode cX10_collect 30 = .ok (.getfield 20, 3) := by decide +kernel
theorem dX10_collect_33 : decode cX10_collect 33 = .ok (.getfield 106, 3) := by decide +kernel
theorem dX10_collect_36 : decode cX10_collect 36 = .ok (.iload_n 1, 1) := by decide +kernel
theorem dX10_collect_37 : decode cX10_collect 37 = .ok (.iaload, 1) := by decide +kernel
theorem dX10_collect_38 : decode cX10_collect 38 = .ok (.if_icmp .ge 76, 3) := by decide +kernel
theorem dX10_collect_41 : decode cX10_collect 41 = .ok (.iload_n 1, 1) := by decide +kernel
theorem dX10_collect_42 : decode cX10_collect 42 = .ok (.bipush 6, 2) := by decide +kernel
theorem dX10_collect_44 : decode cX10_collect 44 = .ok (.ishl, 1) := by decide +kernel
theorem dX10_collect_45 : decode cX10_collect 45 = .ok (.iload_n 2, 1) := by decide +kernel
theorem dX10_collect_46 : decode cX10_collect 46 = .ok (.iconst 3, 1) := by decide +kernel
theorem dX10_collect_47 : decode cX10_collect 47 = .ok (.ishl, 1) := by decide +kernel
theorem dX10_collect_48 : decode cX10_collect 48 = .ok (.ior, 1) := by decide +kernel
theorem dX10_collect_49 : decode cX10_collect 49 = .ok (.iload_n 3, 1) := by decide +kernel
theorem dX10_collect_50 : decode cX10_collect 50 = .ok (.ior, 1) := by decide +kernel
theorem dX10_collect_51 : decode cX10_collect 51 = .ok (.istore 4, 2) := by decide +kernel
theorem dX10_collect_53 : decode cX10_collect 53 = .ok (.iload_n 3, 1) := by decide +kernel
theorem dX10_collect_54 : decode cX10_collect 54 = .ok (.ifCond .le 19, 3) := by decide +kernel
theorem dX10_collect_57 : decode cX10_collect 57 = .ok (.aload_n 0, 1) := by decide +kernel
theorem dX10_collect_58 : decode cX10_collect 58 = .ok (.aload_n 0, 1) := by decide +kernel
theorem dX10_collect_59 : decode cX10_collect 59 = .ok (.getfield 20, 3) := by decide +kernel
theorem dX10_collect_62 : decode cX10_collect 62 = .ok (.iload_n 1, 1) := by decide +kernel
theorem dX10_collect_63 : decode cX10_collect 63 = .ok (.iload_n 2, 1) := by decide +kernel
theorem dX10_collect_64 : decode cX10_collect 64 = .ok (.iload_n 3, 1) := by decide +kernel
theorem dX10_collect_65 : decode cX10_collect 65 = .ok (.invokevirtual 109, 3) := by decide +kernel
theorem dX10_collect_68 : decode cX10_collect 68 = .ok (.iload 4, 2) := by decide +kernel
theorem dX10_collect_70 : decode cX10_collect 70 = .ok (.invokevirtual 113, 3) := by decide +kernel
theorem dX10_collect_73 : decode cX10_collect 73 = .ok (.iload_n 3, 1) := by decide +kernel
theorem dX10_collect_74 : decode cX10_collect 74 = .ok (.aload_n 0, 1) := by decide +kernel
theorem dX10_collect_75 : decode cX10_collect 75 = .ok (.getfield 20, 3) := by decide +kernel
theorem dX10_collect_78 : decode cX10_collect 78 = .ok (.getfield 106, 3) := by decide +kernel
theorem dX10_collect_81 : decode cX10_collect 81 = .ok (.iload_n 1, 1) := by decide +kernel
theorem dX10_collect_82 : decode cX10_collect 82 = .ok (.iaload, 1) := by decide +kernel
theorem dX10_collect_83 : decode cX10_collect 83 = .ok (.iconst 1, 1) := by decide +kernel
theorem dX10_collect_84 : decode cX10_collect 84 = .ok (.isub, 1) := by decide +kernel
theorem dX10_collect_85 : decode cX10_collect 85 = .ok (.if_icmp .ge 23, 3) := by decide +kernel
theorem dX10_collect_88 : decode cX10_collect 88 = .ok (.aload_n 0, 1) := by decide +kernel
theorem dX10_collect_89 : decode cX10_collect 89 = .ok (.aload_n 0, 1) := by decide +kernel
theorem dX10_collect_90 : decode cX10_collect 90 = .ok (.getfield 20, 3) := by decide +kernel
theorem dX10_collect_93 : decode cX10_collect 93 = .ok (.iload_n 1, 1) := by decide +kernel
theorem dX10_collect_94 : decode cX10_collect 94 = .ok (.iload_n 2, 1) := by decide +kernel
theorem dX10_collect_95 : decode cX10_collect 95 = .ok (.iload_n 3, 1) := by decide +kernel
theorem dX10_collect_96 : decode cX10_collect 96 = .ok (.invokevirtual 117, 3) := by decide +kernel
theorem dX10_collect_99 : decode cX10_collect 99 = .ok (.sipush 1024, 3) := by decide +kernel
theorem dX10_collect_102 : decode cX10_collect 102 = .ok (.iload 4, 2) := by decide +kernel
theorem dX10_collect_104 : decode cX10_collect 104 = .ok (.ior, 1) := by decide +kernel
theorem dX10_collect_105 : decode cX10_collect 105 = .ok (.invokevirtual 113, 3) := by decide +kernel
theorem dX10_collect_108 : decode cX10_collect 108 = .ok (.iinc 3 1, 3) := by decide +kernel
theorem dX10_collect_111 : decode cX10_collect 111 = .ok (.goto (-83), 3) := by decide +kernel
theorem dX10_collect_114 : decode cX10_collect 114 = .ok (.iinc 2 1, 3) := by decide +kernel
theorem dX10_collect_117 : decode cX10_collect 117 = .ok (.goto (-97), 3) := by decide +kernel
theorem dX10_collect_120 : decode cX10_collect 120 = .ok (.iinc 1 1, 3) := by decide +kernel
theorem dX10_collect_123 : decode cX10_collect 123 = .ok (.goto (-116), 3) := by decide +kernel
theorem dX10_collect_126 : decode cX10_collect 126 = .ok (.return_, 1) := by decide +kernel
theorem bX10_collect_0 {d : Nat} {h0 hE h : ea_H} {rv : Option ea_V} {r0 : Option Nat} (H : ∃ a3, r0 = some a3 ∧ a3 < ea_n h ∧ ea_c h a3 = 10 ∧ ∀ h5, h5 = ea_wi h a3 1 0 → ea_W mX10_collect d h0 rv hE 7 [(0, vR r0), (1, vI 0)] [] h5) : ea_W mX10_collect d h0 rv hE 0 [(0, vR r0)] [] h := by
  refine ea_aload_n (pc := 0) dX10_collect_0 rfl 0 rfl ?_
  refine ea_iconst (pc := 1) dX10_collect_1 (v := 0) rfl ?_
  obtain ⟨a3, e4, f1, g2, H⟩ := H
  refine ea_deref1 e4 ?_
  refine ea_putI (pc := 2) dX10_collect_2 ec_10 (k := 1) (Nat.le_of_ble_eq_true rfl) rfl (Or.inl ⟨rfl, Or.inl ew_227⟩) rfl rfl f1 g2 ?_
  obtain ⟨h5, E6⟩ : ∃ z, z = ea_wi h a3 1 0 := ⟨_, rfl⟩
  have H := H h5 E6
  refine ea_nm E6 ?_
  refine ea_iconst (pc := 5) dX10_collect_5 (v := 0) rfl ?_
  refine ea_istore_n (pc := 6) (lv' := [(0, vR r0), (1, vI 0)]) dX10_collect_6 rfl (Nat.le_of_ble_eq_true rfl) [1, 0] rfl ?_
  exact H
theorem bX10_collect_7 {d : Nat} {h0 hE h : ea_H} {rv : Option ea_V} {r0 : Option Nat} {x1 : Int32} (H : ∃ a3, r0 = some a3 ∧ a3 < ea_n h ∧ ea_c h a3 = 10 ∧ ∃ a7, (ea_r h a3 2) = some a7 ∧ a7 < ea_n h ∧ ea_c h a7 = 9 ∧ ((ea_i h a7 0) ≤ x1 → rv = none ∧ hE = h) ∧ (¬ (ea_i h a7 0) ≤ x1 → ea_W mX10_collect d h0 rv hE 20 [(0, vR r0), (1, vI x1), (2, vI 0)] [] h)) : ea_W mX10_collect d h0 rv hE 7 [(0, vR r0), (1, vI x1)] [] h := by
  refine ea_iload_n (pc := 7) dX10_collect_7 rfl 1 rfl ?_
  refine ea_aload_n (pc := 8) dX10_collect_8 rfl 0 rfl ?_
  obtain ⟨a3, e4, f1, g2, H⟩ := H
  refine ea_deref0 e4 ?_
  refine ea_getR (pc := 9) dX10_collect_9 ec_10 (k := 2) (Nat.le_of_ble_eq_true rfl) rfl (Or.inl ew_229) f1 g2 rfl ?_
  obtain ⟨a7, e8, f5, g6, H⟩ := H
  refine ea_deref0 e8 ?_
  refine ea_getI (pc := 12) dX10_collect_12 ec_9 (k := 0) (Nat.le_of_ble_eq_true rfl) rfl (Or.inl ew_179) f5 g6 ?_
  refine ea_icmp_ge (pc := 15) (tgt := 126) dX10_collect_15 rfl (fun c9 => ?_) (fun c9 => ?_)
  · have H := H.1 c9
    obtain ⟨rfl, rfl⟩ := H
    exact ea_return (pc := 126) dX10_collect_126 rfl
  · have H := H.2 c9
    refine ea_iconst (pc := 18) dX10_collect_18 (v := 0) rfl ?_
    refine ea_istore_n (pc := 19) (lv' := [(0, vR r0), (1, vI x1), (2, vI 0)]) dX10_collect_19 rfl (Nat.le_of_ble_eq_true rfl) [1, 2, 0] rfl ?_
    exact H
theorem bX10_collect_20 {d : Nat} {h0 hE h : ea_H} {rv : Option ea_V} {r0 : Option Nat} {x1 : Int32} {x2 : Int32} (H : ((7 : Int32) ≤ x2 → ea_W mX10_collect d h0 rv hE 7 [(0, vR r0), (1, vI (x1 + 1))] [] h) ∧ (¬ (7 : Int32) ≤ x2 → ea_W mX10_collect d h0 rv hE 28 [(0, vR r0), (1, vI x1), (2, vI x2), (3, vI 0)] [] h)) : ea_W mX10_collect d h0 rv hE 20 [(0, vR r0), (1, vI x1), (2, vI x2)] [] h := by
  refine ea_iload_n (pc := 20) dX10_collect_20 rfl 2 rfl ?_
  refine ea_bipush (pc := 21) dX10_collect_21 (v := 7) rfl ?_
  refine ea_icmp_ge (pc := 23) (tgt := 120) dX10_collect_23 rfl (fun c1 => ?_) (fun c1 => ?_)
  · have H := H.1 c1
    refine ea_iinc (pc := 120) (v := 1) (lv' := [(0, vR r0), (1, vI (x1 + 1))]) dX10_collect_120 1 rfl rfl (Nat.le_of_ble_eq_true rfl) [1, 0] rfl ?_
    refine ea_goto (pc := 123) (tgt := 7) dX10_collect_123 rfl ?_
    exact H
  · have H := H.2 c1
    refine ea_iconst (pc := 26) dX10_collect_26 (v := 0) rfl ?_
    refine ea_istore_n (pc := 27) (lv' := [(0, vR r0), (1, vI x1), (2, vI x2), (3, vI 0)]) dX10_collect_27 rfl (Nat.le_of_ble_eq_true rfl) [1, 2, 3, 0] rfl ?_
    exact H
theorem bX10_collect_28 {d : Nat} {h0 hE h : ea_H} {rv : Option ea_V} {r0 : Option Nat} {x1 : Int32} {x2 : Int32} {x3 : Int32} (H : ∃ a3, r0 = some a3 ∧ a3 < ea_n h ∧ ea_c h a3 = 10 ∧ ∃ a7, (ea_r h a3 2) = some a7 ∧ a7 < ea_n h ∧ ea_c h a7 = 9 ∧ ∃ a11, (ea_r h a7 1) = some a11 ∧ a11 < ea_n h ∧ ea_c h a11 = 20 ∧ vp_in x1 (ea_l h a11) ∧ ((ea_i h a11 (Int32.toNatClampNeg x1)) ≤ x3 → ea_W mX10_collect d h0 rv hE 20 [(0, vR r0), (1, vI x1), (2, vI (x2 + 1))] [] h) ∧ (¬ (ea_i h a11 (Int32.toNatClampNeg x1)) ≤ x3 → (x3 ≤ (0 : Int32) → ea_W mX10_collect d h0 rv hE 73 [(0, vR r0), (1, vI x1), (2, vI x2), (3, vI x3), (4, vI (((x1 <<< ((6 : Int32) &&& 31)) ||| (x2 <<< ((3 : Int32) &&& 31))) ||| x3))] [] h) ∧ (¬ x3 ≤ (0 : Int32) → a3 < ea_n h ∧ ea_c h a3 = 10 ∧ a7 < ea_n h ∧ ea_c h a7 = 9 ∧ ∃ (d16 : Nat) (xc22 : Int32) (h17 : ea_H), ea_Met mX9_comesAt d16 [vR (some a7), vI x1, vI x2, vI x3] h (some (vI xc22)) h17 ∧ d16 + 1 ≤ d ∧ a3 < ea_n h17 ∧ ea_c h17 a3 = 10 ∧ ∃ (d23 : Nat) (h24 : ea_H), ea_Met mX10_addKey d23 [vR (some a3), vI xc22, vI (((x1 <<< ((6 : Int32) &&& 31)) ||| (x2 <<< ((3 : Int32) &&& 31))) ||| x3)] h17 none h24 ∧ d23 + 1 ≤ d ∧ ea_W mX10_collect d h0 rv hE 73 [(0, vR r0), (1, vI x1), (2, vI x2), (3, vI x3), (4, vI (((x1 <<< ((6 : Int32) &&& 31)) ||| (x2 <<< ((3 : Int32) &&& 31))) ||| x3))] [] h24))) : ea_W mX10_collect d h0 rv hE 28 [(0, vR r0), (1, vI x1), (2, vI x2), (3, vI x3)] [] h := by
  refine ea_iload_n (pc := 28) dX10_collect_28 rfl 3 rfl ?_
  refine ea_aload_n (pc := 29) dX10_collect_29 rfl 0 rfl ?_
  obtain ⟨a3, e4, f1, g2, H⟩ := H
  refine ea_deref0 e4 ?_
  refine ea_getR (pc := 30) dX10_collect_30 ec_10 (k := 2) (Nat.le_of_ble_eq_true rfl) rfl (Or.inl ew_229) f1 g2 rfl ?_
  obtain ⟨a7, e8, f5, g6, H⟩ := H
  refine ea_deref0 e8 ?_
  refine ea_getR (pc := 33) dX10_collect_33 ec_9 (k := 1) (Nat.le_of_ble_eq_true rfl) rfl (Or.inl ew_183) f5 g6 rfl ?_
  refine ea_iload_n (pc := 36) dX10_collect_36 rfl 1 rfl ?_
  obtain ⟨a11, e12, f9, g10, H⟩ := H
  refine ea_deref1 e12 ?_
  obtain ⟨z13, H⟩ := H
  refine ea_iald (pc := 37) dX10_collect_37 f9 g10 z13 ?_
  refine ea_icmp_ge (pc := 38) (tgt := 114) dX10_collect_38 rfl (fun c30 => ?_) (fun c30 => ?_)
  · have H := H.1 c30
    refine ea_iinc (pc := 114) (v := 1) (lv' := [(0, vR r0), (1, vI x1), (2, vI (x2 + 1))]) dX10_collect_114 2 rfl rfl (Nat.le_of_ble_eq_true rfl) [1, 2, 0] rfl ?_
    refine ea_goto (pc := 117) (tgt := 20) dX10_collect_117 rfl ?_
    exact H
  · have H := H.2 c30
    refine ea_iload_n (pc := 41) dX10_collect_41 rfl 1 rfl ?_
    refine ea_bipush (pc := 42) dX10_collect_42 (v := 6) rfl ?_
    refine ea_ishl (pc := 44) dX10_collect_44 ?_
    refine ea_iload_n (pc := 45) dX10_collect_45 rfl 2 rfl ?_
    refine ea_iconst (pc := 46) dX10_collect_46 (v := 3) rfl ?_
    refine ea_ishl (pc := 47) dX10_collect_47 ?_
    refine ea_ior (pc := 48) dX10_collect_48 ?_
    refine ea_iload_n (pc := 49) dX10_collect_49 rfl 3 rfl ?_
    refine ea_ior (pc := 50) dX10_collect_50 ?_
    refine ea_istore (pc := 51) (lv' := [(0, vR r0), (1, vI x1), (2, vI x2), (3, vI x3), (4, vI (((x1 <<< ((6 : Int32) &&& 31)) ||| (x2 <<< ((3 : Int32) &&& 31))) ||| x3))]) dX10_collect_51 (Nat.le_of_ble_eq_true rfl) [1, 2, 3, 4, 0] rfl ?_
    refine ea_iload_n (pc := 53) dX10_collect_53 rfl 3 rfl ?_
    refine ea_if_le (pc := 54) (tgt := 73) dX10_collect_54 rfl (fun c29 => ?_) (fun c29 => ?_)
    · have H := H.1 c29
      exact H
    · have H := H.2 c29
      refine ea_aload_n (pc := 57) dX10_collect_57 rfl 0 rfl ?_
      refine ea_aload_n (pc := 58) dX10_collect_58 rfl 0 rfl ?_
      obtain ⟨f14, g15, H⟩ := H
      refine ea_deref0 e4 ?_
      refine ea_getR (pc := 59) dX10_collect_59 ec_10 (k := 2) (Nat.le_of_ble_eq_true rfl) rfl (Or.inl ew_229) f14 g15 rfl ?_
      refine ea_iload_n (pc := 62) dX10_collect_62 rfl 1 rfl ?_
      refine ea_iload_n (pc := 63) dX10_collect_63 rfl 2 rfl ?_
      refine ea_iload_n (pc := 64) dX10_collect_64 rfl 3 rfl ?_
      obtain ⟨f20, g21, H⟩ := H
      refine ea_deref3 e8 ?_
      obtain ⟨d16, xc22, h17, m18, q19, H⟩ := H
      refine ea_callV (pc := 65) (As := [vI x1, vI x2, vI x3]) (st := [vR r0]) dX10_collect_65 kX9_comesAt m18 q19 rfl (Nat.le_of_ble_eq_true rfl) ew_571 ew_552 ew_553 (ci := 9) rfl (by decide) f20 g21 ?_
      refine ea_iload (pc := 68) dX10_collect_68 4 rfl ?_
      obtain ⟨f27, g28, H⟩ := H
      refine ea_deref2 e4 ?_
      obtain ⟨d23, h24, m25, q26, H⟩ := H
      refine ea_callV (pc := 70) (As := [vI xc22, vI (((x1 <<< ((6 : Int32) &&& 31)) ||| (x2 <<< ((3 : Int32) &&& 31))) ||| x3)]) (st := []) dX10_collect_70 kX10_addKey m25 q26 rfl (Nat.le_of_ble_eq_true rfl) ew_572 ew_574 ew_4 (ci := 10) rfl (by decide) f27 g28 ?_
      exact H
theorem bX10_collect_73 {d : Nat} {h0 hE h : ea_H} {rv : Option ea_V} {r0 : Option Nat} {x1 : Int32} {x2 : Int32} {x3 : Int32} {x4 : Int32} (H : ∃ a3, r0 = some a3 ∧ a3 < ea_n h ∧ ea_c h a3 = 10 ∧ ∃ a7, (ea_r h a3 2) = some a7 ∧ a7 < ea_n h ∧ ea_c h a7 = 9 ∧ ∃ a11, (ea_r h a7 1) = some a11 ∧ a11 < ea_n h ∧ ea_c h a11 = 20 ∧ vp_in x1 (ea_l h a11) ∧ (((ea_i h a11 (Int32.toNatClampNeg x1)) - (1 : Int32)) ≤ x3 → ea_W mX10_collect d h0 rv hE 28 [(0, vR r0), (1, vI x1), (2, vI x2), (3, vI (x3 + 1))] [] h) ∧ (¬ ((ea_i h a11 (Int32.toNatClampNeg x1)) - (1 : Int32)) ≤ x3 → a3 < ea_n h ∧ ea_c h a3 = 10 ∧ a7 < ea_n h ∧ ea_c h a7 = 9 ∧ ∃ (d16 : Nat) (xc22 : Int32) (h17 : ea_H), ea_Met mX9_goesAt d16 [vR (some a7), vI x1, vI x2, vI x3] h (some (vI xc22)) h17 ∧ d16 + 1 ≤ d ∧ a3 < ea_n h17 ∧ ea_c h17 a3 = 10 ∧ ∃ (d23 : Nat) (h24 : ea_H), ea_Met mX10_addKey d23 [vR (some a3), vI xc22, vI ((1024 : Int32) ||| x4)] h17 none h24 ∧ d23 + 1 ≤ d ∧ ea_W mX10_collect d h0 rv hE 28 [(0, vR r0), (1, vI x1), (2, vI x2), (3, vI (x3 + 1))] [] h24)) : ea_W mX10_collect d h0 rv hE 73 [(0, vR r0), (1, vI x1), (2, vI x2), (3, vI x3), (4, vI x4)] [] h := by
  refine ea_iload_n (pc := 73) dX10_collect_73 rfl 3 rfl ?_
  refine ea_aload_n (pc := 74) dX10_collect_74 rfl 0 rfl ?_
  obtain ⟨a3, e4, f1, g2, H⟩ := H
  refine ea_deref0 e4 ?_
  refine ea_getR (pc := 75) dX10_collect_75 ec_10 (k := 2) (Nat.le_of_ble_eq_true rfl) rfl (Or.inl ew_229) f1 g2 rfl ?_
  obtain ⟨a7, e8, f5, g6, H⟩ := H
  refine ea_deref0 e8 ?_
  refine ea_getR (pc := 78) dX10_collect_78 ec_9 (k := 1) (Nat.le_of_ble_eq_true rfl) rfl (Or.inl ew_183) f5 g6 rfl ?_
  refine ea_iload_n (pc := 81) dX10_collect_81 rfl 1 rfl ?_
  obtain ⟨a11, e12, f9, g10, H⟩ := H
  refine ea_deref1 e12 ?_
  obtain ⟨z13, H⟩ := H
  refine ea_iald (pc := 82) dX10_collect_82 f9 g10 z13 ?_
  refine ea_iconst (pc := 83) dX10_collect_83 (v := 1) rfl ?_
  refine ea_isub (pc := 84) dX10_collect_84 ?_
  refine ea_icmp_ge (pc := 85) (tgt := 108) dX10_collect_85 rfl (fun c29 => ?_) (fun c29 => ?_)
  · have H := H.1 c29
    refine ea_iinc (pc := 108) (v := 1) (lv' := [(0, vR r0), (1, vI x1), (2, vI x2), (3, vI (x3 + 1))]) dX10_collect_108 3 rfl rfl (Nat.le_of_ble_eq_true rfl) [1, 2, 3, 0] rfl ?_
    refine ea_goto (pc := 111) (tgt := 28) dX10_collect_111 rfl ?_
    exact H
  · have H := H.2 c29
    refine ea_aload_n (pc := 88) dX10_collect_88 rfl 0 rfl ?_
    refine ea_aload_n (pc := 89) dX10_collect_89 rfl 0 rfl ?_
    obtain ⟨f14, g15, H⟩ := H
    refine ea_deref0 e4 ?_
    refine ea_getR (pc := 90) dX10_collect_90 ec_10 (k := 2) (Nat.le_of_ble_eq_true rfl) rfl (Or.inl ew_229) f14 g15 rfl ?_
    refine ea_iload_n (pc := 93) dX10_collect_93 rfl 1 rfl ?_
    refine ea_iload_n (pc := 94) dX10_collect_94 rfl 2 rfl ?_
    refine ea_iload_n (pc := 95) dX10_collect_95 rfl 3 rfl ?_
    obtain ⟨f20, g21, H⟩ := H
    refine ea_deref3 e8 ?_
    obtain ⟨d16, xc22, h17, m18, q19, H⟩ := H
    refine ea_callV (pc := 96) (As := [vI x1, vI x2, vI x3]) (st := [vR r0]) dX10_collect_96 kX9_goesAt m18 q19 rfl (Nat.le_of_ble_eq_true rfl) ew_576 ew_577 ew_578 (ci := 9) rfl (by decide) f20 g21 ?_
    refine ea_sipush (pc := 99) dX10_collect_99 (v := 1024) rfl ?_
    refine ea_iload (pc := 102) dX10_collect_102 4 rfl ?_
    refine ea_ior (pc := 104) dX10_collect_104 ?_
    obtain ⟨f27, g28, H⟩ := H
    refine ea_deref2 e4 ?_
    obtain ⟨d23, h24, m25, q26, H⟩ := H
    refine ea_callV (pc := 105) (As := [vI xc22, vI ((1024 : Int32) ||| x4)]) (st := []) dX10_collect_105 kX10_addKey m25 q26 rfl (Nat.le_of_ble_eq_true rfl) ew_572 ew_574 ew_4 (ci := 10) rfl (by decide) f27 g28 ?_
    refine ea_iinc (pc := 108) (v := 1) (lv' := [(0, vR r0), (1, vI x1), (2, vI x2), (3, vI (x3 + 1))]) dX10_collect_108 3 rfl rfl (Nat.le_of_ble_eq_true rfl) [1, 2, 3, 0] rfl ?_
    refine ea_goto (pc := 111) (tgt := 28) dX10_collect_111 rfl ?_
    exact H
theorem dX10_addKey_0 : decode cX10_addKey 0 = .ok (.iload_n 1, 1) := by decide +kernel
theorem dX10_addKey_1 : decode cX10_addKey 1 = .ok (.sipush 10079, 3) := by decide +kernel
theorem dX10_addKey_4 : decode cX10_addKey 4 = .ok (.if_icmp .gt 38, 3) := by decide +kernel
theorem dX10_addKey_7 : decode cX10_addKey 7 = .ok (.aload_n 0, 1) := by decide +kernel
theorem dX10_addKey_8 : decode cX10_addKey 8 = .ok (.getfield 53, 3) := by decide +kernel
theorem dX10_addKey_11 : decode cX10_addKey 11 = .ok (.sipush 1120, 3) := by decide +kernel
theorem dX10_addKey_14 : decode cX10_addKey 14 = .ok (.if_icmp .ge 28, 3) := by decide +kernel
theorem dX10_addKey_17 : decode cX10_addKey 17 = .ok (.aload_n 0, 1) := by decide +kernel
theorem dX10_addKey_18 : decode cX10_addKey 18 = .ok (.getfield 28, 3) := by decide +kernel
theorem dX10_addKey_21 : decode cX10_addKey 21 = .ok (.aload_n 0, 1) := by decide +kernel
theorem dX10_addKey_22 : decode cX10_addKey 22 = .ok (.getfield 53, 3) := by decide +kernel
theorem dX10_addKey_25 : decode cX10_addKey 25 = .ok (.iload_n 1, 1) := by decide +kernel
theorem dX10_addKey_26 : decode cX10_addKey 26 = .ok (.bipush 11, 2) := by decide +kernel
theorem dX10_addKey_28 : decode cX10_addKey 28 = .ok (.ishl, 1) := by decide +kernel
theorem dX10_addKey_29 : decode cX10_addKey 29 = .ok (.iload_n 2, 1) := by decide +kernel
theorem dX10_addKey_30 : decode cX10_addKey 30 = .ok (.ior, 1) := by decide +kernel
theorem dX10_addKey_31 : decode cX10_addKey 31 = .ok (.iastore, 1) := by decide +kernel
theorem dX10_addKey_32 : decode cX10_addKey 32 = .ok (.aload_n 0, 1) := by decide +kernel
theorem dX10_addKey_33 : decode cX10_addKey 33 = .ok (.dup, 1) := by decide +kernel
theorem dX10_addKey_34 : decode cX10_addKey 34 = .ok (.getfield 53, 3) := by decide +kernel
theorem dX10_addKey_37 : decode cX10_addKey 37 = .ok (.iconst 1, 1) := by decide +kernel
theorem dX10_addKey_38 : decode cX10_addKey 38 = .ok (.iadd, 1) := by decide +kernel
theorem dX10_addKey_39 : decode cX10_addKey 39 = .ok (.putfield 53, 3) := by decide +kernel
theorem dX10_addKey_42 : decode cX10_addKey 42 = .ok (.return_, 1) := by decide +kernel
theorem bX10_addKey_0 {d : Nat} {h0 hE h : ea_H} {rv : Option ea_V} {r0 : Option Nat} {x1 : Int32} {x2 : Int32} (H : ((10079 : Int32) < x1 → rv = none ∧ hE = h) ∧ (¬ (10079 : Int32) < x1 → ∃ a3, r0 = some a3 ∧ a3 < ea_n h ∧ ea_c h a3 = 10 ∧ ((1120 : Int32) ≤ (ea_i h a3 1) → rv = none ∧ hE = h) ∧ (¬ (1120 : Int32) ≤ (ea_i h a3 1) → a3 < ea_n h ∧ ea_c h a3 = 10 ∧ a3 < ea_n h ∧ ea_c h a3 = 10 ∧ ∃ a11, (ea_r h a3 3) = some a11 ∧ a11 < ea_n h ∧ ea_c h a11 = 20 ∧ vp_in (ea_i h a3 1) (ea_l h a11) ∧ ∀ h14, h14 = ea_wi h a11 (Int32.toNatClampNeg (ea_i h a3 1)) ((x1 <<< ((11 : Int32) &&& 31)) ||| x2) → a3 < ea_n h14 ∧ ea_c h14 a3 = 10 ∧ a3 < ea_n h14 ∧ ea_c h14 a3 = 10 ∧ ∀ h20, h20 = ea_wi h14 a3 1 ((ea_i h14 a3 1) + (1 : Int32)) → rv = none ∧ hE = h20))) : ea_W mX10_addKey d h0 rv hE 0 [(0, vR r0), (1, vI x1), (2, vI x2)] [] h := by
  refine ea_iload_n (pc := 0) dX10_addKey_0 rfl 1 rfl ?_
  refine ea_sipush (pc := 1) dX10_addKey_1 (v := 10079) rfl ?_
  refine ea_icmp_gt (pc := 4) (tgt := 42) dX10_addKey_4 rfl (fun c23 => ?_) (fun c23 => ?_)
  · have H := H.1 c23
    obtain ⟨rfl, rfl⟩ := H
    exact ea_return (pc := 42) dX10_addKey_42 rfl
  · have H := H.2 c23
    refine ea_aload_n (pc := 7) dX10_addKey_7 rfl 0 rfl ?_
    obtain ⟨a3, e4, f1, g2, H⟩ := H
    refine ea_deref0 e4 ?_
    refine ea_getI (pc := 8) dX10_addKey_8 ec_10 (k := 1) (Nat.le_of_ble_eq_true rfl) rfl (Or.inl ew_227) f1 g2 ?_
    refine ea_sipush (pc := 11) dX10_addKey_11 (v := 1120) rfl ?_
    refine ea_icmp_ge (pc := 14) (tgt := 42) dX10_addKey_14 rfl (fun c22 => ?_) (fun c22 => ?_)
    · have H := H.1 c22
      obtain ⟨rfl, rfl⟩ := H
      exact ea_return (pc := 42) dX10_addKey_42 rfl
    · have H := H.2 c22
      refine ea_aload_n (pc := 17) dX10_addKey_17 rfl 0 rfl ?_
      obtain ⟨f5, g6, H⟩ := H
      refine ea_deref0 e4 ?_
      refine ea_getR (pc := 18) dX10_addKey_18 ec_10 (k := 3) (Nat.le_of_ble_eq_true rfl) rfl (Or.inl ew_230) f5 g6 rfl ?_
      refine ea_aload_n (pc := 21) dX10_addKey_21 rfl 0 rfl ?_
      obtain ⟨f7, g8, H⟩ := H
      refine ea_deref0 e4 ?_
      refine ea_getI (pc := 22) dX10_addKey_22 ec_10 (k := 1) (Nat.le_of_ble_eq_true rfl) rfl (Or.inl ew_227) f7 g8 ?_
      refine ea_iload_n (pc := 25) dX10_addKey_25 rfl 1 rfl ?_
      refine ea_bipush (pc := 26) dX10_addKey_26 (v := 11) rfl ?_
      refine ea_ishl (pc := 28) dX10_addKey_28 ?_
      refine ea_iload_n (pc := 29) dX10_addKey_29 rfl 2 rfl ?_
      refine ea_ior (pc := 30) dX10_addKey_30 ?_
      obtain ⟨a11, e12, f9, g10, H⟩ := H
      refine ea_deref2 e12 ?_
      obtain ⟨z13, H⟩ := H
      refine ea_iast (pc := 31) dX10_addKey_31 f9 g10 z13 ?_
      obtain ⟨h14, E15⟩ : ∃ z, z = ea_wi h a11 (Int32.toNatClampNeg (ea_i h a3 1)) ((x1 <<< ((11 : Int32) &&& 31)) ||| x2) := ⟨_, rfl⟩
      have H := H h14 E15
      refine ea_nm E15 ?_
      refine ea_aload_n (pc := 32) dX10_addKey_32 rfl 0 rfl ?_
      refine ea_dup (pc := 33) dX10_addKey_33 rfl ?_
      obtain ⟨f16, g17, H⟩ := H
      refine ea_deref0 e4 ?_
      refine ea_getI (pc := 34) dX10_addKey_34 ec_10 (k := 1) (Nat.le_of_ble_eq_true rfl) rfl (Or.inl ew_227) f16 g17 ?_
      refine ea_iconst (pc := 37) dX10_addKey_37 (v := 1) rfl ?_
      refine ea_iadd (pc := 38) dX10_addKey_38 ?_
      obtain ⟨f18, g19, H⟩ := H
      refine ea_deref1 e4 ?_
      refine ea_putI (pc := 39) dX10_addKey_39 ec_10 (k := 1) (Nat.le_of_ble_eq_true rfl) rfl (Or.inl ⟨rfl, Or.inl ew_227⟩) rfl rfl f18 g19 ?_
      obtain ⟨h20, E21⟩ : ∃ z, z = ea_wi h14 a3 1 ((ea_i h14 a3 1) + (1 : Int32)) := ⟨_, rfl⟩
      have H := H h20 E21
      refine ea_nm E21 ?_
      obtain ⟨rfl, rfl⟩ := H
      exact ea_return (pc := 42) dX10_addKey_42 rfl
theorem dX10_sortKeys_0 : decode cX10_sortKeys 0 = .ok (.sipush 364, 3) := by decide +kernel
theorem dX10_sortKeys_3 : decode cX10_sortKeys 3 = .ok (.istore_n 1, 1) := by decide +kernel
theorem dX10_sortKeys_4 : decode cX10_sortKeys 4 = .ok (.iload_n 1, 1) := by decide +kernel
theorem dX10_sortKeys_5 : decode cX10_sortKeys 5 = .ok (.ifCond .le 88, 3) := by decide +kernel
theorem dX10_sortKeys_8 : decode cX10_sortKeys 8 = .ok (.iload_n 1, 1) := by decide +kernel
theorem dX10_sortKeys_9 : decode cX10_sortKeys 9 = .ok (.istore_n 2, 1) := by decide +kernel
theorem dX10_sortKeys_10 : decode cX10_sortKeys 10 = .ok (.iload_n 2, 1) := by decide +kernel
theorem dX10_sortKeys_11 : decode cX10_sortKeys 11 = .ok (.aload_n 0, 1) := by decide +kernel
theorem dX10_sortKeys_12 : decode cX10_sortKeys 12 = .ok (.getfield 53, 3) := by decide +kernel
theorem dX10_sortKeys_15 : decode cX10_sortKeys 15 = .ok (.if_icmp .ge 71, 3) := by decide +kernel
theorem dX10_sortKeys_18 : decode cX10_sortKeys 18 = .ok (.aload_n 0, 1) := by decide +kernel
theorem dX10_sortKeys_19 : decode cX10_sortKeys 19 = .ok (.getfield 28, 3) := by decide +kernel
theorem dX10_sortKeys_22 : decode cX10_sortKeys 22 = .ok (.iload_n 2, 1) := by decide +kernel
theorem dX10_sortKeys_23 : decode cX10_sortKeys 23 = .ok (.iaload, 1) := by decide +kernel
theorem dX10_sortKeys_24 : decode cX10_sortKeys 24 = .ok (.istore_n 3, 1) := by decide +kernel
theorem dX10_sortKeys_25 : decode cX10_sortKeys 25 = .ok (.iload_n 2, 1) := by decide +kernel
theorem dX10_sortKeys_26 : decode cX10_sortKeys 26 = .ok (.istore 4, 2) := by decide +kernel
theorem dX10_sortKeys_28 : decode cX10_sortKeys 28 = .ok (.iload 4, 2) := by decide +kernel
theorem dX10_sortKeys_30 : decode cX10_sortKeys 30 = .ok (.iload_n 1, 1) := by decide +kernel
theorem dX10_sortKeys_31 : decode cX10_sortKeys 31 = .ok (.if_icmp .lt 41, 3) := by decide +kernel
theorem dX10_sortKeys_34 : decode cX10_sortKeys 34 = .ok (.aload_n 0, 1) := by decide +kernel
theorem dX10_sortKeys_35 : decode cX10_sortKeys 35 = .ok (.getfield 28, 3) := by decide +kernel
theorem dX10_sortKeys_38 : decode cX10_sortKeys 38 = .ok (.iload 4, 2) := by decide +kernel
theorem dX10_sortKeys_40 : decode cX10_sortKeys 40 = .ok (.iload_n 1, 1) := by decide +kernel
theorem dX10_sortKeys_41 : decode cX10_sortKeys 41 = .ok (.isub, 1) := by decide +kernel
theorem dX10_sortKeys_42 : decode cX10_sortKeys 42 = .ok (.iaload, 1) := by decide +kernel
theorem dX10_sortKeys_43 : decode cX10_sortKeys 43 = .ok (.iload_n 3, 1) := by decide +kernel
theorem dX10_sortKeys_44 : decode cX10_sortKeys 44 = .ok (.if_icmp .le 28, 3) := by decide +kernel
theorem dX10_sortKeys_47 : decode cX10_sortKeys 47 = .ok (.aload_n 0, 1) := by decide +kernel
theorem dX10_sortKeys_48 : decode cX10_sortKeys 48 = .ok (.getfield 28, 3) := by decide +kernel
theorem dX10_sortKeys_51 : decode cX10_sortKeys 51 = .ok (.iload 4, 2) := by decide +kernel
theorem dX10_sortKeys_53 : decode cX10_sortKeys 53 = .ok (.aload_n 0, 1) := by decide +kernel
theorem dX10_sortKeys_54 : decode cX10_sortKeys 54 = .ok (.getfield 28, 3) := by decide +kernel
theorem dX10_sortKeys_57 : decode cX10_sortKeys 57 = .ok (.iload 4, 2) := by decide +kernel
theorem dX10_sortKeys_59 : decode cX10_sortKeys 59 = .ok (.iload_n 1, 1) := by decide +kernel
theorem dX10_sortKeys_60 : decode cX10_sortKeys 60 = .ok (.isub, 1) := by decide +kernel
theorem dX10_sortKeys_61 : decode cX10_sortKeys 61 = .ok (.iaload, 1) := by decide +kernel
theorem dX10_sortKeys_62 : decode cX10_sortKeys 62 = .ok (.iastore, 1) := by decide +kernel
theorem dX10_sortKeys_63 : decode cX10_sortKeys 63 = .ok (.iload 4, 2) := by decide +kernel
theorem dX10_sortKeys_65 : decode cX10_sortKeys 65 = .ok (.iload_n 1, 1) := by decide +kernel
theorem dX10_sortKeys_66 : decode cX10_sortKeys 66 = .ok (.isub, 1) := by decide +kernel
theorem dX10_sortKeys_67 : decode cX10_sortKeys 67 = .ok (.istore 4, 2) := by decide +kernel
theorem dX10_sortKeys_69 : decode cX10_sortKeys 69 = .ok (.goto (-41), 3) := by decide +kernel
theorem dX10_sortKeys_72 : decode cX10_sortKeys 72 = .ok (.aload_n 0, 1) := by decide +kernel
theorem dX10_sortKeys_73 : decode cX10_sortKeys 73 = .ok (.getfield 28, 3) := by decide +kernel
theorem dX10_sortKeys_76 : decode cX10_sortKeys 76 = .ok (.iload 4, 2) := by decide +kernel
theorem dX10_sortKeys_78 : decode cX10_sortKeys 78 = .ok (.iload_n 3, 1) := by decide +kernel
theorem dX10_sortKeys_79 : decode cX10_sortKeys 79 = .ok (.iastore, 1) := by decide +kernel
theorem dX10_sortKeys_80 : decode cX10_sortKeys 80 = .ok (.iinc 2 1, 3) := by decide +kernel
theorem dX10_sortKeys_83 : decode cX10_sortKeys 83 = .ok (.goto (-73), 3) := by decide +kernel
theorem dX10_sortKeys_86 : decode cX10_sortKeys 86 = .ok (.iload_n 1, 1) := by decide +kernel
theorem dX10_sortKeys_87 : decode cX10_sortKeys 87 = .ok (.iconst 3, 1) := by decide +kernel
theorem dX10_sortKeys_88 : decode cX10_sortKeys 88 = .ok (.idiv, 1) := by decide +kernel
theorem dX10_sortKeys_89 : decode cX10_sortKeys 89 = .ok (.istore_n 1, 1) := by decide +kernel
theorem dX10_sortKeys_90 : decode cX10_sortKeys 90 = .ok (.goto (-86), 3) := by decide +kernel
theorem dX10_sortKeys_93 : decode cX10_sortKeys 93 = .ok (.return_, 1) := by decide +kernel
theorem bX10_sortKeys_0 {d : Nat} {h0 hE h : ea_H} {rv : Option ea_V} {r0 : Option Nat} (H : ea_W mX10_sortKeys d h0 rv hE 4 [(0, vR r0), (1, vI 364)] [] h) : ea_W mX10_sortKeys d h0 rv hE 0 [(0, vR r0)] [] h := by
  refine ea_sipush (pc := 0) dX10_sortKeys_0 (v := 364) rfl ?_
  refine ea_istore_n (pc := 3) (lv' := [(0, vR r0), (1, vI 364)]) dX10_sortKeys_3 rfl (Nat.le_of_ble_eq_true rfl) [1, 0] rfl ?_
  exact H
theorem bX10_sortKeys_4 {d : Nat} {h0 hE h : ea_H} {rv : Option ea_V} {r0 : Option Nat} {x1 : Int32} (H : (x1 ≤ (0 : Int32) → rv = none ∧ hE = h) ∧ (¬ x1 ≤ (0 : Int32) → ea_W mX10_sortKeys d h0 rv hE 10 [(0, vR r0), (1, vI x1), (2, vI x1)] [] h)) : ea_W mX10_sortKeys d h0 rv hE 4 [(0, vR r0), (1, vI x1)] [] h := by
  refine ea_iload_n (pc := 4) dX10_sortKeys_4 rfl 1 rfl ?_
  refine ea_if_le (pc := 5) (tgt := 93) dX10_sortKeys_5 rfl (fun c1 => ?_) (fun c1 => ?_)
  · have H := H.1 c1
    obtain ⟨rfl, rfl⟩ := H
    exact ea_return (pc := 93) dX10_sortKeys_93 rfl
  · have H := H.2 c1
    refine ea_iload_n (pc := 8) dX10_sortKeys_8 rfl 1 rfl ?_
    refine ea_istore_n (pc := 9) (lv' := [(0, vR r0), (1, vI x1), (2, vI x1)]) dX10_sortKeys_9 rfl (Nat.le_of_ble_eq_true rfl) [1, 2, 0] rfl ?_
    exact H
theorem bX10_sortKeys_10 {d : Nat} {h0 hE h : ea_H} {rv : Option ea_V} {r0 : Option Nat} {x1 : Int32} {x2 : Int32} (H : ∃ a3, r0 = some a3 ∧ a3 < ea_n h ∧ ea_c h a3 = 10 ∧ ((ea_i h a3 1) ≤ x2 → ea_W mX10_sortKeys d h0 rv hE 4 [(0, vR r0), (1, vI (x1 / (3 : Int32)))] [] h) ∧ (¬ (ea_i h a3 1) ≤ x2 → a3 < ea_n h ∧ ea_c h a3 = 10 ∧ ∃ a9, (ea_r h a3 3) = some a9 ∧ a9 < ea_n h ∧ ea_c h a9 = 20 ∧ vp_in x2 (ea_l h a9) ∧ ea_W mX10_sortKeys d h0 rv hE 28 [(0, vR r0), (1, vI x1), (2, vI x2), (3, vI (ea_i h a9 (Int32.toNatClampNeg x2))), (4, vI x2)] [] h)) : ea_W mX10_sortKeys d h0 rv hE 10 [(0, vR r0), (1, vI x1), (2, vI x2)] [] h := by
  refine ea_iload_n (pc := 10) dX10_sortKeys_10 rfl 2 rfl ?_
  refine ea_aload_n (pc := 11) dX10_sortKeys_11 rfl 0 rfl ?_
  obtain ⟨a3, e4, f1, g2, H⟩ := H
  refine ea_deref0 e4 ?_
  refine ea_getI (pc := 12) dX10_sortKeys_12 ec_10 (k := 1) (Nat.le_of_ble_eq_true rfl) rfl (Or.inl ew_227) f1 g2 ?_
  refine ea_icmp_ge (pc := 15) (tgt := 86) dX10_sortKeys_15 rfl (fun c12 => ?_) (fun c12 => ?_)
  · have H := H.1 c12
    refine ea_iload_n (pc := 86) dX10_sortKeys_86 rfl 1 rfl ?_
    refine ea_iconst (pc := 87) dX10_sortKeys_87 (v := 3) rfl ?_
    refine ea_idiv (pc := 88) dX10_sortKeys_88 (by decide) ?_
    refine ea_istore_n (pc := 89) (lv' := [(0, vR r0), (1, vI (x1 / (3 : Int32)))]) dX10_sortKeys_89 rfl (Nat.le_of_ble_eq_true rfl) [1, 0] rfl ?_
    refine ea_goto (pc := 90) (tgt := 4) dX10_sortKeys_90 rfl ?_
    exact H
  · have H := H.2 c12
    refine ea_aload_n (pc := 18) dX10_sortKeys_18 rfl 0 rfl ?_
    obtain ⟨f5, g6, H⟩ := H
    refine ea_deref0 e4 ?_
    refine ea_getR (pc := 19) dX10_sortKeys_19 ec_10 (k := 3) (Nat.le_of_ble_eq_true rfl) rfl (Or.inl ew_230) f5 g6 rfl ?_
    refine ea_iload_n (pc := 22) dX10_sortKeys_22 rfl 2 rfl ?_
    obtain ⟨a9, e10, f7, g8, H⟩ := H
    refine ea_deref1 e10 ?_
    obtain ⟨z11, H⟩ := H
    refine ea_iald (pc := 23) dX10_sortKeys_23 f7 g8 z11 ?_
    refine ea_istore_n (pc := 24) (lv' := [(0, vR r0), (1, vI x1), (2, vI x2), (3, vI (ea_i h a9 (Int32.toNatClampNeg x2)))]) dX10_sortKeys_24 rfl (Nat.le_of_ble_eq_true rfl) [1, 2, 3, 0] rfl ?_
    refine ea_iload_n (pc := 25) dX10_sortKeys_25 rfl 2 rfl ?_
    refine ea_istore (pc := 26) (lv' := [(0, vR r0), (1, vI x1), (2, vI x2), (3, vI (ea_i h a9 (Int32.toNatClampNeg x2))), (4, vI x2)]) dX10_sortKeys_26 (Nat.le_of_ble_eq_true rfl) [1, 2, 3, 4, 0] rfl ?_
    exact H
theorem bX10_sortKeys_28 {d : Nat} {h0 hE h : ea_H} {rv : Option ea_V} {r0 : Option Nat} {x1 : Int32} {x2 : Int32} {x3 : Int32} {x4 : Int32} (H : (x4 < x1 → ∃ a3, r0 = some a3 ∧ a3 < ea_n h ∧ ea_c h a3 = 10 ∧ ∃ a7, (ea_r h a3 3) = some a7 ∧ a7 < ea_n h ∧ ea_c h a7 = 20 ∧ vp_in x4 (ea_l h a7) ∧ ∀ h10, h10 = ea_wi h a7 (Int32.toNatClampNeg x4) x3 → ea_W mX10_sortKeys d h0 rv hE 10 [(0, vR r0), (1, vI x1), (2, vI (x2 + 1))] [] h10) ∧ (¬ x4 < x1 → ∃ a14, r0 = some a14 ∧ a14 < ea_n h ∧ ea_c h a14 = 10 ∧ ∃ a18, (ea_r h a14 3) = some a18 ∧ a18 < ea_n h ∧ ea_c h a18 = 20 ∧ vp_in (x4 - x1) (ea_l h a18) ∧ ((ea_i h a18 (Int32.toNatClampNeg (x4 - x1))) ≤ x3 → a14 < ea_n h ∧ ea_c h a14 = 10 ∧ a18 < ea_n h ∧ ea_c h a18 = 20 ∧ vp_in x4 (ea_l h a18) ∧ ∀ h26, h26 = ea_wi h a18 (Int32.toNatClampNeg x4) x3 → ea_W mX10_sortKeys d h0 rv hE 10 [(0, vR r0), (1, vI x1), (2, vI (x2 + 1))] [] h26) ∧ (¬ (ea_i h a18 (Int32.toNatClampNeg (x4 - x1))) ≤ x3 → a14 < ea_n h ∧ ea_c h a14 = 10 ∧ a14 < ea_n h ∧ ea_c h a14 = 10 ∧ a18 < ea_n h ∧ ea_c h a18 = 20 ∧ vp_in (x4 - x1) (ea_l h a18) ∧ a18 < ea_n h ∧ ea_c h a18 = 20 ∧ vp_in x4 (ea_l h a18) ∧ ∀ h38, h38 = ea_wi h a18 (Int32.toNatClampNeg x4) (ea_i h a18 (Int32.toNatClampNeg (x4 - x1))) → ea_W mX10_sortKeys d h0 rv hE 28 [(0, vR r0), (1, vI x1), (2, vI x2), (3, vI x3), (4, vI (x4 - x1))] [] h38))) : ea_W mX10_sortKeys d h0 rv hE 28 [(0, vR r0), (1, vI x1), (2, vI x2), (3, vI x3), (4, vI x4)] [] h := by
  refine ea_iload (pc := 28) dX10_sortKeys_28 4 rfl ?_
  refine ea_iload_n (pc := 30) dX10_sortKeys_30 rfl 1 rfl ?_
  refine ea_icmp_lt (pc := 31) (tgt := 72) dX10_sortKeys_31 rfl (fun c41 => ?_) (fun c41 => ?_)
  · have H := H.1 c41
    refine ea_aload_n (pc := 72) dX10_sortKeys_72 rfl 0 rfl ?_
    obtain ⟨a3, e4, f1, g2, H⟩ := H
    refine ea_deref0 e4 ?_
    refine ea_getR (pc := 73) dX10_sortKeys_73 ec_10 (k := 3) (Nat.le_of_ble_eq_true rfl) rfl (Or.inl ew_230) f1 g2 rfl ?_
    refine ea_iload (pc := 76) dX10_sortKeys_76 4 rfl ?_
    refine ea_iload_n (pc := 78) dX10_sortKeys_78 rfl 3 rfl ?_
    obtain ⟨a7, e8, f5, g6, H⟩ := H
    refine ea_deref2 e8 ?_
    obtain ⟨z9, H⟩ := H
    refine ea_iast (pc := 79) dX10_sortKeys_79 f5 g6 z9 ?_
    obtain ⟨h10, E11⟩ : ∃ z, z = ea_wi h a7 (Int32.toNatClampNeg x4) x3 := ⟨_, rfl⟩
    have H := H h10 E11
    refine ea_nm E11 ?_
    refine ea_iinc (pc := 80) (v := 1) (lv' := [(0, vR r0), (1, vI x1), (2, vI (x2 + 1))]) dX10_sortKeys_80 2 rfl rfl (Nat.le_of_ble_eq_true rfl) [1, 2, 0] rfl ?_
    refine ea_goto (pc := 83) (tgt := 10) dX10_sortKeys_83 rfl ?_
    exact H
  · have H := H.2 c41
    refine ea_aload_n (pc := 34) dX10_sortKeys_34 rfl 0 rfl ?_
    obtain ⟨a14, e15, f12, g13, H⟩ := H
    refine ea_deref0 e15 ?_
    refine ea_getR (pc := 35) dX10_sortKeys_35 ec_10 (k := 3) (Nat.le_of_ble_eq_true rfl) rfl (Or.inl ew_230) f12 g13 rfl ?_
    refine ea_iload (pc := 38) dX10_sortKeys_38 4 rfl ?_
    refine ea_iload_n (pc := 40) dX10_sortKeys_40 rfl 1 rfl ?_
    refine ea_isub (pc := 41) dX10_sortKeys_41 ?_
    obtain ⟨a18, e19, f16, g17, H⟩ := H
    refine ea_deref1 e19 ?_
    obtain ⟨z20, H⟩ := H
    refine ea_iald (pc := 42) dX10_sortKeys_42 f16 g17 z20 ?_
    refine ea_iload_n (pc := 43) dX10_sortKeys_43 rfl 3 rfl ?_
    refine ea_icmp_le (pc := 44) (tgt := 72) dX10_sortKeys_44 rfl (fun c40 => ?_) (fun c40 => ?_)
    · have H := H.1 c40
      refine ea_aload_n (pc := 72) dX10_sortKeys_72 rfl 0 rfl ?_
      obtain ⟨f21, g22, H⟩ := H
      refine ea_deref0 e15 ?_
      refine ea_getR (pc := 73) dX10_sortKeys_73 ec_10 (k := 3) (Nat.le_of_ble_eq_true rfl) rfl (Or.inl ew_230) f21 g22 rfl ?_
      refine ea_iload (pc := 76) dX10_sortKeys_76 4 rfl ?_
      refine ea_iload_n (pc := 78) dX10_sortKeys_78 rfl 3 rfl ?_
      obtain ⟨f23, g24, H⟩ := H
      refine ea_deref2 e19 ?_
      obtain ⟨z25, H⟩ := H
      refine ea_iast (pc := 79) dX10_sortKeys_79 f23 g24 z25 ?_
      obtain ⟨h26, E27⟩ : ∃ z, z = ea_wi h a18 (Int32.toNatClampNeg x4) x3 := ⟨_, rfl⟩
      have H := H h26 E27
      refine ea_nm E27 ?_
      refine ea_iinc (pc := 80) (v := 1) (lv' := [(0, vR r0), (1, vI x1), (2, vI (x2 + 1))]) dX10_sortKeys_80 2 rfl rfl (Nat.le_of_ble_eq_true rfl) [1, 2, 0] rfl ?_
      refine ea_goto (pc := 83) (tgt := 10) dX10_sortKeys_83 rfl ?_
      exact H
    · have H := H.2 c40
      refine ea_aload_n (pc := 47) dX10_sortKeys_47 rfl 0 rfl ?_
      obtain ⟨f28, g29, H⟩ := H
      refine ea_deref0 e15 ?_
      refine ea_getR (pc := 48) dX10_sortKeys_48 ec_10 (k := 3) (Nat.le_of_ble_eq_true rfl) rfl (Or.inl ew_230) f28 g29 rfl ?_
      refine ea_iload (pc := 51) dX10_sortKeys_51 4 rfl ?_
      refine ea_aload_n (pc := 53) dX10_sortKeys_53 rfl 0 rfl ?_
      obtain ⟨f30, g31, H⟩ := H
      refine ea_deref0 e15 ?_
      refine ea_getR (pc := 54) dX10_sortKeys_54 ec_10 (k := 3) (Nat.le_of_ble_eq_true rfl) rfl (Or.inl ew_230) f30 g31 rfl ?_
      refine ea_iload (pc := 57) dX10_sortKeys_57 4 rfl ?_
      refine ea_iload_n (pc := 59) dX10_sortKeys_59 rfl 1 rfl ?_
      refine ea_isub (pc := 60) dX10_sortKeys_60 ?_
      obtain ⟨f32, g33, H⟩ := H
      refine ea_deref1 e19 ?_
      obtain ⟨z34, H⟩ := H
      refine ea_iald (pc := 61) dX10_sortKeys_61 f32 g33 z34 ?_
      obtain ⟨f35, g36, H⟩ := H
      refine ea_deref2 e19 ?_
      obtain ⟨z37, H⟩ := H
      refine ea_iast (pc := 62) dX10_sortKeys_62 f35 g36 z37 ?_
      obtain ⟨h38, E39⟩ : ∃ z, z = ea_wi h a18 (Int32.toNatClampNeg x4) (ea_i h a18 (Int32.toNatClampNeg (x4 - x1))) := ⟨_, rfl⟩
      have H := H h38 E39
      refine ea_nm E39 ?_
      refine ea_iload (pc := 63) dX10_sortKeys_63 4 rfl ?_
      refine ea_iload_n (pc := 65) dX10_sortKeys_65 rfl 1 rfl ?_
      refine ea_isub (pc := 66) dX10_sortKeys_66 ?_
      refine ea_istore (pc := 67) (lv' := [(0, vR r0), (1, vI x1), (2, vI x2), (3, vI x3), (4, vI (x4 - x1))]) dX10_sortKeys_67 (Nat.le_of_ble_eq_true rfl) [1, 2, 3, 4, 0] rfl ?_
      refine ea_goto (pc := 69) (tgt := 28) dX10_sortKeys_69 rfl ?_
      exact H
theorem dX10_linkMinutes_0 : decode cX10_linkMinutes 0 = .ok (.aload_n 0, 1) := by decide +kernel
theorem dX10_linkMinutes_1 : decode cX10_linkMinutes 1 = .ok (.getfield 17, 3) := by decide +kernel
theorem dX10_linkMinutes_4 : decode cX10_linkMinutes 4 = .ok (.iconst (-1), 1) := by decide +kernel
theorem dX10_linkMinutes_5 : decode cX10_linkMinutes 5 = .ok (.invokestatic 120, 3) := by decide +kernel
theorem dX10_linkMinutes_8 : decode cX10_linkMinutes 8 = .ok (.iconst 0, 1) := by decide +kernel
theorem dX10_linkMinutes_9 : decode cX10_linkMinutes 9 = .ok (.istore_n 1, 1) := by decide +kernel
theorem dX10_linkMinutes_10 : decode cX10_linkMinutes 10 = .ok (.iload_n 1, 1) := by decide +kernel
theorem dX10_linkMinutes_11 : decode cX10_linkMinutes 11 = .ok (.aload_n 0, 1) := by decide +kernel
theorem dX10_linkMinutes_12 : decode cX10_linkMinutes 12 = .ok (.getfield 53, 3) := by decide +kernel
theorem dX10_linkMinutes_15 : decode cX10_linkMinutes 15 = .ok (.if_icmp .ge 77, 3) := by decide +kernel
theorem dX10_linkMinutes_18 : decode cX10_linkMinutes 18 = .ok (.aload_n 0, 1) := by decide +kernel
theorem dX10_linkMinutes_19 : decode cX10_linkMinutes 19 = .ok (.getfield 28, 3) := by decide +kernel
theorem dX10_linkMinutes_22 : decode cX10_linkMinutes 22 = .ok (.iload_n 1, 1) := by decide +kernel
theorem dX10_linkMinutes_23 : decode cX10_linkMinutes 23 = .ok (.iaload, 1) := by decide +kernel
theorem dX10_linkMinutes_24 : decode cX10_linkMinutes 24 = .ok (.istore_n 2, 1) := by decide +kernel
theorem dX10_linkMinutes_25 : decode cX10_linkMinutes 25 = .ok (.iload_n 2, 1) := by decide +kernel
theorem dX10_linkMinutes_26 : decode cX10_linkMinutes 26 = .ok (.invokestatic 93, 3) := by decide +kernel
theorem dX10_linkMinutes_29 : decode cX10_linkMinutes 29 = .ok (.ifCond .eq 57, 3) := by decide +kernel
theorem dX10_linkMinutes_32 : decode cX10_linkMinutes 32 = .ok (.aload_n 0, 1) := by decide +kernel
theorem dX10_linkMinutes_33 : decode cX10_linkMinutes 33 = .ok (.iload_n 2, 1) := by decide +kernel
theorem dX10_linkMinutes_34 : decode cX10_linkMinutes 34 = .ok (.invokevirtual 97, 3) := by decide +kernel
theorem dX10_linkMinutes_37 : decode cX10_linkMinutes 37 = .ok (.istore_n 3, 1) := by decide +kernel
theorem dX10_linkMinutes_38 : decode cX10_linkMinutes 38 = .ok (.aload_n 0, 1) := by decide +kernel
theorem dX10_linkMinutes_39 : decode cX10_linkMinutes 39 = .ok (.getfield 17, 3) := by decide +kernel
theorem dX10_linkMinutes_42 : decode cX10_linkMinutes 42 = .ok (.iload_n 3, 1) := by decide +kernel
theorem dX10_linkMinutes_43 : decode cX10_linkMinutes 43 = .ok (.iaload, 1) := by decide +kernel
theorem dX10_linkMinutes_44 : decode cX10_linkMinutes 44 = .ok (.iload_n 2, 1) := by decide +kernel
theorem dX10_linkMinutes_45 : decode cX10_linkMinutes 45 = .ok (.invokestatic 61, 3) := by decide +kernel
theorem dX10_linkMinutes_48 : decode cX10_linkMinutes 48 = .ok (.if_icmp .eq 23, 3) := by decide +kernel
theorem dX10_linkMinutes_51 : decode cX10_linkMinutes 51 = .ok (.aload_n 0, 1) := by decide +kernel
theorem dX10_linkMinutes_52 : decode cX10_linkMinutes 52 = .ok (.getfield 17, 3) := by decide +kernel
theorem dX10_linkMinutes_55 : decode cX10_linkMinutes 55 = .ok (.iload_n 3, 1) := by decide +kernel
theorem dX10_linkMinutes_56 : decode cX10_linkMinutes 56 = .ok (.iload_n 2, 1) := by decide +kernel
theorem dX10_linkMinutes_57 : decode cX10_linkMinutes 57 = .ok (.invokestatic 61, 3) := by decide +kernel
theorem dX10_linkMinutes_60 : decode cX10_linkMinutes 60 = .ok (.iastore, 1) := by decide +kernel
theorem dX10_linkMinutes_61 : decode cX10_linkMinutes 61 = .ok (.aload_n 0, 1) := by decide +kernel
theorem dX10_linkMinutes_62 : decode cX10_linkMinutes 62 = .ok (.getfield 11, 3) := by decide +kernel
theorem dX10_linkMinutes_65 : decode cX10_linkMinutes 65 = .ok (.iload_n 3, 1) := by decide +kernel
theorem dX10_linkMinutes_66 : decode cX10_linkMinutes 66 = .ok (.iload_n 2, 1) := by decide +kernel
theorem dX10_linkMinutes_67 : decode cX10_linkMinutes 67 = .ok (.invokestatic 100, 3) := by decide +kernel
theorem dX10_linkMinutes_70 : decode cX10_linkMinutes 70 = .ok (.iastore, 1) := by decide +kernel
theorem dX10_linkMinutes_71 : decode cX10_linkMinutes 71 = .ok (.aload_n 0, 1) := by decide +kernel
theorem dX10_linkMinutes_72 : decode cX10_linkMinutes 72 = .ok (.getfield 38, 3) := by decide +kernel
theorem dX10_linkMinutes_75 : decode cX10_linkMinutes 75 = .ok (.iload_n 2, 1) := by decide +kernel
theorem dX10_linkMinutes_76 : decode cX10_linkMinutes 76 = .ok (.invokestatic 100, 3) := by decide +kernel
theorem dX10_linkMinutes_79 : decode cX10_linkMinutes 79 = .ok (.aload_n 0, 1) := by decide +kernel
theorem dX10_linkMinutes_80 : decode cX10_linkMinutes 80 = .ok (.getfield 11, 3) := by decide +kernel
theorem dX10_linkMinutes_83 : decode cX10_linkMinutes 83 = .ok (.iload_n 3, 1) := by decide +kernel
theorem dX10_linkMinutes_84 : decode cX10_linkMinutes 84 = .ok (.iaload, 1) := by decide +kernel
theorem dX10_linkMinutes_85 : decode cX10_linkMinutes 85 = .ok (.iastore, 1) := by decide +kernel
theorem dX10_linkMinutes_86 : decode cX10_linkMinutes 86 = .ok (.iinc 1 1, 3) := by decide +kernel
theorem dX10_linkMinutes_89 : decode cX10_linkMinutes 89 = .ok (.goto (-79), 3) := by decide +kernel
theorem dX10_linkMinutes_92 : decode cX10_linkMinutes 92 = .ok (.return_, 1) := by decide +kernel
theorem bX10_linkMinutes_0 {d : Nat} {h0 hE h : ea_H} {rv : Option ea_V} {r0 : Option Nat} (H : ∃ a3, r0 = some a3 ∧ a3 < ea_n h ∧ ea_c h a3 = 10 ∧ ∃ (d5 : Nat) (h6 : ea_H), ea_Met mJ7_fill_53178 d5 [vR (ea_r h a3 8), vI (-1)] h none h6 ∧ d5 + 1 ≤ d ∧ ea_W mX10_linkMinutes d h0 rv hE 10 [(0, vR r0), (1, vI 0)] [] h6) : ea_W mX10_linkMinutes d h0 rv hE 0 [(0, vR r0)] [] h := by
  refine ea_aload_n (pc := 0) dX10_linkMinutes_0 rfl 0 rfl ?_
  obtain ⟨a3, e4, f1, g2, H⟩ := H
  refine ea_deref0 e4 ?_
  refine ea_getR (pc := 1) dX10_linkMinutes_1 ec_10 (k := 8) (Nat.le_of_ble_eq_true rfl) rfl (Or.inl ew_235) f1 g2 rfl ?_
  refine ea_iconst (pc := 4) dX10_linkMinutes_4 (v := (-1)) rfl ?_
  obtain ⟨d5, h6, m7, q8, H⟩ := H
  refine ea_callS (pc := 5) (As := [vR (ea_r h a3 8), vI (-1)]) (st := []) dX10_linkMinutes_5 kJ7_fill_53178 m7 q8 rfl (Nat.le_of_ble_eq_true rfl) ew_588 ew_144 ?_
  refine ea_iconst (pc := 8) dX10_linkMinutes_8 (v := 0) rfl ?_
  refine ea_istore_n (pc := 9) (lv' := [(0, vR r0), (1, vI 0)]) dX10_linkMinutes_9 rfl (Nat.le_of_ble_eq_true rfl) [1, 0] rfl ?_
  exact H
theorem bX10_linkMinutes_10 {d : Nat} {h0 hE h : ea_H} {rv : Option ea_V} {r0 : Option Nat} {x1 : Int32} (H : ∃ a3, r0 = some a3 ∧ a3 < ea_n h ∧ ea_c h a3 = 10 ∧ ((ea_i h a3 1) ≤ x1 → rv = none ∧ hE = h) ∧ (¬ (ea_i h a3 1) ≤ x1 → a3 < ea_n h ∧ ea_c h a3 = 10 ∧ ∃ a9, (ea_r h a3 3) = some a9 ∧ a9 < ea_n h ∧ ea_c h a9 = 20 ∧ vp_in x1 (ea_l h a9) ∧ ∃ (d12 : Nat) (xc16 : Int32) (h13 : ea_H), ea_Met mX10_isGoing d12 [vI (ea_i h a9 (Int32.toNatClampNeg x1))] h (some (vI xc16)) h13 ∧ d12 + 1 ≤ d ∧ (xc16 = (0 : Int32) → ea_W mX10_linkMinutes d h0 rv hE 10 [(0, vR r0), (1, vI (x1 + 1))] [] h13) ∧ (¬ xc16 = (0 : Int32) → a3 < ea_n h13 ∧ ea_c h13 a3 = 10 ∧ ∃ (d17 : Nat) (xc23 : Int32) (h18 : ea_H), ea_Met mX10_townIn d17 [vR (some a3), vI (ea_i h a9 (Int32.toNatClampNeg x1))] h13 (some (vI xc23)) h18 ∧ d17 + 1 ≤ d ∧ a3 < ea_n h18 ∧ ea_c h18 a3 = 10 ∧ ∃ a28, (ea_r h18 a3 8) = some a28 ∧ a28 < ea_n h18 ∧ ea_c h18 a28 = 20 ∧ vp_in xc23 (ea_l h18 a28) ∧ ∃ (d31 : Nat) (xc35 : Int32) (h32 : ea_H), ea_Met mX10_minuteIn d31 [vI (ea_i h a9 (Int32.toNatClampNeg x1))] h18 (some (vI xc35)) h32 ∧ d31 + 1 ≤ d ∧ ((ea_i h18 a28 (Int32.toNatClampNeg xc23)) = xc35 → ea_W mX10_linkMinutes d h0 rv hE 71 [(0, vR r0), (1, vI x1), (2, vI (ea_i h a9 (Int32.toNatClampNeg x1))), (3, vI xc23)] [] h32) ∧ (¬ (ea_i h18 a28 (Int32.toNatClampNeg xc23)) = xc35 → a3 < ea_n h32 ∧ ea_c h32 a3 = 10 ∧ ∃ (d38 : Nat) (xc42 : Int32) (h39 : ea_H), ea_Met mX10_minuteIn d38 [vI (ea_i h a9 (Int32.toNatClampNeg x1))] h32 (some (vI xc42)) h39 ∧ d38 + 1 ≤ d ∧ ∃ a45, (ea_r h32 a3 8) = some a45 ∧ a45 < ea_n h39 ∧ ea_c h39 a45 = 20 ∧ vp_in xc23 (ea_l h39 a45) ∧ ∀ h48, h48 = ea_wi h39 a45 (Int32.toNatClampNeg xc23) xc42 → a3 < ea_n h48 ∧ ea_c h48 a3 = 10 ∧ ∃ (d52 : Nat) (xc56 : Int32) (h53 : ea_H), ea_Met mX10_slotIn d52 [vI (ea_i h a9 (Int32.toNatClampNeg x1))] h48 (some (vI xc56)) h53 ∧ d52 + 1 ≤ d ∧ ∃ a59, (ea_r h48 a3 7) = some a59 ∧ a59 < ea_n h53 ∧ ea_c h53 a59 = 20 ∧ vp_in xc23 (ea_l h53 a59) ∧ ∀ h62, h62 = ea_wi h53 a59 (Int32.toNatClampNeg xc23) xc56 → ea_W mX10_linkMinutes d h0 rv hE 71 [(0, vR r0), (1, vI x1), (2, vI (ea_i h a9 (Int32.toNatClampNeg x1))), (3, vI xc23)] [] h62)))) : ea_W mX10_linkMinutes d h0 rv hE 10 [(0, vR r0), (1, vI x1)] [] h := by
  refine ea_iload_n (pc := 10) dX10_linkMinutes_10 rfl 1 rfl ?_
  refine ea_aload_n (pc := 11) dX10_linkMinutes_11 rfl 0 rfl ?_
  obtain ⟨a3, e4, f1, g2, H⟩ := H
  refine ea_deref0 e4 ?_
  refine ea_getI (pc := 12) dX10_linkMinutes_12 ec_10 (k := 1) (Nat.le_of_ble_eq_true rfl) rfl (Or.inl ew_227) f1 g2 ?_
  refine ea_icmp_ge (pc := 15) (tgt := 92) dX10_linkMinutes_15 rfl (fun c66 => ?_) (fun c66 => ?_)
  · have H := H.1 c66
    obtain ⟨rfl, rfl⟩ := H
    exact ea_return (pc := 92) dX10_linkMinutes_92 rfl
  · have H := H.2 c66
    refine ea_aload_n (pc := 18) dX10_linkMinutes_18 rfl 0 rfl ?_
    obtain ⟨f5, g6, H⟩ := H
    refine ea_deref0 e4 ?_
    refine ea_getR (pc := 19) dX10_linkMinutes_19 ec_10 (k := 3) (Nat.le_of_ble_eq_true rfl) rfl (Or.inl ew_230) f5 g6 rfl ?_
    refine ea_iload_n (pc := 22) dX10_linkMinutes_22 rfl 1 rfl ?_
    obtain ⟨a9, e10, f7, g8, H⟩ := H
    refine ea_deref1 e10 ?_
    obtain ⟨z11, H⟩ := H
    refine ea_iald (pc := 23) dX10_linkMinutes_23 f7 g8 z11 ?_
    refine ea_istore_n (pc := 24) (lv' := [(0, vR r0), (1, vI x1), (2, vI (ea_i h a9 (Int32.toNatClampNeg x1)))]) dX10_linkMinutes_24 rfl (Nat.le_of_ble_eq_true rfl) [1, 2, 0] rfl ?_
    refine ea_iload_n (pc := 25) dX10_linkMinutes_25 rfl 2 rfl ?_
    obtain ⟨d12, xc16, h13, m14, q15, H⟩ := H
    refine ea_callS (pc := 26) (As := [vI (ea_i h a9 (Int32.toNatClampNeg x1))]) (st := []) dX10_linkMinutes_26 kX10_isGoing m14 q15 rfl (Nat.le_of_ble_eq_true rfl) ew_589 ew_590 ?_
    refine ea_if_eq (pc := 29) (tgt := 86) dX10_linkMinutes_29 rfl (fun c65 => ?_) (fun c65 => ?_)
    · have H := H.1 c65
      refine ea_iinc (pc := 86) (v := 1) (lv' := [(0, vR r0), (1, vI (x1 + 1))]) dX10_linkMinutes_86 1 rfl rfl (Nat.le_of_ble_eq_true rfl) [1, 0] rfl ?_
      refine ea_goto (pc := 89) (tgt := 10) dX10_linkMinutes_89 rfl ?_
      exact H
    · have H := H.2 c65
      refine ea_aload_n (pc := 32) dX10_linkMinutes_32 rfl 0 rfl ?_
      refine ea_iload_n (pc := 33) dX10_linkMinutes_33 rfl 2 rfl ?_
      obtain ⟨f21, g22, H⟩ := H
      refine ea_deref1 e4 ?_
      obtain ⟨d17, xc23, h18, m19, q20, H⟩ := H
      refine ea_callV (pc := 34) (As := [vI (ea_i h a9 (Int32.toNatClampNeg x1))]) (st := []) dX10_linkMinutes_34 kX10_townIn m19 q20 rfl (Nat.le_of_ble_eq_true rfl) ew_592 ew_594 ew_7 (ci := 10) rfl (by decide) f21 g22 ?_
      refine ea_istore_n (pc := 37) (lv' := [(0, vR r0), (1, vI x1), (2, vI (ea_i h a9 (Int32.toNatClampNeg x1))), (3, vI xc23)]) dX10_linkMinutes_37 rfl (Nat.le_of_ble_eq_true rfl) [1, 2, 3, 0] rfl ?_
      refine ea_aload_n (pc := 38) dX10_linkMinutes_38 rfl 0 rfl ?_
      obtain ⟨f24, g25, H⟩ := H
      refine ea_deref0 e4 ?_
      refine ea_getR (pc := 39) dX10_linkMinutes_39 ec_10 (k := 8) (Nat.le_of_ble_eq_true rfl) rfl (Or.inl ew_235) f24 g25 rfl ?_
      refine ea_iload_n (pc := 42) dX10_linkMinutes_42 rfl 3 rfl ?_
      obtain ⟨a28, e29, f26, g27, H⟩ := H
      refine ea_deref1 e29 ?_
      obtain ⟨z30, H⟩ := H
      refine ea_iald (pc := 43) dX10_linkMinutes_43 f26 g27 z30 ?_
      refine ea_iload_n (pc := 44) dX10_linkMinutes_44 rfl 2 rfl ?_
      obtain ⟨d31, xc35, h32, m33, q34, H⟩ := H
      refine ea_callS (pc := 45) (As := [vI (ea_i h a9 (Int32.toNatClampNeg x1))]) (st := [vI (ea_i h18 a28 (Int32.toNatClampNeg xc23))]) dX10_linkMinutes_45 kX10_minuteIn m33 q34 rfl (Nat.le_of_ble_eq_true rfl) ew_602 ew_603 ?_
      refine ea_icmp_eq (pc := 48) (tgt := 71) dX10_linkMinutes_48 rfl (fun c64 => ?_) (fun c64 => ?_)
      · have H := H.1 c64
        exact H
      · have H := H.2 c64
        refine ea_aload_n (pc := 51) dX10_linkMinutes_51 rfl 0 rfl ?_
        obtain ⟨f36, g37, H⟩ := H
        refine ea_deref0 e4 ?_
        refine ea_getR (pc := 52) dX10_linkMinutes_52 ec_10 (k := 8) (Nat.le_of_ble_eq_true rfl) rfl (Or.inl ew_235) f36 g37 rfl ?_
        refine ea_iload_n (pc := 55) dX10_linkMinutes_55 rfl 3 rfl ?_
        refine ea_iload_n (pc := 56) dX10_linkMinutes_56 rfl 2 rfl ?_
        obtain ⟨d38, xc42, h39, m40, q41, H⟩ := H
        refine ea_callS (pc := 57) (As := [vI (ea_i h a9 (Int32.toNatClampNeg x1))]) (st := [vI xc23, vR (ea_r h32 a3 8)]) dX10_linkMinutes_57 kX10_minuteIn m40 q41 rfl (Nat.le_of_ble_eq_true rfl) ew_602 ew_603 ?_
        obtain ⟨a45, e46, f43, g44, H⟩ := H
        refine ea_deref2 e46 ?_
        obtain ⟨z47, H⟩ := H
        refine ea_iast (pc := 60) dX10_linkMinutes_60 f43 g44 z47 ?_
        obtain ⟨h48, E49⟩ : ∃ z, z = ea_wi h39 a45 (Int32.toNatClampNeg xc23) xc42 := ⟨_, rfl⟩
        have H := H h48 E49
        refine ea_nm E49 ?_
        refine ea_aload_n (pc := 61) dX10_linkMinutes_61 rfl 0 rfl ?_
        obtain ⟨f50, g51, H⟩ := H
        refine ea_deref0 e4 ?_
        refine ea_getR (pc := 62) dX10_linkMinutes_62 ec_10 (k := 7) (Nat.le_of_ble_eq_true rfl) rfl (Or.inl ew_234) f50 g51 rfl ?_
        refine ea_iload_n (pc := 65) dX10_linkMinutes_65 rfl 3 rfl ?_
        refine ea_iload_n (pc := 66) dX10_linkMinutes_66 rfl 2 rfl ?_
        obtain ⟨d52, xc56, h53, m54, q55, H⟩ := H
        refine ea_callS (pc := 67) (As := [vI (ea_i h a9 (Int32.toNatClampNeg x1))]) (st := [vI xc23, vR (ea_r h48 a3 7)]) dX10_linkMinutes_67 kX10_slotIn m54 q55 rfl (Nat.le_of_ble_eq_true rfl) ew_605 ew_606 ?_
        obtain ⟨a59, e60, f57, g58, H⟩ := H
        refine ea_deref2 e60 ?_
        obtain ⟨z61, H⟩ := H
        refine ea_iast (pc := 70) dX10_linkMinutes_70 f57 g58 z61 ?_
        obtain ⟨h62, E63⟩ : ∃ z, z = ea_wi h53 a59 (Int32.toNatClampNeg xc23) xc56 := ⟨_, rfl⟩
        have H := H h62 E63
        refine ea_nm E63 ?_
        exact H
theorem bX10_linkMinutes_71 {d : Nat} {h0 hE h : ea_H} {rv : Option ea_V} {r0 : Option Nat} {x1 : Int32} {x2 : Int32} {x3 : Int32} (H : ∃ a3, r0 = some a3 ∧ a3 < ea_n h ∧ ea_c h a3 = 10 ∧ ∃ (d5 : Nat) (xc9 : Int32) (h6 : ea_H), ea_Met mX10_slotIn d5 [vI x2] h (some (vI xc9)) h6 ∧ d5 + 1 ≤ d ∧ a3 < ea_n h6 ∧ ea_c h6 a3 = 10 ∧ ∃ a14, (ea_r h6 a3 7) = some a14 ∧ a14 < ea_n h6 ∧ ea_c h6 a14 = 20 ∧ vp_in x3 (ea_l h6 a14) ∧ ∃ a19, (ea_r h a3 6) = some a19 ∧ a19 < ea_n h6 ∧ ea_c h6 a19 = 20 ∧ vp_in xc9 (ea_l h6 a19) ∧ ∀ h22, h22 = ea_wi h6 a19 (Int32.toNatClampNeg xc9) (ea_i h6 a14 (Int32.toNatClampNeg x3)) → ea_W mX10_linkMinutes d h0 rv hE 10 [(0, vR r0), (1, vI (x1 + 1))] [] h22) : ea_W mX10_linkMinutes d h0 rv hE 71 [(0, vR r0), (1, vI x1), (2, vI x2), (3, vI x3)] [] h := by
  refine ea_aload_n (pc := 71) dX10_linkMinutes_71 rfl 0 rfl ?_
  obtain ⟨a3, e4, f1, g2, H⟩ := H
  refine ea_deref0 e4 ?_
  refine ea_getR (pc := 72) dX10_linkMinutes_72 ec_10 (k := 6) (Nat.le_of_ble_eq_true rfl) rfl (Or.inl ew_233) f1 g2 rfl ?_
  refine ea_iload_n (pc := 75) dX10_linkMinutes_75 rfl 2 rfl ?_
  obtain ⟨d5, xc9, h6, m7, q8, H⟩ := H
  refine ea_callS (pc := 76) (As := [vI x2]) (st := [vR (ea_r h a3 6)]) dX10_linkMinutes_76 kX10_slotIn m7 q8 rfl (Nat.le_of_ble_eq_true rfl) ew_605 ew_606 ?_
  refine ea_aload_n (pc := 79) dX10_linkMinutes_79 rfl 0 rfl ?_
  obtain ⟨f10, g11, H⟩ := H
  refine ea_deref0 e4 ?_
  refine ea_getR (pc := 80) dX10_linkMinutes_80 ec_10 (k := 7) (Nat.le_of_ble_eq_true rfl) rfl (Or.inl ew_234) f10 g11 rfl ?_
  refine ea_iload_n (pc := 83) dX10_linkMinutes_83 rfl 3 rfl ?_
  obtain ⟨a14, e15, f12, g13, H⟩ := H
  refine ea_deref1 e15 ?_
  obtain ⟨z16, H⟩ := H
  refine ea_iald (pc := 84) dX10_linkMinutes_84 f12 g13 z16 ?_
  obtain ⟨a19, e20, f17, g18, H⟩ := H
  refine ea_deref2 e20 ?_
  obtain ⟨z21, H⟩ := H
  refine ea_iast (pc := 85) dX10_linkMinutes_85 f17 g18 z21 ?_
  obtain ⟨h22, E23⟩ : ∃ z, z = ea_wi h6 a19 (Int32.toNatClampNeg xc9) (ea_i h6 a14 (Int32.toNatClampNeg x3)) := ⟨_, rfl⟩
  have H := H h22 E23
  refine ea_nm E23 ?_
  refine ea_iinc (pc := 86) (v := 1) (lv' := [(0, vR r0), (1, vI (x1 + 1))]) dX10_linkMinutes_86 1 rfl rfl (Nat.le_of_ble_eq_true rfl) [1, 0] rfl ?_
  refine ea_goto (pc := 89) (tgt := 10) dX10_linkMinutes_89 rfl ?_
  exact H
theorem dX10_trace_0 : decode cX10_trace 0 = .ok (.aload_n 0, 1) := by decide +kernel
theorem dX10_trace_1 : decode cX10_trace 1 = .ok (.getfield 35, 3) := by decide +kernel
theorem dX10_trace_4 : decode cX10_trace 4 = .ok (.ldc2_w 78, 3) := by decide +kernel
theorem dX10_trace_7 : decode cX10_trace 7 = .ok (.invokestatic 126, 3) := by decide +kernel
theorem dX10_trace_10 : decode cX10_trace 10 = .ok (.aload_n 0, 1) := by decide +kernel
theorem dX10_trace_11 : decode cX10_trace 11 = .ok (.getfield 11, 3) := by decide +kernel
theorem dX10_trace_14 : decode cX10_trace 14 = .ok (.iconst (-1), 1) := by decide +kernel
theorem dX10_trace_15 : decode cX10_trace 15 = .ok (.invokestatic 120, 3) := by decide +kernel
theorem dX10_trace_18 : decode cX10_trace 18 = .ok (.aload_n 0, 1) := by decide +kernel
theorem dX10_trace_19 : decode cX10_trace 19 = .ok (.getfield 53, 3) := by decide +kernel
theorem dX10_trace_22 : decode cX10_trace 22 = .ok (.iconst 1, 1) := by decide +kernel
theorem dX10_trace_23 : decode cX10_trace 23 = .ok (.isub, 1) := by decide +kernel
theorem dX10_trace_24 : decode cX10_trace 24 = .ok (.istore_n 1, 1) := by decide +kernel
theorem dX10_trace_25 : decode cX10_trace 25 = .ok (.iload_n 1, 1) := by decide +kernel
theorem dX10_trace_26 : decode cX10_trace 26 = .ok (.ifCond .lt 54, 3) := by decide +kernel
theorem dX10_trace_29 : decode cX10_trace 29 = .ok (.aload_n 0, 1) := by decide +kernel
theorem dX10_trace_30 : decode cX10_trace 30 = .ok (.getfield 28, 3) := by decide +kernel
theorem dX10_trace_33 : decode cX10_trace 33 = .ok (.iload_n 1, 1) := by decide +kernel
theorem dX10_trace_34 : decode cX10_trace 34 = .ok (.iaload, 1) := by decide +kernel
theorem dX10_trace_35 : decode cX10_trace 35 = .ok (.istore_n 2, 1) := by decide +kernel
theorem dX10_trace_36 : decode cX10_trace 36 = .ok (.iload_n 2, 1) := by decide +kernel
theorem dX10_trace_37 : decode cX10_trace 37 = .ok (.invokestatic 93, 3) := by decide +kernel
theorem dX10_trace_40 : decode cX10_trace 40 = .ok (.ifCond .eq 20, 3) := by decide +kernel
theorem dX10_trace_43 : decode cX10_trace 43 = .ok (.aload_n 0, 1) := by decide +kernel
theorem dX10_trace_44 : decode cX10_trace 44 = .ok (.iload_n 2, 1) := by decide +kernel
theorem dX10_trace_45 : decode cX10_trace 45 = .ok (.iload_n 2, 1) := by decide +kernel
theorem dX10_trace_46 : decode cX10_trace 46 = .ok (.invokestatic 100, 3) := by decide +kernel
theorem dX10_trace_49 : decode cX10_trace 49 = .ok (.aload_n 0, 1) := by decide +kernel
theorem dX10_trace_50 : decode cX10_trace 50 = .ok (.iload_n 2, 1) := by decide +kernel
theorem dX10_trace_51 : decode cX10_trace 51 = .ok (.invokevirtual 97, 3) := by decide +kernel
theorem dX10_trace_54 : decode cX10_trace 54 = .ok (.invokevirtual 129, 3) := by decide +kernel
theorem dX10_trace_57 : decode cX10_trace 57 = .ok (.goto 17, 3) := by decide +kernel
theorem dX10_trace_60 : decode cX10_trace 60 = .ok (.aload_n 0, 1) := by decide +kernel
theorem dX10_trace_61 : decode cX10_trace 61 = .ok (.iload_n 2, 1) := by decide +kernel
theorem dX10_trace_62 : decode cX10_trace 62 = .ok (.iload_n 2, 1) := by decide +kernel
theorem dX10_trace_63 : decode cX10_trace 63 = .ok (.invokestatic 100, 3) := by decide +kernel
theorem dX10_trace_66 : decode cX10_trace 66 = .ok (.aload_n 0, 1) := by decide +kernel
theorem dX10_trace_67 : decode cX10_trace 67 = .ok (.iload_n 2, 1) := by decide +kernel
theorem dX10_trace_68 : decode cX10_trace 68 = .ok (.invokevirtual 97, 3) := by decide +kernel
theorem dX10_trace_71 : decode cX10_trace 71 = .ok (.invokevirtual 133, 3) := by decide +kernel
theorem dX10_trace_74 : decode cX10_trace 74 = .ok (.iinc 1 (-1), 3) := by decide +kernel
theorem dX10_trace_77 : decode cX10_trace 77 = .ok (.goto (-52), 3) := by decide +kernel
theorem dX10_trace_80 : decode cX10_trace 80 = .ok (.return_, 1) := by decide +kernel
theorem bX10_trace_0 {d : Nat} {h0 hE h : ea_H} {rv : Option ea_V} {r0 : Option Nat} (H : ∃ a3, r0 = some a3 ∧ a3 < ea_n h ∧ ea_c h a3 = 10 ∧ ∃ (d5 : Nat) (h6 : ea_H), ea_Met mJ7_fill_d0a16 d5 [vR (ea_r h a3 5), vJ 9223372036854775807] h none h6 ∧ d5 + 1 ≤ d ∧ a3 < ea_n h6 ∧ ea_c h6 a3 = 10 ∧ ∃ (d11 : Nat) (h12 : ea_H), ea_Met mJ7_fill_53178 d11 [vR (ea_r h6 a3 7), vI (-1)] h6 none h12 ∧ d11 + 1 ≤ d ∧ a3 < ea_n h12 ∧ ea_c h12 a3 = 10 ∧ ea_W mX10_trace d h0 rv hE 25 [(0, vR r0), (1, vI ((ea_i h12 a3 1) - (1 : Int32)))] [] h12) : ea_W mX10_trace d h0 rv hE 0 [(0, vR r0)] [] h := by
  refine ea_aload_n (pc := 0) dX10_trace_0 rfl 0 rfl ?_
  obtain ⟨a3, e4, f1, g2, H⟩ := H
  refine ea_deref0 e4 ?_
  refine ea_getR (pc := 1) dX10_trace_1 ec_10 (k := 5) (Nat.le_of_ble_eq_true rfl) rfl (Or.inl ew_232) f1 g2 rfl ?_
  refine ea_ldc2 (pc := 4) dX10_trace_4 ew_615 ?_
  obtain ⟨d5, h6, m7, q8, H⟩ := H
  refine ea_callS (pc := 7) (As := [vR (ea_r h a3 5), vJ 9223372036854775807]) (st := []) dX10_trace_7 kJ7_fill_d0a16 m7 q8 rfl (Nat.le_of_ble_eq_true rfl) ew_616 ew_617 ?_
  refine ea_aload_n (pc := 10) dX10_trace_10 rfl 0 rfl ?_
  obtain ⟨f9, g10, H⟩ := H
  refine ea_deref0 e4 ?_
  refine ea_getR (pc := 11) dX10_trace_11 ec_10 (k := 7) (Nat.le_of_ble_eq_true rfl) rfl (Or.inl ew_234) f9 g10 rfl ?_
  refine ea_iconst (pc := 14) dX10_trace_14 (v := (-1)) rfl ?_
  obtain ⟨d11, h12, m13, q14, H⟩ := H
  refine ea_callS (pc := 15) (As := [vR (ea_r h6 a3 7), vI (-1)]) (st := []) dX10_trace_15 kJ7_fill_53178 m13 q14 rfl (Nat.le_of_ble_eq_true rfl) ew_588 ew_144 ?_
  refine ea_aload_n (pc := 18) dX10_trace_18 rfl 0 rfl ?_
  obtain ⟨f15, g16, H⟩ := H
  refine ea_deref0 e4 ?_
  refine ea_getI (pc := 19) dX10_trace_19 ec_10 (k := 1) (Nat.le_of_ble_eq_true rfl) rfl (Or.inl ew_227) f15 g16 ?_
  refine ea_iconst (pc := 22) dX10_trace_22 (v := 1) rfl ?_
  refine ea_isub (pc := 23) dX10_trace_23 ?_
  refine ea_istore_n (pc := 24) (lv' := [(0, vR r0), (1, vI ((ea_i h12 a3 1) - (1 : Int32)))]) dX10_trace_24 rfl (Nat.le_of_ble_eq_true rfl) [1, 0] rfl ?_
  exact H
theorem bX10_trace_25 {d : Nat} {h0 hE h : ea_H} {rv : Option ea_V} {r0 : Option Nat} {x1 : Int32} (H : (x1 < (0 : Int32) → rv = none ∧ hE = h) ∧ (¬ x1 < (0 : Int32) → ∃ a3, r0 = some a3 ∧ a3 < ea_n h ∧ ea_c h a3 = 10 ∧ ∃ a7, (ea_r h a3 3) = some a7 ∧ a7 < ea_n h ∧ ea_c h a7 = 20 ∧ vp_in x1 (ea_l h a7) ∧ ∃ (d10 : Nat) (xc14 : Int32) (h11 : ea_H), ea_Met mX10_isGoing d10 [vI (ea_i h a7 (Int32.toNatClampNeg x1))] h (some (vI xc14)) h11 ∧ d10 + 1 ≤ d ∧ (xc14 = (0 : Int32) → ∃ (d15 : Nat) (xc19 : Int32) (h16 : ea_H), ea_Met mX10_slotIn d15 [vI (ea_i h a7 (Int32.toNatClampNeg x1))] h11 (some (vI xc19)) h16 ∧ d15 + 1 ≤ d ∧ a3 < ea_n h16 ∧ ea_c h16 a3 = 10 ∧ ∃ (d20 : Nat) (xc26 : Int32) (h21 : ea_H), ea_Met mX10_townIn d20 [vR (some a3), vI (ea_i h a7 (Int32.toNatClampNeg x1))] h16 (some (vI xc26)) h21 ∧ d20 + 1 ≤ d ∧ a3 < ea_n h21 ∧ ea_c h21 a3 = 10 ∧ ∃ (d27 : Nat) (h28 : ea_H), ea_Met mX10_leaveRun d27 [vR (some a3), vI (ea_i h a7 (Int32.toNatClampNeg x1)), vI xc19, vI xc26] h21 none h28 ∧ d27 + 1 ≤ d ∧ ea_W mX10_trace d h0 rv hE 25 [(0, vR r0), (1, vI (x1 + (-1)))] [] h28) ∧ (¬ xc14 = (0 : Int32) → ∃ (d33 : Nat) (xc37 : Int32) (h34 : ea_H), ea_Met mX10_slotIn d33 [vI (ea_i h a7 (Int32.toNatClampNeg x1))] h11 (some (vI xc37)) h34 ∧ d33 + 1 ≤ d ∧ a3 < ea_n h34 ∧ ea_c h34 a3 = 10 ∧ ∃ (d38 : Nat) (xc44 : Int32) (h39 : ea_H), ea_Met mX10_townIn d38 [vR (some a3), vI (ea_i h a7 (Int32.toNatClampNeg x1))] h34 (some (vI xc44)) h39 ∧ d38 + 1 ≤ d ∧ a3 < ea_n h39 ∧ ea_c h39 a3 = 10 ∧ ∃ (d45 : Nat) (h46 : ea_H), ea_Met mX10_takeRun d45 [vR (some a3), vI (ea_i h a7 (Int32.toNatClampNeg x1)), vI xc37, vI xc44] h39 none h46 ∧ d45 + 1 ≤ d ∧ ea_W mX10_trace d h0 rv hE 25 [(0, vR r0), (1, vI (x1 + (-1)))] [] h46))) : ea_W mX10_trace d h0 rv hE 25 [(0, vR r0), (1, vI x1)] [] h := by
  refine ea_iload_n (pc := 25) dX10_trace_25 rfl 1 rfl ?_
  refine ea_if_lt (pc := 26) (tgt := 80) dX10_trace_26 rfl (fun c52 => ?_) (fun c52 => ?_)
  · have H := H.1 c52
    obtain ⟨rfl, rfl⟩ := H
    exact ea_return (pc := 80) dX10_trace_80 rfl
  · have H := H.2 c52
    refine ea_aload_n (pc := 29) dX10_trace_29 rfl 0 rfl ?_
    obtain ⟨a3, e4, f1, g2, H⟩ := H
    refine ea_deref0 e4 ?_
    refine ea_getR (pc := 30) dX10_trace_30 ec_10 (k := 3) (Nat.le_of_ble_eq_true rfl) rfl (Or.inl ew_230) f1 g2 rfl ?_
    refine ea_iload_n (pc := 33) dX10_trace_33 rfl 1 rfl ?_
    obtain ⟨a7, e8, f5, g6, H⟩ := H
    refine ea_deref1 e8 ?_
    obtain ⟨z9, H⟩ := H
    refine ea_iald (pc := 34) dX10_trace_34 f5 g6 z9 ?_
    refine ea_istore_n (pc := 35) (lv' := [(0, vR r0), (1, vI x1), (2, vI (ea_i h a7 (Int32.toNatClampNeg x1)))]) dX10_trace_35 rfl (Nat.le_of_ble_eq_true rfl) [1, 2, 0] rfl ?_
    refine ea_iload_n (pc := 36) dX10_trace_36 rfl 2 rfl ?_
    obtain ⟨d10, xc14, h11, m12, q13, H⟩ := H
    refine ea_callS (pc := 37) (As := [vI (ea_i h a7 (Int32.toNatClampNeg x1))]) (st := []) dX10_trace_37 kX10_isGoing m12 q13 rfl (Nat.le_of_ble_eq_true rfl) ew_589 ew_590 ?_
    refine ea_if_eq (pc := 40) (tgt := 60) dX10_trace_40 rfl (fun c51 => ?_) (fun c51 => ?_)
    · have H := H.1 c51
      refine ea_aload_n (pc := 60) dX10_trace_60 rfl 0 rfl ?_
      refine ea_iload_n (pc := 61) dX10_trace_61 rfl 2 rfl ?_
      refine ea_iload_n (pc := 62) dX10_trace_62 rfl 2 rfl ?_
      obtain ⟨d15, xc19, h16, m17, q18, H⟩ := H
      refine ea_callS (pc := 63) (As := [vI (ea_i h a7 (Int32.toNatClampNeg x1))]) (st := [vI (ea_i h a7 (Int32.toNatClampNeg x1)), vR r0]) dX10_trace_63 kX10_slotIn m17 q18 rfl (Nat.le_of_ble_eq_true rfl) ew_605 ew_606 ?_
      refine ea_aload_n (pc := 66) dX10_trace_66 rfl 0 rfl ?_
      refine ea_iload_n (pc := 67) dX10_trace_67 rfl 2 rfl ?_
      obtain ⟨f24, g25, H⟩ := H
      refine ea_deref1 e4 ?_
      obtain ⟨d20, xc26, h21, m22, q23, H⟩ := H
      refine ea_callV (pc := 68) (As := [vI (ea_i h a7 (Int32.toNatClampNeg x1))]) (st := [vI xc19, vI (ea_i h a7 (Int32.toNatClampNeg x1)), vR r0]) dX10_trace_68 kX10_townIn m22 q23 rfl (Nat.le_of_ble_eq_true rfl) ew_592 ew_594 ew_7 (ci := 10) rfl (by decide) f24 g25 ?_
      obtain ⟨f31, g32, H⟩ := H
      refine ea_deref3 e4 ?_
      obtain ⟨d27, h28, m29, q30, H⟩ := H
      refine ea_callV (pc := 71) (As := [vI (ea_i h a7 (Int32.toNatClampNeg x1)), vI xc19, vI xc26]) (st := []) dX10_trace_71 kX10_leaveRun m29 q30 rfl (Nat.le_of_ble_eq_true rfl) ew_626 ew_628 ew_10 (ci := 10) rfl (by decide) f31 g32 ?_
      refine ea_iinc (pc := 74) (v := (-1)) (lv' := [(0, vR r0), (1, vI (x1 + (-1)))]) dX10_trace_74 1 rfl rfl (Nat.le_of_ble_eq_true rfl) [1, 0] rfl ?_
      refine ea_goto (pc := 77) (tgt := 25) dX10_trace_77 rfl ?_
      exact H
    · have H := H.2 c51
      refine ea_aload_n (pc := 43) dX10_trace_43 rfl 0 rfl ?_
      refine ea_iload_n (pc := 44) dX10_trace_44 rfl 2 rfl ?_
      refine ea_iload_n (pc := 45) dX10_trace_45 rfl 2 rfl ?_
      obtain ⟨d33, xc37, h34, m35, q36, H⟩ := H
      refine ea_callS (pc := 46) (As := [vI (ea_i h a7 (Int32.toNatClampNeg x1))]) (st := [vI (ea_i h a7 (Int32.toNatClampNeg x1)), vR r0]) dX10_trace_46 kX10_slotIn m35 q36 rfl (Nat.le_of_ble_eq_true rfl) ew_605 ew_606 ?_
      refine ea_aload_n (pc := 49) dX10_trace_49 rfl 0 rfl ?_
      refine ea_iload_n (pc := 50) dX10_trace_50 rfl 2 rfl ?_
      obtain ⟨f42, g43, H⟩ := H
      refine ea_deref1 e4 ?_
      obtain ⟨d38, xc44, h39, m40, q41, H⟩ := H
      refine ea_callV (pc := 51) (As := [vI (ea_i h a7 (Int32.toNatClampNeg x1))]) (st := [vI xc37, vI (ea_i h a7 (Int32.toNatClampNeg x1)), vR r0]) dX10_trace_51 kX10_townIn m40 q41 rfl (Nat.le_of_ble_eq_true rfl) ew_592 ew_594 ew_7 (ci := 10) rfl (by decide) f42 g43 ?_
      obtain ⟨f49, g50, H⟩ := H
      refine ea_deref3 e4 ?_
      obtain ⟨d45, h46, m47, q48, H⟩ := H
      refine ea_callV (pc := 54) (As := [vI (ea_i h a7 (Int32.toNatClampNeg x1)), vI xc37, vI xc44]) (st := []) dX10_trace_54 kX10_takeRun m47 q48 rfl (Nat.le_of_ble_eq_true rfl) ew_619 ew_621 ew_9 (ci := 10) rfl (by decide) f49 g50 ?_
      refine ea_goto (pc := 57) (tgt := 74) dX10_trace_57 rfl ?_
      refine ea_iinc (pc := 74) (v := (-1)) (lv' := [(0, vR r0), (1, vI (x1 + (-1)))]) dX10_trace_74 1 rfl rfl (Nat.le_of_ble_eq_true rfl) [1, 0] rfl ?_
      refine ea_goto (pc := 77) (tgt := 25) dX10_trace_77 rfl ?_
      exact H
theorem dX10_takeRun_0 : decode cX10_takeRun 0 = .ok (.iconst 0, 1) := by decide +kernel
theorem dX10_takeRun_1 : decode cX10_takeRun 1 = .ok (.istore 4, 2) := by decide +kernel
theorem dX10_takeRun_3 : decode cX10_takeRun 3 = .ok (.iload 4, 2) := by decide +kernel
theorem dX10_takeRun_5 : decode cX10_takeRun 5 = .ok (.bipush 12, 2) := by decide +kernel
theorem dX10_takeRun_7 : decode cX10_takeRun 7 = .ok (.if_icmp .ge 100, 3) := by decide +kernel
theorem dX10_takeRun_10 : decode cX10_takeRun 10 = .ok (.aload_n 0, 1) := by decide +kernel
theorem dX10_takeRun_11 : decode cX10_takeRun 11 = .ok (.getfield 35, 3) := by decide +kernel
theorem dX10_takeRun_14 : decode cX10_takeRun 14 = .ok (.bipush 12, 2) := by decide +kernel
theorem dX10_takeRun_16 : decode cX10_takeRun 16 = .ok (.iload_n 2, 1) := by decide +kernel
theorem dX10_takeRun_17 : decode cX10_takeRun 17 = .ok (.bipush 8, 2) := by decide +kernel
theorem dX10_takeRun_19 : decode cX10_takeRun 19 = .ok (.idiv, 1) := by decide +kernel
theorem dX10_takeRun_20 : decode cX10_takeRun 20 = .ok (.imul, 1) := by decide +kernel
theorem dX10_takeRun_21 : decode cX10_takeRun 21 = .ok (.iload 4, 2) := by decide +kernel
theorem dX10_takeRun_23 : decode cX10_takeRun 23 = .ok (.iadd, 1) := by decide +kernel
theorem dX10_takeRun_24 : decode cX10_takeRun 24 = .ok (.laload, 1) := by decide +kernel
theorem dX10_takeRun_25 : decode cX10_takeRun 25 = .ok (.lstore 5, 2) := by decide +kernel
theorem dX10_takeRun_27 : decode cX10_takeRun 27 = .ok (.lload 5, 2) := by decide +kernel
theorem dX10_takeRun_29 : decode cX10_takeRun 29 = .ok (.ldc2_w 78, 3) := by decide +kernel
theorem dX10_takeRun_32 : decode cX10_takeRun 32 = .ok (.lcmp, 1) := by decide +kernel
theorem dX10_takeRun_33 : decode cX10_takeRun 33 = .ok (.ifCond .eq 15, 3) := by decide +kernel
theorem dX10_takeRun_36 : decode cX10_takeRun 36 = .ok (.lload 5, 2) := by decide +kernel
theorem dX10_takeRun_38 : decode cX10_takeRun 38 = .ok (.iload_n 1, 1) := by decide +kernel
theorem dX10_takeRun_39 : decode cX10_takeRun 39 = .ok (.invokestatic 72, 3) := by decide +kernel
theorem dX10_takeRun_42 : decode cX10_takeRun 42 = .ok (.i2l, 1) := by decide +kernel
theorem dX10_takeRun_43 : decode cX10_takeRun 43 = .ok (.iconst 3, 1) := by decide +kernel
theorem dX10_takeRun_44 : decode cX10_takeRun 44 = .ok (.lshl, 1) := by decide +kernel
theorem dX10_takeRun_45 : decode cX10_takeRun 45 = .ok (.ladd, 1) := by decide +kernel
theorem dX10_takeRun_46 : decode cX10_takeRun 46 = .ok (.lstore 5, 2) := by decide +kernel
theorem dX10_takeRun_48 : decode cX10_takeRun 48 = .ok (.aload_n 0, 1) := by decide +kernel
theorem dX10_takeRun_49 : decode cX10_takeRun 49 = .ok (.getfield 11, 3) := by decide +kernel
theorem dX10_takeRun_52 : decode cX10_takeRun 52 = .ok (.iload_n 3, 1) := by decide +kernel
theorem dX10_takeRun_53 : decode cX10_takeRun 53 = .ok (.iaload, 1) := by decide +kernel
theorem dX10_takeRun_54 : decode cX10_takeRun 54 = .ok (.ifCond .ge 9, 3) := by decide +kernel
theorem dX10_takeRun_57 : decode cX10_takeRun 57 = .ok (.ldc2_w 78, 3) := by decide +kernel
theorem dX10_takeRun_60 : decode cX10_takeRun 60 = .ok (.goto 20, 3) := by decide +kernel
theorem dX10_takeRun_63 : decode cX10_takeRun 63 = .ok (.aload_n 0, 1) := by decide +kernel
theorem dX10_takeRun_64 : decode cX10_takeRun 64 = .ok (.getfield 31, 3) := by decide +kernel
theorem dX10_takeRun_67 : decode cX10_takeRun 67 = .ok (.bipush 12, 2) := by decide +kernel
theorem dX10_takeRun_69 : decode cX10_takeRun 69 = .ok (.aload_n 0, 1) := by decide +kernel
theorem dX10_takeRun_70 : decode cX10_takeRun 70 = .ok (.getfield 11, 3) := by decide +kernel
theorem dX10_takeRun_73 : decode cX10_takeRun 73 = .ok (.iload_n 3, 1) := by decide +kernel
theorem dX10_takeRun_74 : decode cX10_takeRun 74 = .ok (.iaload, 1) := by decide +kernel
theorem dX10_takeRun_75 : decode cX10_takeRun 75 = .ok (.imul, 1) := by decide +kernel
theorem dX10_takeRun_76 : decode cX10_takeRun 76 = .ok (.iload 4, 2) := by decide +kernel
theorem dX10_takeRun_78 : decode cX10_takeRun 78 = .ok (.iadd, 1) := by decide +kernel
theorem dX10_takeRun_79 : decode cX10_takeRun 79 = .ok (.laload, 1) := by decide +kernel
theorem dX10_takeRun_80 : decode cX10_takeRun 80 = .ok (.lstore 7, 2) := by decide +kernel
theorem dX10_takeRun_82 : decode cX10_takeRun 82 = .ok (.aload_n 0, 1) := by decide +kernel
theorem dX10_takeRun_83 : decode cX10_takeRun 83 = .ok (.getfield 31, 3) := by decide +kernel
theorem dX10_takeRun_86 : decode cX10_takeRun 86 = .ok (.bipush 12, 2) := by decide +kernel
theorem dX10_takeRun_88 : decode cX10_takeRun 88 = .ok (.iload_n 2, 1) := by decide +kernel
theorem dX10_takeRun_89 : decode cX10_takeRun 89 = .ok (.imul, 1) := by decide +kernel
theorem dX10_takeRun_90 : decode cX10_takeRun 90 = .ok (.iload 4, 2) := by decide +kernel
theorem dX10_takeRun_92 : decode cX10_takeRun 92 = .ok (.iadd, 1) := by decide +kernel
theorem dX10_takeRun_93 : decode cX10_takeRun 93 = .ok (.lload 5, 2) := by decide +kernel
theorem dX10_takeRun_95 : decode cX10_takeRun 95 = .ok (.lload 7, 2) := by decide +kernel
theorem dX10_takeRun_97 : decode cX10_takeRun 97 = .ok (.invokestatic 136, 3) := by decide +kernel
theorem dX10_takeRun_100 : decode cX10_takeRun 100 = .ok (.lastore, 1) := by decide +kernel
theorem dX10_takeRun_101 : decode cX10_takeRun 101 = .ok (.iinc 4 1, 3) := by decide +kernel
theorem dX10_takeRun_104 : decode cX10_takeRun 104 = .ok (.goto (-101), 3) := by decide +kernel
theorem dX10_takeRun_107 : decode cX10_takeRun 107 = .ok (.aload_n 0, 1) := by decide +kernel
theorem dX10_takeRun_108 : decode cX10_takeRun 108 = .ok (.getfield 11, 3) := by decide +kernel
theorem dX10_takeRun_111 : decode cX10_takeRun 111 = .ok (.iload_n 3, 1) := by decide +kernel
theorem dX10_takeRun_112 : decode cX10_takeRun 112 = .ok (.iload_n 2, 1) := by decide +kernel
theorem dX10_takeRun_113 : decode cX10_takeRun 113 = .ok (.iastore, 1) := by decide +kernel
theorem dX10_takeRun_114 : decode cX10_takeRun 114 = .ok (.return_, 1) := by decide +kernel
theorem bX10_takeRun_0 {d : Nat} {h0 hE h : ea_H} {rv : Option ea_V} {r0 : Option Nat} {x1 : Int32} {x2 : Int32} {x3 : Int32} (H : ea_W mX10_takeRun d h0 rv hE 3 [(0, vR r0), (1, vI x1), (2, vI x2), (3, vI x3), (4, vI 0)] [] h) : ea_W mX10_takeRun d h0 rv hE 0 [(0, vR r0), (1, vI x1), (2, vI x2), (3, vI x3)] [] h := by
  refine ea_iconst (pc := 0) dX10_takeRun_0 (v := 0) rfl ?_
  refine ea_istore (pc := 1) (lv' := [(0, vR r0), (1, vI x1), (2, vI x2), (3, vI x3), (4, vI 0)]) dX10_takeRun_1 (Nat.le_of_ble_eq_true rfl) [1, 2, 3, 4, 0] rfl ?_
  exact H
theorem bX10_takeRun_3 {d : Nat} {h0 hE h : ea_H} {rv : Option ea_V} {r0 : Option Nat} {x1 : Int32} {x2 : Int32} {x3 : Int32} {x4 : Int32} (H : ((12 : Int32) ≤ x4 → ∃ a3, r0 = some a3 ∧ a3 < ea_n h ∧ ea_c h a3 = 10 ∧ ∃ a7, (ea_r h a3 7) = some a7 ∧ a7 < ea_n h ∧ ea_c h a7 = 20 ∧ vp_in x3 (ea_l h a7) ∧ ∀ h10, h10 = ea_wi h a7 (Int32.toNatClampNeg x3) x2 → rv = none ∧ hE = h10) ∧ (¬ (12 : Int32) ≤ x4 → ∃ a14, r0 = some a14 ∧ a14 < ea_n h ∧ ea_c h a14 = 10 ∧ ∃ a18, (ea_r h a14 5) = some a18 ∧ a18 < ea_n h ∧ ea_c h a18 = 22 ∧ vp_in (((12 : Int32) * (x2 / (8 : Int32))) + x4) (ea_l h a18) ∧ ((lg_cmp (ea_j h a18 (Int32.toNatClampNeg (((12 : Int32) * (x2 / (8 : Int32))) + x4))) 9223372036854775807) = (0 : Int32) → ea_W mX10_takeRun d h0 rv hE 48 [(0, vR r0), (1, vI x1), (2, vI x2), (3, vI x3), (4, vI x4), (5, vJ (ea_j h a18 (Int32.toNatClampNeg (((12 : Int32) * (x2 / (8 : Int32))) + x4))))] [] h) ∧ (¬ (lg_cmp (ea_j h a18 (Int32.toNatClampNeg (((12 : Int32) * (x2 / (8 : Int32))) + x4))) 9223372036854775807) = (0 : Int32) → ∃ (d21 : Nat) (xc25 : Int32) (h22 : ea_H), ea_Met mX10_stopIn d21 [vI x1] h (some (vI xc25)) h22 ∧ d21 + 1 ≤ d ∧ ea_W mX10_takeRun d h0 rv hE 48 [(0, vR r0), (1, vI x1), (2, vI x2), (3, vI x3), (4, vI x4), (5, vJ ((ea_j h a18 (Int32.toNatClampNeg (((12 : Int32) * (x2 / (8 : Int32))) + x4))) + ((Int32.toInt64 xc25) <<< (Int32.toInt64 3 &&& 63))))] [] h22))) : ea_W mX10_takeRun d h0 rv hE 3 [(0, vR r0), (1, vI x1), (2, vI x2), (3, vI x3), (4, vI x4)] [] h := by
  refine ea_iload (pc := 3) dX10_takeRun_3 4 rfl ?_
  refine ea_bipush (pc := 5) dX10_takeRun_5 (v := 12) rfl ?_
  refine ea_icmp_ge (pc := 7) (tgt := 107) dX10_takeRun_7 rfl (fun c27 => ?_) (fun c27 => ?_)
  · have H := H.1 c27
    refine ea_aload_n (pc := 107) dX10_takeRun_107 rfl 0 rfl ?_
    obtain ⟨a3, e4, f1, g2, H⟩ := H
    refine ea_deref0 e4 ?_
    refine ea_getR (pc := 108) dX10_takeRun_108 ec_10 (k := 7) (Nat.le_of_ble_eq_true rfl) rfl (Or.inl ew_234) f1 g2 rfl ?_
    refine ea_iload_n (pc := 111) dX10_takeRun_111 rfl 3 rfl ?_
    refine ea_iload_n (pc := 112) dX10_takeRun_112 rfl 2 rfl ?_
    obtain ⟨a7, e8, f5, g6, H⟩ := H
    refine ea_deref2 e8 ?_
    obtain ⟨z9, H⟩ := H
    refine ea_iast (pc := 113) dX10_takeRun_113 f5 g6 z9 ?_
    obtain ⟨h10, E11⟩ : ∃ z, z = ea_wi h a7 (Int32.toNatClampNeg x3) x2 := ⟨_, rfl⟩
    have H := H h10 E11
    refine ea_nm E11 ?_
    obtain ⟨rfl, rfl⟩ := H
    exact ea_return (pc := 114) dX10_takeRun_114 rfl
  · have H := H.2 c27
    refine ea_aload_n (pc := 10) dX10_takeRun_10 rfl 0 rfl ?_
    obtain ⟨a14, e15, f12, g13, H⟩ := H
    refine ea_deref0 e15 ?_
    refine ea_getR (pc := 11) dX10_takeRun_11 ec_10 (k := 5) (Nat.le_of_ble_eq_true rfl) rfl (Or.inl ew_232) f12 g13 rfl ?_
    refine ea_bipush (pc := 14) dX10_takeRun_14 (v := 12) rfl ?_
    refine ea_iload_n (pc := 16) dX10_takeRun_16 rfl 2 rfl ?_
    refine ea_bipush (pc := 17) dX10_takeRun_17 (v := 8) rfl ?_
    refine ea_idiv (pc := 19) dX10_takeRun_19 (by decide) ?_
    refine ea_imul (pc := 20) dX10_takeRun_20 ?_
    refine ea_iload (pc := 21) dX10_takeRun_21 4 rfl ?_
    refine ea_iadd (pc := 23) dX10_takeRun_23 ?_
    obtain ⟨a18, e19, f16, g17, H⟩ := H
    refine ea_deref1 e19 ?_
    obtain ⟨z20, H⟩ := H
    refine ea_lald (pc := 24) dX10_takeRun_24 f16 g17 z20 ?_
    refine ea_lstore (pc := 25) (lv' := [(0, vR r0), (1, vI x1), (2, vI x2), (3, vI x3), (4, vI x4), (5, vJ (ea_j h a18 (Int32.toNatClampNeg (((12 : Int32) * (x2 / (8 : Int32))) + x4))))]) dX10_takeRun_25 (Nat.le_of_ble_eq_true rfl) [1, 2, 3, 4, 5, 0] rfl ?_
    refine ea_lload (pc := 27) dX10_takeRun_27 5 rfl ?_
    refine ea_ldc2 (pc := 29) dX10_takeRun_29 ew_615 ?_
    refine ea_lcmp (pc := 32) dX10_takeRun_32 ?_
    refine ea_if_eq (pc := 33) (tgt := 48) dX10_takeRun_33 rfl (fun c26 => ?_) (fun c26 => ?_)
    · have H := H.1 c26
      exact H
    · have H := H.2 c26
      refine ea_lload (pc := 36) dX10_takeRun_36 5 rfl ?_
      refine ea_iload_n (pc := 38) dX10_takeRun_38 rfl 1 rfl ?_
      obtain ⟨d21, xc25, h22, m23, q24, H⟩ := H
      refine ea_callS (pc := 39) (As := [vI x1]) (st := [vJ (ea_j h a18 (Int32.toNatClampNeg (((12 : Int32) * (x2 / (8 : Int32))) + x4)))]) dX10_takeRun_39 kX10_stopIn m23 q24 rfl (Nat.le_of_ble_eq_true rfl) ew_599 ew_600 ?_
      refine ea_i2l (pc := 42) dX10_takeRun_42 ?_
      refine ea_iconst (pc := 43) dX10_takeRun_43 (v := 3) rfl ?_
      refine ea_lshl (pc := 44) dX10_takeRun_44 ?_
      refine ea_ladd (pc := 45) dX10_takeRun_45 ?_
      refine ea_lstore (pc := 46) (lv' := [(0, vR r0), (1, vI x1), (2, vI x2), (3, vI x3), (4, vI x4), (5, vJ ((ea_j h a18 (Int32.toNatClampNeg (((12 : Int32) * (x2 / (8 : Int32))) + x4))) + ((Int32.toInt64 xc25) <<< (Int32.toInt64 3 &&& 63))))]) dX10_takeRun_46 (Nat.le_of_ble_eq_true rfl) [1, 2, 3, 4, 5, 0] rfl ?_
      exact H
theorem bX10_takeRun_48 {d : Nat} {h0 hE h : ea_H} {rv : Option ea_V} {r0 : Option Nat} {x1 : Int32} {x2 : Int32} {x3 : Int32} {x4 : Int32} {y5 : Int64} (H : ∃ a3, r0 = some a3 ∧ a3 < ea_n h ∧ ea_c h a3 = 10 ∧ ∃ a7, (ea_r h a3 7) = some a7 ∧ a7 < ea_n h ∧ ea_c h a7 = 20 ∧ vp_in x3 (ea_l h a7) ∧ ((0 : Int32) ≤ (ea_i h a7 (Int32.toNatClampNeg x3)) → a3 < ea_n h ∧ ea_c h a3 = 10 ∧ a3 < ea_n h ∧ ea_c h a3 = 10 ∧ a7 < ea_n h ∧ ea_c h a7 = 20 ∧ vp_in x3 (ea_l h a7) ∧ ∃ a19, (ea_r h a3 4) = some a19 ∧ a19 < ea_n h ∧ ea_c h a19 = 22 ∧ vp_in (((12 : Int32) * (ea_i h a7 (Int32.toNatClampNeg x3))) + x4) (ea_l h a19) ∧ ea_W mX10_takeRun d h0 rv hE 80 [(0, vR r0), (1, vI x1), (2, vI x2), (3, vI x3), (4, vI x4), (5, vJ y5)] [vJ (ea_j h a19 (Int32.toNatClampNeg (((12 : Int32) * (ea_i h a7 (Int32.toNatClampNeg x3))) + x4)))] h) ∧ (¬ (0 : Int32) ≤ (ea_i h a7 (Int32.toNatClampNeg x3)) → ea_W mX10_takeRun d h0 rv hE 80 [(0, vR r0), (1, vI x1), (2, vI x2), (3, vI x3), (4, vI x4), (5, vJ y5)] [vJ 9223372036854775807] h)) : ea_W mX10_takeRun d h0 rv hE 48 [(0, vR r0), (1, vI x1), (2, vI x2), (3, vI x3), (4, vI x4), (5, vJ y5)] [] h := by
  refine ea_aload_n (pc := 48) dX10_takeRun_48 rfl 0 rfl ?_
  obtain ⟨a3, e4, f1, g2, H⟩ := H
  refine ea_deref0 e4 ?_
  refine ea_getR (pc := 49) dX10_takeRun_49 ec_10 (k := 7) (Nat.le_of_ble_eq_true rfl) rfl (Or.inl ew_234) f1 g2 rfl ?_
  refine ea_iload_n (pc := 52) dX10_takeRun_52 rfl 3 rfl ?_
  obtain ⟨a7, e8, f5, g6, H⟩ := H
  refine ea_deref1 e8 ?_
  obtain ⟨z9, H⟩ := H
  refine ea_iald (pc := 53) dX10_takeRun_53 f5 g6 z9 ?_
  refine ea_if_ge (pc := 54) (tgt := 63) dX10_takeRun_54 rfl (fun c22 => ?_) (fun c22 => ?_)
  · have H := H.1 c22
    refine ea_aload_n (pc := 63) dX10_takeRun_63 rfl 0 rfl ?_
    obtain ⟨f10, g11, H⟩ := H
    refine ea_deref0 e4 ?_
    refine ea_getR (pc := 64) dX10_takeRun_64 ec_10 (k := 4) (Nat.le_of_ble_eq_true rfl) rfl (Or.inl ew_231) f10 g11 rfl ?_
    refine ea_bipush (pc := 67) dX10_takeRun_67 (v := 12) rfl ?_
    refine ea_aload_n (pc := 69) dX10_takeRun_69 rfl 0 rfl ?_
    obtain ⟨f12, g13, H⟩ := H
    refine ea_deref0 e4 ?_
    refine ea_getR (pc := 70) dX10_takeRun_70 ec_10 (k := 7) (Nat.le_of_ble_eq_true rfl) rfl (Or.inl ew_234) f12 g13 rfl ?_
    refine ea_iload_n (pc := 73) dX10_takeRun_73 rfl 3 rfl ?_
    obtain ⟨f14, g15, H⟩ := H
    refine ea_deref1 e8 ?_
    obtain ⟨z16, H⟩ := H
    refine ea_iald (pc := 74) dX10_takeRun_74 f14 g15 z16 ?_
    refine ea_imul (pc := 75) dX10_takeRun_75 ?_
    refine ea_iload (pc := 76) dX10_takeRun_76 4 rfl ?_
    refine ea_iadd (pc := 78) dX10_takeRun_78 ?_
    obtain ⟨a19, e20, f17, g18, H⟩ := H
    refine ea_deref1 e20 ?_
    obtain ⟨z21, H⟩ := H
    refine ea_lald (pc := 79) dX10_takeRun_79 f17 g18 z21 ?_
    exact H
  · have H := H.2 c22
    refine ea_ldc2 (pc := 57) dX10_takeRun_57 ew_615 ?_
    refine ea_goto (pc := 60) (tgt := 80) dX10_takeRun_60 rfl ?_
    exact H
theorem bX10_takeRun_80 {d : Nat} {h0 hE h : ea_H} {rv : Option ea_V} {r0 : Option Nat} {x1 : Int32} {x2 : Int32} {x3 : Int32} {x4 : Int32} {y5 : Int64} {sy0 : Int64} (H : ∃ a3, r0 = some a3 ∧ a3 < ea_n h ∧ ea_c h a3 = 10 ∧ ∃ (d5 : Nat) (yc9 : Int64) (h6 : ea_H), ea_Met mJ9_min_f86c9 d5 [vJ y5, vJ sy0] h (some (vJ yc9)) h6 ∧ d5 + 1 ≤ d ∧ ∃ a12, (ea_r h a3 4) = some a12 ∧ a12 < ea_n h6 ∧ ea_c h6 a12 = 22 ∧ vp_in (((12 : Int32) * x2) + x4) (ea_l h6 a12) ∧ ∀ h15, h15 = ea_wj h6 a12 (Int32.toNatClampNeg (((12 : Int32) * x2) + x4)) yc9 → ea_W mX10_takeRun d h0 rv hE 3 [(0, vR r0), (1, vI x1), (2, vI x2), (3, vI x3), (4, vI (x4 + 1))] [] h15) : ea_W mX10_takeRun d h0 rv hE 80 [(0, vR r0), (1, vI x1), (2, vI x2), (3, vI x3), (4, vI x4), (5, vJ y5)] [vJ sy0] h := by
  refine ea_lstore (pc := 80) (lv' := [(0, vR r0), (1, vI x1), (2, vI x2), (3, vI x3), (4, vI x4), (5, vJ y5), (7, vJ sy0)]) dX10_takeRun_80 (Nat.le_of_ble_eq_true rfl) [1, 2, 3, 4, 5, 6, 0] rfl ?_
  refine ea_aload_n (pc := 82) dX10_takeRun_82 rfl 0 rfl ?_
  obtain ⟨a3, e4, f1, g2, H⟩ := H
  refine ea_deref0 e4 ?_
  refine ea_getR (pc := 83) dX10_takeRun_83 ec_10 (k := 4) (Nat.le_of_ble_eq_true rfl) rfl (Or.inl ew_231) f1 g2 rfl ?_
  refine ea_bipush (pc := 86) dX10_takeRun_86 (v := 12) rfl ?_
  refine ea_iload_n (pc := 88) dX10_takeRun_88 rfl 2 rfl ?_
  refine ea_imul (pc := 89) dX10_takeRun_89 ?_
  refine ea_iload (pc := 90) dX10_takeRun_90 4 rfl ?_
  refine ea_iadd (pc := 92) dX10_takeRun_92 ?_
  refine ea_lload (pc := 93) dX10_takeRun_93 5 rfl ?_
  refine ea_lload (pc := 95) dX10_takeRun_95 6 rfl ?_
  obtain ⟨d5, yc9, h6, m7, q8, H⟩ := H
  refine ea_callS (pc := 97) (As := [vJ y5, vJ sy0]) (st := [vI (((12 : Int32) * x2) + x4), vR (ea_r h a3 4)]) dX10_takeRun_97 kJ9_min_f86c9 m7 q8 rfl (Nat.le_of_ble_eq_true rfl) ew_623 ew_624 ?_
  obtain ⟨a12, e13, f10, g11, H⟩ := H
  refine ea_deref2 e13 ?_
  obtain ⟨z14, H⟩ := H
  refine ea_last (pc := 100) dX10_takeRun_100 f10 g11 z14 ?_
  obtain ⟨h15, E16⟩ : ∃ z, z = ea_wj h6 a12 (Int32.toNatClampNeg (((12 : Int32) * x2) + x4)) yc9 := ⟨_, rfl⟩
  have H := H h15 E16
  refine ea_nm E16 ?_
  refine ea_iinc (pc := 101) (v := 1) (lv' := [(0, vR r0), (1, vI x1), (2, vI x2), (3, vI x3), (4, vI (x4 + 1))]) dX10_takeRun_101 4 rfl rfl (Nat.le_of_ble_eq_true rfl) [1, 2, 3, 4, 0] rfl ?_
  refine ea_goto (pc := 104) (tgt := 3) dX10_takeRun_104 rfl ?_
  exact H
