/-! the reference, 1 -/
noncomputable def vX12_charge (b0 : Nat) (x1 : Int32) (x2 : Int32) (h : ea_H) : Int32 := (if (vX12_isLetterOf b0 (x1 : Int32) h) = (0 : Int32) then ((-1) : Int32) else (if Int32.toInt x2 = 0 then (ea_i h (b0 + 48) (Int32.toNatClampNeg x1)) else (if Int32.toInt x2 = 1 then (ea_i h (b0 + 47) (Int32.toNatClampNeg x1)) else (if Int32.toInt x2 = 2 then (if (ea_i h (b0 + 53) (Int32.toNatClampNeg x1)) = (0 : Int32) then (ea_i h (b0 + 49) (Int32.toNatClampNeg x1)) else ((-1) : Int32)) else (if Int32.toInt x2 = 3 then (vX12_owed b0 (x1 : Int32) h) else (if Int32.toInt x2 = 4 then (if (vX12_isOwed b0 (x1 : Int32) h) = (0 : Int32) then (ea_i h (b0 + 48) (Int32.toNatClampNeg x1)) else (0 : Int32)) else (if Int32.toInt x2 = 5 then (if (ea_i h (b0 + 53) (Int32.toNatClampNeg x1)) = (0 : Int32) then (0 : Int32) else (1 : Int32)) else ((-1) : Int32))))))))
def okX12_charge (b0 : Nat) (x1 : Int32) (x2 : Int32) (h : ea_H) : Prop := ((vX12_isLetterOf b0 (x1 : Int32) h) = (0 : Int32) → True) ∧ (¬ (vX12_isLetterOf b0 (x1 : Int32) h) = (0 : Int32) → (Int32.toInt x2 = 0 → vp_in x1 120) ∧ (¬ Int32.toInt x2 = 0 → (Int32.toInt x2 = 1 → vp_in x1 120) ∧ (¬ Int32.toInt x2 = 1 → (Int32.toInt x2 = 2 → vp_in x1 120 ∧ (((ea_i h (b0 + 53) (Int32.toNatClampNeg x1)) = (0 : Int32) → vp_in x1 120) ∧ (¬ (ea_i h (b0 + 53) (Int32.toNatClampNeg x1)) = (0 : Int32) → True))) ∧ (¬ Int32.toInt x2 = 2 → (Int32.toInt x2 = 3 → (okX12_owed b0 (x1 : Int32) h)) ∧ (¬ Int32.toInt x2 = 3 → (Int32.toInt x2 = 4 → (okX12_isOwed b0 (x1 : Int32) h) ∧ (((vX12_isOwed b0 (x1 : Int32) h) = (0 : Int32) → vp_in x1 120) ∧ (¬ (vX12_isOwed b0 (x1 : Int32) h) = (0 : Int32) → True))) ∧ (¬ Int32.toInt x2 = 4 → (Int32.toInt x2 = 5 → vp_in x1 120) ∧ (¬ Int32.toInt x2 = 5 → True)))))))
theorem sX12_charge {d : Nat} {b0 : Nat} {x1 : Int32} {x2 : Int32} {h : ea_H} (hd : 3 ≤ d) (hs : ShM b0 h) (K : okX12_charge b0 x1 x2 h) : ea_Met mX12_charge d [vR (some (b0 + 0)), vI x1, vI x2] h (some (vI (vX12_charge b0 x1 x2 h))) h := by
  obtain ⟨X, EX⟩ : ∃ z, z = vX12_charge b0 x1 x2 h := ⟨_, rfl⟩
  rw [← EX]
  unfold vX12_charge at EX
  unfold okX12_charge at K
  refine ea_enter rfl (Nat.le_of_ble_eq_true rfl) ?_
  refine ea_aload_n (pc := 0) dX12_charge_0 rfl 0 rfl ?_
  refine ea_iload_n (pc := 1) dX12_charge_1 rfl 1 rfl ?_
  refine ea_callV (pc := 2) (d' := d - 1) (As := [vI x1]) (st := []) dX12_charge_2 kX12_isLetterOf (sX12_isLetterOf (d := d - 1) (by omega) hs) (by omega) rfl (Nat.le_of_ble_eq_true rfl) ew_2019 ew_2021 ew_89 (ci := 12) rfl (by decide) (hs.1 0 (by decide)).1 (hs.1 0 (by decide)).2.1 ?_
  refine ea_if_ne (pc := 5) (tgt := 10) dX12_charge_5 rfl (fun c13 => ?_) (fun c13 => ?_)
  · have EX := EX.trans (if_neg c13)
    have K := K.2 c13
    refine ea_iload_n (pc := 10) dX12_charge_10 rfl 2 rfl ?_
    by_cases qc11_0 : Int32.toInt x2 = 0
    · have EX := EX.trans (if_pos qc11_0)
      have K := K.1 qc11_0
      refine ea_tswIn (pc := 11) (tgt := 48) dX12_charge_11 (by rw [qc11_0]; decide) (by rw [qc11_0]; decide) (by rw [qc11_0]; rfl) rfl ?_
      refine ea_aload_n (pc := 48) dX12_charge_48 rfl 0 rfl ?_
      refine ea_getR (pc := 49) dX12_charge_49 ec_12 (k := 74) (Nat.le_of_ble_eq_true rfl) rfl (Or.inl ew_1419) (hs.1 0 (by decide)).1 (hs.1 0 (by decide)).2.1 (hs.2 0 74 rfl) ?_
      refine ea_iload_n (pc := 52) dX12_charge_52 rfl 1 rfl ?_
      have z2 := K
      refine ea_iald (pc := 53) dX12_charge_53 (hs.1 48 (by decide)).1 (hs.1 48 (by decide)).2.1 (ea_vpl (hs.1 48 (by decide)).2.2 z2) ?_
      exact ea_iretE (pc := 54) dX12_charge_54 rfl rfl EX rfl
    have EX := EX.trans (if_neg qc11_0)
    have K := K.2 qc11_0
    by_cases qc11_1 : Int32.toInt x2 = 1
    · have EX := EX.trans (if_pos qc11_1)
      have K := K.1 qc11_1
      refine ea_tswIn (pc := 11) (tgt := 55) dX12_charge_11 (by rw [qc11_1]; decide) (by rw [qc11_1]; decide) (by rw [qc11_1]; rfl) rfl ?_
      refine ea_aload_n (pc := 55) dX12_charge_55 rfl 0 rfl ?_
      refine ea_getR (pc := 56) dX12_charge_56 ec_12 (k := 73) (Nat.le_of_ble_eq_true rfl) rfl (Or.inl ew_1418) (hs.1 0 (by decide)).1 (hs.1 0 (by decide)).2.1 (hs.2 0 73 rfl) ?_
      refine ea_iload_n (pc := 59) dX12_charge_59 rfl 1 rfl ?_
      have z3 := K
      refine ea_iald (pc := 60) dX12_charge_60 (hs.1 47 (by decide)).1 (hs.1 47 (by decide)).2.1 (ea_vpl (hs.1 47 (by decide)).2.2 z3) ?_
      exact ea_iretE (pc := 61) dX12_charge_61 rfl rfl EX rfl
    have EX := EX.trans (if_neg qc11_1)
    have K := K.2 qc11_1
    by_cases qc11_2 : Int32.toInt x2 = 2
    · have EX := EX.trans (if_pos qc11_2)
      have K := K.1 qc11_2
      refine ea_tswIn (pc := 11) (tgt := 62) dX12_charge_11 (by rw [qc11_2]; decide) (by rw [qc11_2]; decide) (by rw [qc11_2]; rfl) rfl ?_
      refine ea_aload_n (pc := 62) dX12_charge_62 rfl 0 rfl ?_
      refine ea_getR (pc := 63) dX12_charge_63 ec_12 (k := 79) (Nat.le_of_ble_eq_true rfl) rfl (Or.inl ew_1424) (hs.1 0 (by decide)).1 (hs.1 0 (by decide)).2.1 (hs.2 0 79 rfl) ?_
      refine ea_iload_n (pc := 66) dX12_charge_66 rfl 1 rfl ?_
      obtain ⟨z4, K⟩ := K
      refine ea_zald (pc := 67) dX12_charge_67 (hs.1 53 (by decide)).1 (hs.1 53 (by decide)).2.1 (ea_vpl (hs.1 53 (by decide)).2.2 z4) ?_
      refine ea_if_eq (pc := 68) (tgt := 75) dX12_charge_68 rfl (fun c6 => ?_) (fun c6 => ?_)
      · have EX := EX.trans (if_pos c6)
        have K := K.1 c6
        refine ea_aload_n (pc := 75) dX12_charge_75 rfl 0 rfl ?_
        refine ea_getR (pc := 76) dX12_charge_76 ec_12 (k := 75) (Nat.le_of_ble_eq_true rfl) rfl (Or.inl ew_1420) (hs.1 0 (by decide)).1 (hs.1 0 (by decide)).2.1 (hs.2 0 75 rfl) ?_
        refine ea_iload_n (pc := 79) dX12_charge_79 rfl 1 rfl ?_
        have z5 := K
        refine ea_iald (pc := 80) dX12_charge_80 (hs.1 49 (by decide)).1 (hs.1 49 (by decide)).2.1 (ea_vpl (hs.1 49 (by decide)).2.2 z5) ?_
        exact ea_iretE (pc := 81) dX12_charge_81 rfl rfl EX rfl
      · have EX := EX.trans (if_neg c6)
        refine ea_iconst (pc := 71) dX12_charge_71 (v := (-1)) rfl ?_
        refine ea_goto (pc := 72) (tgt := 81) dX12_charge_72 rfl ?_
        exact ea_iretE (pc := 81) dX12_charge_81 rfl rfl EX rfl
    have EX := EX.trans (if_neg qc11_2)
    have K := K.2 qc11_2
    by_cases qc11_3 : Int32.toInt x2 = 3
    · have EX := EX.trans (if_pos qc11_3)
      have K := K.1 qc11_3
      refine ea_tswIn (pc := 11) (tgt := 82) dX12_charge_11 (by rw [qc11_3]; decide) (by rw [qc11_3]; decide) (by rw [qc11_3]; rfl) rfl ?_
      refine ea_aload_n (pc := 82) dX12_charge_82 rfl 0 rfl ?_
      refine ea_iload_n (pc := 83) dX12_charge_83 rfl 1 rfl ?_
      have z7 := K
      refine ea_callV (pc := 84) (d' := d - 1) (As := [vI x1]) (st := []) dX12_charge_84 kX12_owed (sX12_owed (d := d - 1) (by omega) hs z7) (by omega) rfl (Nat.le_of_ble_eq_true rfl) ew_2027 ew_2029 ew_90 (ci := 12) rfl (by decide) (hs.1 0 (by decide)).1 (hs.1 0 (by decide)).2.1 ?_
      exact ea_iretE (pc := 87) dX12_charge_87 rfl rfl EX rfl
    have EX := EX.trans (if_neg qc11_3)
    have K := K.2 qc11_3
    by_cases qc11_4 : Int32.toInt x2 = 4
    · have EX := EX.trans (if_pos qc11_4)
      have K := K.1 qc11_4
      refine ea_tswIn (pc := 11) (tgt := 88) dX12_charge_11 (by rw [qc11_4]; decide) (by rw [qc11_4]; decide) (by rw [qc11_4]; rfl) rfl ?_
      refine ea_aload_n (pc := 88) dX12_charge_88 rfl 0 rfl ?_
      refine ea_iload_n (pc := 89) dX12_charge_89 rfl 1 rfl ?_
      obtain ⟨z8, K⟩ := K
      refine ea_callV (pc := 90) (d' := d - 1) (As := [vI x1]) (st := []) dX12_charge_90 kX12_isOwed (sX12_isOwed (d := d - 1) (by omega) hs z8) (by omega) rfl (Nat.le_of_ble_eq_true rfl) ew_2031 ew_2033 ew_91 (ci := 12) rfl (by decide) (hs.1 0 (by decide)).1 (hs.1 0 (by decide)).2.1 ?_
      refine ea_if_eq (pc := 93) (tgt := 100) dX12_charge_93 rfl (fun c10 => ?_) (fun c10 => ?_)
      · have EX := EX.trans (if_pos c10)
        have K := K.1 c10
        refine ea_aload_n (pc := 100) dX12_charge_100 rfl 0 rfl ?_
        refine ea_getR (pc := 101) dX12_charge_101 ec_12 (k := 74) (Nat.le_of_ble_eq_true rfl) rfl (Or.inl ew_1419) (hs.1 0 (by decide)).1 (hs.1 0 (by decide)).2.1 (hs.2 0 74 rfl) ?_
        refine ea_iload_n (pc := 104) dX12_charge_104 rfl 1 rfl ?_
        have z9 := K
        refine ea_iald (pc := 105) dX12_charge_105 (hs.1 48 (by decide)).1 (hs.1 48 (by decide)).2.1 (ea_vpl (hs.1 48 (by decide)).2.2 z9) ?_
        exact ea_iretE (pc := 106) dX12_charge_106 rfl rfl EX rfl
      · have EX := EX.trans (if_neg c10)
        refine ea_iconst (pc := 96) dX12_charge_96 (v := 0) rfl ?_
        refine ea_goto (pc := 97) (tgt := 106) dX12_charge_97 rfl ?_
        exact ea_iretE (pc := 106) dX12_charge_106 rfl rfl EX rfl
    have EX := EX.trans (if_neg qc11_4)
    have K := K.2 qc11_4
    by_cases qc11_5 : Int32.toInt x2 = 5
    · have EX := EX.trans (if_pos qc11_5)
      have K := K.1 qc11_5
      refine ea_tswIn (pc := 11) (tgt := 107) dX12_charge_11 (by rw [qc11_5]; decide) (by rw [qc11_5]; decide) (by rw [qc11_5]; rfl) rfl ?_
      refine ea_aload_n (pc := 107) dX12_charge_107 rfl 0 rfl ?_
      refine ea_getR (pc := 108) dX12_charge_108 ec_12 (k := 79) (Nat.le_of_ble_eq_true rfl) rfl (Or.inl ew_1424) (hs.1 0 (by decide)).1 (hs.1 0 (by decide)).2.1 (hs.2 0 79 rfl) ?_
      refine ea_iload_n (pc := 111) dX12_charge_111 rfl 1 rfl ?_
      have z11 := K
      refine ea_zald (pc := 112) dX12_charge_112 (hs.1 53 (by decide)).1 (hs.1 53 (by decide)).2.1 (ea_vpl (hs.1 53 (by decide)).2.2 z11) ?_
      refine ea_if_eq (pc := 113) (tgt := 120) dX12_charge_113 rfl (fun c12 => ?_) (fun c12 => ?_)
      · have EX := EX.trans (if_pos c12)
        refine ea_iconst (pc := 120) dX12_charge_120 (v := 0) rfl ?_
        exact ea_iretE (pc := 121) dX12_charge_121 rfl rfl EX rfl
      · have EX := EX.trans (if_neg c12)
        refine ea_iconst (pc := 116) dX12_charge_116 (v := 1) rfl ?_
        refine ea_goto (pc := 117) (tgt := 121) dX12_charge_117 rfl ?_
        exact ea_iretE (pc := 121) dX12_charge_121 rfl rfl EX rfl
    have EX := EX.trans (if_neg qc11_5)
    have K := K.2 qc11_5
    refine ea_tswOut (pc := 11) (tgt := 122) dX12_charge_11 (ea_sw_0_5 qc11_0 qc11_1 qc11_2 qc11_3 qc11_4 qc11_5) rfl ?_
    refine ea_iconst (pc := 122) dX12_charge_122 (v := (-1)) rfl ?_
    exact ea_iretE (pc := 123) dX12_charge_123 rfl rfl EX rfl
  · have EX := EX.trans (if_pos c13)
    refine ea_iconst (pc := 8) dX12_charge_8 (v := (-1)) rfl ?_
    exact ea_iretE (pc := 9) dX12_charge_9 rfl rfl EX rfl
noncomputable def vX12_lead (b0 : Nat) (x1 : Int32) (x2 : Int32) (x3 : Int32) (h : ea_H) : Int32 := (if (vX12_isLetterOf b0 (x1 : Int32) h) = (0 : Int32) then ((-1) : Int32) else (if (vX12_isIn (x2 : Int32) (0 : Int32) (((ea_i h (b0 + 50) (Int32.toNatClampNeg x1)) - (1 : Int32)) : Int32) h) = (0 : Int32) then ((-1) : Int32) else (if x3 = (0 : Int32) then (ea_i h (b0 + 62) (Int32.toNatClampNeg (((1000 : Int32) * x1) + x2))) else (if x3 = (1 : Int32) then (ea_i h (b0 + 63) (Int32.toNatClampNeg (((1000 : Int32) * x1) + x2))) else (if x3 = (2 : Int32) then (ea_i h (b0 + 64) (Int32.toNatClampNeg (((1000 : Int32) * x1) + x2))) else ((-1) : Int32))))))
def okX12_lead (b0 : Nat) (x1 : Int32) (x2 : Int32) (x3 : Int32) (h : ea_H) : Prop := ((vX12_isLetterOf b0 (x1 : Int32) h) = (0 : Int32) → True) ∧ (¬ (vX12_isLetterOf b0 (x1 : Int32) h) = (0 : Int32) → vp_in x1 120 ∧ (((vX12_isIn (x2 : Int32) (0 : Int32) (((ea_i h (b0 + 50) (Int32.toNatClampNeg x1)) - (1 : Int32)) : Int32) h) = (0 : Int32) → True) ∧ (¬ (vX12_isIn (x2 : Int32) (0 : Int32) (((ea_i h (b0 + 50) (Int32.toNatClampNeg x1)) - (1 : Int32)) : Int32) h) = (0 : Int32) → (x3 = (0 : Int32) → vp_in (((1000 : Int32) * x1) + x2) 120000) ∧ (¬ x3 = (0 : Int32) → (x3 = (1 : Int32) → vp_in (((1000 : Int32) * x1) + x2) 120000) ∧ (¬ x3 = (1 : Int32) → (x3 = (2 : Int32) → vp_in (((1000 : Int32) * x1) + x2) 120000) ∧ (¬ x3 = (2 : Int32) → True))))))
theorem sX12_lead {d : Nat} {b0 : Nat} {x1 : Int32} {x2 : Int32} {x3 : Int32} {h : ea_H} (hd : 3 ≤ d) (hs : ShM b0 h) (K : okX12_lead b0 x1 x2 x3 h) : ea_Met mX12_lead d [vR (some (b0 + 0)), vI x1, vI x2, vI x3] h (some (vI (vX12_lead b0 x1 x2 x3 h))) h := by
  obtain ⟨X, EX⟩ : ∃ z, z = vX12_lead b0 x1 x2 x3 h := ⟨_, rfl⟩
  rw [← EX]
  unfold vX12_lead at EX
  unfold okX12_lead at K
  refine ea_enter rfl (Nat.le_of_ble_eq_true rfl) ?_
  refine ea_aload_n (pc := 0) dX12_lead_0 rfl 0 rfl ?_
  refine ea_iload_n (pc := 1) dX12_lead_1 rfl 1 rfl ?_
  refine ea_callV (pc := 2) (d' := d - 1) (As := [vI x1]) (st := []) dX12_lead_2 kX12_isLetterOf (sX12_isLetterOf (d := d - 1) (by omega) hs) (by omega) rfl (Nat.le_of_ble_eq_true rfl) ew_2019 ew_2021 ew_89 (ci := 12) rfl (by decide) (hs.1 0 (by decide)).1 (hs.1 0 (by decide)).2.1 ?_
  refine ea_if_eq (pc := 5) (tgt := 24) dX12_lead_5 rfl (fun c11 => ?_) (fun c11 => ?_)
  · have EX := EX.trans (if_pos c11)
    refine ea_iconst (pc := 24) dX12_lead_24 (v := (-1)) rfl ?_
    exact ea_iretE (pc := 25) dX12_lead_25 rfl rfl EX rfl
  · have EX := EX.trans (if_neg c11)
    have K := K.2 c11
    refine ea_iload_n (pc := 8) dX12_lead_8 rfl 2 rfl ?_
    refine ea_iconst (pc := 9) dX12_lead_9 (v := 0) rfl ?_
    refine ea_aload_n (pc := 10) dX12_lead_10 rfl 0 rfl ?_
    refine ea_getR (pc := 11) dX12_lead_11 ec_12 (k := 76) (Nat.le_of_ble_eq_true rfl) rfl (Or.inl ew_1421) (hs.1 0 (by decide)).1 (hs.1 0 (by decide)).2.1 (hs.2 0 76 rfl) ?_
    refine ea_iload_n (pc := 14) dX12_lead_14 rfl 1 rfl ?_
    obtain ⟨z2, K⟩ := K
    refine ea_iald (pc := 15) dX12_lead_15 (hs.1 50 (by decide)).1 (hs.1 50 (by decide)).2.1 (ea_vpl (hs.1 50 (by decide)).2.2 z2) ?_
    refine ea_iconst (pc := 16) dX12_lead_16 (v := 1) rfl ?_
    refine ea_isub (pc := 17) dX12_lead_17 ?_
    refine ea_callS (pc := 18) (d' := d - 1) (As := [vI x2, vI 0, vI ((ea_i h (b0 + 50) (Int32.toNatClampNeg x1)) - (1 : Int32))]) (st := []) dX12_lead_18 kX12_isIn (sX12_isIn (d := d - 1) (by omega)) (by omega) rfl (Nat.le_of_ble_eq_true rfl) ew_1712 ew_1713 ?_
    refine ea_if_ne (pc := 21) (tgt := 26) dX12_lead_21 rfl (fun c10 => ?_) (fun c10 => ?_)
    · have EX := EX.trans (if_neg c10)
      have K := K.2 c10
      refine ea_sipush (pc := 26) dX12_lead_26 (v := 1000) rfl ?_
      refine ea_iload_n (pc := 29) dX12_lead_29 rfl 1 rfl ?_
      refine ea_imul (pc := 30) dX12_lead_30 ?_
      refine ea_iload_n (pc := 31) dX12_lead_31 rfl 2 rfl ?_
      refine ea_iadd (pc := 32) dX12_lead_32 ?_
      refine ea_istore (pc := 33) (lv' := [(0, vR (some (b0 + 0))), (3, vI x3), (4, vI (((1000 : Int32) * x1) + x2))]) dX12_lead_33 (Nat.le_of_ble_eq_true rfl) [1, 4, 0] rfl ?_
      refine ea_iload_n (pc := 35) dX12_lead_35 rfl 1 rfl ?_
      refine ea_if_ne (pc := 36) (tgt := 49) dX12_lead_36 rfl (fun c9 => ?_) (fun c9 => ?_)
      · have EX := EX.trans (if_neg c9)
        have K := K.2 c9
        refine ea_iload_n (pc := 49) dX12_lead_49 rfl 1 rfl ?_
        refine ea_iconst (pc := 50) dX12_lead_50 (v := 1) rfl ?_
        refine ea_icmp_ne (pc := 51) (tgt := 64) dX12_lead_51 rfl (fun c7 => ?_) (fun c7 => ?_)
        · have EX := EX.trans (if_neg c7)
          have K := K.2 c7
          refine ea_iload_n (pc := 64) dX12_lead_64 rfl 1 rfl ?_
          refine ea_iconst (pc := 65) dX12_lead_65 (v := 2) rfl ?_
          refine ea_icmp_ne (pc := 66) (tgt := 79) dX12_lead_66 rfl (fun c5 => ?_) (fun c5 => ?_)
          · have EX := EX.trans (if_neg c5)
            refine ea_iconst (pc := 79) dX12_lead_79 (v := (-1)) rfl ?_
            exact ea_iretE (pc := 80) dX12_lead_80 rfl rfl EX rfl
          · have EX := EX.trans (if_pos c5)
            have K := K.1 c5
            refine ea_aload_n (pc := 69) dX12_lead_69 rfl 0 rfl ?_
            refine ea_getR (pc := 70) dX12_lead_70 ec_12 (k := 90) (Nat.le_of_ble_eq_true rfl) rfl (Or.inl ew_1435) (hs.1 0 (by decide)).1 (hs.1 0 (by decide)).2.1 (hs.2 0 90 rfl) ?_
            refine ea_iload (pc := 73) dX12_lead_73 2 rfl ?_
            have z4 := K
            refine ea_iald (pc := 75) dX12_lead_75 (hs.1 64 (by decide)).1 (hs.1 64 (by decide)).2.1 (ea_vpl (hs.1 64 (by decide)).2.2 z4) ?_
            refine ea_goto (pc := 76) (tgt := 80) dX12_lead_76 rfl ?_
            exact ea_iretE (pc := 80) dX12_lead_80 rfl rfl EX rfl
        · have EX := EX.trans (if_pos c7)
          have K := K.1 c7
          refine ea_aload_n (pc := 54) dX12_lead_54 rfl 0 rfl ?_
          refine ea_getR (pc := 55) dX12_lead_55 ec_12 (k := 89) (Nat.le_of_ble_eq_true rfl) rfl (Or.inl ew_1434) (hs.1 0 (by decide)).1 (hs.1 0 (by decide)).2.1 (hs.2 0 89 rfl) ?_
          refine ea_iload (pc := 58) dX12_lead_58 2 rfl ?_
          have z6 := K
          refine ea_iald (pc := 60) dX12_lead_60 (hs.1 63 (by decide)).1 (hs.1 63 (by decide)).2.1 (ea_vpl (hs.1 63 (by decide)).2.2 z6) ?_
          refine ea_goto (pc := 61) (tgt := 80) dX12_lead_61 rfl ?_
          exact ea_iretE (pc := 80) dX12_lead_80 rfl rfl EX rfl
      · have EX := EX.trans (if_pos c9)
        have K := K.1 c9
        refine ea_aload_n (pc := 39) dX12_lead_39 rfl 0 rfl ?_
        refine ea_getR (pc := 40) dX12_lead_40 ec_12 (k := 88) (Nat.le_of_ble_eq_true rfl) rfl (Or.inl ew_1433) (hs.1 0 (by decide)).1 (hs.1 0 (by decide)).2.1 (hs.2 0 88 rfl) ?_
        refine ea_iload (pc := 43) dX12_lead_43 2 rfl ?_
        have z8 := K
        refine ea_iald (pc := 45) dX12_lead_45 (hs.1 62 (by decide)).1 (hs.1 62 (by decide)).2.1 (ea_vpl (hs.1 62 (by decide)).2.2 z8) ?_
        refine ea_goto (pc := 46) (tgt := 80) dX12_lead_46 rfl ?_
        exact ea_iretE (pc := 80) dX12_lead_80 rfl rfl EX rfl
    · have EX := EX.trans (if_pos c10)
      refine ea_iconst (pc := 24) dX12_lead_24 (v := (-1)) rfl ?_
      exact ea_iretE (pc := 25) dX12_lead_25 rfl rfl EX rfl
noncomputable def vX12_sorter (b0 : Nat) (x1 : Int32) (x2 : Int32) (h : ea_H) : Int32 := (if (vX12_isIn (x1 : Int32) (1 : Int32) (99 : Int32) h) = (0 : Int32) then ((-1) : Int32) else (if (vX12_isIn (x2 : Int32) (0 : Int32) (4095 : Int32) h) = (0 : Int32) then ((-1) : Int32) else (if (ea_i h (b0 + 0) 92) = (8 : Int32) then ((-1) : Int32) else ((ea_i (ea_wi (ea_wi (ea_wi h (b0 + 66) (Int32.toNatClampNeg (ea_i h (b0 + 0) 92)) x1) (b0 + 67) (Int32.toNatClampNeg (ea_i (ea_wi h (b0 + 66) (Int32.toNatClampNeg (ea_i h (b0 + 0) 92)) x1) (b0 + 0) 92)) x2) (b0 + 0) 92 ((ea_i (ea_wi (ea_wi h (b0 + 66) (Int32.toNatClampNeg (ea_i h (b0 + 0) 92)) x1) (b0 + 67) (Int32.toNatClampNeg (ea_i (ea_wi h (b0 + 66) (Int32.toNatClampNeg (ea_i h (b0 + 0) 92)) x1) (b0 + 0) 92)) x2) (b0 + 0) 92) + (1 : Int32))) (b0 + 0) 92) - (1 : Int32)))))
noncomputable def wX12_sorter (b0 : Nat) (x1 : Int32) (x2 : Int32) (h : ea_H) : ea_H := (if (vX12_isIn (x1 : Int32) (1 : Int32) (99 : Int32) h) = (0 : Int32) then h else (if (vX12_isIn (x2 : Int32) (0 : Int32) (4095 : Int32) h) = (0 : Int32) then h else (if (ea_i h (b0 + 0) 92) = (8 : Int32) then h else (ea_wi (ea_wi (ea_wi h (b0 + 66) (Int32.toNatClampNeg (ea_i h (b0 + 0) 92)) x1) (b0 + 67) (Int32.toNatClampNeg (ea_i (ea_wi h (b0 + 66) (Int32.toNatClampNeg (ea_i h (b0 + 0) 92)) x1) (b0 + 0) 92)) x2) (b0 + 0) 92 ((ea_i (ea_wi (ea_wi h (b0 + 66) (Int32.toNatClampNeg (ea_i h (b0 + 0) 92)) x1) (b0 + 67) (Int32.toNatClampNeg (ea_i (ea_wi h (b0 + 66) (Int32.toNatClampNeg (ea_i h (b0 + 0) 92)) x1) (b0 + 0) 92)) x2) (b0 + 0) 92) + (1 : Int32))))))
def okX12_sorter (b0 : Nat) (x1 : Int32) (x2 : Int32) (h : ea_H) : Prop := ((vX12_isIn (x1 : Int32) (1 : Int32) (99 : Int32) h) = (0 : Int32) → True) ∧ (¬ (vX12_isIn (x1 : Int32) (1 : Int32) (99 : Int32) h) = (0 : Int32) → ((vX12_isIn (x2 : Int32) (0 : Int32) (4095 : Int32) h) = (0 : Int32) → True) ∧ (¬ (vX12_isIn (x2 : Int32) (0 : Int32) (4095 : Int32) h) = (0 : Int32) → ((ea_i h (b0 + 0) 92) = (8 : Int32) → True) ∧ (¬ (ea_i h (b0 + 0) 92) = (8 : Int32) → vp_in (ea_i h (b0 + 0) 92) 8 ∧ (vp_in (ea_i (ea_wi h (b0 + 66) (Int32.toNatClampNeg (ea_i h (b0 + 0) 92)) x1) (b0 + 0) 92) 8))))
theorem shX12_sorter {b0 : Nat} {x1 : Int32} {x2 : Int32} {h : ea_H} (hs : ShM b0 h) : ShM b0 (wX12_sorter b0 x1 x2 h) := (ShM_it hs (ShM_it hs (ShM_it hs (ShM_wi (ShM_wi (ShM_wi hs))))))
theorem sX12_sorter {d : Nat} {b0 : Nat} {x1 : Int32} {x2 : Int32} {h : ea_H} (hd : 2 ≤ d) (hs : ShM b0 h) (K : okX12_sorter b0 x1 x2 h) : ea_Met mX12_sorter d [vR (some (b0 + 0)), vI x1, vI x2] h (some (vI (vX12_sorter b0 x1 x2 h))) (wX12_sorter b0 x1 x2 h) := by
  obtain ⟨X, EX⟩ : ∃ z, z = vX12_sorter b0 x1 x2 h := ⟨_, rfl⟩
  rw [← EX]
  unfold vX12_sorter at EX
  obtain ⟨Y, EY⟩ : ∃ z, z = wX12_sorter b0 x1 x2 h := ⟨_, rfl⟩
  rw [← EY]
  unfold wX12_sorter at EY
  unfold okX12_sorter at K
  refine ea_enter rfl (Nat.le_of_ble_eq_true rfl) ?_
  refine ea_iload_n (pc := 0) dX12_sorter_0 rfl 1 rfl ?_
  refine ea_iconst (pc := 1) dX12_sorter_1 (v := 1) rfl ?_
  refine ea_bipush (pc := 2) dX12_sorter_2 (v := 99) rfl ?_
  refine ea_callS (pc := 4) (d' := d - 1) (As := [vI x1, vI 1, vI 99]) (st := []) dX12_sorter_4 kX12_isIn (sX12_isIn (d := d - 1) (by omega)) (by omega) rfl (Nat.le_of_ble_eq_true rfl) ew_1712 ew_1713 ?_
  refine ea_if_eq (pc := 7) (tgt := 30) dX12_sorter_7 rfl (fun c10 => ?_) (fun c10 => ?_)
  · have EX := EX.trans (if_pos c10)
    have EY := EY.trans (if_pos c10)
    refine ea_iconst (pc := 30) dX12_sorter_30 (v := (-1)) rfl ?_
    exact ea_iretE (pc := 31) dX12_sorter_31 rfl rfl EX EY
  · have EX := EX.trans (if_neg c10)
    have EY := EY.trans (if_neg c10)
    have K := K.2 c10
    refine ea_iload_n (pc := 10) dX12_sorter_10 rfl 2 rfl ?_
    refine ea_iconst (pc := 11) dX12_sorter_11 (v := 0) rfl ?_
    refine ea_sipush (pc := 12) dX12_sorter_12 (v := 4095) rfl ?_
    refine ea_callS (pc := 15) (d' := d - 1) (As := [vI x2, vI 0, vI 4095]) (st := []) dX12_sorter_15 kX12_isIn (sX12_isIn (d := d - 1) (by omega)) (by omega) rfl (Nat.le_of_ble_eq_true rfl) ew_1712 ew_1713 ?_
    refine ea_if_eq (pc := 18) (tgt := 30) dX12_sorter_18 rfl (fun c9 => ?_) (fun c9 => ?_)
    · have EX := EX.trans (if_pos c9)
      have EY := EY.trans (if_pos c9)
      refine ea_iconst (pc := 30) dX12_sorter_30 (v := (-1)) rfl ?_
      exact ea_iretE (pc := 31) dX12_sorter_31 rfl rfl EX EY
    · have EX := EX.trans (if_neg c9)
      have EY := EY.trans (if_neg c9)
      have K := K.2 c9
      refine ea_aload_n (pc := 21) dX12_sorter_21 rfl 0 rfl ?_
      refine ea_getI (pc := 22) dX12_sorter_22 ec_12 (k := 92) (Nat.le_of_ble_eq_true rfl) rfl (Or.inl ew_1437) (hs.1 0 (by decide)).1 (hs.1 0 (by decide)).2.1 ?_
      refine ea_bipush (pc := 25) dX12_sorter_25 (v := 8) rfl ?_
      refine ea_icmp_ne (pc := 27) (tgt := 32) dX12_sorter_27 rfl (fun c8 => ?_) (fun c8 => ?_)
      · have EX := EX.trans (if_neg c8)
        have EY := EY.trans (if_neg c8)
        have K := K.2 c8
        refine ea_aload_n (pc := 32) dX12_sorter_32 rfl 0 rfl ?_
        refine ea_getR (pc := 33) dX12_sorter_33 ec_12 (k := 93) (Nat.le_of_ble_eq_true rfl) rfl (Or.inl ew_1438) (hs.1 0 (by decide)).1 (hs.1 0 (by decide)).2.1 (hs.2 0 93 rfl) ?_
        refine ea_aload_n (pc := 36) dX12_sorter_36 rfl 0 rfl ?_
        refine ea_getI (pc := 37) dX12_sorter_37 ec_12 (k := 92) (Nat.le_of_ble_eq_true rfl) rfl (Or.inl ew_1437) (hs.1 0 (by decide)).1 (hs.1 0 (by decide)).2.1 ?_
        refine ea_iload_n (pc := 40) dX12_sorter_40 rfl 1 rfl ?_
        obtain ⟨z3, K⟩ := K
        refine ea_iast (pc := 41) dX12_sorter_41 (hs.1 66 (by decide)).1 (hs.1 66 (by decide)).2.1 (ea_vpl (hs.1 66 (by decide)).2.2 z3) ?_
        have hs4 : ShM b0 (ea_wi h (b0 + 66) (Int32.toNatClampNeg (ea_i h (b0 + 0) 92)) x1) := ShM_wi hs
        refine ea_aload_n (pc := 42) dX12_sorter_42 rfl 0 rfl ?_
        refine ea_getR (pc := 43) dX12_sorter_43 ec_12 (k := 94) (Nat.le_of_ble_eq_true rfl) rfl (Or.inl ew_1439) (hs4.1 0 (by decide)).1 (hs4.1 0 (by decide)).2.1 (hs4.2 0 94 rfl) ?_
        refine ea_aload_n (pc := 46) dX12_sorter_46 rfl 0 rfl ?_
        refine ea_getI (pc := 47) dX12_sorter_47 ec_12 (k := 92) (Nat.le_of_ble_eq_true rfl) rfl (Or.inl ew_1437) (hs4.1 0 (by decide)).1 (hs4.1 0 (by decide)).2.1 ?_
        refine ea_iload_n (pc := 50) dX12_sorter_50 rfl 2 rfl ?_
        have z5 := K
        refine ea_iast (pc := 51) dX12_sorter_51 (hs4.1 67 (by decide)).1 (hs4.1 67 (by decide)).2.1 (ea_vpl (hs4.1 67 (by decide)).2.2 z5) ?_
        have hs6 : ShM b0 (ea_wi (ea_wi h (b0 + 66) (Int32.toNatClampNeg (ea_i h (b0 + 0) 92)) x1) (b0 + 67) (Int32.toNatClampNeg (ea_i (ea_wi h (b0 + 66) (Int32.toNatClampNeg (ea_i h (b0 + 0) 92)) x1) (b0 + 0) 92)) x2) := ShM_wi hs4
        refine ea_aload_n (pc := 52) dX12_sorter_52 rfl 0 rfl ?_
        refine ea_dup (pc := 53) dX12_sorter_53 rfl ?_
        refine ea_getI (pc := 54) dX12_sorter_54 ec_12 (k := 92) (Nat.le_of_ble_eq_true rfl) rfl (Or.inl ew_1437) (hs6.1 0 (by decide)).1 (hs6.1 0 (by decide)).2.1 ?_
        refine ea_iconst (pc := 57) dX12_sorter_57 (v := 1) rfl ?_
        refine ea_iadd (pc := 58) dX12_sorter_58 ?_
        refine ea_putI (pc := 59) dX12_sorter_59 ec_12 (k := 92) (Nat.le_of_ble_eq_true rfl) rfl (Or.inl ⟨rfl, Or.inl ew_1437⟩) rfl rfl (hs6.1 0 (by decide)).1 (hs6.1 0 (by decide)).2.1 ?_
        have hs7 : ShM b0 (ea_wi (ea_wi (ea_wi h (b0 + 66) (Int32.toNatClampNeg (ea_i h (b0 + 0) 92)) x1) (b0 + 67) (Int32.toNatClampNeg (ea_i (ea_wi h (b0 + 66) (Int32.toNatClampNeg (ea_i h (b0 + 0) 92)) x1) (b0 + 0) 92)) x2) (b0 + 0) 92 ((ea_i (ea_wi (ea_wi h (b0 + 66) (Int32.toNatClampNeg (ea_i h (b0 + 0) 92)) x1) (b0 + 67) (Int32.toNatClampNeg (ea_i (ea_wi h (b0 + 66) (Int32.toNatClampNeg (ea_i h (b0 + 0) 92)) x1) (b0 + 0) 92)) x2) (b0 + 0) 92) + (1 : Int32))) := ShM_wi hs6
        refine ea_aload_n (pc := 62) dX12_sorter_62 rfl 0 rfl ?_
        refine ea_getI (pc := 63) dX12_sorter_63 ec_12 (k := 92) (Nat.le_of_ble_eq_true rfl) rfl (Or.inl ew_1437) (hs7.1 0 (by decide)).1 (hs7.1 0 (by decide)).2.1 ?_
        refine ea_iconst (pc := 66) dX12_sorter_66 (v := 1) rfl ?_
        refine ea_isub (pc := 67) dX12_sorter_67 ?_
        exact ea_iretE (pc := 68) dX12_sorter_68 rfl rfl EX EY
      · have EX := EX.trans (if_pos c8)
        have EY := EY.trans (if_pos c8)
        refine ea_iconst (pc := 30) dX12_sorter_30 (v := (-1)) rfl ?_
        exact ea_iretE (pc := 31) dX12_sorter_31 rfl rfl EX EY
noncomputable def vX12_seat (b0 : Nat) (x1 : Int32) (x2 : Int32) (h : ea_H) : Int32 := (if (vX12_isIn (x1 : Int32) (0 : Int32) (((ea_i h (b0 + 0) 92) - (1 : Int32)) : Int32) h) = (0 : Int32) then (0 : Int32) else (if x2 = ((-1) : Int32) then (1 : Int32) else (if (vX12_isTrain b0 (x2 : Int32) h) = (0 : Int32) then (0 : Int32) else (1 : Int32))))
noncomputable def wX12_seat (b0 : Nat) (x1 : Int32) (x2 : Int32) (h : ea_H) : ea_H := (if (vX12_isIn (x1 : Int32) (0 : Int32) (((ea_i h (b0 + 0) 92) - (1 : Int32)) : Int32) h) = (0 : Int32) then h else (if x2 = ((-1) : Int32) then (ea_wi h (b0 + 68) (Int32.toNatClampNeg x1) x2) else (if (vX12_isTrain b0 (x2 : Int32) h) = (0 : Int32) then h else (ea_wi h (b0 + 68) (Int32.toNatClampNeg x1) x2))))
def okX12_seat (b0 : Nat) (x1 : Int32) (x2 : Int32) (h : ea_H) : Prop := ((vX12_isIn (x1 : Int32) (0 : Int32) (((ea_i h (b0 + 0) 92) - (1 : Int32)) : Int32) h) = (0 : Int32) → True) ∧ (¬ (vX12_isIn (x1 : Int32) (0 : Int32) (((ea_i h (b0 + 0) 92) - (1 : Int32)) : Int32) h) = (0 : Int32) → (x2 = ((-1) : Int32) → vp_in x1 8) ∧ (¬ x2 = ((-1) : Int32) → ((vX12_isTrain b0 (x2 : Int32) h) = (0 : Int32) → True) ∧ (¬ (vX12_isTrain b0 (x2 : Int32) h) = (0 : Int32) → vp_in x1 8)))
theorem bo_vX12_seat (b0 : Nat) (x1 : Int32) (x2 : Int32) (h : ea_H) : vX12_seat b0 x1 x2 h = 0 ∨ vX12_seat b0 x1 x2 h = 1 := (ea_itB (Or.inl rfl) (ea_itB (Or.inr rfl) (ea_itB (Or.inl rfl) (Or.inr rfl))))
theorem shX12_seat {b0 : Nat} {x1 : Int32} {x2 : Int32} {h : ea_H} (hs : ShM b0 h) : ShM b0 (wX12_seat b0 x1 x2 h) := (ShM_it hs (ShM_it (ShM_wi hs) (ShM_it hs (ShM_wi hs))))
theorem sX12_seat {d : Nat} {b0 : Nat} {x1 : Int32} {x2 : Int32} {h : ea_H} (hd : 3 ≤ d) (hs : ShM b0 h) (K : okX12_seat b0 x1 x2 h) : ea_Met mX12_seat d [vR (some (b0 + 0)), vI x1, vI x2] h (some (vI (vX12_seat b0 x1 x2 h))) (wX12_seat b0 x1 x2 h) := by
  obtain ⟨X, EX⟩ : ∃ z, z = vX12_seat b0 x1 x2 h := ⟨_, rfl⟩
  rw [← EX]
  unfold vX12_seat at EX
  obtain ⟨Y, EY⟩ : ∃ z, z = wX12_seat b0 x1 x2 h := ⟨_, rfl⟩
  rw [← EY]
  unfold wX12_seat at EY
  unfold okX12_seat at K
  refine ea_enter rfl (Nat.le_of_ble_eq_true rfl) ?_
  refine ea_iload_n (pc := 0) dX12_seat_0 rfl 1 rfl ?_
  refine ea_iconst (pc := 1) dX12_seat_1 (v := 0) rfl ?_
  refine ea_aload_n (pc := 2) dX12_seat_2 rfl 0 rfl ?_
  refine ea_getI (pc := 3) dX12_seat_3 ec_12 (k := 92) (Nat.le_of_ble_eq_true rfl) rfl (Or.inl ew_1437) (hs.1 0 (by decide)).1 (hs.1 0 (by decide)).2.1 ?_
  refine ea_iconst (pc := 6) dX12_seat_6 (v := 1) rfl ?_
  refine ea_isub (pc := 7) dX12_seat_7 ?_
  refine ea_callS (pc := 8) (d' := d - 1) (As := [vI x1, vI 0, vI ((ea_i h (b0 + 0) 92) - (1 : Int32))]) (st := []) dX12_seat_8 kX12_isIn (sX12_isIn (d := d - 1) (by omega)) (by omega) rfl (Nat.le_of_ble_eq_true rfl) ew_1712 ew_1713 ?_
  refine ea_if_eq (pc := 11) (tgt := 27) dX12_seat_11 rfl (fun c9 => ?_) (fun c9 => ?_)
  · have EX := EX.trans (if_pos c9)
    have EY := EY.trans (if_pos c9)
    refine ea_iconst (pc := 27) dX12_seat_27 (v := 0) rfl ?_
    exact ea_iretE (pc := 28) dX12_seat_28 rfl (ea_bn (Or.inl rfl)) EX EY
  · have EX := EX.trans (if_neg c9)
    have EY := EY.trans (if_neg c9)
    have K := K.2 c9
    refine ea_iload_n (pc := 14) dX12_seat_14 rfl 2 rfl ?_
    refine ea_iconst (pc := 15) dX12_seat_15 (v := (-1)) rfl ?_
    refine ea_icmp_eq (pc := 16) (tgt := 29) dX12_seat_16 rfl (fun c8 => ?_) (fun c8 => ?_)
    · have EX := EX.trans (if_pos c8)
      have EY := EY.trans (if_pos c8)
      have K := K.1 c8
      refine ea_aload_n (pc := 29) dX12_seat_29 rfl 0 rfl ?_
      refine ea_getR (pc := 30) dX12_seat_30 ec_12 (k := 95) (Nat.le_of_ble_eq_true rfl) rfl (Or.inl ew_1440) (hs.1 0 (by decide)).1 (hs.1 0 (by decide)).2.1 (hs.2 0 95 rfl) ?_
      refine ea_iload_n (pc := 33) dX12_seat_33 rfl 1 rfl ?_
      refine ea_iload_n (pc := 34) dX12_seat_34 rfl 2 rfl ?_
      have z2 := K
      refine ea_iast (pc := 35) dX12_seat_35 (hs.1 68 (by decide)).1 (hs.1 68 (by decide)).2.1 (ea_vpl (hs.1 68 (by decide)).2.2 z2) ?_
      have hs3 : ShM b0 (ea_wi h (b0 + 68) (Int32.toNatClampNeg x1) x2) := ShM_wi hs
      refine ea_iconst (pc := 36) dX12_seat_36 (v := 1) rfl ?_
      exact ea_iretE (pc := 37) dX12_seat_37 rfl (ea_bn (Or.inr rfl)) EX EY
    · have EX := EX.trans (if_neg c8)
      have EY := EY.trans (if_neg c8)
      have K := K.2 c8
      refine ea_aload_n (pc := 19) dX12_seat_19 rfl 0 rfl ?_
      refine ea_iload_n (pc := 20) dX12_seat_20 rfl 2 rfl ?_
      refine ea_callV (pc := 21) (d' := d - 1) (As := [vI x2]) (st := []) dX12_seat_21 kX12_isTrain (sX12_isTrain (d := d - 1) (by omega) hs) (by omega) rfl (Nat.le_of_ble_eq_true rfl) ew_1736 ew_1738 ew_50 (ci := 12) rfl (by decide) (hs.1 0 (by decide)).1 (hs.1 0 (by decide)).2.1 ?_
      refine ea_if_ne (pc := 24) (tgt := 29) dX12_seat_24 rfl (fun c7 => ?_) (fun c7 => ?_)
      · have EX := EX.trans (if_neg c7)
        have EY := EY.trans (if_neg c7)
        have K := K.2 c7
        refine ea_aload_n (pc := 29) dX12_seat_29 rfl 0 rfl ?_
        refine ea_getR (pc := 30) dX12_seat_30 ec_12 (k := 95) (Nat.le_of_ble_eq_true rfl) rfl (Or.inl ew_1440) (hs.1 0 (by decide)).1 (hs.1 0 (by decide)).2.1 (hs.2 0 95 rfl) ?_
        refine ea_iload_n (pc := 33) dX12_seat_33 rfl 1 rfl ?_
        refine ea_iload_n (pc := 34) dX12_seat_34 rfl 2 rfl ?_
        have z5 := K
        refine ea_iast (pc := 35) dX12_seat_35 (hs.1 68 (by decide)).1 (hs.1 68 (by decide)).2.1 (ea_vpl (hs.1 68 (by decide)).2.2 z5) ?_
        have hs6 : ShM b0 (ea_wi h (b0 + 68) (Int32.toNatClampNeg x1) x2) := ShM_wi hs
        refine ea_iconst (pc := 36) dX12_seat_36 (v := 1) rfl ?_
        exact ea_iretE (pc := 37) dX12_seat_37 rfl (ea_bn (Or.inr rfl)) EX EY
      · have EX := EX.trans (if_pos c7)
        have EY := EY.trans (if_pos c7)
        refine ea_iconst (pc := 27) dX12_seat_27 (v := 0) rfl ?_
        exact ea_iretE (pc := 28) dX12_seat_28 rfl (ea_bn (Or.inl rfl)) EX EY
noncomputable def vX12_code (x0 : Int32) (h : ea_H) : Int32 := (((10 : Int32) * (x0 - x0 / (7 : Int32) * (7 : Int32))) + (x0 / (7 : Int32)))
theorem sX12_code {d : Nat} {x0 : Int32} {h : ea_H} (hd : 1 ≤ d) : ea_Met mX12_code d [vI x0] h (some (vI (vX12_code x0 h))) h := by
  obtain ⟨X, EX⟩ : ∃ z, z = vX12_code x0 h := ⟨_, rfl⟩
  rw [← EX]
  unfold vX12_code at EX
  refine ea_enter rfl (Nat.le_of_ble_eq_true rfl) ?_
  refine ea_bipush (pc := 0) dX12_code_0 (v := 10) rfl ?_
  refine ea_iload_n (pc := 2) dX12_code_2 rfl 0 rfl ?_
  refine ea_bipush (pc := 3) dX12_code_3 (v := 7) rfl ?_
  refine ea_irem (pc := 5) dX12_code_5 (by decide) ?_
  refine ea_imul (pc := 6) dX12_code_6 ?_
  refine ea_iload_n (pc := 7) dX12_code_7 rfl 0 rfl ?_
  refine ea_bipush (pc := 8) dX12_code_8 (v := 7) rfl ?_
  refine ea_idiv (pc := 10) dX12_code_10 (by decide) ?_
  refine ea_iadd (pc := 11) dX12_code_11 ?_
  exact ea_iretE (pc := 12) dX12_code_12 rfl rfl EX rfl
noncomputable def vX12_isAboard (b0 : Nat) (x1 : Int32) (x2 : Int32) (h : ea_H) : Int32 := (if (ea_i h (b0 + 55) (Int32.toNatClampNeg x1)) = (1 : Int32) then (if (ea_i h (b0 + 56) (Int32.toNatClampNeg x1)) = (vX12_code (x2 : Int32) h) then (1 : Int32) else (0 : Int32)) else (0 : Int32))
def okX12_isAboard (b0 : Nat) (x1 : Int32) (x2 : Int32) (h : ea_H) : Prop := vp_in x1 120 ∧ (((ea_i h (b0 + 55) (Int32.toNatClampNeg x1)) = (1 : Int32) → vp_in x1 120) ∧ (¬ (ea_i h (b0 + 55) (Int32.toNatClampNeg x1)) = (1 : Int32) → True))
theorem bo_vX12_isAboard (b0 : Nat) (x1 : Int32) (x2 : Int32) (h : ea_H) : vX12_isAboard b0 x1 x2 h = 0 ∨ vX12_isAboard b0 x1 x2 h = 1 := (ea_itB (ea_itB (Or.inr rfl) (Or.inl rfl)) (Or.inl rfl))
theorem sX12_isAboard {d : Nat} {b0 : Nat} {x1 : Int32} {x2 : Int32} {h : ea_H} (hd : 2 ≤ d) (hs : ShM b0 h) (K : okX12_isAboard b0 x1 x2 h) : ea_Met mX12_isAboard d [vR (some (b0 + 0)), vI x1, vI x2] h (some (vI (vX12_isAboard b0 x1 x2 h))) h := by
  obtain ⟨X, EX⟩ : ∃ z, z = vX12_isAboard b0 x1 x2 h := ⟨_, rfl⟩
  rw [← EX]
  unfold vX12_isAboard at EX
  unfold okX12_isAboard at K
  refine ea_enter rfl (Nat.le_of_ble_eq_true rfl) ?_
  refine ea_aload_n (pc := 0) dX12_isAboard_0 rfl 0 rfl ?_
  refine ea_getR (pc := 1) dX12_isAboard_1 ec_12 (k := 81) (Nat.le_of_ble_eq_true rfl) rfl (Or.inl ew_1426) (hs.1 0 (by decide)).1 (hs.1 0 (by decide)).2.1 (hs.2 0 81 rfl) ?_
  refine ea_iload_n (pc := 4) dX12_isAboard_4 rfl 1 rfl ?_
  obtain ⟨z1, K⟩ := K
  refine ea_iald (pc := 5) dX12_isAboard_5 (hs.1 55 (by decide)).1 (hs.1 55 (by decide)).2.1 (ea_vpl (hs.1 55 (by decide)).2.2 z1) ?_
  refine ea_iconst (pc := 6) dX12_isAboard_6 (v := 1) rfl ?_
  refine ea_icmp_ne (pc := 7) (tgt := 27) dX12_isAboard_7 rfl (fun c5 => ?_) (fun c5 => ?_)
  · have EX := EX.trans (if_neg c5)
    refine ea_iconst (pc := 27) dX12_isAboard_27 (v := 0) rfl ?_
    exact ea_iretE (pc := 28) dX12_isAboard_28 rfl (ea_bn (Or.inl rfl)) EX rfl
  · have EX := EX.trans (if_pos c5)
    have K := K.1 c5
    refine ea_aload_n (pc := 10) dX12_isAboard_10 rfl 0 rfl ?_
    refine ea_getR (pc := 11) dX12_isAboard_11 ec_12 (k := 82) (Nat.le_of_ble_eq_true rfl) rfl (Or.inl ew_1427) (hs.1 0 (by decide)).1 (hs.1 0 (by decide)).2.1 (hs.2 0 82 rfl) ?_
    refine ea_iload_n (pc := 14) dX12_isAboard_14 rfl 1 rfl ?_
    have z2 := K
    refine ea_iald (pc := 15) dX12_isAboard_15 (hs.1 56 (by decide)).1 (hs.1 56 (by decide)).2.1 (ea_vpl (hs.1 56 (by decide)).2.2 z2) ?_
    refine ea_iload_n (pc := 16) dX12_isAboard_16 rfl 2 rfl ?_
    refine ea_callS (pc := 17) (d' := d - 1) (As := [vI x2]) (st := [vI (ea_i h (b0 + 56) (Int32.toNatClampNeg x1))]) dX12_isAboard_17 kX12_code (sX12_code (d := d - 1) (by omega)) (by omega) rfl (Nat.le_of_ble_eq_true rfl) ew_2071 ew_2072 ?_
    refine ea_icmp_ne (pc := 20) (tgt := 27) dX12_isAboard_20 rfl (fun c4 => ?_) (fun c4 => ?_)
    · have EX := EX.trans (if_neg c4)
      refine ea_iconst (pc := 27) dX12_isAboard_27 (v := 0) rfl ?_
      exact ea_iretE (pc := 28) dX12_isAboard_28 rfl (ea_bn (Or.inl rfl)) EX rfl
    · have EX := EX.trans (if_pos c4)
      refine ea_iconst (pc := 23) dX12_isAboard_23 (v := 1) rfl ?_
      refine ea_goto (pc := 24) (tgt := 28) dX12_isAboard_24 rfl ?_
      exact ea_iretE (pc := 28) dX12_isAboard_28 rfl (ea_bn (Or.inr rfl)) EX rfl
noncomputable def wX12_putsDown (b0 : Nat) (x1 : Int32) (x2 : Int32) (x3 : Int32) (h : ea_H) : ea_H := (if (ea_i (ea_wi (ea_wi h (b0 + 61) (Int32.toNatClampNeg x1) 0) (b0 + 57) (Int32.toNatClampNeg x1) (-1)) (b0 + 40) (Int32.toNatClampNeg x1)) = x3 then (if (ea_i (ea_wi (ea_wi h (b0 + 61) (Int32.toNatClampNeg x1) 0) (b0 + 57) (Int32.toNatClampNeg x1) (-1)) (b0 + 54) (Int32.toNatClampNeg x1)) = (0 : Int32) then (if (ea_i (wX12_turns b0 (x1 : Int32) (x2 : Int32) (2 : Int32) (x3 : Int32) (ea_wi (ea_wi h (b0 + 61) (Int32.toNatClampNeg x1) 0) (b0 + 57) (Int32.toNatClampNeg x1) (-1))) (b0 + 55) (Int32.toNatClampNeg x1)) = (3 : Int32) then (ea_wi (wX12_turns b0 (x1 : Int32) (x2 : Int32) (2 : Int32) (x3 : Int32) (ea_wi (ea_wi h (b0 + 61) (Int32.toNatClampNeg x1) 0) (b0 + 57) (Int32.toNatClampNeg x1) (-1))) (b0 + 51) (Int32.toNatClampNeg x1) 0) else (wX12_turns b0 (x1 : Int32) (x2 : Int32) (2 : Int32) (x3 : Int32) (ea_wi (ea_wi h (b0 + 61) (Int32.toNatClampNeg x1) 0) (b0 + 57) (Int32.toNatClampNeg x1) (-1)))) else (if (ea_i (wX12_turns b0 (x1 : Int32) (x2 : Int32) (3 : Int32) (x3 : Int32) (ea_wi (ea_wi h (b0 + 61) (Int32.toNatClampNeg x1) 0) (b0 + 57) (Int32.toNatClampNeg x1) (-1))) (b0 + 55) (Int32.toNatClampNeg x1)) = (3 : Int32) then (ea_wi (wX12_turns b0 (x1 : Int32) (x2 : Int32) (3 : Int32) (x3 : Int32) (ea_wi (ea_wi h (b0 + 61) (Int32.toNatClampNeg x1) 0) (b0 + 57) (Int32.toNatClampNeg x1) (-1))) (b0 + 51) (Int32.toNatClampNeg x1) 0) else (wX12_turns b0 (x1 : Int32) (x2 : Int32) (3 : Int32) (x3 : Int32) (ea_wi (ea_wi h (b0 + 61) (Int32.toNatClampNeg x1) 0) (b0 + 57) (Int32.toNatClampNeg x1) (-1))))) else (if (ea_i (wX12_turns b0 (x1 : Int32) (x2 : Int32) (0 : Int32) (x3 : Int32) (ea_wi (ea_wi h (b0 + 61) (Int32.toNatClampNeg x1) 0) (b0 + 57) (Int32.toNatClampNeg x1) (-1))) (b0 + 55) (Int32.toNatClampNeg x1)) = (3 : Int32) then (ea_wi (wX12_turns b0 (x1 : Int32) (x2 : Int32) (0 : Int32) (x3 : Int32) (ea_wi (ea_wi h (b0 + 61) (Int32.toNatClampNeg x1) 0) (b0 + 57) (Int32.toNatClampNeg x1) (-1))) (b0 + 51) (Int32.toNatClampNeg x1) 0) else (wX12_turns b0 (x1 : Int32) (x2 : Int32) (0 : Int32) (x3 : Int32) (ea_wi (ea_wi h (b0 + 61) (Int32.toNatClampNeg x1) 0) (b0 + 57) (Int32.toNatClampNeg x1) (-1)))))
def okX12_putsDown (b0 : Nat) (x1 : Int32) (x2 : Int32) (x3 : Int32) (h : ea_H) : Prop := vp_in x1 120 ∧ (vp_in x1 120 ∧ (vp_in x1 120 ∧ (((ea_i (ea_wi (ea_wi h (b0 + 61) (Int32.toNatClampNeg x1) 0) (b0 + 57) (Int32.toNatClampNeg x1) (-1)) (b0 + 40) (Int32.toNatClampNeg x1)) = x3 → vp_in x1 120 ∧ (((ea_i (ea_wi (ea_wi h (b0 + 61) (Int32.toNatClampNeg x1) 0) (b0 + 57) (Int32.toNatClampNeg x1) (-1)) (b0 + 54) (Int32.toNatClampNeg x1)) = (0 : Int32) → (okX12_turns b0 (x1 : Int32) (x2 : Int32) (2 : Int32) (x3 : Int32) (ea_wi (ea_wi h (b0 + 61) (Int32.toNatClampNeg x1) 0) (b0 + 57) (Int32.toNatClampNeg x1) (-1))) ∧ (vp_in x1 120 ∧ (((ea_i (wX12_turns b0 (x1 : Int32) (x2 : Int32) (2 : Int32) (x3 : Int32) (ea_wi (ea_wi h (b0 + 61) (Int32.toNatClampNeg x1) 0) (b0 + 57) (Int32.toNatClampNeg x1) (-1))) (b0 + 55) (Int32.toNatClampNeg x1)) = (3 : Int32) → vp_in x1 120) ∧ (¬ (ea_i (wX12_turns b0 (x1 : Int32) (x2 : Int32) (2 : Int32) (x3 : Int32) (ea_wi (ea_wi h (b0 + 61) (Int32.toNatClampNeg x1) 0) (b0 + 57) (Int32.toNatClampNeg x1) (-1))) (b0 + 55) (Int32.toNatClampNeg x1)) = (3 : Int32) → True)))) ∧ (¬ (ea_i (ea_wi (ea_wi h (b0 + 61) (Int32.toNatClampNeg x1) 0) (b0 + 57) (Int32.toNatClampNeg x1) (-1)) (b0 + 54) (Int32.toNatClampNeg x1)) = (0 : Int32) → (okX12_turns b0 (x1 : Int32) (x2 : Int32) (3 : Int32) (x3 : Int32) (ea_wi (ea_wi h (b0 + 61) (Int32.toNatClampNeg x1) 0) (b0 + 57) (Int32.toNatClampNeg x1) (-1))) ∧ (vp_in x1 120 ∧ (((ea_i (wX12_turns b0 (x1 : Int32) (x2 : Int32) (3 : Int32) (x3 : Int32) (ea_wi (ea_wi h (b0 + 61) (Int32.toNatClampNeg x1) 0) (b0 + 57) (Int32.toNatClampNeg x1) (-1))) (b0 + 55) (Int32.toNatClampNeg x1)) = (3 : Int32) → vp_in x1 120) ∧ (¬ (ea_i (wX12_turns b0 (x1 : Int32) (x2 : Int32) (3 : Int32) (x3 : Int32) (ea_wi (ea_wi h (b0 + 61) (Int32.toNatClampNeg x1) 0) (b0 + 57) (Int32.toNatClampNeg x1) (-1))) (b0 + 55) (Int32.toNatClampNeg x1)) = (3 : Int32) → True)))))) ∧ (¬ (ea_i (ea_wi (ea_wi h (b0 + 61) (Int32.toNatClampNeg x1) 0) (b0 + 57) (Int32.toNatClampNeg x1) (-1)) (b0 + 40) (Int32.toNatClampNeg x1)) = x3 → (okX12_turns b0 (x1 : Int32) (x2 : Int32) (0 : Int32) (x3 : Int32) (ea_wi (ea_wi h (b0 + 61) (Int32.toNatClampNeg x1) 0) (b0 + 57) (Int32.toNatClampNeg x1) (-1))) ∧ (vp_in x1 120 ∧ (((ea_i (wX12_turns b0 (x1 : Int32) (x2 : Int32) (0 : Int32) (x3 : Int32) (ea_wi (ea_wi h (b0 + 61) (Int32.toNatClampNeg x1) 0) (b0 + 57) (Int32.toNatClampNeg x1) (-1))) (b0 + 55) (Int32.toNatClampNeg x1)) = (3 : Int32) → vp_in x1 120) ∧ (¬ (ea_i (wX12_turns b0 (x1 : Int32) (x2 : Int32) (0 : Int32) (x3 : Int32) (ea_wi (ea_wi h (b0 + 61) (Int32.toNatClampNeg x1) 0) (b0 + 57) (Int32.toNatClampNeg x1) (-1))) (b0 + 55) (Int32.toNatClampNeg x1)) = (3 : Int32) → True)))))))
theorem shX12_putsDown {b0 : Nat} {x1 : Int32} {x2 : Int32} {x3 : Int32} {h : ea_H} (hs : ShM b0 h) : ShM b0 (wX12_putsDown b0 x1 x2 x3 h) := (ShM_it (ShM_it (ShM_it (ShM_wi (shX12_turns (ShM_wi (ShM_wi hs)))) (shX12_turns (ShM_wi (ShM_wi hs)))) (ShM_it (ShM_wi (shX12_turns (ShM_wi (ShM_wi hs)))) (shX12_turns (ShM_wi (ShM_wi hs))))) (ShM_it (ShM_wi (shX12_turns (ShM_wi (ShM_wi hs)))) (shX12_turns (ShM_wi (ShM_wi hs)))))
theorem sX12_putsDown {d : Nat} {b0 : Nat} {x1 : Int32} {x2 : Int32} {x3 : Int32} {h : ea_H} (hd : 2 ≤ d) (hs : ShM b0 h) (K : okX12_putsDown b0 x1 x2 x3 h) : ea_Met mX12_putsDown d [vR (some (b0 + 0)), vI x1, vI x2, vI x3] h none (wX12_putsDown b0 x1 x2 x3 h) := by
  obtain ⟨Y, EY⟩ : ∃ z, z = wX12_putsDown b0 x1 x2 x3 h := ⟨_, rfl⟩
  rw [← EY]
  unfold wX12_putsDown at EY
  unfold okX12_putsDown at K
  refine ea_enter rfl (Nat.le_of_ble_eq_true rfl) ?_
  refine ea_aload_n (pc := 0) dX12_putsDown_0 rfl 0 rfl ?_
  refine ea_getR (pc := 1) dX12_putsDown_1 ec_12 (k := 87) (Nat.le_of_ble_eq_true rfl) rfl (Or.inl ew_1432) (hs.1 0 (by decide)).1 (hs.1 0 (by decide)).2.1 (hs.2 0 87 rfl) ?_
  refine ea_iload_n (pc := 4) dX12_putsDown_4 rfl 1 rfl ?_
  refine ea_iconst (pc := 5) dX12_putsDown_5 (v := 0) rfl ?_
  obtain ⟨z1, K⟩ := K
  refine ea_zast (pc := 6) dX12_putsDown_6 (y := 0) (ea_bn (Or.inl rfl)) (hs.1 61 (by decide)).1 (hs.1 61 (by decide)).2.1 (ea_vpl (hs.1 61 (by decide)).2.2 z1) ?_
  have hs2 : ShM b0 (ea_wi h (b0 + 61) (Int32.toNatClampNeg x1) 0) := ShM_wi hs
  refine ea_aload_n (pc := 7) dX12_putsDown_7 rfl 0 rfl ?_
  refine ea_getR (pc := 8) dX12_putsDown_8 ec_12 (k := 83) (Nat.le_of_ble_eq_true rfl) rfl (Or.inl ew_1428) (hs2.1 0 (by decide)).1 (hs2.1 0 (by decide)).2.1 (hs2.2 0 83 rfl) ?_
  refine ea_iload_n (pc := 11) dX12_putsDown_11 rfl 1 rfl ?_
  refine ea_iconst (pc := 12) dX12_putsDown_12 (v := (-1)) rfl ?_
  obtain ⟨z3, K⟩ := K
  refine ea_iast (pc := 13) dX12_putsDown_13 (hs2.1 57 (by decide)).1 (hs2.1 57 (by decide)).2.1 (ea_vpl (hs2.1 57 (by decide)).2.2 z3) ?_
  have hs4 : ShM b0 (ea_wi (ea_wi h (b0 + 61) (Int32.toNatClampNeg x1) 0) (b0 + 57) (Int32.toNatClampNeg x1) (-1)) := ShM_wi hs2
  refine ea_aload_n (pc := 14) dX12_putsDown_14 rfl 0 rfl ?_
  refine ea_iload_n (pc := 15) dX12_putsDown_15 rfl 1 rfl ?_
  refine ea_iload_n (pc := 16) dX12_putsDown_16 rfl 2 rfl ?_
  refine ea_aload_n (pc := 17) dX12_putsDown_17 rfl 0 rfl ?_
  refine ea_getR (pc := 18) dX12_putsDown_18 ec_12 (k := 66) (Nat.le_of_ble_eq_true rfl) rfl (Or.inl ew_1411) (hs4.1 0 (by decide)).1 (hs4.1 0 (by decide)).2.1 (hs4.2 0 66 rfl) ?_
  refine ea_iload_n (pc := 21) dX12_putsDown_21 rfl 1 rfl ?_
  obtain ⟨z5, K⟩ := K
  refine ea_iald (pc := 22) dX12_putsDown_22 (hs4.1 40 (by decide)).1 (hs4.1 40 (by decide)).2.1 (ea_vpl (hs4.1 40 (by decide)).2.2 z5) ?_
  refine ea_iload_n (pc := 23) dX12_putsDown_23 rfl 3 rfl ?_
  refine ea_icmp_eq (pc := 24) (tgt := 31) dX12_putsDown_24 rfl (fun c26 => ?_) (fun c26 => ?_)
  · have EY := EY.trans (if_pos c26)
    have K := K.1 c26
    refine ea_aload_n (pc := 31) dX12_putsDown_31 rfl 0 rfl ?_
    refine ea_getR (pc := 32) dX12_putsDown_32 ec_12 (k := 80) (Nat.le_of_ble_eq_true rfl) rfl (Or.inl ew_1425) (hs4.1 0 (by decide)).1 (hs4.1 0 (by decide)).2.1 (hs4.2 0 80 rfl) ?_
    refine ea_iload_n (pc := 35) dX12_putsDown_35 rfl 1 rfl ?_
    obtain ⟨z6, K⟩ := K
    refine ea_zald (pc := 36) dX12_putsDown_36 (hs4.1 54 (by decide)).1 (hs4.1 54 (by decide)).2.1 (ea_vpl (hs4.1 54 (by decide)).2.2 z6) ?_
    refine ea_if_eq (pc := 37) (tgt := 44) dX12_putsDown_37 rfl (fun c19 => ?_) (fun c19 => ?_)
    · have EY := EY.trans (if_pos c19)
      have K := K.1 c19
      refine ea_iconst (pc := 44) dX12_putsDown_44 (v := 2) rfl ?_
      refine ea_iload_n (pc := 45) dX12_putsDown_45 rfl 3 rfl ?_
      obtain ⟨z7, K⟩ := K
      refine ea_callV (pc := 46) (d' := d - 1) (As := [vI x1, vI x2, vI 2, vI x3]) (st := []) dX12_putsDown_46 kX12_turns (sX12_turns (d := d - 1) (by omega) hs4 z7) (by omega) rfl (Nat.le_of_ble_eq_true rfl) ew_2011 ew_2013 ew_88 (ci := 12) rfl (by decide) (hs4.1 0 (by decide)).1 (hs4.1 0 (by decide)).2.1 ?_
      have hs8 : ShM b0 (wX12_turns b0 (x1 : Int32) (x2 : Int32) (2 : Int32) (x3 : Int32) (ea_wi (ea_wi h (b0 + 61) (Int32.toNatClampNeg x1) 0) (b0 + 57) (Int32.toNatClampNeg x1) (-1))) := shX12_turns hs4
      refine ea_aload_n (pc := 49) dX12_putsDown_49 rfl 0 rfl ?_
      refine ea_getR (pc := 50) dX12_putsDown_50 ec_12 (k := 81) (Nat.le_of_ble_eq_true rfl) rfl (Or.inl ew_1426) (hs8.1 0 (by decide)).1 (hs8.1 0 (by decide)).2.1 (hs8.2 0 81 rfl) ?_
      refine ea_iload_n (pc := 53) dX12_putsDown_53 rfl 1 rfl ?_
      obtain ⟨z9, K⟩ := K
      refine ea_iald (pc := 54) dX12_putsDown_54 (hs8.1 55 (by decide)).1 (hs8.1 55 (by decide)).2.1 (ea_vpl (hs8.1 55 (by decide)).2.2 z9) ?_
      refine ea_iconst (pc := 55) dX12_putsDown_55 (v := 3) rfl ?_
      refine ea_icmp_ne (pc := 56) (tgt := 66) dX12_putsDown_56 rfl (fun c12 => ?_) (fun c12 => ?_)
      · have EY := EY.trans (if_neg c12)
        exact ea_vretE (pc := 66) dX12_putsDown_66 rfl EY
      · have EY := EY.trans (if_pos c12)
        have K := K.1 c12
        refine ea_aload_n (pc := 59) dX12_putsDown_59 rfl 0 rfl ?_
        refine ea_getR (pc := 60) dX12_putsDown_60 ec_12 (k := 77) (Nat.le_of_ble_eq_true rfl) rfl (Or.inl ew_1422) (hs8.1 0 (by decide)).1 (hs8.1 0 (by decide)).2.1 (hs8.2 0 77 rfl) ?_
        refine ea_iload_n (pc := 63) dX12_putsDown_63 rfl 1 rfl ?_
        refine ea_iconst (pc := 64) dX12_putsDown_64 (v := 0) rfl ?_
        have z10 := K
        refine ea_iast (pc := 65) dX12_putsDown_65 (hs8.1 51 (by decide)).1 (hs8.1 51 (by decide)).2.1 (ea_vpl (hs8.1 51 (by decide)).2.2 z10) ?_
        have hs11 : ShM b0 (ea_wi (wX12_turns b0 (x1 : Int32) (x2 : Int32) (2 : Int32) (x3 : Int32) (ea_wi (ea_wi h (b0 + 61) (Int32.toNatClampNeg x1) 0) (b0 + 57) (Int32.toNatClampNeg x1) (-1))) (b0 + 51) (Int32.toNatClampNeg x1) 0) := ShM_wi hs8
        exact ea_vretE (pc := 66) dX12_putsDown_66 rfl EY
    · have EY := EY.trans (if_neg c19)
      have K := K.2 c19
      refine ea_iconst (pc := 40) dX12_putsDown_40 (v := 3) rfl ?_
      refine ea_goto (pc := 41) (tgt := 45) dX12_putsDown_41 rfl ?_
      refine ea_iload_n (pc := 45) dX12_putsDown_45 rfl 3 rfl ?_
      obtain ⟨z13, K⟩ := K
      refine ea_callV (pc := 46) (d' := d - 1) (As := [vI x1, vI x2, vI 3, vI x3]) (st := []) dX12_putsDown_46 kX12_turns (sX12_turns (d := d - 1) (by omega) hs4 z13) (by omega) rfl (Nat.le_of_ble_eq_true rfl) ew_2011 ew_2013 ew_88 (ci := 12) rfl (by decide) (hs4.1 0 (by decide)).1 (hs4.1 0 (by decide)).2.1 ?_
      have hs14 : ShM b0 (wX12_turns b0 (x1 : Int32) (x2 : Int32) (3 : Int32) (x3 : Int32) (ea_wi (ea_wi h (b0 + 61) (Int32.toNatClampNeg x1) 0) (b0 + 57) (Int32.toNatClampNeg x1) (-1))) := shX12_turns hs4
      refine ea_aload_n (pc := 49) dX12_putsDown_49 rfl 0 rfl ?_
      refine ea_getR (pc := 50) dX12_putsDown_50 ec_12 (k := 81) (Nat.le_of_ble_eq_true rfl) rfl (Or.inl ew_1426) (hs14.1 0 (by decide)).1 (hs14.1 0 (by decide)).2.1 (hs14.2 0 81 rfl) ?_
      refine ea_iload_n (pc := 53) dX12_putsDown_53 rfl 1 rfl ?_
      obtain ⟨z15, K⟩ := K
      refine ea_iald (pc := 54) dX12_putsDown_54 (hs14.1 55 (by decide)).1 (hs14.1 55 (by decide)).2.1 (ea_vpl (hs14.1 55 (by decide)).2.2 z15) ?_
      refine ea_iconst (pc := 55) dX12_putsDown_55 (v := 3) rfl ?_
      refine ea_icmp_ne (pc := 56) (tgt := 66) dX12_putsDown_56 rfl (fun c18 => ?_) (fun c18 => ?_)
      · have EY := EY.trans (if_neg c18)
        exact ea_vretE (pc := 66) dX12_putsDown_66 rfl EY
      · have EY := EY.trans (if_pos c18)
        have K := K.1 c18
        refine ea_aload_n (pc := 59) dX12_putsDown_59 rfl 0 rfl ?_
        refine ea_getR (pc := 60) dX12_putsDown_60 ec_12 (k := 77) (Nat.le_of_ble_eq_true rfl) rfl (Or.inl ew_1422) (hs14.1 0 (by decide)).1 (hs14.1 0 (by decide)).2.1 (hs14.2 0 77 rfl) ?_
        refine ea_iload_n (pc := 63) dX12_putsDown_63 rfl 1 rfl ?_
        refine ea_iconst (pc := 64) dX12_putsDown_64 (v := 0) rfl ?_
        have z16 := K
        refine ea_iast (pc := 65) dX12_putsDown_65 (hs14.1 51 (by decide)).1 (hs14.1 51 (by decide)).2.1 (ea_vpl (hs14.1 51 (by decide)).2.2 z16) ?_
        have hs17 : ShM b0 (ea_wi (wX12_turns b0 (x1 : Int32) (x2 : Int32) (3 : Int32) (x3 : Int32) (ea_wi (ea_wi h (b0 + 61) (Int32.toNatClampNeg x1) 0) (b0 + 57) (Int32.toNatClampNeg x1) (-1))) (b0 + 51) (Int32.toNatClampNeg x1) 0) := ShM_wi hs14
        exact ea_vretE (pc := 66) dX12_putsDown_66 rfl EY
  · have EY := EY.trans (if_neg c26)
    have K := K.2 c26
    refine ea_iconst (pc := 27) dX12_putsDown_27 (v := 0) rfl ?_
    refine ea_goto (pc := 28) (tgt := 45) dX12_putsDown_28 rfl ?_
    refine ea_iload_n (pc := 45) dX12_putsDown_45 rfl 3 rfl ?_
    obtain ⟨z20, K⟩ := K
    refine ea_callV (pc := 46) (d' := d - 1) (As := [vI x1, vI x2, vI 0, vI x3]) (st := []) dX12_putsDown_46 kX12_turns (sX12_turns (d := d - 1) (by omega) hs4 z20) (by omega) rfl (Nat.le_of_ble_eq_true rfl) ew_2011 ew_2013 ew_88 (ci := 12) rfl (by decide) (hs4.1 0 (by decide)).1 (hs4.1 0 (by decide)).2.1 ?_
    have hs21 : ShM b0 (wX12_turns b0 (x1 : Int32) (x2 : Int32) (0 : Int32) (x3 : Int32) (ea_wi (ea_wi h (b0 + 61) (Int32.toNatClampNeg x1) 0) (b0 + 57) (Int32.toNatClampNeg x1) (-1))) := shX12_turns hs4
    refine ea_aload_n (pc := 49) dX12_putsDown_49 rfl 0 rfl ?_
    refine ea_getR (pc := 50) dX12_putsDown_50 ec_12 (k := 81) (Nat.le_of_ble_eq_true rfl) rfl (Or.inl ew_1426) (hs21.1 0 (by decide)).1 (hs21.1 0 (by decide)).2.1 (hs21.2 0 81 rfl) ?_
    refine ea_iload_n (pc := 53) dX12_putsDown_53 rfl 1 rfl ?_
    obtain ⟨z22, K⟩ := K
    refine ea_iald (pc := 54) dX12_putsDown_54 (hs21.1 55 (by decide)).1 (hs21.1 55 (by decide)).2.1 (ea_vpl (hs21.1 55 (by decide)).2.2 z22) ?_
    refine ea_iconst (pc := 55) dX12_putsDown_55 (v := 3) rfl ?_
    refine ea_icmp_ne (pc := 56) (tgt := 66) dX12_putsDown_56 rfl (fun c25 => ?_) (fun c25 => ?_)
    · have EY := EY.trans (if_neg c25)
      exact ea_vretE (pc := 66) dX12_putsDown_66 rfl EY
    · have EY := EY.trans (if_pos c25)
      have K := K.1 c25
      refine ea_aload_n (pc := 59) dX12_putsDown_59 rfl 0 rfl ?_
      refine ea_getR (pc := 60) dX12_putsDown_60 ec_12 (k := 77) (Nat.le_of_ble_eq_true rfl) rfl (Or.inl ew_1422) (hs21.1 0 (by decide)).1 (hs21.1 0 (by decide)).2.1 (hs21.2 0 77 rfl) ?_
      refine ea_iload_n (pc := 63) dX12_putsDown_63 rfl 1 rfl ?_
      refine ea_iconst (pc := 64) dX12_putsDown_64 (v := 0) rfl ?_
      have z23 := K
      refine ea_iast (pc := 65) dX12_putsDown_65 (hs21.1 51 (by decide)).1 (hs21.1 51 (by decide)).2.1 (ea_vpl (hs21.1 51 (by decide)).2.2 z23) ?_
      have hs24 : ShM b0 (ea_wi (wX12_turns b0 (x1 : Int32) (x2 : Int32) (0 : Int32) (x3 : Int32) (ea_wi (ea_wi h (b0 + 61) (Int32.toNatClampNeg x1) 0) (b0 + 57) (Int32.toNatClampNeg x1) (-1))) (b0 + 51) (Int32.toNatClampNeg x1) 0) := ShM_wi hs21
      exact ea_vretE (pc := 66) dX12_putsDown_66 rfl EY
noncomputable def vX12_isOf (b0 : Nat) (x1 : Int32) (x2 : Int32) (x3 : Int32) (h : ea_H) : Int32 := (if (ea_i h (b0 + 39) (Int32.toNatClampNeg x1)) = x2 then (if (ea_i h (b0 + 40) (Int32.toNatClampNeg x1)) = x3 then (1 : Int32) else (0 : Int32)) else (0 : Int32))
def okX12_isOf (b0 : Nat) (x1 : Int32) (x2 : Int32) (x3 : Int32) (h : ea_H) : Prop := vp_in x1 120 ∧ (((ea_i h (b0 + 39) (Int32.toNatClampNeg x1)) = x2 → vp_in x1 120) ∧ (¬ (ea_i h (b0 + 39) (Int32.toNatClampNeg x1)) = x2 → True))
theorem bo_vX12_isOf (b0 : Nat) (x1 : Int32) (x2 : Int32) (x3 : Int32) (h : ea_H) : vX12_isOf b0 x1 x2 x3 h = 0 ∨ vX12_isOf b0 x1 x2 x3 h = 1 := (ea_itB (ea_itB (Or.inr rfl) (Or.inl rfl)) (Or.inl rfl))
theorem sX12_isOf {d : Nat} {b0 : Nat} {x1 : Int32} {x2 : Int32} {x3 : Int32} {h : ea_H} (hd : 1 ≤ d) (hs : ShM b0 h) (K : okX12_isOf b0 x1 x2 x3 h) : ea_Met mX12_isOf d [vR (some (b0 + 0)), vI x1, vI x2, vI x3] h (some (vI (vX12_isOf b0 x1 x2 x3 h))) h := by
  obtain ⟨X, EX⟩ : ∃ z, z = vX12_isOf b0 x1 x2 x3 h := ⟨_, rfl⟩
  rw [← EX]
  unfold vX12_isOf at EX
  unfold okX12_isOf at K
  refine ea_enter rfl (Nat.le_of_ble_eq_true rfl) ?_
  refine ea_aload_n (pc := 0) dX12_isOf_0 rfl 0 rfl ?_
  refine ea_getR (pc := 1) dX12_isOf_1 ec_12 (k := 65) (Nat.le_of_ble_eq_true rfl) rfl (Or.inl ew_1410) (hs.1 0 (by decide)).1 (hs.1 0 (by decide)).2.1 (hs.2 0 65 rfl) ?_
  refine ea_iload_n (pc := 4) dX12_isOf_4 rfl 1 rfl ?_
  obtain ⟨z1, K⟩ := K
  refine ea_iald (pc := 5) dX12_isOf_5 (hs.1 39 (by decide)).1 (hs.1 39 (by decide)).2.1 (ea_vpl (hs.1 39 (by decide)).2.2 z1) ?_
  refine ea_iload_n (pc := 6) dX12_isOf_6 rfl 2 rfl ?_
  refine ea_icmp_ne (pc := 7) (tgt := 24) dX12_isOf_7 rfl (fun c4 => ?_) (fun c4 => ?_)
  · have EX := EX.trans (if_neg c4)
    refine ea_iconst (pc := 24) dX12_isOf_24 (v := 0) rfl ?_
    exact ea_iretE (pc := 25) dX12_isOf_25 rfl (ea_bn (Or.inl rfl)) EX rfl
  · have EX := EX.trans (if_pos c4)
    have K := K.1 c4
    refine ea_aload_n (pc := 10) dX12_isOf_10 rfl 0 rfl ?_
    refine ea_getR (pc := 11) dX12_isOf_11 ec_12 (k := 66) (Nat.le_of_ble_eq_true rfl) rfl (Or.inl ew_1411) (hs.1 0 (by decide)).1 (hs.1 0 (by decide)).2.1 (hs.2 0 66 rfl) ?_
    refine ea_iload_n (pc := 14) dX12_isOf_14 rfl 1 rfl ?_
    have z2 := K
    refine ea_iald (pc := 15) dX12_isOf_15 (hs.1 40 (by decide)).1 (hs.1 40 (by decide)).2.1 (ea_vpl (hs.1 40 (by decide)).2.2 z2) ?_
    refine ea_iload_n (pc := 16) dX12_isOf_16 rfl 3 rfl ?_
    refine ea_icmp_ne (pc := 17) (tgt := 24) dX12_isOf_17 rfl (fun c3 => ?_) (fun c3 => ?_)
    · have EX := EX.trans (if_neg c3)
      refine ea_iconst (pc := 24) dX12_isOf_24 (v := 0) rfl ?_
      exact ea_iretE (pc := 25) dX12_isOf_25 rfl (ea_bn (Or.inl rfl)) EX rfl
    · have EX := EX.trans (if_pos c3)
      refine ea_iconst (pc := 20) dX12_isOf_20 (v := 1) rfl ?_
      refine ea_goto (pc := 21) (tgt := 25) dX12_isOf_21 rfl ?_
      exact ea_iretE (pc := 25) dX12_isOf_25 rfl (ea_bn (Or.inr rfl)) EX rfl
noncomputable def vX12_nobody (b0 : Nat) (x1 : Int32) (h : ea_H) : Int32 := (if (vX12_isLetterOf b0 (x1 : Int32) h) = (0 : Int32) then (0 : Int32) else (if (ea_i h (b0 + 54) (Int32.toNatClampNeg x1)) = (0 : Int32) then (if (ea_i h (b0 + 55) (Int32.toNatClampNeg x1)) ≤ (1 : Int32) then (1 : Int32) else (0 : Int32)) else (0 : Int32)))
noncomputable def wX12_nobody (b0 : Nat) (x1 : Int32) (h : ea_H) : ea_H := (if (vX12_isLetterOf b0 (x1 : Int32) h) = (0 : Int32) then h else (if (ea_i h (b0 + 54) (Int32.toNatClampNeg x1)) = (0 : Int32) then (if (ea_i h (b0 + 55) (Int32.toNatClampNeg x1)) ≤ (1 : Int32) then (ea_wi h (b0 + 54) (Int32.toNatClampNeg x1) 1) else h) else h))
def okX12_nobody (b0 : Nat) (x1 : Int32) (h : ea_H) : Prop := ((vX12_isLetterOf b0 (x1 : Int32) h) = (0 : Int32) → True) ∧ (¬ (vX12_isLetterOf b0 (x1 : Int32) h) = (0 : Int32) → vp_in x1 120 ∧ (((ea_i h (b0 + 54) (Int32.toNatClampNeg x1)) = (0 : Int32) → vp_in x1 120 ∧ (((ea_i h (b0 + 55) (Int32.toNatClampNeg x1)) ≤ (1 : Int32) → vp_in x1 120) ∧ (¬ (ea_i h (b0 + 55) (Int32.toNatClampNeg x1)) ≤ (1 : Int32) → True))) ∧ (¬ (ea_i h (b0 + 54) (Int32.toNatClampNeg x1)) = (0 : Int32) → True)))
theorem bo_vX12_nobody (b0 : Nat) (x1 : Int32) (h : ea_H) : vX12_nobody b0 x1 h = 0 ∨ vX12_nobody b0 x1 h = 1 := (ea_itB (Or.inl rfl) (ea_itB (ea_itB (Or.inr rfl) (Or.inl rfl)) (Or.inl rfl)))
theorem shX12_nobody {b0 : Nat} {x1 : Int32} {h : ea_H} (hs : ShM b0 h) : ShM b0 (wX12_nobody b0 x1 h) := (ShM_it hs (ShM_it (ShM_it (ShM_wi hs) hs) hs))
theorem sX12_nobody {d : Nat} {b0 : Nat} {x1 : Int32} {h : ea_H} (hd : 3 ≤ d) (hs : ShM b0 h) (K : okX12_nobody b0 x1 h) : ea_Met mX12_nobody d [vR (some (b0 + 0)), vI x1] h (some (vI (vX12_nobody b0 x1 h))) (wX12_nobody b0 x1 h) := by
  obtain ⟨X, EX⟩ : ∃ z, z = vX12_nobody b0 x1 h := ⟨_, rfl⟩
  rw [← EX]
  unfold vX12_nobody at EX
  obtain ⟨Y, EY⟩ : ∃ z, z = wX12_nobody b0 x1 h := ⟨_, rfl⟩
  rw [← EY]
  unfold wX12_nobody at EY
  unfold okX12_nobody at K
  refine ea_enter rfl (Nat.le_of_ble_eq_true rfl) ?_
  refine ea_aload_n (pc := 0) dX12_nobody_0 rfl 0 rfl ?_
  refine ea_iload_n (pc := 1) dX12_nobody_1 rfl 1 rfl ?_
  refine ea_callV (pc := 2) (d' := d - 1) (As := [vI x1]) (st := []) dX12_nobody_2 kX12_isLetterOf (sX12_isLetterOf (d := d - 1) (by omega) hs) (by omega) rfl (Nat.le_of_ble_eq_true rfl) ew_2019 ew_2021 ew_89 (ci := 12) rfl (by decide) (hs.1 0 (by decide)).1 (hs.1 0 (by decide)).2.1 ?_
  refine ea_if_eq (pc := 5) (tgt := 27) dX12_nobody_5 rfl (fun c8 => ?_) (fun c8 => ?_)
  · have EX := EX.trans (if_pos c8)
    have EY := EY.trans (if_pos c8)
    refine ea_iconst (pc := 27) dX12_nobody_27 (v := 0) rfl ?_
    exact ea_iretE (pc := 28) dX12_nobody_28 rfl (ea_bn (Or.inl rfl)) EX EY
  · have EX := EX.trans (if_neg c8)
    have EY := EY.trans (if_neg c8)
    have K := K.2 c8
    refine ea_aload_n (pc := 8) dX12_nobody_8 rfl 0 rfl ?_
    refine ea_getR (pc := 9) dX12_nobody_9 ec_12 (k := 80) (Nat.le_of_ble_eq_true rfl) rfl (Or.inl ew_1425) (hs.1 0 (by decide)).1 (hs.1 0 (by decide)).2.1 (hs.2 0 80 rfl) ?_
    refine ea_iload_n (pc := 12) dX12_nobody_12 rfl 1 rfl ?_
    obtain ⟨z2, K⟩ := K
    refine ea_zald (pc := 13) dX12_nobody_13 (hs.1 54 (by decide)).1 (hs.1 54 (by decide)).2.1 (ea_vpl (hs.1 54 (by decide)).2.2 z2) ?_
    refine ea_if_ne (pc := 14) (tgt := 27) dX12_nobody_14 rfl (fun c7 => ?_) (fun c7 => ?_)
    · have EX := EX.trans (if_neg c7)
      have EY := EY.trans (if_neg c7)
      refine ea_iconst (pc := 27) dX12_nobody_27 (v := 0) rfl ?_
      exact ea_iretE (pc := 28) dX12_nobody_28 rfl (ea_bn (Or.inl rfl)) EX EY
    · have EX := EX.trans (if_pos c7)
      have EY := EY.trans (if_pos c7)
      have K := K.1 c7
      refine ea_aload_n (pc := 17) dX12_nobody_17 rfl 0 rfl ?_
      refine ea_getR (pc := 18) dX12_nobody_18 ec_12 (k := 81) (Nat.le_of_ble_eq_true rfl) rfl (Or.inl ew_1426) (hs.1 0 (by decide)).1 (hs.1 0 (by decide)).2.1 (hs.2 0 81 rfl) ?_
      refine ea_iload_n (pc := 21) dX12_nobody_21 rfl 1 rfl ?_
      obtain ⟨z3, K⟩ := K
      refine ea_iald (pc := 22) dX12_nobody_22 (hs.1 55 (by decide)).1 (hs.1 55 (by decide)).2.1 (ea_vpl (hs.1 55 (by decide)).2.2 z3) ?_
      refine ea_iconst (pc := 23) dX12_nobody_23 (v := 1) rfl ?_
      refine ea_icmp_le (pc := 24) (tgt := 29) dX12_nobody_24 rfl (fun c6 => ?_) (fun c6 => ?_)
      · have EX := EX.trans (if_pos c6)
        have EY := EY.trans (if_pos c6)
        have K := K.1 c6
        refine ea_aload_n (pc := 29) dX12_nobody_29 rfl 0 rfl ?_
        refine ea_getR (pc := 30) dX12_nobody_30 ec_12 (k := 80) (Nat.le_of_ble_eq_true rfl) rfl (Or.inl ew_1425) (hs.1 0 (by decide)).1 (hs.1 0 (by decide)).2.1 (hs.2 0 80 rfl) ?_
        refine ea_iload_n (pc := 33) dX12_nobody_33 rfl 1 rfl ?_
        refine ea_iconst (pc := 34) dX12_nobody_34 (v := 1) rfl ?_
        have z4 := K
        refine ea_zast (pc := 35) dX12_nobody_35 (y := 1) (ea_bn (Or.inr rfl)) (hs.1 54 (by decide)).1 (hs.1 54 (by decide)).2.1 (ea_vpl (hs.1 54 (by decide)).2.2 z4) ?_
        have hs5 : ShM b0 (ea_wi h (b0 + 54) (Int32.toNatClampNeg x1) 1) := ShM_wi hs
        refine ea_iconst (pc := 36) dX12_nobody_36 (v := 1) rfl ?_
        exact ea_iretE (pc := 37) dX12_nobody_37 rfl (ea_bn (Or.inr rfl)) EX EY
      · have EX := EX.trans (if_neg c6)
        have EY := EY.trans (if_neg c6)
        refine ea_iconst (pc := 27) dX12_nobody_27 (v := 0) rfl ?_
        exact ea_iretE (pc := 28) dX12_nobody_28 rfl (ea_bn (Or.inl rfl)) EX EY
noncomputable def vX12_robbery (b0 : Nat) (x1 : Int32) (x2 : Int32) (h : ea_H) : Int32 := (if (vX12_isIn (x1 : Int32) (0 : Int32) (((ea_i h (b0 + 0) 100) - (1 : Int32)) : Int32) h) = (0 : Int32) then ((-1) : Int32) else (if Int32.toInt x2 = 0 then (ea_i h (b0 + 73) (Int32.toNatClampNeg x1)) else (if Int32.toInt x2 = 1 then (ea_i h (b0 + 74) (Int32.toNatClampNeg x1)) else (if Int32.toInt x2 = 2 then (ea_i h (b0 + 75) (Int32.toNatClampNeg x1)) else (if Int32.toInt x2 = 3 then (ea_i h (b0 + 76) (Int32.toNatClampNeg x1)) else (if (vX12_isIn (x2 : Int32) (10 : Int32) (((9 : Int32) + (ea_i h (b0 + 75) (Int32.toNatClampNeg x1))) : Int32) h) = (0 : Int32) then ((-1) : Int32) else (ea_i h (b0 + 77) (Int32.toNatClampNeg ((((120 : Int32) * x1) + x2) - (10 : Int32))))))))))
def okX12_robbery (b0 : Nat) (x1 : Int32) (x2 : Int32) (h : ea_H) : Prop := ((vX12_isIn (x1 : Int32) (0 : Int32) (((ea_i h (b0 + 0) 100) - (1 : Int32)) : Int32) h) = (0 : Int32) → True) ∧ (¬ (vX12_isIn (x1 : Int32) (0 : Int32) (((ea_i h (b0 + 0) 100) - (1 : Int32)) : Int32) h) = (0 : Int32) → (Int32.toInt x2 = 0 → vp_in x1 20) ∧ (¬ Int32.toInt x2 = 0 → (Int32.toInt x2 = 1 → vp_in x1 20) ∧ (¬ Int32.toInt x2 = 1 → (Int32.toInt x2 = 2 → vp_in x1 20) ∧ (¬ Int32.toInt x2 = 2 → (Int32.toInt x2 = 3 → vp_in x1 20) ∧ (¬ Int32.toInt x2 = 3 → vp_in x1 20 ∧ (((vX12_isIn (x2 : Int32) (10 : Int32) (((9 : Int32) + (ea_i h (b0 + 75) (Int32.toNatClampNeg x1))) : Int32) h) = (0 : Int32) → True) ∧ (¬ (vX12_isIn (x2 : Int32) (10 : Int32) (((9 : Int32) + (ea_i h (b0 + 75) (Int32.toNatClampNeg x1))) : Int32) h) = (0 : Int32) → vp_in ((((120 : Int32) * x1) + x2) - (10 : Int32)) 2400)))))))
theorem sX12_robbery {d : Nat} {b0 : Nat} {x1 : Int32} {x2 : Int32} {h : ea_H} (hd : 2 ≤ d) (hs : ShM b0 h) (K : okX12_robbery b0 x1 x2 h) : ea_Met mX12_robbery d [vR (some (b0 + 0)), vI x1, vI x2] h (some (vI (vX12_robbery b0 x1 x2 h))) h := by
  obtain ⟨X, EX⟩ : ∃ z, z = vX12_robbery b0 x1 x2 h := ⟨_, rfl⟩
  rw [← EX]
  unfold vX12_robbery at EX
  unfold okX12_robbery at K
  refine ea_enter rfl (Nat.le_of_ble_eq_true rfl) ?_
  refine ea_iload_n (pc := 0) dX12_robbery_0 rfl 1 rfl ?_
  refine ea_iconst (pc := 1) dX12_robbery_1 (v := 0) rfl ?_
  refine ea_aload_n (pc := 2) dX12_robbery_2 rfl 0 rfl ?_
  refine ea_getI (pc := 3) dX12_robbery_3 ec_12 (k := 100) (Nat.le_of_ble_eq_true rfl) rfl (Or.inl ew_1445) (hs.1 0 (by decide)).1 (hs.1 0 (by decide)).2.1 ?_
  refine ea_iconst (pc := 6) dX12_robbery_6 (v := 1) rfl ?_
  refine ea_isub (pc := 7) dX12_robbery_7 ?_
  refine ea_callS (pc := 8) (d' := d - 1) (As := [vI x1, vI 0, vI ((ea_i h (b0 + 0) 100) - (1 : Int32))]) (st := []) dX12_robbery_8 kX12_isIn (sX12_isIn (d := d - 1) (by omega)) (by omega) rfl (Nat.le_of_ble_eq_true rfl) ew_1712 ew_1713 ?_
  refine ea_if_ne (pc := 11) (tgt := 16) dX12_robbery_11 rfl (fun c10 => ?_) (fun c10 => ?_)
  · have EX := EX.trans (if_neg c10)
    have K := K.2 c10
    refine ea_iload_n (pc := 16) dX12_robbery_16 rfl 2 rfl ?_
    by_cases qc17_0 : Int32.toInt x2 = 0
    · have EX := EX.trans (if_pos qc17_0)
      have K := K.1 qc17_0
      refine ea_tswIn (pc := 17) (tgt := 48) dX12_robbery_17 (by rw [qc17_0]; decide) (by rw [qc17_0]; decide) (by rw [qc17_0]; rfl) rfl ?_
      refine ea_aload_n (pc := 48) dX12_robbery_48 rfl 0 rfl ?_
      refine ea_getR (pc := 49) dX12_robbery_49 ec_12 (k := 101) (Nat.le_of_ble_eq_true rfl) rfl (Or.inl ew_1446) (hs.1 0 (by decide)).1 (hs.1 0 (by decide)).2.1 (hs.2 0 101 rfl) ?_
      refine ea_iload_n (pc := 52) dX12_robbery_52 rfl 1 rfl ?_
      have z6 := K
      refine ea_iald (pc := 53) dX12_robbery_53 (hs.1 73 (by decide)).1 (hs.1 73 (by decide)).2.1 (ea_vpl (hs.1 73 (by decide)).2.2 z6) ?_
      exact ea_iretE (pc := 54) dX12_robbery_54 rfl rfl EX rfl
    have EX := EX.trans (if_neg qc17_0)
    have K := K.2 qc17_0
    by_cases qc17_1 : Int32.toInt x2 = 1
    · have EX := EX.trans (if_pos qc17_1)
      have K := K.1 qc17_1
      refine ea_tswIn (pc := 17) (tgt := 55) dX12_robbery_17 (by rw [qc17_1]; decide) (by rw [qc17_1]; decide) (by rw [qc17_1]; rfl) rfl ?_
      refine ea_aload_n (pc := 55) dX12_robbery_55 rfl 0 rfl ?_
      refine ea_getR (pc := 56) dX12_robbery_56 ec_12 (k := 102) (Nat.le_of_ble_eq_true rfl) rfl (Or.inl ew_1447) (hs.1 0 (by decide)).1 (hs.1 0 (by decide)).2.1 (hs.2 0 102 rfl) ?_
      refine ea_iload_n (pc := 59) dX12_robbery_59 rfl 1 rfl ?_
      have z7 := K
      refine ea_iald (pc := 60) dX12_robbery_60 (hs.1 74 (by decide)).1 (hs.1 74 (by decide)).2.1 (ea_vpl (hs.1 74 (by decide)).2.2 z7) ?_
      exact ea_iretE (pc := 61) dX12_robbery_61 rfl rfl EX rfl
    have EX := EX.trans (if_neg qc17_1)
    have K := K.2 qc17_1
    by_cases qc17_2 : Int32.toInt x2 = 2
    · have EX := EX.trans (if_pos qc17_2)
      have K := K.1 qc17_2
      refine ea_tswIn (pc := 17) (tgt := 62) dX12_robbery_17 (by rw [qc17_2]; decide) (by rw [qc17_2]; decide) (by rw [qc17_2]; rfl) rfl ?_
      refine ea_aload_n (pc := 62) dX12_robbery_62 rfl 0 rfl ?_
      refine ea_getR (pc := 63) dX12_robbery_63 ec_12 (k := 103) (Nat.le_of_ble_eq_true rfl) rfl (Or.inl ew_1448) (hs.1 0 (by decide)).1 (hs.1 0 (by decide)).2.1 (hs.2 0 103 rfl) ?_
      refine ea_iload_n (pc := 66) dX12_robbery_66 rfl 1 rfl ?_
      have z8 := K
      refine ea_iald (pc := 67) dX12_robbery_67 (hs.1 75 (by decide)).1 (hs.1 75 (by decide)).2.1 (ea_vpl (hs.1 75 (by decide)).2.2 z8) ?_
      exact ea_iretE (pc := 68) dX12_robbery_68 rfl rfl EX rfl
    have EX := EX.trans (if_neg qc17_2)
    have K := K.2 qc17_2
    by_cases qc17_3 : Int32.toInt x2 = 3
    · have EX := EX.trans (if_pos qc17_3)
      have K := K.1 qc17_3
      refine ea_tswIn (pc := 17) (tgt := 69) dX12_robbery_17 (by rw [qc17_3]; decide) (by rw [qc17_3]; decide) (by rw [qc17_3]; rfl) rfl ?_
      refine ea_aload_n (pc := 69) dX12_robbery_69 rfl 0 rfl ?_
      refine ea_getR (pc := 70) dX12_robbery_70 ec_12 (k := 104) (Nat.le_of_ble_eq_true rfl) rfl (Or.inl ew_1449) (hs.1 0 (by decide)).1 (hs.1 0 (by decide)).2.1 (hs.2 0 104 rfl) ?_
      refine ea_iload_n (pc := 73) dX12_robbery_73 rfl 1 rfl ?_
      have z9 := K
      refine ea_iald (pc := 74) dX12_robbery_74 (hs.1 76 (by decide)).1 (hs.1 76 (by decide)).2.1 (ea_vpl (hs.1 76 (by decide)).2.2 z9) ?_
      exact ea_iretE (pc := 75) dX12_robbery_75 rfl rfl EX rfl
    have EX := EX.trans (if_neg qc17_3)
    have K := K.2 qc17_3
    refine ea_tswOut (pc := 17) (tgt := 76) dX12_robbery_17 (ea_sw_0_3 qc17_0 qc17_1 qc17_2 qc17_3) rfl ?_
    refine ea_iload_n (pc := 76) dX12_robbery_76 rfl 2 rfl ?_
    refine ea_bipush (pc := 77) dX12_robbery_77 (v := 10) rfl ?_
    refine ea_bipush (pc := 79) dX12_robbery_79 (v := 9) rfl ?_
    refine ea_aload_n (pc := 81) dX12_robbery_81 rfl 0 rfl ?_
    refine ea_getR (pc := 82) dX12_robbery_82 ec_12 (k := 103) (Nat.le_of_ble_eq_true rfl) rfl (Or.inl ew_1448) (hs.1 0 (by decide)).1 (hs.1 0 (by decide)).2.1 (hs.2 0 103 rfl) ?_
    refine ea_iload_n (pc := 85) dX12_robbery_85 rfl 1 rfl ?_
    obtain ⟨z2, K⟩ := K
    refine ea_iald (pc := 86) dX12_robbery_86 (hs.1 75 (by decide)).1 (hs.1 75 (by decide)).2.1 (ea_vpl (hs.1 75 (by decide)).2.2 z2) ?_
    refine ea_iadd (pc := 87) dX12_robbery_87 ?_
    refine ea_callS (pc := 88) (d' := d - 1) (As := [vI x2, vI 10, vI ((9 : Int32) + (ea_i h (b0 + 75) (Int32.toNatClampNeg x1)))]) (st := []) dX12_robbery_88 kX12_isIn (sX12_isIn (d := d - 1) (by omega)) (by omega) rfl (Nat.le_of_ble_eq_true rfl) ew_1712 ew_1713 ?_
    refine ea_if_eq (pc := 91) (tgt := 111) dX12_robbery_91 rfl (fun c5 => ?_) (fun c5 => ?_)
    · have EX := EX.trans (if_pos c5)
      refine ea_iconst (pc := 111) dX12_robbery_111 (v := (-1)) rfl ?_
      exact ea_iretE (pc := 112) dX12_robbery_112 rfl rfl EX rfl
    · have EX := EX.trans (if_neg c5)
      have K := K.2 c5
      refine ea_aload_n (pc := 94) dX12_robbery_94 rfl 0 rfl ?_
      refine ea_getR (pc := 95) dX12_robbery_95 ec_12 (k := 105) (Nat.le_of_ble_eq_true rfl) rfl (Or.inl ew_1450) (hs.1 0 (by decide)).1 (hs.1 0 (by decide)).2.1 (hs.2 0 105 rfl) ?_
      refine ea_bipush (pc := 98) dX12_robbery_98 (v := 120) rfl ?_
      refine ea_iload_n (pc := 100) dX12_robbery_100 rfl 1 rfl ?_
      refine ea_imul (pc := 101) dX12_robbery_101 ?_
      refine ea_iload_n (pc := 102) dX12_robbery_102 rfl 2 rfl ?_
      refine ea_iadd (pc := 103) dX12_robbery_103 ?_
      refine ea_bipush (pc := 104) dX12_robbery_104 (v := 10) rfl ?_
      refine ea_isub (pc := 106) dX12_robbery_106 ?_
      have z4 := K
      refine ea_iald (pc := 107) dX12_robbery_107 (hs.1 77 (by decide)).1 (hs.1 77 (by decide)).2.1 (ea_vpl (hs.1 77 (by decide)).2.2 z4) ?_
      refine ea_goto (pc := 108) (tgt := 112) dX12_robbery_108 rfl ?_
      exact ea_iretE (pc := 112) dX12_robbery_112 rfl rfl EX rfl
  · have EX := EX.trans (if_pos c10)
    refine ea_iconst (pc := 14) dX12_robbery_14 (v := (-1)) rfl ?_
    exact ea_iretE (pc := 15) dX12_robbery_15 rfl rfl EX rfl
noncomputable def vX12_set (b0 : Nat) (x1 : Int32) (h : ea_H) : Int32 := (if (vX12_isTrain b0 (x1 : Int32) h) = (0 : Int32) then (0 : Int32) else (1 : Int32))
noncomputable def wX12_set (b0 : Nat) (x1 : Int32) (h : ea_H) : ea_H := (if (vX12_isTrain b0 (x1 : Int32) h) = (0 : Int32) then h else (ea_wi h (b0 + 80) (Int32.toNatClampNeg x1) (ea_i h (b0 + 0) 0)))
def okX12_set (b0 : Nat) (x1 : Int32) (h : ea_H) : Prop := ((vX12_isTrain b0 (x1 : Int32) h) = (0 : Int32) → True) ∧ (¬ (vX12_isTrain b0 (x1 : Int32) h) = (0 : Int32) → vp_in x1 10)
theorem bo_vX12_set (b0 : Nat) (x1 : Int32) (h : ea_H) : vX12_set b0 x1 h = 0 ∨ vX12_set b0 x1 h = 1 := (ea_itB (Or.inl rfl) (Or.inr rfl))
theorem shX12_set {b0 : Nat} {x1 : Int32} {h : ea_H} (hs : ShM b0 h) : ShM b0 (wX12_set b0 x1 h) := (ShM_it hs (ShM_wi hs))
theorem sX12_set {d : Nat} {b0 : Nat} {x1 : Int32} {h : ea_H} (hd : 3 ≤ d) (hs : ShM b0 h) (K : okX12_set b0 x1 h) : ea_Met mX12_set d [vR (some (b0 + 0)), vI x1] h (some (vI (vX12_set b0 x1 h))) (wX12_set b0 x1 h) := by
  obtain ⟨X, EX⟩ : ∃ z, z = vX12_set b0 x1 h := ⟨_, rfl⟩
  rw [← EX]
  unfold vX12_set at EX
  obtain ⟨Y, EY⟩ : ∃ z, z = wX12_set b0 x1 h := ⟨_, rfl⟩
  rw [← EY]
  unfold wX12_set at EY
  unfold okX12_set at K
  refine ea_enter rfl (Nat.le_of_ble_eq_true rfl) ?_
  refine ea_aload_n (pc := 0) dX12_set_0 rfl 0 rfl ?_
  refine ea_iload_n (pc := 1) dX12_set_1 rfl 1 rfl ?_
  refine ea_callV (pc := 2) (d' := d - 1) (As := [vI x1]) (st := []) dX12_set_2 kX12_isTrain (sX12_isTrain (d := d - 1) (by omega) hs) (by omega) rfl (Nat.le_of_ble_eq_true rfl) ew_1736 ew_1738 ew_50 (ci := 12) rfl (by decide) (hs.1 0 (by decide)).1 (hs.1 0 (by decide)).2.1 ?_
  refine ea_if_ne (pc := 5) (tgt := 10) dX12_set_5 rfl (fun c4 => ?_) (fun c4 => ?_)
  · have EX := EX.trans (if_neg c4)
    have EY := EY.trans (if_neg c4)
    have K := K.2 c4
    refine ea_aload_n (pc := 10) dX12_set_10 rfl 0 rfl ?_
    refine ea_getR (pc := 11) dX12_set_11 ec_12 (k := 108) (Nat.le_of_ble_eq_true rfl) rfl (Or.inl ew_1453) (hs.1 0 (by decide)).1 (hs.1 0 (by decide)).2.1 (hs.2 0 108 rfl) ?_
    refine ea_iload_n (pc := 14) dX12_set_14 rfl 1 rfl ?_
    refine ea_aload_n (pc := 15) dX12_set_15 rfl 0 rfl ?_
    refine ea_getI (pc := 16) dX12_set_16 ec_12 (k := 0) (Nat.le_of_ble_eq_true rfl) rfl (Or.inl ew_1345) (hs.1 0 (by decide)).1 (hs.1 0 (by decide)).2.1 ?_
    have z2 := K
    refine ea_iast (pc := 19) dX12_set_19 (hs.1 80 (by decide)).1 (hs.1 80 (by decide)).2.1 (ea_vpl (hs.1 80 (by decide)).2.2 z2) ?_
    have hs3 : ShM b0 (ea_wi h (b0 + 80) (Int32.toNatClampNeg x1) (ea_i h (b0 + 0) 0)) := ShM_wi hs
    refine ea_iconst (pc := 20) dX12_set_20 (v := 1) rfl ?_
    exact ea_iretE (pc := 21) dX12_set_21 rfl (ea_bn (Or.inr rfl)) EX EY
  · have EX := EX.trans (if_pos c4)
    have EY := EY.trans (if_pos c4)
    refine ea_iconst (pc := 8) dX12_set_8 (v := 0) rfl ?_
    exact ea_iretE (pc := 9) dX12_set_9 rfl (ea_bn (Or.inl rfl)) EX EY
noncomputable def vX12_shows (b0 : Nat) (x1 : Int32) (x2 : Int32) (x3 : Int32) (h : ea_H) : Int32 := ((ea_i h (b0 + 80) (Int32.toNatClampNeg x1)) + (Int64.toInt32 (((Int32.toInt64 (x3 - (ea_i h (b0 + 80) (Int32.toNatClampNeg x1)))) * ((3600 : Int64) + (Int32.toInt64 x2))) / (3600 : Int64))))
def okX12_shows (b0 : Nat) (x1 : Int32) (x2 : Int32) (x3 : Int32) (h : ea_H) : Prop := vp_in x1 10 ∧ (vp_in x1 10)
theorem sX12_shows {d : Nat} {b0 : Nat} {x1 : Int32} {x2 : Int32} {x3 : Int32} {h : ea_H} (hd : 1 ≤ d) (hs : ShM b0 h) (K : okX12_shows b0 x1 x2 x3 h) : ea_Met mX12_shows d [vR (some (b0 + 0)), vI x1, vI x2, vI x3] h (some (vI (vX12_shows b0 x1 x2 x3 h))) h := by
  obtain ⟨X, EX⟩ : ∃ z, z = vX12_shows b0 x1 x2 x3 h := ⟨_, rfl⟩
  rw [← EX]
  unfold vX12_shows at EX
  unfold okX12_shows at K
  refine ea_enter rfl (Nat.le_of_ble_eq_true rfl) ?_
  refine ea_aload_n (pc := 0) dX12_shows_0 rfl 0 rfl ?_
  refine ea_getR (pc := 1) dX12_shows_1 ec_12 (k := 108) (Nat.le_of_ble_eq_true rfl) rfl (Or.inl ew_1453) (hs.1 0 (by decide)).1 (hs.1 0 (by decide)).2.1 (hs.2 0 108 rfl) ?_
  refine ea_iload_n (pc := 4) dX12_shows_4 rfl 1 rfl ?_
  obtain ⟨z1, K⟩ := K
  refine ea_iald (pc := 5) dX12_shows_5 (hs.1 80 (by decide)).1 (hs.1 80 (by decide)).2.1 (ea_vpl (hs.1 80 (by decide)).2.2 z1) ?_
  refine ea_iload_n (pc := 6) dX12_shows_6 rfl 3 rfl ?_
  refine ea_aload_n (pc := 7) dX12_shows_7 rfl 0 rfl ?_
  refine ea_getR (pc := 8) dX12_shows_8 ec_12 (k := 108) (Nat.le_of_ble_eq_true rfl) rfl (Or.inl ew_1453) (hs.1 0 (by decide)).1 (hs.1 0 (by decide)).2.1 (hs.2 0 108 rfl) ?_
  refine ea_iload_n (pc := 11) dX12_shows_11 rfl 1 rfl ?_
  have z2 := K
  refine ea_iald (pc := 12) dX12_shows_12 (hs.1 80 (by decide)).1 (hs.1 80 (by decide)).2.1 (ea_vpl (hs.1 80 (by decide)).2.2 z2) ?_
  refine ea_isub (pc := 13) dX12_shows_13 ?_
  refine ea_i2l (pc := 14) dX12_shows_14 ?_
  refine ea_ldc2 (pc := 15) dX12_shows_15 ew_2154 ?_
  refine ea_iload_n (pc := 18) dX12_shows_18 rfl 2 rfl ?_
  refine ea_i2l (pc := 19) dX12_shows_19 ?_
  refine ea_ladd (pc := 20) dX12_shows_20 ?_
  refine ea_lmul (pc := 21) dX12_shows_21 ?_
  refine ea_ldc2 (pc := 22) dX12_shows_22 ew_2154 ?_
  refine ea_ldiv (pc := 25) dX12_shows_25 (by decide) ?_
  refine ea_l2i (pc := 26) dX12_shows_26 ?_
  refine ea_iadd (pc := 27) dX12_shows_27 ?_
  exact ea_iretE (pc := 28) dX12_shows_28 rfl rfl EX rfl
noncomputable def vX12_clock (b0 : Nat) (x1 : Int32) (x2 : Int32) (h : ea_H) : Int32 := (if (vX12_isTrain b0 (x1 : Int32) h) = (0 : Int32) then ((-1000) : Int32) else (if x2 = (0 : Int32) then (ea_i h (b0 + 78) (Int32.toNatClampNeg x1)) else (if x2 = (1 : Int32) then (ea_i h (b0 + 79) (Int32.toNatClampNeg x1)) else (if x2 = (2 : Int32) then (ea_i h (b0 + 80) (Int32.toNatClampNeg x1)) else ((-1000) : Int32)))))
def okX12_clock (b0 : Nat) (x1 : Int32) (x2 : Int32) (h : ea_H) : Prop := ((vX12_isTrain b0 (x1 : Int32) h) = (0 : Int32) → True) ∧ (¬ (vX12_isTrain b0 (x1 : Int32) h) = (0 : Int32) → (x2 = (0 : Int32) → vp_in x1 10) ∧ (¬ x2 = (0 : Int32) → (x2 = (1 : Int32) → vp_in x1 10) ∧ (¬ x2 = (1 : Int32) → (x2 = (2 : Int32) → vp_in x1 10) ∧ (¬ x2 = (2 : Int32) → True))))
theorem sX12_clock {d : Nat} {b0 : Nat} {x1 : Int32} {x2 : Int32} {h : ea_H} (hd : 3 ≤ d) (hs : ShM b0 h) (K : okX12_clock b0 x1 x2 h) : ea_Met mX12_clock d [vR (some (b0 + 0)), vI x1, vI x2] h (some (vI (vX12_clock b0 x1 x2 h))) h := by
  obtain ⟨X, EX⟩ : ∃ z, z = vX12_clock b0 x1 x2 h := ⟨_, rfl⟩
  rw [← EX]
  unfold vX12_clock at EX
  unfold okX12_clock at K
  refine ea_enter rfl (Nat.le_of_ble_eq_true rfl) ?_
  refine ea_aload_n (pc := 0) dX12_clock_0 rfl 0 rfl ?_
  refine ea_iload_n (pc := 1) dX12_clock_1 rfl 1 rfl ?_
  refine ea_callV (pc := 2) (d' := d - 1) (As := [vI x1]) (st := []) dX12_clock_2 kX12_isTrain (sX12_isTrain (d := d - 1) (by omega) hs) (by omega) rfl (Nat.le_of_ble_eq_true rfl) ew_1736 ew_1738 ew_50 (ci := 12) rfl (by decide) (hs.1 0 (by decide)).1 (hs.1 0 (by decide)).2.1 ?_
  refine ea_if_ne (pc := 5) (tgt := 14) dX12_clock_5 rfl (fun c8 => ?_) (fun c8 => ?_)
  · have EX := EX.trans (if_neg c8)
    have K := K.2 c8
    refine ea_iload_n (pc := 14) dX12_clock_14 rfl 2 rfl ?_
    refine ea_if_ne (pc := 15) (tgt := 27) dX12_clock_15 rfl (fun c7 => ?_) (fun c7 => ?_)
    · have EX := EX.trans (if_neg c7)
      have K := K.2 c7
      refine ea_iload_n (pc := 27) dX12_clock_27 rfl 2 rfl ?_
      refine ea_iconst (pc := 28) dX12_clock_28 (v := 1) rfl ?_
      refine ea_icmp_ne (pc := 29) (tgt := 41) dX12_clock_29 rfl (fun c5 => ?_) (fun c5 => ?_)
      · have EX := EX.trans (if_neg c5)
        have K := K.2 c5
        refine ea_iload_n (pc := 41) dX12_clock_41 rfl 2 rfl ?_
        refine ea_iconst (pc := 42) dX12_clock_42 (v := 2) rfl ?_
        refine ea_icmp_ne (pc := 43) (tgt := 55) dX12_clock_43 rfl (fun c3 => ?_) (fun c3 => ?_)
        · have EX := EX.trans (if_neg c3)
          refine ea_sipush (pc := 55) dX12_clock_55 (v := (-1000)) rfl ?_
          exact ea_iretE (pc := 58) dX12_clock_58 rfl rfl EX rfl
        · have EX := EX.trans (if_pos c3)
          have K := K.1 c3
          refine ea_aload_n (pc := 46) dX12_clock_46 rfl 0 rfl ?_
          refine ea_getR (pc := 47) dX12_clock_47 ec_12 (k := 108) (Nat.le_of_ble_eq_true rfl) rfl (Or.inl ew_1453) (hs.1 0 (by decide)).1 (hs.1 0 (by decide)).2.1 (hs.2 0 108 rfl) ?_
          refine ea_iload_n (pc := 50) dX12_clock_50 rfl 1 rfl ?_
          have z2 := K
          refine ea_iald (pc := 51) dX12_clock_51 (hs.1 80 (by decide)).1 (hs.1 80 (by decide)).2.1 (ea_vpl (hs.1 80 (by decide)).2.2 z2) ?_
          refine ea_goto (pc := 52) (tgt := 58) dX12_clock_52 rfl ?_
          exact ea_iretE (pc := 58) dX12_clock_58 rfl rfl EX rfl
      · have EX := EX.trans (if_pos c5)
        have K := K.1 c5
        refine ea_aload_n (pc := 32) dX12_clock_32 rfl 0 rfl ?_
        refine ea_getR (pc := 33) dX12_clock_33 ec_12 (k := 107) (Nat.le_of_ble_eq_true rfl) rfl (Or.inl ew_1452) (hs.1 0 (by decide)).1 (hs.1 0 (by decide)).2.1 (hs.2 0 107 rfl) ?_
        refine ea_iload_n (pc := 36) dX12_clock_36 rfl 1 rfl ?_
        have z4 := K
        refine ea_iald (pc := 37) dX12_clock_37 (hs.1 79 (by decide)).1 (hs.1 79 (by decide)).2.1 (ea_vpl (hs.1 79 (by decide)).2.2 z4) ?_
        refine ea_goto (pc := 38) (tgt := 58) dX12_clock_38 rfl ?_
        exact ea_iretE (pc := 58) dX12_clock_58 rfl rfl EX rfl
    · have EX := EX.trans (if_pos c7)
      have K := K.1 c7
      refine ea_aload_n (pc := 18) dX12_clock_18 rfl 0 rfl ?_
      refine ea_getR (pc := 19) dX12_clock_19 ec_12 (k := 106) (Nat.le_of_ble_eq_true rfl) rfl (Or.inl ew_1451) (hs.1 0 (by decide)).1 (hs.1 0 (by decide)).2.1 (hs.2 0 106 rfl) ?_
      refine ea_iload_n (pc := 22) dX12_clock_22 rfl 1 rfl ?_
      have z6 := K
      refine ea_iald (pc := 23) dX12_clock_23 (hs.1 78 (by decide)).1 (hs.1 78 (by decide)).2.1 (ea_vpl (hs.1 78 (by decide)).2.2 z6) ?_
      refine ea_goto (pc := 24) (tgt := 58) dX12_clock_24 rfl ?_
      exact ea_iretE (pc := 58) dX12_clock_58 rfl rfl EX rfl
  · have EX := EX.trans (if_pos c8)
    refine ea_sipush (pc := 8) dX12_clock_8 (v := (-1000)) rfl ?_
    refine ea_goto (pc := 11) (tgt := 58) dX12_clock_11 rfl ?_
    exact ea_iretE (pc := 58) dX12_clock_58 rfl rfl EX rfl
noncomputable def gX12_spreads (b0 : Nat) : Nat → Nat → Int32 → Int32 → Int32 → Int32 → Int32 → ea_H → Option (Unit × ea_H)
  | 0, _, _, _, _, _, _, _ => none
  | f + 1, lbl, x1, x2, x3, x4, x5, h =>
    if lbl = 0 then (gX12_spreads b0 f 2 (x1 : Int32) (x2 : Int32) (0 : Int32) 0 0 h) else
    if lbl = 2 then (if (12 : Int32) ≤ x3 then (gX12_spreads b0 f 34 0 (x2 : Int32) (1 : Int32) 0 0 h) else (if x3 = x1 then (gd (vp_in x3 12) (gX12_spreads b0 f 2 (x1 : Int32) (x2 : Int32) ((x3 + (1 : Int32)) : Int32) 0 0 (ea_wi h (b0 + 9) (Int32.toNatClampNeg x3) 0))) else (gd (vp_in x3 12) (gX12_spreads b0 f 2 (x1 : Int32) (x2 : Int32) ((x3 + (1 : Int32)) : Int32) 0 0 (ea_wi h (b0 + 9) (Int32.toNatClampNeg x3) 1000000))))) else
    if lbl = 34 then (if x3 = (0 : Int32) then (some ((), h)) else (gX12_spreads b0 f 43 0 (x2 : Int32) (0 : Int32) (x2 : Int32) 0 h)) else
    if lbl = 43 then (if (ea_i h (b0 + 0) 1) ≤ x4 then (gX12_spreads b0 f 34 0 (x2 : Int32) (x3 : Int32) 0 0 h) else (gX12_spreads b0 f 55 0 (x2 : Int32) (x3 : Int32) (x4 : Int32) (x2 : Int32) h)) else
    if lbl = 55 then (if (ea_i h (b0 + 0) 1) ≤ x5 then (gX12_spreads b0 f 43 0 (x2 : Int32) (x3 : Int32) ((x4 + (1 : Int32)) : Int32) 0 h) else (gd (vp_in (((12 : Int32) * x4) + x5) 144) (if (ea_i h (b0 + 1) (Int32.toNatClampNeg (((12 : Int32) * x4) + x5))) = (0 : Int32) then (gX12_spreads b0 f 55 0 (x2 : Int32) (x3 : Int32) (x4 : Int32) ((x5 + (1 : Int32)) : Int32) h) else (gd (vp_in x4 12) (if (ea_i h (b0 + 9) (Int32.toNatClampNeg x4)) = (1000000 : Int32) then (gX12_spreads b0 f 55 0 (x2 : Int32) (x3 : Int32) (x4 : Int32) ((x5 + (1 : Int32)) : Int32) h) else (gd (vp_in x4 12) (gd (vp_in x5 12) (if ((ea_i h (b0 + 9) (Int32.toNatClampNeg x4)) + (ea_i h (b0 + 1) (Int32.toNatClampNeg (((12 : Int32) * x4) + x5)))) < (ea_i h (b0 + 9) (Int32.toNatClampNeg x5)) then (gd (vp_in x4 12) (gd (vp_in x5 12) (gX12_spreads b0 f 55 0 (x2 : Int32) (1 : Int32) (x4 : Int32) ((x5 + (1 : Int32)) : Int32) (ea_wi h (b0 + 9) (Int32.toNatClampNeg x5) ((ea_i h (b0 + 9) (Int32.toNatClampNeg x4)) + (ea_i h (b0 + 1) (Int32.toNatClampNeg (((12 : Int32) * x4) + x5)))))))) else (gX12_spreads b0 f 55 0 (x2 : Int32) (x3 : Int32) (x4 : Int32) ((x5 + (1 : Int32)) : Int32) h))))))))) else none
theorem tX12_spreads {d : Nat} {b0 : Nat} {h0 : ea_H} (hd : 1 ≤ d) : ∀ (f lbl : Nat) (x1 : Int32) (x2 : Int32) (x3 : Int32) (x4 : Int32) (x5 : Int32) (h : ea_H) (r : Unit) (h' : ea_H), gX12_spreads b0 f lbl x1 x2 x3 x4 x5 h = some (r, h') → ShM b0 h → (lbl = 0 → ea_W mX12_spreads d h0 none h' 0 [(0, vR (some (b0 + 0))), (1, vI x1), (2, vI x2)] [] h) ∧ (lbl = 2 → ea_W mX12_spreads d h0 none h' 2 [(0, vR (some (b0 + 0))), (1, vI x1), (2, vI x2), (3, vI x3)] [] h) ∧ (lbl = 34 → ea_W mX12_spreads d h0 none h' 34 [(0, vR (some (b0 + 0))), (2, vI x2), (3, vI x3)] [] h) ∧ (lbl = 43 → ea_W mX12_spreads d h0 none h' 43 [(0, vR (some (b0 + 0))), (2, vI x2), (3, vI x3), (4, vI x4)] [] h) ∧ (lbl = 55 → ea_W mX12_spreads d h0 none h' 55 [(0, vR (some (b0 + 0))), (2, vI x2), (3, vI x3), (4, vI x4), (5, vI x5)] [] h) := by
  intro f
  induction f with
  | zero => intro lbl x1 x2 x3 x4 x5 h r h' E; cases E
  | succ f ih =>
    intro lbl x1 x2 x3 x4 x5 h r h' E hs
    unfold gX12_spreads at E
    refine ⟨?_, ?_⟩
    · intro el
      subst el
      have E := (if_pos rfl).symm.trans E
      refine ea_iconst (pc := 0) dX12_spreads_0 (v := 0) rfl ?_
      refine ea_istore_n (pc := 1) (lv' := [(0, vR (some (b0 + 0))), (1, vI x1), (2, vI x2), (3, vI 0)]) dX12_spreads_1 rfl (Nat.le_of_ble_eq_true rfl) [1, 2, 3, 0] rfl ?_
      exact ((ih 2 (x1 : Int32) (x2 : Int32) (0 : Int32) 0 0 h _ _ E hs).2.1 rfl)
    refine ⟨?_, ?_⟩
    · intro el
      subst el
      have E := (if_neg (by decide)).symm.trans E
      have E := (if_pos rfl).symm.trans E
      refine ea_iload_n (pc := 2) dX12_spreads_2 rfl 3 rfl ?_
      refine ea_bipush (pc := 3) dX12_spreads_3 (v := 12) rfl ?_
      refine ea_icmp_ge (pc := 5) (tgt := 32) dX12_spreads_5 rfl (fun c6 => ?_) (fun c6 => ?_)
      · have E := (if_pos c6).symm.trans E
        refine ea_iconst (pc := 32) dX12_spreads_32 (v := 1) rfl ?_
        refine ea_istore_n (pc := 33) (lv' := [(0, vR (some (b0 + 0))), (2, vI x2), (3, vI 1)]) dX12_spreads_33 rfl (Nat.le_of_ble_eq_true rfl) [1, 3, 0] rfl ?_
        exact ((ih 34 0 (x2 : Int32) (1 : Int32) 0 0 h _ _ E hs).2.2.1 rfl)
      · have E := (if_neg c6).symm.trans E
        refine ea_aload_n (pc := 8) dX12_spreads_8 rfl 0 rfl ?_
        refine ea_getR (pc := 9) dX12_spreads_9 ec_12 (k := 11) (Nat.le_of_ble_eq_true rfl) rfl (Or.inl ew_1356) (hs.1 0 (by decide)).1 (hs.1 0 (by decide)).2.1 (hs.2 0 11 rfl) ?_
        refine ea_iload_n (pc := 12) dX12_spreads_12 rfl 3 rfl ?_
        refine ea_iload_n (pc := 13) dX12_spreads_13 rfl 3 rfl ?_
        refine ea_iload_n (pc := 14) dX12_spreads_14 rfl 1 rfl ?_
        refine ea_icmp_ne (pc := 15) (tgt := 22) dX12_spreads_15 rfl (fun c5 => ?_) (fun c5 => ?_)
        · have E := (if_neg c5).symm.trans E
          refine ea_ldcw (pc := 22) dX12_spreads_22 ew_1727 ?_
          obtain ⟨z1, E⟩ := gd_some E
          refine ea_iast (pc := 25) dX12_spreads_25 (hs.1 9 (by decide)).1 (hs.1 9 (by decide)).2.1 (ea_vpl (hs.1 9 (by decide)).2.2 z1) ?_
          have hs2 : ShM b0 (ea_wi h (b0 + 9) (Int32.toNatClampNeg x3) 1000000) := ShM_wi hs
          refine ea_iinc (pc := 26) (v := 1) (lv' := [(0, vR (some (b0 + 0))), (1, vI x1), (2, vI x2), (3, vI (x3 + (1 : Int32)))]) dX12_spreads_26 3 rfl rfl (Nat.le_of_ble_eq_true rfl) [1, 2, 3, 0] rfl ?_
          refine ea_goto (pc := 29) (tgt := 2) dX12_spreads_29 rfl ?_
          exact ((ih 2 (x1 : Int32) (x2 : Int32) ((x3 + (1 : Int32)) : Int32) 0 0 (ea_wi h (b0 + 9) (Int32.toNatClampNeg x3) 1000000) _ _ E hs2).2.1 rfl)
        · have E := (if_pos c5).symm.trans E
          refine ea_iconst (pc := 18) dX12_spreads_18 (v := 0) rfl ?_
          refine ea_goto (pc := 19) (tgt := 25) dX12_spreads_19 rfl ?_
          obtain ⟨z3, E⟩ := gd_some E
          refine ea_iast (pc := 25) dX12_spreads_25 (hs.1 9 (by decide)).1 (hs.1 9 (by decide)).2.1 (ea_vpl (hs.1 9 (by decide)).2.2 z3) ?_
          have hs4 : ShM b0 (ea_wi h (b0 + 9) (Int32.toNatClampNeg x3) 0) := ShM_wi hs
          refine ea_iinc (pc := 26) (v := 1) (lv' := [(0, vR (some (b0 + 0))), (1, vI x1), (2, vI x2), (3, vI (x3 + (1 : Int32)))]) dX12_spreads_26 3 rfl rfl (Nat.le_of_ble_eq_true rfl) [1, 2, 3, 0] rfl ?_
          refine ea_goto (pc := 29) (tgt := 2) dX12_spreads_29 rfl ?_
          exact ((ih 2 (x1 : Int32) (x2 : Int32) ((x3 + (1 : Int32)) : Int32) 0 0 (ea_wi h (b0 + 9) (Int32.toNatClampNeg x3) 0) _ _ E hs4).2.1 rfl)
    refine ⟨?_, ?_⟩
    · intro el
      subst el
      have E := (if_neg (by decide)).symm.trans E
      have E := (if_neg (by decide)).symm.trans E
      have E := (if_pos rfl).symm.trans E
      refine ea_iload_n (pc := 34) dX12_spreads_34 rfl 2 rfl ?_
      refine ea_if_eq (pc := 35) (tgt := 154) dX12_spreads_35 rfl (fun c7 => ?_) (fun c7 => ?_)
      · have E := (if_pos c7).symm.trans E
        exact ea_vretO (pc := 154) dX12_spreads_154 rfl E
      · have E := (if_neg c7).symm.trans E
        refine ea_iconst (pc := 38) dX12_spreads_38 (v := 0) rfl ?_
        refine ea_istore_n (pc := 39) (lv' := [(0, vR (some (b0 + 0))), (2, vI x2), (3, vI 0)]) dX12_spreads_39 rfl (Nat.le_of_ble_eq_true rfl) [1, 2, 0] rfl ?_
        refine ea_iload_n (pc := 40) dX12_spreads_40 rfl 1 rfl ?_
        refine ea_istore (pc := 41) (lv' := [(0, vR (some (b0 + 0))), (2, vI x2), (3, vI 0), (4, vI x2)]) dX12_spreads_41 (Nat.le_of_ble_eq_true rfl) [1, 2, 3, 0] rfl ?_
        exact ((ih 43 0 (x2 : Int32) (0 : Int32) (x2 : Int32) 0 h _ _ E hs).2.2.2.1 rfl)
    refine ⟨?_, ?_⟩
    · intro el
      subst el
      have E := (if_neg (by decide)).symm.trans E
      have E := (if_neg (by decide)).symm.trans E
      have E := (if_neg (by decide)).symm.trans E
      have E := (if_pos rfl).symm.trans E
      refine ea_iload (pc := 43) dX12_spreads_43 3 rfl ?_
      refine ea_aload_n (pc := 45) dX12_spreads_45 rfl 0 rfl ?_
      refine ea_getI (pc := 46) dX12_spreads_46 ec_12 (k := 1) (Nat.le_of_ble_eq_true rfl) rfl (Or.inl ew_1346) (hs.1 0 (by decide)).1 (hs.1 0 (by decide)).2.1 ?_
      refine ea_icmp_ge (pc := 49) (tgt := 151) dX12_spreads_49 rfl (fun c8 => ?_) (fun c8 => ?_)
      · have E := (if_pos c8).symm.trans E
        refine ea_goto (pc := 151) (tgt := 34) dX12_spreads_151 rfl ?_
        exact (ea_fewer [0, 1, 2] rfl ((ih 34 0 (x2 : Int32) (x3 : Int32) 0 0 h _ _ E hs).2.2.1 rfl))
      · have E := (if_neg c8).symm.trans E
        refine ea_iload_n (pc := 52) dX12_spreads_52 rfl 1 rfl ?_
        refine ea_istore (pc := 53) (lv' := [(0, vR (some (b0 + 0))), (2, vI x2), (3, vI x3), (4, vI x4), (5, vI x2)]) dX12_spreads_53 (Nat.le_of_ble_eq_true rfl) [1, 2, 3, 4, 0] rfl ?_
        exact ((ih 55 0 (x2 : Int32) (x3 : Int32) (x4 : Int32) (x2 : Int32) h _ _ E hs).2.2.2.2 rfl)
    intro el
    subst el
    have E := (if_neg (by decide)).symm.trans E
    have E := (if_neg (by decide)).symm.trans E
    have E := (if_neg (by decide)).symm.trans E
    have E := (if_neg (by decide)).symm.trans E
    have E := (if_pos rfl).symm.trans E
    refine ea_iload (pc := 55) dX12_spreads_55 4 rfl ?_
    refine ea_aload_n (pc := 57) dX12_spreads_57 rfl 0 rfl ?_
    refine ea_getI (pc := 58) dX12_spreads_58 ec_12 (k := 1) (Nat.le_of_ble_eq_true rfl) rfl (Or.inl ew_1346) (hs.1 0 (by decide)).1 (hs.1 0 (by decide)).2.1 ?_
    refine ea_icmp_ge (pc := 61) (tgt := 145) dX12_spreads_61 rfl (fun c19 => ?_) (fun c19 => ?_)
    · have E := (if_pos c19).symm.trans E
      refine ea_iinc (pc := 145) (v := 1) (lv' := [(0, vR (some (b0 + 0))), (2, vI x2), (3, vI x3), (4, vI (x4 + (1 : Int32)))]) dX12_spreads_145 3 rfl rfl (Nat.le_of_ble_eq_true rfl) [1, 2, 3, 0] rfl ?_
      refine ea_goto (pc := 148) (tgt := 43) dX12_spreads_148 rfl ?_
      exact ((ih 43 0 (x2 : Int32) (x3 : Int32) ((x4 + (1 : Int32)) : Int32) 0 h _ _ E hs).2.2.2.1 rfl)
    · have E := (if_neg c19).symm.trans E
      refine ea_aload_n (pc := 64) dX12_spreads_64 rfl 0 rfl ?_
      refine ea_getR (pc := 65) dX12_spreads_65 ec_12 (k := 3) (Nat.le_of_ble_eq_true rfl) rfl (Or.inl ew_1348) (hs.1 0 (by decide)).1 (hs.1 0 (by decide)).2.1 (hs.2 0 3 rfl) ?_
      refine ea_bipush (pc := 68) dX12_spreads_68 (v := 12) rfl ?_
      refine ea_iload (pc := 70) dX12_spreads_70 3 rfl ?_
      refine ea_imul (pc := 72) dX12_spreads_72 ?_
      refine ea_iload (pc := 73) dX12_spreads_73 4 rfl ?_
      refine ea_iadd (pc := 75) dX12_spreads_75 ?_
      obtain ⟨z9, E⟩ := gd_some E
      refine ea_iald (pc := 76) dX12_spreads_76 (hs.1 1 (by decide)).1 (hs.1 1 (by decide)).2.1 (ea_vpl (hs.1 1 (by decide)).2.2 z9) ?_
      refine ea_istore (pc := 77) (lv' := [(0, vR (some (b0 + 0))), (2, vI x2), (3, vI x3), (4, vI x4), (5, vI x5), (6, vI (ea_i h (b0 + 1) (Int32.toNatClampNeg (((12 : Int32) * x4) + x5))))]) dX12_spreads_77 (Nat.le_of_ble_eq_true rfl) [1, 2, 3, 4, 5, 0] rfl ?_
      refine ea_iload (pc := 79) dX12_spreads_79 5 rfl ?_
      refine ea_if_eq (pc := 81) (tgt := 139) dX12_spreads_81 rfl (fun c18 => ?_) (fun c18 => ?_)
      · have E := (if_pos c18).symm.trans E
        refine ea_iinc (pc := 139) (v := 1) (lv' := [(0, vR (some (b0 + 0))), (2, vI x2), (3, vI x3), (4, vI x4), (5, vI (x5 + (1 : Int32)))]) dX12_spreads_139 4 rfl rfl (Nat.le_of_ble_eq_true rfl) [1, 2, 3, 4, 0] rfl ?_
        refine ea_goto (pc := 142) (tgt := 55) dX12_spreads_142 rfl ?_
        exact ((ih 55 0 (x2 : Int32) (x3 : Int32) (x4 : Int32) ((x5 + (1 : Int32)) : Int32) h _ _ E hs).2.2.2.2 rfl)
      · have E := (if_neg c18).symm.trans E
        refine ea_aload_n (pc := 84) dX12_spreads_84 rfl 0 rfl ?_
        refine ea_getR (pc := 85) dX12_spreads_85 ec_12 (k := 11) (Nat.le_of_ble_eq_true rfl) rfl (Or.inl ew_1356) (hs.1 0 (by decide)).1 (hs.1 0 (by decide)).2.1 (hs.2 0 11 rfl) ?_
        refine ea_iload (pc := 88) dX12_spreads_88 3 rfl ?_
        obtain ⟨z10, E⟩ := gd_some E
        refine ea_iald (pc := 90) dX12_spreads_90 (hs.1 9 (by decide)).1 (hs.1 9 (by decide)).2.1 (ea_vpl (hs.1 9 (by decide)).2.2 z10) ?_
        refine ea_ldcw (pc := 91) dX12_spreads_91 ew_1727 ?_
        refine ea_icmp_eq (pc := 94) (tgt := 139) dX12_spreads_94 rfl (fun c17 => ?_) (fun c17 => ?_)
        · have E := (if_pos c17).symm.trans E
          refine ea_iinc (pc := 139) (v := 1) (lv' := [(0, vR (some (b0 + 0))), (2, vI x2), (3, vI x3), (4, vI x4), (5, vI (x5 + (1 : Int32)))]) dX12_spreads_139 4 rfl rfl (Nat.le_of_ble_eq_true rfl) [1, 2, 3, 4, 0] rfl ?_
          refine ea_goto (pc := 142) (tgt := 55) dX12_spreads_142 rfl ?_
          exact ((ih 55 0 (x2 : Int32) (x3 : Int32) (x4 : Int32) ((x5 + (1 : Int32)) : Int32) h _ _ E hs).2.2.2.2 rfl)
        · have E := (if_neg c17).symm.trans E
          refine ea_aload_n (pc := 97) dX12_spreads_97 rfl 0 rfl ?_
          refine ea_getR (pc := 98) dX12_spreads_98 ec_12 (k := 11) (Nat.le_of_ble_eq_true rfl) rfl (Or.inl ew_1356) (hs.1 0 (by decide)).1 (hs.1 0 (by decide)).2.1 (hs.2 0 11 rfl) ?_
          refine ea_iload (pc := 101) dX12_spreads_101 3 rfl ?_
          obtain ⟨z11, E⟩ := gd_some E
          refine ea_iald (pc := 103) dX12_spreads_103 (hs.1 9 (by decide)).1 (hs.1 9 (by decide)).2.1 (ea_vpl (hs.1 9 (by decide)).2.2 z11) ?_
          refine ea_iload (pc := 104) dX12_spreads_104 5 rfl ?_
          refine ea_iadd (pc := 106) dX12_spreads_106 ?_
          refine ea_aload_n (pc := 107) dX12_spreads_107 rfl 0 rfl ?_
          refine ea_getR (pc := 108) dX12_spreads_108 ec_12 (k := 11) (Nat.le_of_ble_eq_true rfl) rfl (Or.inl ew_1356) (hs.1 0 (by decide)).1 (hs.1 0 (by decide)).2.1 (hs.2 0 11 rfl) ?_
          refine ea_iload (pc := 111) dX12_spreads_111 4 rfl ?_
          obtain ⟨z12, E⟩ := gd_some E
          refine ea_iald (pc := 113) dX12_spreads_113 (hs.1 9 (by decide)).1 (hs.1 9 (by decide)).2.1 (ea_vpl (hs.1 9 (by decide)).2.2 z12) ?_
          refine ea_icmp_lt (pc := 114) (tgt := 120) dX12_spreads_114 rfl (fun c16 => ?_) (fun c16 => ?_)
          · have E := (if_pos c16).symm.trans E
            refine ea_aload_n (pc := 120) dX12_spreads_120 rfl 0 rfl ?_
            refine ea_getR (pc := 121) dX12_spreads_121 ec_12 (k := 11) (Nat.le_of_ble_eq_true rfl) rfl (Or.inl ew_1356) (hs.1 0 (by decide)).1 (hs.1 0 (by decide)).2.1 (hs.2 0 11 rfl) ?_
            refine ea_iload (pc := 124) dX12_spreads_124 4 rfl ?_
            refine ea_aload_n (pc := 126) dX12_spreads_126 rfl 0 rfl ?_
            refine ea_getR (pc := 127) dX12_spreads_127 ec_12 (k := 11) (Nat.le_of_ble_eq_true rfl) rfl (Or.inl ew_1356) (hs.1 0 (by decide)).1 (hs.1 0 (by decide)).2.1 (hs.2 0 11 rfl) ?_
            refine ea_iload (pc := 130) dX12_spreads_130 3 rfl ?_
            obtain ⟨z13, E⟩ := gd_some E
            refine ea_iald (pc := 132) dX12_spreads_132 (hs.1 9 (by decide)).1 (hs.1 9 (by decide)).2.1 (ea_vpl (hs.1 9 (by decide)).2.2 z13) ?_
            refine ea_iload (pc := 133) dX12_spreads_133 5 rfl ?_
            refine ea_iadd (pc := 135) dX12_spreads_135 ?_
            obtain ⟨z14, E⟩ := gd_some E
            refine ea_iast (pc := 136) dX12_spreads_136 (hs.1 9 (by decide)).1 (hs.1 9 (by decide)).2.1 (ea_vpl (hs.1 9 (by decide)).2.2 z14) ?_
            have hs15 : ShM b0 (ea_wi h (b0 + 9) (Int32.toNatClampNeg x5) ((ea_i h (b0 + 9) (Int32.toNatClampNeg x4)) + (ea_i h (b0 + 1) (Int32.toNatClampNeg (((12 : Int32) * x4) + x5))))) := ShM_wi hs
            refine ea_iconst (pc := 137) dX12_spreads_137 (v := 1) rfl ?_
            refine ea_istore_n (pc := 138) (lv' := [(0, vR (some (b0 + 0))), (2, vI x2), (3, vI 1), (4, vI x4), (5, vI x5)]) dX12_spreads_138 rfl (Nat.le_of_ble_eq_true rfl) [1, 2, 0, 3, 4] rfl ?_
            refine ea_iinc (pc := 139) (v := 1) (lv' := [(0, vR (some (b0 + 0))), (2, vI x2), (3, vI 1), (4, vI x4), (5, vI (x5 + (1 : Int32)))]) dX12_spreads_139 4 rfl rfl (Nat.le_of_ble_eq_true rfl) [1, 2, 3, 4, 0] rfl ?_
            refine ea_goto (pc := 142) (tgt := 55) dX12_spreads_142 rfl ?_
            exact ((ih 55 0 (x2 : Int32) (1 : Int32) (x4 : Int32) ((x5 + (1 : Int32)) : Int32) (ea_wi h (b0 + 9) (Int32.toNatClampNeg x5) ((ea_i h (b0 + 9) (Int32.toNatClampNeg x4)) + (ea_i h (b0 + 1) (Int32.toNatClampNeg (((12 : Int32) * x4) + x5))))) _ _ E hs15).2.2.2.2 rfl)
          · have E := (if_neg c16).symm.trans E
            refine ea_goto (pc := 117) (tgt := 139) dX12_spreads_117 rfl ?_
            refine ea_iinc (pc := 139) (v := 1) (lv' := [(0, vR (some (b0 + 0))), (2, vI x2), (3, vI x3), (4, vI x4), (5, vI (x5 + (1 : Int32)))]) dX12_spreads_139 4 rfl rfl (Nat.le_of_ble_eq_true rfl) [1, 2, 3, 4, 0] rfl ?_
            refine ea_goto (pc := 142) (tgt := 55) dX12_spreads_142 rfl ?_
            exact ((ih 55 0 (x2 : Int32) (x3 : Int32) (x4 : Int32) ((x5 + (1 : Int32)) : Int32) h _ _ E hs).2.2.2.2 rfl)
noncomputable def qX12_spreads (b0 : Nat) (x1 : Int32) (x2 : Int32) (h : ea_H) : Option (Unit × ea_H) := gX12_spreads b0 1000000000 0 x1 x2 0 0 0 h
def okX12_spreads (b0 : Nat) (x1 : Int32) (x2 : Int32) (h : ea_H) : Prop := ∃ x, qX12_spreads b0 x1 x2 h = some x
noncomputable def wX12_spreads (b0 : Nat) (x1 : Int32) (x2 : Int32) (h : ea_H) : ea_H := ((qX12_spreads b0 x1 x2 h).getD ((), h)).2
theorem sX12_spreads {d : Nat} {b0 : Nat} {x1 : Int32} {x2 : Int32} {h : ea_H} (hd : 1 ≤ d) (hs : ShM b0 h) (K : okX12_spreads b0 x1 x2 h) : ea_Met mX12_spreads d [vR (some (b0 + 0)), vI x1, vI x2] h none (wX12_spreads b0 x1 x2 h) := by
  obtain ⟨⟨x, y⟩, K⟩ := K
  unfold wX12_spreads
  rw [K]
  unfold qX12_spreads at K
  exact ea_enter rfl (Nat.le_of_ble_eq_true rfl) ((tX12_spreads hd 1000000000 0 x1 x2 0 0 0 h x y K hs).1 rfl)
theorem zX12_spreads {b0 : Nat} : ∀ (f lbl : Nat) (x1 : Int32) (x2 : Int32) (x3 : Int32) (x4 : Int32) (x5 : Int32) (h : ea_H) (r : Unit) (h' : ea_H), gX12_spreads b0 f lbl x1 x2 x3 x4 x5 h = some (r, h') → ShM b0 h → ShM b0 h' := by
  intro f
  induction f with
  | zero => intro lbl x1 x2 x3 x4 x5 h r h' E; cases E
  | succ f ih =>
    intro lbl x1 x2 x3 x4 x5 h r h' E hs
    unfold gX12_spreads at E
    by_cases el0 : lbl = 0
    · have E := (if_pos el0).symm.trans E
      exact ih 2 (x1 : Int32) (x2 : Int32) (0 : Int32) 0 0 h _ _ E hs
    have E := (if_neg el0).symm.trans E
    by_cases el1 : lbl = 2
    · have E := (if_pos el1).symm.trans E
      by_cases c6 : (12 : Int32) ≤ x3
      · have E := (if_pos c6).symm.trans E
        exact ih 34 0 (x2 : Int32) (1 : Int32) 0 0 h _ _ E hs
      have E := (if_neg c6).symm.trans E
      by_cases c5 : x3 = x1
      · have E := (if_pos c5).symm.trans E
        obtain ⟨z3, E⟩ := gd_some E
        exact ih 2 (x1 : Int32) (x2 : Int32) ((x3 + (1 : Int32)) : Int32) 0 0 (ea_wi h (b0 + 9) (Int32.toNatClampNeg x3) 0) _ _ E (ShM_wi hs)
      have E := (if_neg c5).symm.trans E
      obtain ⟨z1, E⟩ := gd_some E
      exact ih 2 (x1 : Int32) (x2 : Int32) ((x3 + (1 : Int32)) : Int32) 0 0 (ea_wi h (b0 + 9) (Int32.toNatClampNeg x3) 1000000) _ _ E (ShM_wi hs)
    have E := (if_neg el1).symm.trans E
    by_cases el2 : lbl = 34
    · have E := (if_pos el2).symm.trans E
      by_cases c7 : x3 = (0 : Int32)
      · have E := (if_pos c7).symm.trans E
        exact ea_shO E hs
      have E := (if_neg c7).symm.trans E
      exact ih 43 0 (x2 : Int32) (0 : Int32) (x2 : Int32) 0 h _ _ E hs
    have E := (if_neg el2).symm.trans E
    by_cases el3 : lbl = 43
    · have E := (if_pos el3).symm.trans E
      by_cases c8 : (ea_i h (b0 + 0) 1) ≤ x4
      · have E := (if_pos c8).symm.trans E
        exact ih 34 0 (x2 : Int32) (x3 : Int32) 0 0 h _ _ E hs
      have E := (if_neg c8).symm.trans E
      exact ih 55 0 (x2 : Int32) (x3 : Int32) (x4 : Int32) (x2 : Int32) h _ _ E hs
    have E := (if_neg el3).symm.trans E
    by_cases el4 : lbl = 55
    · have E := (if_pos el4).symm.trans E
      by_cases c19 : (ea_i h (b0 + 0) 1) ≤ x5
      · have E := (if_pos c19).symm.trans E
        exact ih 43 0 (x2 : Int32) (x3 : Int32) ((x4 + (1 : Int32)) : Int32) 0 h _ _ E hs
      have E := (if_neg c19).symm.trans E
      obtain ⟨z9, E⟩ := gd_some E
      by_cases c18 : (ea_i h (b0 + 1) (Int32.toNatClampNeg (((12 : Int32) * x4) + x5))) = (0 : Int32)
      · have E := (if_pos c18).symm.trans E
        exact ih 55 0 (x2 : Int32) (x3 : Int32) (x4 : Int32) ((x5 + (1 : Int32)) : Int32) h _ _ E hs
      have E := (if_neg c18).symm.trans E
      obtain ⟨z10, E⟩ := gd_some E
      by_cases c17 : (ea_i h (b0 + 9) (Int32.toNatClampNeg x4)) = (1000000 : Int32)
      · have E := (if_pos c17).symm.trans E
        exact ih 55 0 (x2 : Int32) (x3 : Int32) (x4 : Int32) ((x5 + (1 : Int32)) : Int32) h _ _ E hs
      have E := (if_neg c17).symm.trans E
      obtain ⟨z11, E⟩ := gd_some E
      obtain ⟨z12, E⟩ := gd_some E
      by_cases c16 : ((ea_i h (b0 + 9) (Int32.toNatClampNeg x4)) + (ea_i h (b0 + 1) (Int32.toNatClampNeg (((12 : Int32) * x4) + x5)))) < (ea_i h (b0 + 9) (Int32.toNatClampNeg x5))
      · have E := (if_pos c16).symm.trans E
        obtain ⟨z13, E⟩ := gd_some E
        obtain ⟨z14, E⟩ := gd_some E
        exact ih 55 0 (x2 : Int32) (1 : Int32) (x4 : Int32) ((x5 + (1 : Int32)) : Int32) (ea_wi h (b0 + 9) (Int32.toNatClampNeg x5) ((ea_i h (b0 + 9) (Int32.toNatClampNeg x4)) + (ea_i h (b0 + 1) (Int32.toNatClampNeg (((12 : Int32) * x4) + x5))))) _ _ E (ShM_wi hs)
      have E := (if_neg c16).symm.trans E
      exact ih 55 0 (x2 : Int32) (x3 : Int32) (x4 : Int32) ((x5 + (1 : Int32)) : Int32) h _ _ E hs
    have E := (if_neg el4).symm.trans E
    cases E
theorem shX12_spreads {b0 : Nat} {x1 : Int32} {x2 : Int32} {h : ea_H} (hs : ShM b0 h) : ShM b0 (wX12_spreads b0 x1 x2 h) := by
  unfold wX12_spreads
  cases K : qX12_spreads b0 x1 x2 h with
  | none => exact hs
  | some x => obtain ⟨x, y⟩ := x; unfold qX12_spreads at K; exact zX12_spreads _ _ _ _ _ _ _ _ _ _ K hs
noncomputable def vX12_milesOf (b0 : Nat) (x1 : Int32) (x2 : Int32) (x3 : Int32) (h : ea_H) : Int32 := (ea_i (wX12_spreads b0 (x1 : Int32) (x3 : Int32) h) (b0 + 9) (Int32.toNatClampNeg x2))
noncomputable def wX12_milesOf (b0 : Nat) (x1 : Int32) (x2 : Int32) (x3 : Int32) (h : ea_H) : ea_H := (wX12_spreads b0 (x1 : Int32) (x3 : Int32) h)
def okX12_milesOf (b0 : Nat) (x1 : Int32) (x2 : Int32) (x3 : Int32) (h : ea_H) : Prop := (okX12_spreads b0 (x1 : Int32) (x3 : Int32) h) ∧ (vp_in x2 12)
theorem shX12_milesOf {b0 : Nat} {x1 : Int32} {x2 : Int32} {x3 : Int32} {h : ea_H} (hs : ShM b0 h) : ShM b0 (wX12_milesOf b0 x1 x2 x3 h) := (shX12_spreads hs)
theorem sX12_milesOf {d : Nat} {b0 : Nat} {x1 : Int32} {x2 : Int32} {x3 : Int32} {h : ea_H} (hd : 2 ≤ d) (hs : ShM b0 h) (K : okX12_milesOf b0 x1 x2 x3 h) : ea_Met mX12_milesOf d [vR (some (b0 + 0)), vI x1, vI x2, vI x3] h (some (vI (vX12_milesOf b0 x1 x2 x3 h))) (wX12_milesOf b0 x1 x2 x3 h) := by
  obtain ⟨X, EX⟩ : ∃ z, z = vX12_milesOf b0 x1 x2 x3 h := ⟨_, rfl⟩
  rw [← EX]
  unfold vX12_milesOf at EX
  obtain ⟨Y, EY⟩ : ∃ z, z = wX12_milesOf b0 x1 x2 x3 h := ⟨_, rfl⟩
  rw [← EY]
  unfold wX12_milesOf at EY
  unfold okX12_milesOf at K
  refine ea_enter rfl (Nat.le_of_ble_eq_true rfl) ?_
  refine ea_aload_n (pc := 0) dX12_milesOf_0 rfl 0 rfl ?_
  refine ea_iload_n (pc := 1) dX12_milesOf_1 rfl 1 rfl ?_
  refine ea_iload_n (pc := 2) dX12_milesOf_2 rfl 3 rfl ?_
  obtain ⟨z1, K⟩ := K
  refine ea_callV (pc := 3) (d' := d - 1) (As := [vI x1, vI x3]) (st := []) dX12_milesOf_3 kX12_spreads (sX12_spreads (d := d - 1) (by omega) hs z1) (by omega) rfl (Nat.le_of_ble_eq_true rfl) ew_1723 ew_1725 ew_49 (ci := 12) rfl (by decide) (hs.1 0 (by decide)).1 (hs.1 0 (by decide)).2.1 ?_
  have hs2 : ShM b0 (wX12_spreads b0 (x1 : Int32) (x3 : Int32) h) := shX12_spreads hs
  refine ea_aload_n (pc := 6) dX12_milesOf_6 rfl 0 rfl ?_
  refine ea_getR (pc := 7) dX12_milesOf_7 ec_12 (k := 11) (Nat.le_of_ble_eq_true rfl) rfl (Or.inl ew_1356) (hs2.1 0 (by decide)).1 (hs2.1 0 (by decide)).2.1 (hs2.2 0 11 rfl) ?_
  refine ea_iload_n (pc := 10) dX12_milesOf_10 rfl 2 rfl ?_
  have z3 := K
  refine ea_iald (pc := 11) dX12_milesOf_11 (hs2.1 9 (by decide)).1 (hs2.1 9 (by decide)).2.1 (ea_vpl (hs2.1 9 (by decide)).2.2 z3) ?_
  exact ea_iretE (pc := 12) dX12_milesOf_12 rfl rfl EX EY
noncomputable def vX12_miles (b0 : Nat) (x1 : Int32) (x2 : Int32) (h : ea_H) : Int32 := (if (vX12_isTown b0 (x1 : Int32) h) = (0 : Int32) then ((-1) : Int32) else (if (vX12_isTown b0 (x2 : Int32) h) = (0 : Int32) then ((-1) : Int32) else (if (vX12_milesOf b0 (x1 : Int32) (x2 : Int32) (0 : Int32) h) = (1000000 : Int32) then ((-1) : Int32) else (vX12_milesOf b0 (x1 : Int32) (x2 : Int32) (0 : Int32) h))))
noncomputable def wX12_miles (b0 : Nat) (x1 : Int32) (x2 : Int32) (h : ea_H) : ea_H := (if (vX12_isTown b0 (x1 : Int32) h) = (0 : Int32) then h else (if (vX12_isTown b0 (x2 : Int32) h) = (0 : Int32) then h else (wX12_milesOf b0 (x1 : Int32) (x2 : Int32) (0 : Int32) h)))
def okX12_miles (b0 : Nat) (x1 : Int32) (x2 : Int32) (h : ea_H) : Prop := ((vX12_isTown b0 (x1 : Int32) h) = (0 : Int32) → True) ∧ (¬ (vX12_isTown b0 (x1 : Int32) h) = (0 : Int32) → ((vX12_isTown b0 (x2 : Int32) h) = (0 : Int32) → True) ∧ (¬ (vX12_isTown b0 (x2 : Int32) h) = (0 : Int32) → (okX12_milesOf b0 (x1 : Int32) (x2 : Int32) (0 : Int32) h)))
theorem shX12_miles {b0 : Nat} {x1 : Int32} {x2 : Int32} {h : ea_H} (hs : ShM b0 h) : ShM b0 (wX12_miles b0 x1 x2 h) := (ShM_it hs (ShM_it hs (shX12_milesOf hs)))
theorem sX12_miles {d : Nat} {b0 : Nat} {x1 : Int32} {x2 : Int32} {h : ea_H} (hd : 3 ≤ d) (hs : ShM b0 h) (K : okX12_miles b0 x1 x2 h) : ea_Met mX12_miles d [vR (some (b0 + 0)), vI x1, vI x2] h (some (vI (vX12_miles b0 x1 x2 h))) (wX12_miles b0 x1 x2 h) := by
  obtain ⟨X, EX⟩ : ∃ z, z = vX12_miles b0 x1 x2 h := ⟨_, rfl⟩
  rw [← EX]
  unfold vX12_miles at EX
  obtain ⟨Y, EY⟩ : ∃ z, z = wX12_miles b0 x1 x2 h := ⟨_, rfl⟩
  rw [← EY]
  unfold wX12_miles at EY
  unfold okX12_miles at K
  refine ea_enter rfl (Nat.le_of_ble_eq_true rfl) ?_
  refine ea_aload_n (pc := 0) dX12_miles_0 rfl 0 rfl ?_
  refine ea_iload_n (pc := 1) dX12_miles_1 rfl 1 rfl ?_
  refine ea_callV (pc := 2) (d' := d - 1) (As := [vI x1]) (st := []) dX12_miles_2 kX12_isTown (sX12_isTown (d := d - 1) (by omega) hs) (by omega) rfl (Nat.le_of_ble_eq_true rfl) ew_1708 ew_1710 ew_47 (ci := 12) rfl (by decide) (hs.1 0 (by decide)).1 (hs.1 0 (by decide)).2.1 ?_
  refine ea_if_eq (pc := 5) (tgt := 16) dX12_miles_5 rfl (fun c7 => ?_) (fun c7 => ?_)
  · have EX := EX.trans (if_pos c7)
    have EY := EY.trans (if_pos c7)
    refine ea_iconst (pc := 16) dX12_miles_16 (v := (-1)) rfl ?_
    exact ea_iretE (pc := 17) dX12_miles_17 rfl rfl EX EY
  · have EX := EX.trans (if_neg c7)
    have EY := EY.trans (if_neg c7)
    have K := K.2 c7
    refine ea_aload_n (pc := 8) dX12_miles_8 rfl 0 rfl ?_
    refine ea_iload_n (pc := 9) dX12_miles_9 rfl 2 rfl ?_
    refine ea_callV (pc := 10) (d' := d - 1) (As := [vI x2]) (st := []) dX12_miles_10 kX12_isTown (sX12_isTown (d := d - 1) (by omega) hs) (by omega) rfl (Nat.le_of_ble_eq_true rfl) ew_1708 ew_1710 ew_47 (ci := 12) rfl (by decide) (hs.1 0 (by decide)).1 (hs.1 0 (by decide)).2.1 ?_
    refine ea_if_ne (pc := 13) (tgt := 18) dX12_miles_13 rfl (fun c6 => ?_) (fun c6 => ?_)
    · have EX := EX.trans (if_neg c6)
      have EY := EY.trans (if_neg c6)
      have K := K.2 c6
      refine ea_aload_n (pc := 18) dX12_miles_18 rfl 0 rfl ?_
      refine ea_iload_n (pc := 19) dX12_miles_19 rfl 1 rfl ?_
      refine ea_iload_n (pc := 20) dX12_miles_20 rfl 2 rfl ?_
      refine ea_iconst (pc := 21) dX12_miles_21 (v := 0) rfl ?_
      have z3 := K
      refine ea_callV (pc := 22) (d' := d - 1) (As := [vI x1, vI x2, vI 0]) (st := []) dX12_miles_22 kX12_milesOf (sX12_milesOf (d := d - 1) (by omega) hs z3) (by omega) rfl (Nat.le_of_ble_eq_true rfl) ew_1719 ew_1721 ew_48 (ci := 12) rfl (by decide) (hs.1 0 (by decide)).1 (hs.1 0 (by decide)).2.1 ?_
      have hs4 : ShM b0 (wX12_milesOf b0 (x1 : Int32) (x2 : Int32) (0 : Int32) h) := shX12_milesOf hs
      refine ea_istore_n (pc := 25) (lv' := [(3, vI (vX12_milesOf b0 (x1 : Int32) (x2 : Int32) (0 : Int32) h))]) dX12_miles_25 rfl (Nat.le_of_ble_eq_true rfl) [0] rfl ?_
      refine ea_iload_n (pc := 26) dX12_miles_26 rfl 0 rfl ?_
      refine ea_ldcw (pc := 27) dX12_miles_27 ew_1727 ?_
      refine ea_icmp_ne (pc := 30) (tgt := 37) dX12_miles_30 rfl (fun c5 => ?_) (fun c5 => ?_)
      · have EX := EX.trans (if_neg c5)
        refine ea_iload_n (pc := 37) dX12_miles_37 rfl 0 rfl ?_
        exact ea_iretE (pc := 38) dX12_miles_38 rfl rfl EX EY
      · have EX := EX.trans (if_pos c5)
        refine ea_iconst (pc := 33) dX12_miles_33 (v := (-1)) rfl ?_
        refine ea_goto (pc := 34) (tgt := 38) dX12_miles_34 rfl ?_
        exact ea_iretE (pc := 38) dX12_miles_38 rfl rfl EX EY
    · have EX := EX.trans (if_pos c6)
      have EY := EY.trans (if_pos c6)
      refine ea_iconst (pc := 16) dX12_miles_16 (v := (-1)) rfl ?_
      exact ea_iretE (pc := 17) dX12_miles_17 rfl rfl EX EY
noncomputable def gX12_going (b0 : Nat) : Nat → Nat → Int32 → Int32 → Int32 → ea_H → Option (Int32 × ea_H)
  | 0, _, _, _, _, _ => none
  | f + 1, lbl, x1, x2, x3, h =>
    if lbl = 0 then (gd (vp_in x1 12) (gX12_going b0 f 7 0 (x2 : Int32) ((ea_i h (b0 + 20) (Int32.toNatClampNeg x1)) : Int32) h)) else
    if lbl = 7 then (if x3 = ((-1) : Int32) then (some (x3, h)) else (gd (vp_in x3 1000) (if x2 ≤ (ea_i h (b0 + 10) (Int32.toNatClampNeg x3)) then (some (x3, h)) else (gd (vp_in x3 1000) (gX12_going b0 f 7 0 (x2 : Int32) ((ea_i h (b0 + 19) (Int32.toNatClampNeg x3)) : Int32) h))))) else none
theorem tX12_going {d : Nat} {b0 : Nat} {h0 : ea_H} (hd : 1 ≤ d) : ∀ (f lbl : Nat) (x1 : Int32) (x2 : Int32) (x3 : Int32) (h : ea_H) (r : Int32) (h' : ea_H), gX12_going b0 f lbl x1 x2 x3 h = some (r, h') → ShM b0 h → (lbl = 0 → ea_W mX12_going d h0 (some (vI r)) h' 0 [(0, vR (some (b0 + 0))), (1, vI x1), (2, vI x2)] [] h) ∧ (lbl = 7 → ea_W mX12_going d h0 (some (vI r)) h' 7 [(0, vR (some (b0 + 0))), (2, vI x2), (3, vI x3)] [] h) := by
  intro f
  induction f with
  | zero => intro lbl x1 x2 x3 h r h' E; cases E
  | succ f ih =>
    intro lbl x1 x2 x3 h r h' E hs
    unfold gX12_going at E
    refine ⟨?_, ?_⟩
    · intro el
      subst el
      have E := (if_pos rfl).symm.trans E
      refine ea_aload_n (pc := 0) dX12_going_0 rfl 0 rfl ?_
      refine ea_getR (pc := 1) dX12_going_1 ec_12 (k := 24) (Nat.le_of_ble_eq_true rfl) rfl (Or.inl ew_1369) (hs.1 0 (by decide)).1 (hs.1 0 (by decide)).2.1 (hs.2 0 24 rfl) ?_
      refine ea_iload_n (pc := 4) dX12_going_4 rfl 1 rfl ?_
      obtain ⟨z1, E⟩ := gd_some E
      refine ea_iald (pc := 5) dX12_going_5 (hs.1 20 (by decide)).1 (hs.1 20 (by decide)).2.1 (ea_vpl (hs.1 20 (by decide)).2.2 z1) ?_
      refine ea_istore_n (pc := 6) (lv' := [(0, vR (some (b0 + 0))), (2, vI x2), (3, vI (ea_i h (b0 + 20) (Int32.toNatClampNeg x1)))]) dX12_going_6 rfl (Nat.le_of_ble_eq_true rfl) [1, 3, 0] rfl ?_
      exact ((ih 7 0 (x2 : Int32) ((ea_i h (b0 + 20) (Int32.toNatClampNeg x1)) : Int32) h _ _ E hs).2 rfl)
    intro el
    subst el
    have E := (if_neg (by decide)).symm.trans E
    have E := (if_pos rfl).symm.trans E
    refine ea_iload_n (pc := 7) dX12_going_7 rfl 2 rfl ?_
    refine ea_iconst (pc := 8) dX12_going_8 (v := (-1)) rfl ?_
    refine ea_icmp_eq (pc := 9) (tgt := 32) dX12_going_9 rfl (fun c5 => ?_) (fun c5 => ?_)
    · have E := (if_pos c5).symm.trans E
      refine ea_iload_n (pc := 32) dX12_going_32 rfl 2 rfl ?_
      exact ea_iretO (pc := 33) dX12_going_33 rfl rfl E
    · have E := (if_neg c5).symm.trans E
      refine ea_aload_n (pc := 12) dX12_going_12 rfl 0 rfl ?_
      refine ea_getR (pc := 13) dX12_going_13 ec_12 (k := 14) (Nat.le_of_ble_eq_true rfl) rfl (Or.inl ew_1359) (hs.1 0 (by decide)).1 (hs.1 0 (by decide)).2.1 (hs.2 0 14 rfl) ?_
      refine ea_iload_n (pc := 16) dX12_going_16 rfl 2 rfl ?_
      obtain ⟨z2, E⟩ := gd_some E
      refine ea_iald (pc := 17) dX12_going_17 (hs.1 10 (by decide)).1 (hs.1 10 (by decide)).2.1 (ea_vpl (hs.1 10 (by decide)).2.2 z2) ?_
      refine ea_iload_n (pc := 18) dX12_going_18 rfl 1 rfl ?_
      refine ea_icmp_ge (pc := 19) (tgt := 32) dX12_going_19 rfl (fun c4 => ?_) (fun c4 => ?_)
      · have E := (if_pos c4).symm.trans E
        refine ea_iload_n (pc := 32) dX12_going_32 rfl 2 rfl ?_
        exact ea_iretO (pc := 33) dX12_going_33 rfl rfl E
      · have E := (if_neg c4).symm.trans E
        refine ea_aload_n (pc := 22) dX12_going_22 rfl 0 rfl ?_
        refine ea_getR (pc := 23) dX12_going_23 ec_12 (k := 23) (Nat.le_of_ble_eq_true rfl) rfl (Or.inl ew_1368) (hs.1 0 (by decide)).1 (hs.1 0 (by decide)).2.1 (hs.2 0 23 rfl) ?_
        refine ea_iload_n (pc := 26) dX12_going_26 rfl 2 rfl ?_
        obtain ⟨z3, E⟩ := gd_some E
        refine ea_iald (pc := 27) dX12_going_27 (hs.1 19 (by decide)).1 (hs.1 19 (by decide)).2.1 (ea_vpl (hs.1 19 (by decide)).2.2 z3) ?_
        refine ea_istore_n (pc := 28) (lv' := [(0, vR (some (b0 + 0))), (2, vI x2), (3, vI (ea_i h (b0 + 19) (Int32.toNatClampNeg x3)))]) dX12_going_28 rfl (Nat.le_of_ble_eq_true rfl) [1, 2, 0] rfl ?_
        refine ea_goto (pc := 29) (tgt := 7) dX12_going_29 rfl ?_
        exact ((ih 7 0 (x2 : Int32) ((ea_i h (b0 + 19) (Int32.toNatClampNeg x3)) : Int32) h _ _ E hs).2 rfl)
noncomputable def qX12_going (b0 : Nat) (x1 : Int32) (x2 : Int32) (h : ea_H) : Option (Int32 × ea_H) := gX12_going b0 1000000000 0 x1 x2 0 h
def okX12_going (b0 : Nat) (x1 : Int32) (x2 : Int32) (h : ea_H) : Prop := ∃ x, qX12_going b0 x1 x2 h = some x
noncomputable def vX12_going (b0 : Nat) (x1 : Int32) (x2 : Int32) (h : ea_H) : Int32 := ((qX12_going b0 x1 x2 h).getD (0, h)).1
noncomputable def wX12_going (b0 : Nat) (x1 : Int32) (x2 : Int32) (h : ea_H) : ea_H := ((qX12_going b0 x1 x2 h).getD (0, h)).2
theorem sX12_going {d : Nat} {b0 : Nat} {x1 : Int32} {x2 : Int32} {h : ea_H} (hd : 1 ≤ d) (hs : ShM b0 h) (K : okX12_going b0 x1 x2 h) : ea_Met mX12_going d [vR (some (b0 + 0)), vI x1, vI x2] h (some (vI (vX12_going b0 x1 x2 h))) (wX12_going b0 x1 x2 h) := by
  obtain ⟨⟨x, y⟩, K⟩ := K
  unfold wX12_going vX12_going
  rw [K]
  unfold qX12_going at K
  exact ea_enter rfl (Nat.le_of_ble_eq_true rfl) ((tX12_going hd 1000000000 0 x1 x2 0 h x y K hs).1 rfl)
theorem zX12_going {b0 : Nat} : ∀ (f lbl : Nat) (x1 : Int32) (x2 : Int32) (x3 : Int32) (h : ea_H) (r : Int32) (h' : ea_H), gX12_going b0 f lbl x1 x2 x3 h = some (r, h') → ShM b0 h → ShM b0 h' := by
  intro f
  induction f with
  | zero => intro lbl x1 x2 x3 h r h' E; cases E
  | succ f ih =>
    intro lbl x1 x2 x3 h r h' E hs
    unfold gX12_going at E
    by_cases el0 : lbl = 0
    · have E := (if_pos el0).symm.trans E
      obtain ⟨z1, E⟩ := gd_some E
      exact ih 7 0 (x2 : Int32) ((ea_i h (b0 + 20) (Int32.toNatClampNeg x1)) : Int32) h _ _ E hs
    have E := (if_neg el0).symm.trans E
    by_cases el1 : lbl = 7
    · have E := (if_pos el1).symm.trans E
      by_cases c5 : x3 = ((-1) : Int32)
      · have E := (if_pos c5).symm.trans E
        exact ea_shO E hs
      have E := (if_neg c5).symm.trans E
      obtain ⟨z2, E⟩ := gd_some E
      by_cases c4 : x2 ≤ (ea_i h (b0 + 10) (Int32.toNatClampNeg x3))
      · have E := (if_pos c4).symm.trans E
        exact ea_shO E hs
      have E := (if_neg c4).symm.trans E
      obtain ⟨z3, E⟩ := gd_some E
      exact ih 7 0 (x2 : Int32) ((ea_i h (b0 + 19) (Int32.toNatClampNeg x3)) : Int32) h _ _ E hs
    have E := (if_neg el1).symm.trans E
    cases E
theorem shX12_going {b0 : Nat} {x1 : Int32} {x2 : Int32} {h : ea_H} (hs : ShM b0 h) : ShM b0 (wX12_going b0 x1 x2 h) := by
  unfold wX12_going
  cases K : qX12_going b0 x1 x2 h with
  | none => exact hs
  | some x => obtain ⟨x, y⟩ := x; unfold qX12_going at K; exact zX12_going _ _ _ _ _ _ _ _ K hs
noncomputable def gX12_goings (b0 : Nat) : Nat → Nat → Int32 → Int32 → Int32 → Int32 → Int32 → Int32 → Int32 → Int32 → Int32 → Int32 → Int32 → Int32 → ea_H → Option (Unit × ea_H)
  | 0, _, _, _, _, _, _, _, _, _, _, _, _, _, _ => none
  | f + 1, lbl, sx0, x1, x10, x11, x12, x2, x3, x4, x5, x6, x7, x8, h =>
    if lbl = 0 then (gd (vp_in x1 1000) (gd (vp_in x1 1000) (gd ((okX12_townOf b0 ((ea_i h (b0 + 12) (Int32.toNatClampNeg x1)) : Int32) ((ea_i h (b0 + 13) (Int32.toNatClampNeg x1)) : Int32) h)) (gX12_goings b0 f 22 0 (x1 : Int32) 0 0 0 ((ea_i h (b0 + 12) (Int32.toNatClampNeg x1)) : Int32) ((vX12_townOf b0 ((ea_i h (b0 + 12) (Int32.toNatClampNeg x1)) : Int32) ((ea_i h (b0 + 13) (Int32.toNatClampNeg x1)) : Int32) h) : Int32) (0 : Int32) 0 0 0 0 h)))) else
    if lbl = 22 then (if (ea_i h (b0 + 0) 1) ≤ x4 then (gd (vp_in x3 12) (gd (vp_in x1 1000) (gd (vp_in x3 12) (gX12_goings b0 f 320 0 (x1 : Int32) 0 0 0 0 0 (0 : Int32) 0 0 0 0 (ea_wi (ea_wi h (b0 + 19) (Int32.toNatClampNeg x1) (ea_i h (b0 + 20) (Int32.toNatClampNeg x3))) (b0 + 20) (Int32.toNatClampNeg x3) x1))))) else (gd (vp_in (((12 : Int32) * x1) + x4) 12000) (gd (vp_in x1 1000) (gX12_goings b0 f 60 0 (x1 : Int32) 0 0 0 (x2 : Int32) (x3 : Int32) (x4 : Int32) ((((12 : Int32) * x1) + x4) : Int32) (((ea_i (ea_wi h (b0 + 15) (Int32.toNatClampNeg (((12 : Int32) * x1) + x4)) 1000000) (b0 + 13) (Int32.toNatClampNeg x1)) + (1 : Int32)) : Int32) 0 0 (ea_wi h (b0 + 15) (Int32.toNatClampNeg (((12 : Int32) * x1) + x4)) 1000000))))) else
    if lbl = 60 then (gd (vp_in (x2 / (7 : Int32)) 10) (if (ea_i h (b0 + 2) (Int32.toNatClampNeg (x2 / (7 : Int32)))) ≤ x6 then (gX12_goings b0 f 22 0 (x1 : Int32) 0 0 0 (x2 : Int32) (x3 : Int32) ((x4 + (1 : Int32)) : Int32) 0 0 0 0 h) else (gd ((okX12_comesAt b0 (x2 : Int32) (x6 : Int32) h)) (if (vX12_comesAt b0 (x2 : Int32) (x6 : Int32) h) ≤ (10079 : Int32) then (gd ((okX12_townOf b0 (x2 : Int32) (x6 : Int32) h)) (if (vX12_townOf b0 (x2 : Int32) (x6 : Int32) h) = x4 then (gX12_goings b0 f 122 ((-1) : Int32) (x1 : Int32) 0 0 0 (x2 : Int32) (x3 : Int32) (x4 : Int32) (x5 : Int32) (x6 : Int32) ((vX12_comesAt b0 (x2 : Int32) (x6 : Int32) h) : Int32) ((vX12_townOf b0 (x2 : Int32) (x6 : Int32) h) : Int32) h) else (gd ((okX12_going b0 ((vX12_townOf b0 (x2 : Int32) (x6 : Int32) h) : Int32) ((vX12_comesAt b0 (x2 : Int32) (x6 : Int32) h) : Int32) h)) (gX12_goings b0 f 122 ((vX12_going b0 ((vX12_townOf b0 (x2 : Int32) (x6 : Int32) h) : Int32) ((vX12_comesAt b0 (x2 : Int32) (x6 : Int32) h) : Int32) h) : Int32) (x1 : Int32) 0 0 0 (x2 : Int32) (x3 : Int32) (x4 : Int32) (x5 : Int32) (x6 : Int32) ((vX12_comesAt b0 (x2 : Int32) (x6 : Int32) h) : Int32) ((vX12_townOf b0 (x2 : Int32) (x6 : Int32) h) : Int32) (wX12_going b0 ((vX12_townOf b0 (x2 : Int32) (x6 : Int32) h) : Int32) ((vX12_comesAt b0 (x2 : Int32) (x6 : Int32) h) : Int32) h))))) else (gX12_goings b0 f 22 0 (x1 : Int32) 0 0 0 (x2 : Int32) (x3 : Int32) ((x4 + (1 : Int32)) : Int32) 0 0 0 0 h))))) else
    if lbl = 122 then (if sx0 = ((-1) : Int32) then (gX12_goings b0 f 147 ((-1) : Int32) (x1 : Int32) 0 0 0 (x2 : Int32) (x3 : Int32) (x4 : Int32) (x5 : Int32) (x6 : Int32) (x7 : Int32) (x8 : Int32) h) else (gd (vp_in (((12 : Int32) * sx0) + x4) 12000) (gX12_goings b0 f 147 ((ea_i h (b0 + 18) (Int32.toNatClampNeg (((12 : Int32) * sx0) + x4))) : Int32) (x1 : Int32) 0 0 0 (x2 : Int32) (x3 : Int32) (x4 : Int32) (x5 : Int32) (x6 : Int32) (x7 : Int32) (x8 : Int32) h))) else
    if lbl = 147 then (if x8 = x4 then (gX12_goings b0 f 165 0 (x1 : Int32) (sx0 : Int32) 0 0 (x2 : Int32) (x3 : Int32) (x4 : Int32) (x5 : Int32) (x6 : Int32) (x7 : Int32) (x8 : Int32) h) else (if sx0 = ((-1) : Int32) then (gX12_goings b0 f 60 0 (x1 : Int32) 0 0 0 (x2 : Int32) (x3 : Int32) (x4 : Int32) (x5 : Int32) ((x6 + (1 : Int32)) : Int32) 0 0 h) else (gX12_goings b0 f 165 0 (x1 : Int32) (sx0 : Int32) 0 0 (x2 : Int32) (x3 : Int32) (x4 : Int32) (x5 : Int32) (x6 : Int32) (x7 : Int32) (x8 : Int32) h))) else
    if lbl = 165 then (if x8 = x4 then (gX12_goings b0 f 190 (x7 : Int32) (x1 : Int32) (x10 : Int32) 0 0 (x2 : Int32) (x3 : Int32) (x4 : Int32) (x5 : Int32) (x6 : Int32) 0 (x8 : Int32) h) else (gd (vp_in (((12 : Int32) * x10) + x4) 12000) (gX12_goings b0 f 190 ((ea_i h (b0 + 15) (Int32.toNatClampNeg (((12 : Int32) * x10) + x4))) : Int32) (x1 : Int32) (x10 : Int32) 0 0 (x2 : Int32) (x3 : Int32) (x4 : Int32) (x5 : Int32) (x6 : Int32) 0 (x8 : Int32) h))) else
    if lbl = 190 then (if x8 = x4 then (gX12_goings b0 f 218 (1 : Int32) (x1 : Int32) 0 (sx0 : Int32) 0 (x2 : Int32) (x3 : Int32) (x4 : Int32) (x5 : Int32) (x6 : Int32) 0 0 h) else (gd (vp_in (((12 : Int32) * x10) + x4) 12000) (gX12_goings b0 f 218 (((ea_i h (b0 + 16) (Int32.toNatClampNeg (((12 : Int32) * x10) + x4))) + (1 : Int32)) : Int32) (x1 : Int32) 0 (sx0 : Int32) 0 (x2 : Int32) (x3 : Int32) (x4 : Int32) (x5 : Int32) (x6 : Int32) 0 0 h))) else
    if lbl = 218 then (gd (vp_in x5 12000) (if (ea_i h (b0 + 15) (Int32.toNatClampNeg x5)) < x11 then (gX12_goings b0 f 60 0 (x1 : Int32) 0 0 0 (x2 : Int32) (x3 : Int32) (x4 : Int32) (x5 : Int32) ((x6 + (1 : Int32)) : Int32) 0 0 h) else (gd (vp_in x5 12000) (if x11 = (ea_i h (b0 + 15) (Int32.toNatClampNeg x5)) then (gd (vp_in x5 12000) (if sx0 < (ea_i h (b0 + 16) (Int32.toNatClampNeg x5)) then (gX12_goings b0 f 259 0 (x1 : Int32) 0 (x11 : Int32) (sx0 : Int32) (x2 : Int32) (x3 : Int32) (x4 : Int32) (x5 : Int32) (x6 : Int32) 0 0 h) else (gX12_goings b0 f 60 0 (x1 : Int32) 0 0 0 (x2 : Int32) (x3 : Int32) (x4 : Int32) (x5 : Int32) ((x6 + (1 : Int32)) : Int32) 0 0 h))) else (gX12_goings b0 f 259 0 (x1 : Int32) 0 (x11 : Int32) (sx0 : Int32) (x2 : Int32) (x3 : Int32) (x4 : Int32) (x5 : Int32) (x6 : Int32) 0 0 h))))) else
    if lbl = 259 then (gd (vp_in x5 12000) (gd (vp_in x5 12000) (gd (vp_in x5 12000) (gX12_goings b0 f 60 0 (x1 : Int32) 0 0 0 (x2 : Int32) (x3 : Int32) (x4 : Int32) (x5 : Int32) ((x6 + (1 : Int32)) : Int32) 0 0 (ea_wi (ea_wi (ea_wi h (b0 + 15) (Int32.toNatClampNeg x5) x11) (b0 + 16) (Int32.toNatClampNeg x5) x12) (b0 + 17) (Int32.toNatClampNeg x5) x6))))) else
    if lbl = 320 then (if (ea_i h (b0 + 0) 1) ≤ x4 then (some ((), h)) else (gd (vp_in x1 1000) (if (ea_i h (b0 + 19) (Int32.toNatClampNeg x1)) = ((-1) : Int32) then (gX12_goings b0 f 360 ((-1) : Int32) (x1 : Int32) 0 0 0 0 0 (x4 : Int32) 0 0 0 0 h) else (gd (vp_in x1 1000) (gd (vp_in (((12 : Int32) * (ea_i h (b0 + 19) (Int32.toNatClampNeg x1))) + x4) 12000) (gX12_goings b0 f 360 ((ea_i h (b0 + 18) (Int32.toNatClampNeg (((12 : Int32) * (ea_i h (b0 + 19) (Int32.toNatClampNeg x1))) + x4))) : Int32) (x1 : Int32) 0 0 0 0 0 (x4 : Int32) 0 0 0 0 h)))))) else
    if lbl = 360 then (gd (vp_in (((12 : Int32) * x1) + x4) 12000) (if (ea_i h (b0 + 15) (Int32.toNatClampNeg (((12 : Int32) * x1) + x4))) = (1000000 : Int32) then (gd (vp_in (((12 : Int32) * x1) + x4) 12000) (gX12_goings b0 f 320 0 (x1 : Int32) 0 0 0 0 0 ((x4 + (1 : Int32)) : Int32) 0 0 0 0 (ea_wi h (b0 + 18) (Int32.toNatClampNeg (((12 : Int32) * x1) + x4)) sx0))) else (if sx0 = ((-1) : Int32) then (gd (vp_in (((12 : Int32) * x1) + x4) 12000) (gX12_goings b0 f 320 0 (x1 : Int32) 0 0 0 0 0 ((x4 + (1 : Int32)) : Int32) 0 0 0 0 (ea_wi h (b0 + 18) (Int32.toNatClampNeg (((12 : Int32) * x1) + x4)) x1))) else (gd ((okX12_isBetter b0 (x1 : Int32) (sx0 : Int32) (x4 : Int32) h)) (if (vX12_isBetter b0 (x1 : Int32) (sx0 : Int32) (x4 : Int32) h) = (0 : Int32) then (gd (vp_in (((12 : Int32) * x1) + x4) 12000) (gX12_goings b0 f 320 0 (x1 : Int32) 0 0 0 0 0 ((x4 + (1 : Int32)) : Int32) 0 0 0 0 (ea_wi h (b0 + 18) (Int32.toNatClampNeg (((12 : Int32) * x1) + x4)) sx0))) else (gd (vp_in (((12 : Int32) * x1) + x4) 12000) (gX12_goings b0 f 320 0 (x1 : Int32) 0 0 0 0 0 ((x4 + (1 : Int32)) : Int32) 0 0 0 0 (ea_wi h (b0 + 18) (Int32.toNatClampNeg (((12 : Int32) * x1) + x4)) x1)))))))) else none
theorem tX12_goings {d : Nat} {b0 : Nat} {h0 : ea_H} (hd : 2 ≤ d) : ∀ (f lbl : Nat) (sx0 : Int32) (x1 : Int32) (x10 : Int32) (x11 : Int32) (x12 : Int32) (x2 : Int32) (x3 : Int32) (x4 : Int32) (x5 : Int32) (x6 : Int32) (x7 : Int32) (x8 : Int32) (h : ea_H) (r : Unit) (h' : ea_H), gX12_goings b0 f lbl sx0 x1 x10 x11 x12 x2 x3 x4 x5 x6 x7 x8 h = some (r, h') → ShM b0 h → (lbl = 0 → ea_W mX12_goings d h0 none h' 0 [(0, vR (some (b0 + 0))), (1, vI x1)] [] h) ∧ (lbl = 22 → ea_W mX12_goings d h0 none h' 22 [(0, vR (some (b0 + 0))), (1, vI x1), (2, vI x2), (3, vI x3), (4, vI x4)] [] h) ∧ (lbl = 60 → ea_W mX12_goings d h0 none h' 60 [(0, vR (some (b0 + 0))), (1, vI x1), (2, vI x2), (3, vI x3), (4, vI x4), (5, vI x5), (6, vI x6)] [] h) ∧ (lbl = 122 → ea_W mX12_goings d h0 none h' 122 [(0, vR (some (b0 + 0))), (1, vI x1), (2, vI x2), (3, vI x3), (4, vI x4), (5, vI x5), (6, vI x6), (7, vI x7), (8, vI x8)] [vI sx0] h) ∧ (lbl = 147 → ea_W mX12_goings d h0 none h' 147 [(0, vR (some (b0 + 0))), (1, vI x1), (2, vI x2), (3, vI x3), (4, vI x4), (5, vI x5), (6, vI x6), (7, vI x7), (8, vI x8)] [vI sx0] h) ∧ (lbl = 165 → ea_W mX12_goings d h0 none h' 165 [(0, vR (some (b0 + 0))), (1, vI x1), (2, vI x2), (3, vI x3), (4, vI x4), (5, vI x5), (6, vI x6), (7, vI x7), (8, vI x8), (10, vI x10)] [] h) ∧ (lbl = 190 → ea_W mX12_goings d h0 none h' 190 [(0, vR (some (b0 + 0))), (1, vI x1), (2, vI x2), (3, vI x3), (4, vI x4), (5, vI x5), (6, vI x6), (8, vI x8), (10, vI x10)] [vI sx0] h) ∧ (lbl = 218 → ea_W mX12_goings d h0 none h' 218 [(0, vR (some (b0 + 0))), (1, vI x1), (2, vI x2), (3, vI x3), (4, vI x4), (5, vI x5), (6, vI x6), (11, vI x11)] [vI sx0] h) ∧ (lbl = 259 → ea_W mX12_goings d h0 none h' 259 [(0, vR (some (b0 + 0))), (1, vI x1), (2, vI x2), (3, vI x3), (4, vI x4), (5, vI x5), (6, vI x6), (11, vI x11), (12, vI x12)] [] h) ∧ (lbl = 320 → ea_W mX12_goings d h0 none h' 320 [(0, vR (some (b0 + 0))), (1, vI x1), (4, vI x4)] [] h) ∧ (lbl = 360 → ea_W mX12_goings d h0 none h' 360 [(0, vR (some (b0 + 0))), (1, vI x1), (4, vI x4)] [vI sx0] h) := by
  intro f
  induction f with
  | zero => intro lbl sx0 x1 x10 x11 x12 x2 x3 x4 x5 x6 x7 x8 h r h' E; cases E
  | succ f ih =>
    intro lbl sx0 x1 x10 x11 x12 x2 x3 x4 x5 x6 x7 x8 h r h' E hs
    unfold gX12_goings at E
    refine ⟨?_, ?_⟩
    · intro el
      subst el
      have E := (if_pos rfl).symm.trans E
      refine ea_aload_n (pc := 0) dX12_goings_0 rfl 0 rfl ?_
      refine ea_getR (pc := 1) dX12_goings_1 ec_12 (k := 16) (Nat.le_of_ble_eq_true rfl) rfl (Or.inl ew_1361) (hs.1 0 (by decide)).1 (hs.1 0 (by decide)).2.1 (hs.2 0 16 rfl) ?_
      refine ea_iload_n (pc := 4) dX12_goings_4 rfl 1 rfl ?_
      obtain ⟨z1, E⟩ := gd_some E
      refine ea_iald (pc := 5) dX12_goings_5 (hs.1 12 (by decide)).1 (hs.1 12 (by decide)).2.1 (ea_vpl (hs.1 12 (by decide)).2.2 z1) ?_
      refine ea_istore_n (pc := 6) (lv' := [(0, vR (some (b0 + 0))), (1, vI x1), (2, vI (ea_i h (b0 + 12) (Int32.toNatClampNeg x1)))]) dX12_goings_6 rfl (Nat.le_of_ble_eq_true rfl) [1, 2, 0] rfl ?_
      refine ea_aload_n (pc := 7) dX12_goings_7 rfl 0 rfl ?_
      refine ea_iload_n (pc := 8) dX12_goings_8 rfl 2 rfl ?_
      refine ea_aload_n (pc := 9) dX12_goings_9 rfl 0 rfl ?_
      refine ea_getR (pc := 10) dX12_goings_10 ec_12 (k := 17) (Nat.le_of_ble_eq_true rfl) rfl (Or.inl ew_1362) (hs.1 0 (by decide)).1 (hs.1 0 (by decide)).2.1 (hs.2 0 17 rfl) ?_
      refine ea_iload_n (pc := 13) dX12_goings_13 rfl 1 rfl ?_
      obtain ⟨z2, E⟩ := gd_some E
      refine ea_iald (pc := 14) dX12_goings_14 (hs.1 13 (by decide)).1 (hs.1 13 (by decide)).2.1 (ea_vpl (hs.1 13 (by decide)).2.2 z2) ?_
      obtain ⟨z3, E⟩ := gd_some E
      refine ea_callV (pc := 15) (d' := d - 1) (As := [vI (ea_i h (b0 + 12) (Int32.toNatClampNeg x1)), vI (ea_i h (b0 + 13) (Int32.toNatClampNeg x1))]) (st := []) dX12_goings_15 kX12_townOf (sX12_townOf (d := d - 1) (by omega) hs z3) (by omega) rfl (Nat.le_of_ble_eq_true rfl) ew_1798 ew_1800 ew_60 (ci := 12) rfl (by decide) (hs.1 0 (by decide)).1 (hs.1 0 (by decide)).2.1 ?_
      refine ea_istore_n (pc := 18) (lv' := [(0, vR (some (b0 + 0))), (1, vI x1), (2, vI (ea_i h (b0 + 12) (Int32.toNatClampNeg x1))), (3, vI (vX12_townOf b0 ((ea_i h (b0 + 12) (Int32.toNatClampNeg x1)) : Int32) ((ea_i h (b0 + 13) (Int32.toNatClampNeg x1)) : Int32) h))]) dX12_goings_18 rfl (Nat.le_of_ble_eq_true rfl) [1, 2, 3, 0] rfl ?_
      refine ea_iconst (pc := 19) dX12_goings_19 (v := 0) rfl ?_
      refine ea_istore (pc := 20) (lv' := [(0, vR (some (b0 + 0))), (1, vI x1), (2, vI (ea_i h (b0 + 12) (Int32.toNatClampNeg x1))), (3, vI (vX12_townOf b0 ((ea_i h (b0 + 12) (Int32.toNatClampNeg x1)) : Int32) ((ea_i h (b0 + 13) (Int32.toNatClampNeg x1)) : Int32) h)), (4, vI 0)]) dX12_goings_20 (Nat.le_of_ble_eq_true rfl) [1, 2, 3, 4, 0] rfl ?_
      exact ((ih 22 0 (x1 : Int32) 0 0 0 ((ea_i h (b0 + 12) (Int32.toNatClampNeg x1)) : Int32) ((vX12_townOf b0 ((ea_i h (b0 + 12) (Int32.toNatClampNeg x1)) : Int32) ((ea_i h (b0 + 13) (Int32.toNatClampNeg x1)) : Int32) h) : Int32) (0 : Int32) 0 0 0 0 h _ _ E hs).2.1 rfl)
    refine ⟨?_, ?_⟩
    · intro el
      subst el
      have E := (if_neg (by decide)).symm.trans E
      have E := (if_pos rfl).symm.trans E
      refine ea_iload (pc := 22) dX12_goings_22 4 rfl ?_
      refine ea_aload_n (pc := 24) dX12_goings_24 rfl 0 rfl ?_
      refine ea_getI (pc := 25) dX12_goings_25 ec_12 (k := 1) (Nat.le_of_ble_eq_true rfl) rfl (Or.inl ew_1346) (hs.1 0 (by decide)).1 (hs.1 0 (by decide)).2.1 ?_
      refine ea_icmp_ge (pc := 28) (tgt := 298) dX12_goings_28 rfl (fun c12 => ?_) (fun c12 => ?_)
      · have E := (if_pos c12).symm.trans E
        refine ea_aload_n (pc := 298) dX12_goings_298 rfl 0 rfl ?_
        refine ea_getR (pc := 299) dX12_goings_299 ec_12 (k := 23) (Nat.le_of_ble_eq_true rfl) rfl (Or.inl ew_1368) (hs.1 0 (by decide)).1 (hs.1 0 (by decide)).2.1 (hs.2 0 23 rfl) ?_
        refine ea_iload_n (pc := 302) dX12_goings_302 rfl 1 rfl ?_
        refine ea_aload_n (pc := 303) dX12_goings_303 rfl 0 rfl ?_
        refine ea_getR (pc := 304) dX12_goings_304 ec_12 (k := 24) (Nat.le_of_ble_eq_true rfl) rfl (Or.inl ew_1369) (hs.1 0 (by decide)).1 (hs.1 0 (by decide)).2.1 (hs.2 0 24 rfl) ?_
        refine ea_iload_n (pc := 307) dX12_goings_307 rfl 3 rfl ?_
        obtain ⟨z4, E⟩ := gd_some E
        refine ea_iald (pc := 308) dX12_goings_308 (hs.1 20 (by decide)).1 (hs.1 20 (by decide)).2.1 (ea_vpl (hs.1 20 (by decide)).2.2 z4) ?_
        obtain ⟨z5, E⟩ := gd_some E
        refine ea_iast (pc := 309) dX12_goings_309 (hs.1 19 (by decide)).1 (hs.1 19 (by decide)).2.1 (ea_vpl (hs.1 19 (by decide)).2.2 z5) ?_
        have hs6 : ShM b0 (ea_wi h (b0 + 19) (Int32.toNatClampNeg x1) (ea_i h (b0 + 20) (Int32.toNatClampNeg x3))) := ShM_wi hs
        refine ea_aload_n (pc := 310) dX12_goings_310 rfl 0 rfl ?_
        refine ea_getR (pc := 311) dX12_goings_311 ec_12 (k := 24) (Nat.le_of_ble_eq_true rfl) rfl (Or.inl ew_1369) (hs6.1 0 (by decide)).1 (hs6.1 0 (by decide)).2.1 (hs6.2 0 24 rfl) ?_
        refine ea_iload_n (pc := 314) dX12_goings_314 rfl 3 rfl ?_
        refine ea_iload_n (pc := 315) dX12_goings_315 rfl 1 rfl ?_
        obtain ⟨z7, E⟩ := gd_some E
        refine ea_iast (pc := 316) dX12_goings_316 (hs6.1 20 (by decide)).1 (hs6.1 20 (by decide)).2.1 (ea_vpl (hs6.1 20 (by decide)).2.2 z7) ?_
        have hs8 : ShM b0 (ea_wi (ea_wi h (b0 + 19) (Int32.toNatClampNeg x1) (ea_i h (b0 + 20) (Int32.toNatClampNeg x3))) (b0 + 20) (Int32.toNatClampNeg x3) x1) := ShM_wi hs6
        refine ea_iconst (pc := 317) dX12_goings_317 (v := 0) rfl ?_
        refine ea_istore (pc := 318) (lv' := [(0, vR (some (b0 + 0))), (1, vI x1), (4, vI 0)]) dX12_goings_318 (Nat.le_of_ble_eq_true rfl) [1, 2, 0] rfl ?_
        exact ((ih 320 0 (x1 : Int32) 0 0 0 0 0 (0 : Int32) 0 0 0 0 (ea_wi (ea_wi h (b0 + 19) (Int32.toNatClampNeg x1) (ea_i h (b0 + 20) (Int32.toNatClampNeg x3))) (b0 + 20) (Int32.toNatClampNeg x3) x1) _ _ E hs8).2.2.2.2.2.2.2.2.2.1 rfl)
      · have E := (if_neg c12).symm.trans E
        refine ea_bipush (pc := 31) dX12_goings_31 (v := 12) rfl ?_
        refine ea_iload_n (pc := 33) dX12_goings_33 rfl 1 rfl ?_
        refine ea_imul (pc := 34) dX12_goings_34 ?_
        refine ea_iload (pc := 35) dX12_goings_35 4 rfl ?_
        refine ea_iadd (pc := 37) dX12_goings_37 ?_
        refine ea_istore (pc := 38) (lv' := [(0, vR (some (b0 + 0))), (1, vI x1), (2, vI x2), (3, vI x3), (4, vI x4), (5, vI (((12 : Int32) * x1) + x4))]) dX12_goings_38 (Nat.le_of_ble_eq_true rfl) [1, 2, 3, 4, 5, 0] rfl ?_
        refine ea_aload_n (pc := 40) dX12_goings_40 rfl 0 rfl ?_
        refine ea_getR (pc := 41) dX12_goings_41 ec_12 (k := 19) (Nat.le_of_ble_eq_true rfl) rfl (Or.inl ew_1364) (hs.1 0 (by decide)).1 (hs.1 0 (by decide)).2.1 (hs.2 0 19 rfl) ?_
        refine ea_iload (pc := 44) dX12_goings_44 5 rfl ?_
        refine ea_ldcw (pc := 46) dX12_goings_46 ew_1727 ?_
        obtain ⟨z9, E⟩ := gd_some E
        refine ea_iast (pc := 49) dX12_goings_49 (hs.1 15 (by decide)).1 (hs.1 15 (by decide)).2.1 (ea_vpl (hs.1 15 (by decide)).2.2 z9) ?_
        have hs10 : ShM b0 (ea_wi h (b0 + 15) (Int32.toNatClampNeg (((12 : Int32) * x1) + x4)) 1000000) := ShM_wi hs
        refine ea_aload_n (pc := 50) dX12_goings_50 rfl 0 rfl ?_
        refine ea_getR (pc := 51) dX12_goings_51 ec_12 (k := 17) (Nat.le_of_ble_eq_true rfl) rfl (Or.inl ew_1362) (hs10.1 0 (by decide)).1 (hs10.1 0 (by decide)).2.1 (hs10.2 0 17 rfl) ?_
        refine ea_iload_n (pc := 54) dX12_goings_54 rfl 1 rfl ?_
        obtain ⟨z11, E⟩ := gd_some E
        refine ea_iald (pc := 55) dX12_goings_55 (hs10.1 13 (by decide)).1 (hs10.1 13 (by decide)).2.1 (ea_vpl (hs10.1 13 (by decide)).2.2 z11) ?_
        refine ea_iconst (pc := 56) dX12_goings_56 (v := 1) rfl ?_
        refine ea_iadd (pc := 57) dX12_goings_57 ?_
        refine ea_istore (pc := 58) (lv' := [(0, vR (some (b0 + 0))), (1, vI x1), (2, vI x2), (3, vI x3), (4, vI x4), (5, vI (((12 : Int32) * x1) + x4)), (6, vI ((ea_i (ea_wi h (b0 + 15) (Int32.toNatClampNeg (((12 : Int32) * x1) + x4)) 1000000) (b0 + 13) (Int32.toNatClampNeg x1)) + (1 : Int32)))]) dX12_goings_58 (Nat.le_of_ble_eq_true rfl) [1, 2, 3, 4, 5, 6, 0] rfl ?_
        exact ((ih 60 0 (x1 : Int32) 0 0 0 (x2 : Int32) (x3 : Int32) (x4 : Int32) ((((12 : Int32) * x1) + x4) : Int32) (((ea_i (ea_wi h (b0 + 15) (Int32.toNatClampNeg (((12 : Int32) * x1) + x4)) 1000000) (b0 + 13) (Int32.toNatClampNeg x1)) + (1 : Int32)) : Int32) 0 0 (ea_wi h (b0 + 15) (Int32.toNatClampNeg (((12 : Int32) * x1) + x4)) 1000000) _ _ E hs10).2.2.1 rfl)
    refine ⟨?_, ?_⟩
    · intro el
      subst el
      have E := (if_neg (by decide)).symm.trans E
      have E := (if_neg (by decide)).symm.trans E
      have E := (if_pos rfl).symm.trans E
      refine ea_iload (pc := 60) dX12_goings_60 6 rfl ?_
      refine ea_aload_n (pc := 62) dX12_goings_62 rfl 0 rfl ?_
      refine ea_getR (pc := 63) dX12_goings_63 ec_12 (k := 4) (Nat.le_of_ble_eq_true rfl) rfl (Or.inl ew_1349) (hs.1 0 (by decide)).1 (hs.1 0 (by decide)).2.1 (hs.2 0 4 rfl) ?_
      refine ea_iload_n (pc := 66) dX12_goings_66 rfl 2 rfl ?_
      refine ea_bipush (pc := 67) dX12_goings_67 (v := 7) rfl ?_
      refine ea_idiv (pc := 69) dX12_goings_69 (by decide) ?_
      obtain ⟨z13, E⟩ := gd_some E
      refine ea_iald (pc := 70) dX12_goings_70 (hs.1 2 (by decide)).1 (hs.1 2 (by decide)).2.1 (ea_vpl (hs.1 2 (by decide)).2.2 z13) ?_
      refine ea_icmp_ge (pc := 71) (tgt := 292) dX12_goings_71 rfl (fun c20 => ?_) (fun c20 => ?_)
      · have E := (if_pos c20).symm.trans E
        refine ea_iinc (pc := 292) (v := 1) (lv' := [(0, vR (some (b0 + 0))), (1, vI x1), (2, vI x2), (3, vI x3), (4, vI (x4 + (1 : Int32)))]) dX12_goings_292 4 rfl rfl (Nat.le_of_ble_eq_true rfl) [1, 2, 3, 4, 0] rfl ?_
        refine ea_goto (pc := 295) (tgt := 22) dX12_goings_295 rfl ?_
        exact ((ih 22 0 (x1 : Int32) 0 0 0 (x2 : Int32) (x3 : Int32) ((x4 + (1 : Int32)) : Int32) 0 0 0 0 h _ _ E hs).2.1 rfl)
      · have E := (if_neg c20).symm.trans E
        refine ea_aload_n (pc := 74) dX12_goings_74 rfl 0 rfl ?_
        refine ea_iload_n (pc := 75) dX12_goings_75 rfl 2 rfl ?_
        refine ea_iload (pc := 76) dX12_goings_76 6 rfl ?_
        obtain ⟨z14, E⟩ := gd_some E
        refine ea_callV (pc := 78) (d' := d - 1) (As := [vI x2, vI x6]) (st := []) dX12_goings_78 kX12_comesAt (sX12_comesAt (d := d - 1) (by omega) hs z14) (by omega) rfl (Nat.le_of_ble_eq_true rfl) ew_1762 ew_1764 ew_52 (ci := 12) rfl (by decide) (hs.1 0 (by decide)).1 (hs.1 0 (by decide)).2.1 ?_
        refine ea_istore (pc := 81) (lv' := [(0, vR (some (b0 + 0))), (1, vI x1), (2, vI x2), (3, vI x3), (4, vI x4), (5, vI x5), (6, vI x6), (7, vI (vX12_comesAt b0 (x2 : Int32) (x6 : Int32) h))]) dX12_goings_81 (Nat.le_of_ble_eq_true rfl) [1, 2, 3, 4, 5, 6, 7, 0] rfl ?_
        refine ea_iload (pc := 83) dX12_goings_83 7 rfl ?_
        refine ea_sipush (pc := 85) dX12_goings_85 (v := 10079) rfl ?_
        refine ea_icmp_le (pc := 88) (tgt := 94) dX12_goings_88 rfl (fun c19 => ?_) (fun c19 => ?_)
        · have E := (if_pos c19).symm.trans E
          refine ea_aload_n (pc := 94) dX12_goings_94 rfl 0 rfl ?_
          refine ea_iload_n (pc := 95) dX12_goings_95 rfl 2 rfl ?_
          refine ea_iload (pc := 96) dX12_goings_96 6 rfl ?_
          obtain ⟨z15, E⟩ := gd_some E
          refine ea_callV (pc := 98) (d' := d - 1) (As := [vI x2, vI x6]) (st := []) dX12_goings_98 kX12_townOf (sX12_townOf (d := d - 1) (by omega) hs z15) (by omega) rfl (Nat.le_of_ble_eq_true rfl) ew_1798 ew_1800 ew_60 (ci := 12) rfl (by decide) (hs.1 0 (by decide)).1 (hs.1 0 (by decide)).2.1 ?_
          refine ea_istore (pc := 101) (lv' := [(0, vR (some (b0 + 0))), (1, vI x1), (2, vI x2), (3, vI x3), (4, vI x4), (5, vI x5), (6, vI x6), (7, vI (vX12_comesAt b0 (x2 : Int32) (x6 : Int32) h)), (8, vI (vX12_townOf b0 (x2 : Int32) (x6 : Int32) h))]) dX12_goings_101 (Nat.le_of_ble_eq_true rfl) [1, 2, 3, 4, 5, 6, 7, 8, 0] rfl ?_
          refine ea_iload (pc := 103) dX12_goings_103 8 rfl ?_
          refine ea_iload (pc := 105) dX12_goings_105 4 rfl ?_
          refine ea_icmp_ne (pc := 107) (tgt := 114) dX12_goings_107 rfl (fun c18 => ?_) (fun c18 => ?_)
          · have E := (if_neg c18).symm.trans E
            refine ea_aload_n (pc := 114) dX12_goings_114 rfl 0 rfl ?_
            refine ea_iload (pc := 115) dX12_goings_115 8 rfl ?_
            refine ea_iload (pc := 117) dX12_goings_117 7 rfl ?_
            obtain ⟨z16, E⟩ := gd_some E
            refine ea_callV (pc := 119) (d' := d - 1) (As := [vI (vX12_townOf b0 (x2 : Int32) (x6 : Int32) h), vI (vX12_comesAt b0 (x2 : Int32) (x6 : Int32) h)]) (st := []) dX12_goings_119 kX12_going (sX12_going (d := d - 1) (by omega) hs z16) (by omega) rfl (Nat.le_of_ble_eq_true rfl) ew_1802 ew_1804 ew_61 (ci := 12) rfl (by decide) (hs.1 0 (by decide)).1 (hs.1 0 (by decide)).2.1 ?_
            have hs17 : ShM b0 (wX12_going b0 ((vX12_townOf b0 (x2 : Int32) (x6 : Int32) h) : Int32) ((vX12_comesAt b0 (x2 : Int32) (x6 : Int32) h) : Int32) h) := shX12_going hs
            exact ((ih 122 ((vX12_going b0 ((vX12_townOf b0 (x2 : Int32) (x6 : Int32) h) : Int32) ((vX12_comesAt b0 (x2 : Int32) (x6 : Int32) h) : Int32) h) : Int32) (x1 : Int32) 0 0 0 (x2 : Int32) (x3 : Int32) (x4 : Int32) (x5 : Int32) (x6 : Int32) ((vX12_comesAt b0 (x2 : Int32) (x6 : Int32) h) : Int32) ((vX12_townOf b0 (x2 : Int32) (x6 : Int32) h) : Int32) (wX12_going b0 ((vX12_townOf b0 (x2 : Int32) (x6 : Int32) h) : Int32) ((vX12_comesAt b0 (x2 : Int32) (x6 : Int32) h) : Int32) h) _ _ E hs17).2.2.2.1 rfl)
          · have E := (if_pos c18).symm.trans E
            refine ea_iconst (pc := 110) dX12_goings_110 (v := (-1)) rfl ?_
            refine ea_goto (pc := 111) (tgt := 122) dX12_goings_111 rfl ?_
            exact ((ih 122 ((-1) : Int32) (x1 : Int32) 0 0 0 (x2 : Int32) (x3 : Int32) (x4 : Int32) (x5 : Int32) (x6 : Int32) ((vX12_comesAt b0 (x2 : Int32) (x6 : Int32) h) : Int32) ((vX12_townOf b0 (x2 : Int32) (x6 : Int32) h) : Int32) h _ _ E hs).2.2.2.1 rfl)
        · have E := (if_neg c19).symm.trans E
          refine ea_goto (pc := 91) (tgt := 292) dX12_goings_91 rfl ?_
          refine ea_iinc (pc := 292) (v := 1) (lv' := [(0, vR (some (b0 + 0))), (1, vI x1), (2, vI x2), (3, vI x3), (4, vI (x4 + (1 : Int32)))]) dX12_goings_292 4 rfl rfl (Nat.le_of_ble_eq_true rfl) [1, 2, 3, 4, 0] rfl ?_
          refine ea_goto (pc := 295) (tgt := 22) dX12_goings_295 rfl ?_
          exact ((ih 22 0 (x1 : Int32) 0 0 0 (x2 : Int32) (x3 : Int32) ((x4 + (1 : Int32)) : Int32) 0 0 0 0 h _ _ E hs).2.1 rfl)
    refine ⟨?_, ?_⟩
    · intro el
      subst el
      have E := (if_neg (by decide)).symm.trans E
      have E := (if_neg (by decide)).symm.trans E
      have E := (if_neg (by decide)).symm.trans E
      have E := (if_pos rfl).symm.trans E
      refine ea_istore (pc := 122) (lv' := [(0, vR (some (b0 + 0))), (1, vI x1), (2, vI x2), (3, vI x3), (4, vI x4), (5, vI x5), (6, vI x6), (7, vI x7), (8, vI x8), (9, vI sx0)]) dX12_goings_122 (Nat.le_of_ble_eq_true rfl) [1, 2, 3, 4, 5, 6, 7, 8, 9, 0] rfl ?_
      refine ea_iload (pc := 124) dX12_goings_124 9 rfl ?_
      refine ea_iconst (pc := 126) dX12_goings_126 (v := (-1)) rfl ?_
      refine ea_icmp_ne (pc := 127) (tgt := 134) dX12_goings_127 rfl (fun c22 => ?_) (fun c22 => ?_)
      · have E := (if_neg c22).symm.trans E
        refine ea_aload_n (pc := 134) dX12_goings_134 rfl 0 rfl ?_
        refine ea_getR (pc := 135) dX12_goings_135 ec_12 (k := 22) (Nat.le_of_ble_eq_true rfl) rfl (Or.inl ew_1367) (hs.1 0 (by decide)).1 (hs.1 0 (by decide)).2.1 (hs.2 0 22 rfl) ?_
        refine ea_bipush (pc := 138) dX12_goings_138 (v := 12) rfl ?_
        refine ea_iload (pc := 140) dX12_goings_140 9 rfl ?_
        refine ea_imul (pc := 142) dX12_goings_142 ?_
        refine ea_iload (pc := 143) dX12_goings_143 4 rfl ?_
        refine ea_iadd (pc := 145) dX12_goings_145 ?_
        obtain ⟨z21, E⟩ := gd_some E
        refine ea_iald (pc := 146) dX12_goings_146 (hs.1 18 (by decide)).1 (hs.1 18 (by decide)).2.1 (ea_vpl (hs.1 18 (by decide)).2.2 z21) ?_
        exact (ea_fewer [0, 1, 2, 3, 4, 5, 6, 7, 8] rfl ((ih 147 ((ea_i h (b0 + 18) (Int32.toNatClampNeg (((12 : Int32) * sx0) + x4))) : Int32) (x1 : Int32) 0 0 0 (x2 : Int32) (x3 : Int32) (x4 : Int32) (x5 : Int32) (x6 : Int32) (x7 : Int32) (x8 : Int32) h _ _ E hs).2.2.2.2.1 rfl))
      · have E := (if_pos c22).symm.trans E
        refine ea_iconst (pc := 130) dX12_goings_130 (v := (-1)) rfl ?_
        refine ea_goto (pc := 131) (tgt := 147) dX12_goings_131 rfl ?_
        exact (ea_fewer [0, 1, 2, 3, 4, 5, 6, 7, 8] rfl ((ih 147 ((-1) : Int32) (x1 : Int32) 0 0 0 (x2 : Int32) (x3 : Int32) (x4 : Int32) (x5 : Int32) (x6 : Int32) (x7 : Int32) (x8 : Int32) h _ _ E hs).2.2.2.2.1 rfl))
    refine ⟨?_, ?_⟩
    · intro el
      subst el
      have E := (if_neg (by decide)).symm.trans E
      have E := (if_neg (by decide)).symm.trans E
      have E := (if_neg (by decide)).symm.trans E
      have E := (if_neg (by decide)).symm.trans E
      have E := (if_pos rfl).symm.trans E
      refine ea_istore (pc := 147) (lv' := [(0, vR (some (b0 + 0))), (1, vI x1), (2, vI x2), (3, vI x3), (4, vI x4), (5, vI x5), (6, vI x6), (7, vI x7), (8, vI x8), (10, vI sx0)]) dX12_goings_147 (Nat.le_of_ble_eq_true rfl) [1, 2, 3, 4, 5, 6, 7, 8, 9, 0] rfl ?_
      refine ea_iload (pc := 149) dX12_goings_149 8 rfl ?_
      refine ea_iload (pc := 151) dX12_goings_151 4 rfl ?_
      refine ea_icmp_eq (pc := 153) (tgt := 165) dX12_goings_153 rfl (fun c24 => ?_) (fun c24 => ?_)
      · have E := (if_pos c24).symm.trans E
        exact ((ih 165 0 (x1 : Int32) (sx0 : Int32) 0 0 (x2 : Int32) (x3 : Int32) (x4 : Int32) (x5 : Int32) (x6 : Int32) (x7 : Int32) (x8 : Int32) h _ _ E hs).2.2.2.2.2.1 rfl)
      · have E := (if_neg c24).symm.trans E
        refine ea_iload (pc := 156) dX12_goings_156 9 rfl ?_
        refine ea_iconst (pc := 158) dX12_goings_158 (v := (-1)) rfl ?_
        refine ea_icmp_ne (pc := 159) (tgt := 165) dX12_goings_159 rfl (fun c23 => ?_) (fun c23 => ?_)
        · have E := (if_neg c23).symm.trans E
          exact ((ih 165 0 (x1 : Int32) (sx0 : Int32) 0 0 (x2 : Int32) (x3 : Int32) (x4 : Int32) (x5 : Int32) (x6 : Int32) (x7 : Int32) (x8 : Int32) h _ _ E hs).2.2.2.2.2.1 rfl)
        · have E := (if_pos c23).symm.trans E
          refine ea_goto (pc := 162) (tgt := 286) dX12_goings_162 rfl ?_
          refine ea_iinc (pc := 286) (v := 1) (lv' := [(0, vR (some (b0 + 0))), (1, vI x1), (2, vI x2), (3, vI x3), (4, vI x4), (5, vI x5), (6, vI (x6 + (1 : Int32)))]) dX12_goings_286 6 rfl rfl (Nat.le_of_ble_eq_true rfl) [1, 2, 3, 4, 5, 6, 0] rfl ?_
          refine ea_goto (pc := 289) (tgt := 60) dX12_goings_289 rfl ?_
          exact ((ih 60 0 (x1 : Int32) 0 0 0 (x2 : Int32) (x3 : Int32) (x4 : Int32) (x5 : Int32) ((x6 + (1 : Int32)) : Int32) 0 0 h _ _ E hs).2.2.1 rfl)
    refine ⟨?_, ?_⟩
    · intro el
      subst el
      have E := (if_neg (by decide)).symm.trans E
      have E := (if_neg (by decide)).symm.trans E
      have E := (if_neg (by decide)).symm.trans E
      have E := (if_neg (by decide)).symm.trans E
      have E := (if_neg (by decide)).symm.trans E
      have E := (if_pos rfl).symm.trans E
      refine ea_iload (pc := 165) dX12_goings_165 8 rfl ?_
      refine ea_iload (pc := 167) dX12_goings_167 4 rfl ?_
      refine ea_icmp_ne (pc := 169) (tgt := 177) dX12_goings_169 rfl (fun c26 => ?_) (fun c26 => ?_)
      · have E := (if_neg c26).symm.trans E
        refine ea_aload_n (pc := 177) dX12_goings_177 rfl 0 rfl ?_
        refine ea_getR (pc := 178) dX12_goings_178 ec_12 (k := 19) (Nat.le_of_ble_eq_true rfl) rfl (Or.inl ew_1364) (hs.1 0 (by decide)).1 (hs.1 0 (by decide)).2.1 (hs.2 0 19 rfl) ?_
        refine ea_bipush (pc := 181) dX12_goings_181 (v := 12) rfl ?_
        refine ea_iload (pc := 183) dX12_goings_183 9 rfl ?_
        refine ea_imul (pc := 185) dX12_goings_185 ?_
        refine ea_iload (pc := 186) dX12_goings_186 4 rfl ?_
        refine ea_iadd (pc := 188) dX12_goings_188 ?_
        obtain ⟨z25, E⟩ := gd_some E
        refine ea_iald (pc := 189) dX12_goings_189 (hs.1 15 (by decide)).1 (hs.1 15 (by decide)).2.1 (ea_vpl (hs.1 15 (by decide)).2.2 z25) ?_
        exact (ea_fewer [0, 1, 2, 3, 4, 5, 6, 8, 9] rfl ((ih 190 ((ea_i h (b0 + 15) (Int32.toNatClampNeg (((12 : Int32) * x10) + x4))) : Int32) (x1 : Int32) (x10 : Int32) 0 0 (x2 : Int32) (x3 : Int32) (x4 : Int32) (x5 : Int32) (x6 : Int32) 0 (x8 : Int32) h _ _ E hs).2.2.2.2.2.2.1 rfl))
      · have E := (if_pos c26).symm.trans E
        refine ea_iload (pc := 172) dX12_goings_172 7 rfl ?_
        refine ea_goto (pc := 174) (tgt := 190) dX12_goings_174 rfl ?_
        exact (ea_fewer [0, 1, 2, 3, 4, 5, 6, 8, 9] rfl ((ih 190 (x7 : Int32) (x1 : Int32) (x10 : Int32) 0 0 (x2 : Int32) (x3 : Int32) (x4 : Int32) (x5 : Int32) (x6 : Int32) 0 (x8 : Int32) h _ _ E hs).2.2.2.2.2.2.1 rfl))
    refine ⟨?_, ?_⟩
    · intro el
      subst el
      have E := (if_neg (by decide)).symm.trans E
      have E := (if_neg (by decide)).symm.trans E
      have E := (if_neg (by decide)).symm.trans E
      have E := (if_neg (by decide)).symm.trans E
      have E := (if_neg (by decide)).symm.trans E
      have E := (if_neg (by decide)).symm.trans E
      have E := (if_pos rfl).symm.trans E
      refine ea_istore (pc := 190) (lv' := [(0, vR (some (b0 + 0))), (1, vI x1), (2, vI x2), (3, vI x3), (4, vI x4), (5, vI x5), (6, vI x6), (8, vI x8), (10, vI x10), (11, vI sx0)]) dX12_goings_190 (Nat.le_of_ble_eq_true rfl) [1, 2, 3, 4, 5, 6, 7, 8, 9, 0] rfl ?_
      refine ea_iload (pc := 192) dX12_goings_192 7 rfl ?_
      refine ea_iload (pc := 194) dX12_goings_194 4 rfl ?_
      refine ea_icmp_ne (pc := 196) (tgt := 203) dX12_goings_196 rfl (fun c28 => ?_) (fun c28 => ?_)
      · have E := (if_neg c28).symm.trans E
        refine ea_aload_n (pc := 203) dX12_goings_203 rfl 0 rfl ?_
        refine ea_getR (pc := 204) dX12_goings_204 ec_12 (k := 20) (Nat.le_of_ble_eq_true rfl) rfl (Or.inl ew_1365) (hs.1 0 (by decide)).1 (hs.1 0 (by decide)).2.1 (hs.2 0 20 rfl) ?_
        refine ea_bipush (pc := 207) dX12_goings_207 (v := 12) rfl ?_
        refine ea_iload (pc := 209) dX12_goings_209 8 rfl ?_
        refine ea_imul (pc := 211) dX12_goings_211 ?_
        refine ea_iload (pc := 212) dX12_goings_212 4 rfl ?_
        refine ea_iadd (pc := 214) dX12_goings_214 ?_
        obtain ⟨z27, E⟩ := gd_some E
        refine ea_iald (pc := 215) dX12_goings_215 (hs.1 16 (by decide)).1 (hs.1 16 (by decide)).2.1 (ea_vpl (hs.1 16 (by decide)).2.2 z27) ?_
        refine ea_iconst (pc := 216) dX12_goings_216 (v := 1) rfl ?_
        refine ea_iadd (pc := 217) dX12_goings_217 ?_
        exact (ea_fewer [0, 1, 2, 3, 4, 5, 6, 9] rfl ((ih 218 (((ea_i h (b0 + 16) (Int32.toNatClampNeg (((12 : Int32) * x10) + x4))) + (1 : Int32)) : Int32) (x1 : Int32) 0 (sx0 : Int32) 0 (x2 : Int32) (x3 : Int32) (x4 : Int32) (x5 : Int32) (x6 : Int32) 0 0 h _ _ E hs).2.2.2.2.2.2.2.1 rfl))
      · have E := (if_pos c28).symm.trans E
        refine ea_iconst (pc := 199) dX12_goings_199 (v := 1) rfl ?_
        refine ea_goto (pc := 200) (tgt := 218) dX12_goings_200 rfl ?_
        exact (ea_fewer [0, 1, 2, 3, 4, 5, 6, 9] rfl ((ih 218 (1 : Int32) (x1 : Int32) 0 (sx0 : Int32) 0 (x2 : Int32) (x3 : Int32) (x4 : Int32) (x5 : Int32) (x6 : Int32) 0 0 h _ _ E hs).2.2.2.2.2.2.2.1 rfl))
    refine ⟨?_, ?_⟩
    · intro el
      subst el
      have E := (if_neg (by decide)).symm.trans E
      have E := (if_neg (by decide)).symm.trans E
      have E := (if_neg (by decide)).symm.trans E
      have E := (if_neg (by decide)).symm.trans E
      have E := (if_neg (by decide)).symm.trans E
      have E := (if_neg (by decide)).symm.trans E
      have E := (if_neg (by decide)).symm.trans E
      have E := (if_pos rfl).symm.trans E
      refine ea_istore (pc := 218) (lv' := [(0, vR (some (b0 + 0))), (1, vI x1), (2, vI x2), (3, vI x3), (4, vI x4), (5, vI x5), (6, vI x6), (11, vI x11), (12, vI sx0)]) dX12_goings_218 (Nat.le_of_ble_eq_true rfl) [1, 2, 3, 4, 5, 6, 7, 8, 0] rfl ?_
      refine ea_iload (pc := 220) dX12_goings_220 7 rfl ?_
      refine ea_aload_n (pc := 222) dX12_goings_222 rfl 0 rfl ?_
      refine ea_getR (pc := 223) dX12_goings_223 ec_12 (k := 19) (Nat.le_of_ble_eq_true rfl) rfl (Or.inl ew_1364) (hs.1 0 (by decide)).1 (hs.1 0 (by decide)).2.1 (hs.2 0 19 rfl) ?_
      refine ea_iload (pc := 226) dX12_goings_226 5 rfl ?_
      obtain ⟨z29, E⟩ := gd_some E
      refine ea_iald (pc := 228) dX12_goings_228 (hs.1 15 (by decide)).1 (hs.1 15 (by decide)).2.1 (ea_vpl (hs.1 15 (by decide)).2.2 z29) ?_
      refine ea_icmp_gt (pc := 229) (tgt := 286) dX12_goings_229 rfl (fun c34 => ?_) (fun c34 => ?_)
      · have E := (if_pos c34).symm.trans E
        refine ea_iinc (pc := 286) (v := 1) (lv' := [(0, vR (some (b0 + 0))), (1, vI x1), (2, vI x2), (3, vI x3), (4, vI x4), (5, vI x5), (6, vI (x6 + (1 : Int32)))]) dX12_goings_286 6 rfl rfl (Nat.le_of_ble_eq_true rfl) [1, 2, 3, 4, 5, 6, 0] rfl ?_
        refine ea_goto (pc := 289) (tgt := 60) dX12_goings_289 rfl ?_
        exact ((ih 60 0 (x1 : Int32) 0 0 0 (x2 : Int32) (x3 : Int32) (x4 : Int32) (x5 : Int32) ((x6 + (1 : Int32)) : Int32) 0 0 h _ _ E hs).2.2.1 rfl)
      · have E := (if_neg c34).symm.trans E
        refine ea_iload (pc := 232) dX12_goings_232 7 rfl ?_
        refine ea_aload_n (pc := 234) dX12_goings_234 rfl 0 rfl ?_
        refine ea_getR (pc := 235) dX12_goings_235 ec_12 (k := 19) (Nat.le_of_ble_eq_true rfl) rfl (Or.inl ew_1364) (hs.1 0 (by decide)).1 (hs.1 0 (by decide)).2.1 (hs.2 0 19 rfl) ?_
        refine ea_iload (pc := 238) dX12_goings_238 5 rfl ?_
        obtain ⟨z30, E⟩ := gd_some E
        refine ea_iald (pc := 240) dX12_goings_240 (hs.1 15 (by decide)).1 (hs.1 15 (by decide)).2.1 (ea_vpl (hs.1 15 (by decide)).2.2 z30) ?_
        refine ea_icmp_ne (pc := 241) (tgt := 259) dX12_goings_241 rfl (fun c33 => ?_) (fun c33 => ?_)
        · have E := (if_neg c33).symm.trans E
          exact ((ih 259 0 (x1 : Int32) 0 (x11 : Int32) (sx0 : Int32) (x2 : Int32) (x3 : Int32) (x4 : Int32) (x5 : Int32) (x6 : Int32) 0 0 h _ _ E hs).2.2.2.2.2.2.2.2.1 rfl)
        · have E := (if_pos c33).symm.trans E
          refine ea_iload (pc := 244) dX12_goings_244 8 rfl ?_
          refine ea_aload_n (pc := 246) dX12_goings_246 rfl 0 rfl ?_
          refine ea_getR (pc := 247) dX12_goings_247 ec_12 (k := 20) (Nat.le_of_ble_eq_true rfl) rfl (Or.inl ew_1365) (hs.1 0 (by decide)).1 (hs.1 0 (by decide)).2.1 (hs.2 0 20 rfl) ?_
          refine ea_iload (pc := 250) dX12_goings_250 5 rfl ?_
          obtain ⟨z31, E⟩ := gd_some E
          refine ea_iald (pc := 252) dX12_goings_252 (hs.1 16 (by decide)).1 (hs.1 16 (by decide)).2.1 (ea_vpl (hs.1 16 (by decide)).2.2 z31) ?_
          refine ea_icmp_lt (pc := 253) (tgt := 259) dX12_goings_253 rfl (fun c32 => ?_) (fun c32 => ?_)
          · have E := (if_pos c32).symm.trans E
            exact ((ih 259 0 (x1 : Int32) 0 (x11 : Int32) (sx0 : Int32) (x2 : Int32) (x3 : Int32) (x4 : Int32) (x5 : Int32) (x6 : Int32) 0 0 h _ _ E hs).2.2.2.2.2.2.2.2.1 rfl)
          · have E := (if_neg c32).symm.trans E
            refine ea_goto (pc := 256) (tgt := 286) dX12_goings_256 rfl ?_
            refine ea_iinc (pc := 286) (v := 1) (lv' := [(0, vR (some (b0 + 0))), (1, vI x1), (2, vI x2), (3, vI x3), (4, vI x4), (5, vI x5), (6, vI (x6 + (1 : Int32)))]) dX12_goings_286 6 rfl rfl (Nat.le_of_ble_eq_true rfl) [1, 2, 3, 4, 5, 6, 0] rfl ?_
            refine ea_goto (pc := 289) (tgt := 60) dX12_goings_289 rfl ?_
            exact ((ih 60 0 (x1 : Int32) 0 0 0 (x2 : Int32) (x3 : Int32) (x4 : Int32) (x5 : Int32) ((x6 + (1 : Int32)) : Int32) 0 0 h _ _ E hs).2.2.1 rfl)
    refine ⟨?_, ?_⟩
    · intro el
      subst el
      have E := (if_neg (by decide)).symm.trans E
      have E := (if_neg (by decide)).symm.trans E
      have E := (if_neg (by decide)).symm.trans E
      have E := (if_neg (by decide)).symm.trans E
      have E := (if_neg (by decide)).symm.trans E
      have E := (if_neg (by decide)).symm.trans E
      have E := (if_neg (by decide)).symm.trans E
      have E := (if_neg (by decide)).symm.trans E
      have E := (if_pos rfl).symm.trans E
      refine ea_aload_n (pc := 259) dX12_goings_259 rfl 0 rfl ?_
      refine ea_getR (pc := 260) dX12_goings_260 ec_12 (k := 19) (Nat.le_of_ble_eq_true rfl) rfl (Or.inl ew_1364) (hs.1 0 (by decide)).1 (hs.1 0 (by decide)).2.1 (hs.2 0 19 rfl) ?_
      refine ea_iload (pc := 263) dX12_goings_263 5 rfl ?_
      refine ea_iload (pc := 265) dX12_goings_265 7 rfl ?_
      obtain ⟨z35, E⟩ := gd_some E
      refine ea_iast (pc := 267) dX12_goings_267 (hs.1 15 (by decide)).1 (hs.1 15 (by decide)).2.1 (ea_vpl (hs.1 15 (by decide)).2.2 z35) ?_
      have hs36 : ShM b0 (ea_wi h (b0 + 15) (Int32.toNatClampNeg x5) x11) := ShM_wi hs
      refine ea_aload_n (pc := 268) dX12_goings_268 rfl 0 rfl ?_
      refine ea_getR (pc := 269) dX12_goings_269 ec_12 (k := 20) (Nat.le_of_ble_eq_true rfl) rfl (Or.inl ew_1365) (hs36.1 0 (by decide)).1 (hs36.1 0 (by decide)).2.1 (hs36.2 0 20 rfl) ?_
      refine ea_iload (pc := 272) dX12_goings_272 5 rfl ?_
      refine ea_iload (pc := 274) dX12_goings_274 8 rfl ?_
      obtain ⟨z37, E⟩ := gd_some E
      refine ea_iast (pc := 276) dX12_goings_276 (hs36.1 16 (by decide)).1 (hs36.1 16 (by decide)).2.1 (ea_vpl (hs36.1 16 (by decide)).2.2 z37) ?_
      have hs38 : ShM b0 (ea_wi (ea_wi h (b0 + 15) (Int32.toNatClampNeg x5) x11) (b0 + 16) (Int32.toNatClampNeg x5) x12) := ShM_wi hs36
      refine ea_aload_n (pc := 277) dX12_goings_277 rfl 0 rfl ?_
      refine ea_getR (pc := 278) dX12_goings_278 ec_12 (k := 21) (Nat.le_of_ble_eq_true rfl) rfl (Or.inl ew_1366) (hs38.1 0 (by decide)).1 (hs38.1 0 (by decide)).2.1 (hs38.2 0 21 rfl) ?_
      refine ea_iload (pc := 281) dX12_goings_281 5 rfl ?_
      refine ea_iload (pc := 283) dX12_goings_283 6 rfl ?_
      obtain ⟨z39, E⟩ := gd_some E
      refine ea_iast (pc := 285) dX12_goings_285 (hs38.1 17 (by decide)).1 (hs38.1 17 (by decide)).2.1 (ea_vpl (hs38.1 17 (by decide)).2.2 z39) ?_
      have hs40 : ShM b0 (ea_wi (ea_wi (ea_wi h (b0 + 15) (Int32.toNatClampNeg x5) x11) (b0 + 16) (Int32.toNatClampNeg x5) x12) (b0 + 17) (Int32.toNatClampNeg x5) x6) := ShM_wi hs38
      refine ea_iinc (pc := 286) (v := 1) (lv' := [(0, vR (some (b0 + 0))), (1, vI x1), (2, vI x2), (3, vI x3), (4, vI x4), (5, vI x5), (6, vI (x6 + (1 : Int32)))]) dX12_goings_286 6 rfl rfl (Nat.le_of_ble_eq_true rfl) [1, 2, 3, 4, 5, 6, 0] rfl ?_
      refine ea_goto (pc := 289) (tgt := 60) dX12_goings_289 rfl ?_
      exact ((ih 60 0 (x1 : Int32) 0 0 0 (x2 : Int32) (x3 : Int32) (x4 : Int32) (x5 : Int32) ((x6 + (1 : Int32)) : Int32) 0 0 (ea_wi (ea_wi (ea_wi h (b0 + 15) (Int32.toNatClampNeg x5) x11) (b0 + 16) (Int32.toNatClampNeg x5) x12) (b0 + 17) (Int32.toNatClampNeg x5) x6) _ _ E hs40).2.2.1 rfl)
    refine ⟨?_, ?_⟩
    · intro el
      subst el
      have E := (if_neg (by decide)).symm.trans E
      have E := (if_neg (by decide)).symm.trans E
      have E := (if_neg (by decide)).symm.trans E
      have E := (if_neg (by decide)).symm.trans E
      have E := (if_neg (by decide)).symm.trans E
      have E := (if_neg (by decide)).symm.trans E
      have E := (if_neg (by decide)).symm.trans E
      have E := (if_neg (by decide)).symm.trans E
      have E := (if_neg (by decide)).symm.trans E
      have E := (if_pos rfl).symm.trans E
      refine ea_iload (pc := 320) dX12_goings_320 2 rfl ?_
      refine ea_aload_n (pc := 322) dX12_goings_322 rfl 0 rfl ?_
      refine ea_getI (pc := 323) dX12_goings_323 ec_12 (k := 1) (Nat.le_of_ble_eq_true rfl) rfl (Or.inl ew_1346) (hs.1 0 (by decide)).1 (hs.1 0 (by decide)).2.1 ?_
      refine ea_icmp_ge (pc := 326) (tgt := 427) dX12_goings_326 rfl (fun c45 => ?_) (fun c45 => ?_)
      · have E := (if_pos c45).symm.trans E
        exact ea_vretO (pc := 427) dX12_goings_427 rfl E
      · have E := (if_neg c45).symm.trans E
        refine ea_aload_n (pc := 329) dX12_goings_329 rfl 0 rfl ?_
        refine ea_getR (pc := 330) dX12_goings_330 ec_12 (k := 23) (Nat.le_of_ble_eq_true rfl) rfl (Or.inl ew_1368) (hs.1 0 (by decide)).1 (hs.1 0 (by decide)).2.1 (hs.2 0 23 rfl) ?_
        refine ea_iload_n (pc := 333) dX12_goings_333 rfl 1 rfl ?_
        obtain ⟨z41, E⟩ := gd_some E
        refine ea_iald (pc := 334) dX12_goings_334 (hs.1 19 (by decide)).1 (hs.1 19 (by decide)).2.1 (ea_vpl (hs.1 19 (by decide)).2.2 z41) ?_
        refine ea_iconst (pc := 335) dX12_goings_335 (v := (-1)) rfl ?_
        refine ea_icmp_ne (pc := 336) (tgt := 343) dX12_goings_336 rfl (fun c44 => ?_) (fun c44 => ?_)
        · have E := (if_neg c44).symm.trans E
          refine ea_aload_n (pc := 343) dX12_goings_343 rfl 0 rfl ?_
          refine ea_getR (pc := 344) dX12_goings_344 ec_12 (k := 22) (Nat.le_of_ble_eq_true rfl) rfl (Or.inl ew_1367) (hs.1 0 (by decide)).1 (hs.1 0 (by decide)).2.1 (hs.2 0 22 rfl) ?_
          refine ea_bipush (pc := 347) dX12_goings_347 (v := 12) rfl ?_
          refine ea_aload_n (pc := 349) dX12_goings_349 rfl 0 rfl ?_
          refine ea_getR (pc := 350) dX12_goings_350 ec_12 (k := 23) (Nat.le_of_ble_eq_true rfl) rfl (Or.inl ew_1368) (hs.1 0 (by decide)).1 (hs.1 0 (by decide)).2.1 (hs.2 0 23 rfl) ?_
          refine ea_iload_n (pc := 353) dX12_goings_353 rfl 1 rfl ?_
          obtain ⟨z42, E⟩ := gd_some E
          refine ea_iald (pc := 354) dX12_goings_354 (hs.1 19 (by decide)).1 (hs.1 19 (by decide)).2.1 (ea_vpl (hs.1 19 (by decide)).2.2 z42) ?_
          refine ea_imul (pc := 355) dX12_goings_355 ?_
          refine ea_iload (pc := 356) dX12_goings_356 2 rfl ?_
          refine ea_iadd (pc := 358) dX12_goings_358 ?_
          obtain ⟨z43, E⟩ := gd_some E
          refine ea_iald (pc := 359) dX12_goings_359 (hs.1 18 (by decide)).1 (hs.1 18 (by decide)).2.1 (ea_vpl (hs.1 18 (by decide)).2.2 z43) ?_
          exact ((ih 360 ((ea_i h (b0 + 18) (Int32.toNatClampNeg (((12 : Int32) * (ea_i h (b0 + 19) (Int32.toNatClampNeg x1))) + x4))) : Int32) (x1 : Int32) 0 0 0 0 0 (x4 : Int32) 0 0 0 0 h _ _ E hs).2.2.2.2.2.2.2.2.2.2 rfl)
        · have E := (if_pos c44).symm.trans E
          refine ea_iconst (pc := 339) dX12_goings_339 (v := (-1)) rfl ?_
          refine ea_goto (pc := 340) (tgt := 360) dX12_goings_340 rfl ?_
          exact ((ih 360 ((-1) : Int32) (x1 : Int32) 0 0 0 0 0 (x4 : Int32) 0 0 0 0 h _ _ E hs).2.2.2.2.2.2.2.2.2.2 rfl)
    intro el
    subst el
    have E := (if_neg (by decide)).symm.trans E
    have E := (if_neg (by decide)).symm.trans E
    have E := (if_neg (by decide)).symm.trans E
    have E := (if_neg (by decide)).symm.trans E
    have E := (if_neg (by decide)).symm.trans E
    have E := (if_neg (by decide)).symm.trans E
    have E := (if_neg (by decide)).symm.trans E
    have E := (if_neg (by decide)).symm.trans E
    have E := (if_neg (by decide)).symm.trans E
    have E := (if_neg (by decide)).symm.trans E
    have E := (if_pos rfl).symm.trans E
    refine ea_istore (pc := 360) (lv' := [(0, vR (some (b0 + 0))), (1, vI x1), (4, vI x4), (5, vI sx0)]) dX12_goings_360 (Nat.le_of_ble_eq_true rfl) [1, 2, 3, 0] rfl ?_
    refine ea_aload_n (pc := 362) dX12_goings_362 rfl 0 rfl ?_
    refine ea_getR (pc := 363) dX12_goings_363 ec_12 (k := 22) (Nat.le_of_ble_eq_true rfl) rfl (Or.inl ew_1367) (hs.1 0 (by decide)).1 (hs.1 0 (by decide)).2.1 (hs.2 0 22 rfl) ?_
    refine ea_bipush (pc := 366) dX12_goings_366 (v := 12) rfl ?_
    refine ea_iload_n (pc := 368) dX12_goings_368 rfl 1 rfl ?_
    refine ea_imul (pc := 369) dX12_goings_369 ?_
    refine ea_iload (pc := 370) dX12_goings_370 2 rfl ?_
    refine ea_iadd (pc := 372) dX12_goings_372 ?_
    refine ea_aload_n (pc := 373) dX12_goings_373 rfl 0 rfl ?_
    refine ea_getR (pc := 374) dX12_goings_374 ec_12 (k := 19) (Nat.le_of_ble_eq_true rfl) rfl (Or.inl ew_1364) (hs.1 0 (by decide)).1 (hs.1 0 (by decide)).2.1 (hs.2 0 19 rfl) ?_
    refine ea_bipush (pc := 377) dX12_goings_377 (v := 12) rfl ?_
    refine ea_iload_n (pc := 379) dX12_goings_379 rfl 1 rfl ?_
    refine ea_imul (pc := 380) dX12_goings_380 ?_
    refine ea_iload (pc := 381) dX12_goings_381 2 rfl ?_
    refine ea_iadd (pc := 383) dX12_goings_383 ?_
    obtain ⟨z46, E⟩ := gd_some E
    refine ea_iald (pc := 384) dX12_goings_384 (hs.1 15 (by decide)).1 (hs.1 15 (by decide)).2.1 (ea_vpl (hs.1 15 (by decide)).2.2 z46) ?_
    refine ea_ldcw (pc := 385) dX12_goings_385 ew_1727 ?_
    refine ea_icmp_ne (pc := 388) (tgt := 396) dX12_goings_388 rfl (fun c58 => ?_) (fun c58 => ?_)
    · have E := (if_neg c58).symm.trans E
      refine ea_iload (pc := 396) dX12_goings_396 3 rfl ?_
      refine ea_iconst (pc := 398) dX12_goings_398 (v := (-1)) rfl ?_
      refine ea_icmp_eq (pc := 399) (tgt := 414) dX12_goings_399 rfl (fun c55 => ?_) (fun c55 => ?_)
      · have E := (if_pos c55).symm.trans E
        refine ea_iload_n (pc := 414) dX12_goings_414 rfl 1 rfl ?_
        refine ea_goto (pc := 415) (tgt := 420) dX12_goings_415 rfl ?_
        obtain ⟨z47, E⟩ := gd_some E
        refine ea_iast (pc := 420) dX12_goings_420 (hs.1 18 (by decide)).1 (hs.1 18 (by decide)).2.1 (ea_vpl (hs.1 18 (by decide)).2.2 z47) ?_
        have hs48 : ShM b0 (ea_wi h (b0 + 18) (Int32.toNatClampNeg (((12 : Int32) * x1) + x4)) x1) := ShM_wi hs
        refine ea_iinc (pc := 421) (v := 1) (lv' := [(0, vR (some (b0 + 0))), (1, vI x1), (4, vI (x4 + (1 : Int32)))]) dX12_goings_421 2 rfl rfl (Nat.le_of_ble_eq_true rfl) [1, 2, 0] rfl ?_
        refine ea_goto (pc := 424) (tgt := 320) dX12_goings_424 rfl ?_
        exact ((ih 320 0 (x1 : Int32) 0 0 0 0 0 ((x4 + (1 : Int32)) : Int32) 0 0 0 0 (ea_wi h (b0 + 18) (Int32.toNatClampNeg (((12 : Int32) * x1) + x4)) x1) _ _ E hs48).2.2.2.2.2.2.2.2.2.1 rfl)
      · have E := (if_neg c55).symm.trans E
        refine ea_aload_n (pc := 402) dX12_goings_402 rfl 0 rfl ?_
        refine ea_iload_n (pc := 403) dX12_goings_403 rfl 1 rfl ?_
        refine ea_iload (pc := 404) dX12_goings_404 3 rfl ?_
        refine ea_iload (pc := 406) dX12_goings_406 2 rfl ?_
        obtain ⟨z49, E⟩ := gd_some E
        refine ea_callV (pc := 408) (d' := d - 1) (As := [vI x1, vI sx0, vI x4]) (st := [vI (((12 : Int32) * x1) + x4), vR (some (b0 + 18))]) dX12_goings_408 kX12_isBetter (sX12_isBetter (d := d - 1) (by omega) hs z49) (by omega) rfl (Nat.le_of_ble_eq_true rfl) ew_1806 ew_1808 ew_62 (ci := 12) rfl (by decide) (hs.1 0 (by decide)).1 (hs.1 0 (by decide)).2.1 ?_
        refine ea_if_eq (pc := 411) (tgt := 418) dX12_goings_411 rfl (fun c54 => ?_) (fun c54 => ?_)
        · have E := (if_pos c54).symm.trans E
          refine ea_iload (pc := 418) dX12_goings_418 3 rfl ?_
          obtain ⟨z50, E⟩ := gd_some E
          refine ea_iast (pc := 420) dX12_goings_420 (hs.1 18 (by decide)).1 (hs.1 18 (by decide)).2.1 (ea_vpl (hs.1 18 (by decide)).2.2 z50) ?_
          have hs51 : ShM b0 (ea_wi h (b0 + 18) (Int32.toNatClampNeg (((12 : Int32) * x1) + x4)) sx0) := ShM_wi hs
          refine ea_iinc (pc := 421) (v := 1) (lv' := [(0, vR (some (b0 + 0))), (1, vI x1), (4, vI (x4 + (1 : Int32)))]) dX12_goings_421 2 rfl rfl (Nat.le_of_ble_eq_true rfl) [1, 2, 0] rfl ?_
          refine ea_goto (pc := 424) (tgt := 320) dX12_goings_424 rfl ?_
          exact ((ih 320 0 (x1 : Int32) 0 0 0 0 0 ((x4 + (1 : Int32)) : Int32) 0 0 0 0 (ea_wi h (b0 + 18) (Int32.toNatClampNeg (((12 : Int32) * x1) + x4)) sx0) _ _ E hs51).2.2.2.2.2.2.2.2.2.1 rfl)
        · have E := (if_neg c54).symm.trans E
          refine ea_iload_n (pc := 414) dX12_goings_414 rfl 1 rfl ?_
          refine ea_goto (pc := 415) (tgt := 420) dX12_goings_415 rfl ?_
          obtain ⟨z52, E⟩ := gd_some E
          refine ea_iast (pc := 420) dX12_goings_420 (hs.1 18 (by decide)).1 (hs.1 18 (by decide)).2.1 (ea_vpl (hs.1 18 (by decide)).2.2 z52) ?_
          have hs53 : ShM b0 (ea_wi h (b0 + 18) (Int32.toNatClampNeg (((12 : Int32) * x1) + x4)) x1) := ShM_wi hs
          refine ea_iinc (pc := 421) (v := 1) (lv' := [(0, vR (some (b0 + 0))), (1, vI x1), (4, vI (x4 + (1 : Int32)))]) dX12_goings_421 2 rfl rfl (Nat.le_of_ble_eq_true rfl) [1, 2, 0] rfl ?_
          refine ea_goto (pc := 424) (tgt := 320) dX12_goings_424 rfl ?_
          exact ((ih 320 0 (x1 : Int32) 0 0 0 0 0 ((x4 + (1 : Int32)) : Int32) 0 0 0 0 (ea_wi h (b0 + 18) (Int32.toNatClampNeg (((12 : Int32) * x1) + x4)) x1) _ _ E hs53).2.2.2.2.2.2.2.2.2.1 rfl)
    · have E := (if_pos c58).symm.trans E
      refine ea_iload (pc := 391) dX12_goings_391 3 rfl ?_
      refine ea_goto (pc := 393) (tgt := 420) dX12_goings_393 rfl ?_
      obtain ⟨z56, E⟩ := gd_some E
      refine ea_iast (pc := 420) dX12_goings_420 (hs.1 18 (by decide)).1 (hs.1 18 (by decide)).2.1 (ea_vpl (hs.1 18 (by decide)).2.2 z56) ?_
      have hs57 : ShM b0 (ea_wi h (b0 + 18) (Int32.toNatClampNeg (((12 : Int32) * x1) + x4)) sx0) := ShM_wi hs
      refine ea_iinc (pc := 421) (v := 1) (lv' := [(0, vR (some (b0 + 0))), (1, vI x1), (4, vI (x4 + (1 : Int32)))]) dX12_goings_421 2 rfl rfl (Nat.le_of_ble_eq_true rfl) [1, 2, 0] rfl ?_
      refine ea_goto (pc := 424) (tgt := 320) dX12_goings_424 rfl ?_
      exact ((ih 320 0 (x1 : Int32) 0 0 0 0 0 ((x4 + (1 : Int32)) : Int32) 0 0 0 0 (ea_wi h (b0 + 18) (Int32.toNatClampNeg (((12 : Int32) * x1) + x4)) sx0) _ _ E hs57).2.2.2.2.2.2.2.2.2.1 rfl)
noncomputable def qX12_goings (b0 : Nat) (x1 : Int32) (h : ea_H) : Option (Unit × ea_H) := gX12_goings b0 1000000000 0 0 x1 0 0 0 0 0 0 0 0 0 0 h
def okX12_goings (b0 : Nat) (x1 : Int32) (h : ea_H) : Prop := ∃ x, qX12_goings b0 x1 h = some x
noncomputable def wX12_goings (b0 : Nat) (x1 : Int32) (h : ea_H) : ea_H := ((qX12_goings b0 x1 h).getD ((), h)).2
theorem sX12_goings {d : Nat} {b0 : Nat} {x1 : Int32} {h : ea_H} (hd : 2 ≤ d) (hs : ShM b0 h) (K : okX12_goings b0 x1 h) : ea_Met mX12_goings d [vR (some (b0 + 0)), vI x1] h none (wX12_goings b0 x1 h) := by
  obtain ⟨⟨x, y⟩, K⟩ := K
  unfold wX12_goings
  rw [K]
  unfold qX12_goings at K
  exact ea_enter rfl (Nat.le_of_ble_eq_true rfl) ((tX12_goings hd 1000000000 0 0 x1 0 0 0 0 0 0 0 0 0 0 h x y K hs).1 rfl)
theorem zX12_goings {b0 : Nat} : ∀ (f lbl : Nat) (sx0 : Int32) (x1 : Int32) (x10 : Int32) (x11 : Int32) (x12 : Int32) (x2 : Int32) (x3 : Int32) (x4 : Int32) (x5 : Int32) (x6 : Int32) (x7 : Int32) (x8 : Int32) (h : ea_H) (r : Unit) (h' : ea_H), gX12_goings b0 f lbl sx0 x1 x10 x11 x12 x2 x3 x4 x5 x6 x7 x8 h = some (r, h') → ShM b0 h → ShM b0 h' := by
  intro f
  induction f with
  | zero => intro lbl sx0 x1 x10 x11 x12 x2 x3 x4 x5 x6 x7 x8 h r h' E; cases E
  | succ f ih =>
    intro lbl sx0 x1 x10 x11 x12 x2 x3 x4 x5 x6 x7 x8 h r h' E hs
    unfold gX12_goings at E
    by_cases el0 : lbl = 0
    · have E := (if_pos el0).symm.trans E
      obtain ⟨z1, E⟩ := gd_some E
      obtain ⟨z2, E⟩ := gd_some E
      obtain ⟨z3, E⟩ := gd_some E
      exact ih 22 0 (x1 : Int32) 0 0 0 ((ea_i h (b0 + 12) (Int32.toNatClampNeg x1)) : Int32) ((vX12_townOf b0 ((ea_i h (b0 + 12) (Int32.toNatClampNeg x1)) : Int32) ((ea_i h (b0 + 13) (Int32.toNatClampNeg x1)) : Int32) h) : Int32) (0 : Int32) 0 0 0 0 h _ _ E hs
    have E := (if_neg el0).symm.trans E
    by_cases el1 : lbl = 22
    · have E := (if_pos el1).symm.trans E
      by_cases c12 : (ea_i h (b0 + 0) 1) ≤ x4
      · have E := (if_pos c12).symm.trans E
        obtain ⟨z4, E⟩ := gd_some E
        obtain ⟨z5, E⟩ := gd_some E
        obtain ⟨z7, E⟩ := gd_some E
        exact ih 320 0 (x1 : Int32) 0 0 0 0 0 (0 : Int32) 0 0 0 0 (ea_wi (ea_wi h (b0 + 19) (Int32.toNatClampNeg x1) (ea_i h (b0 + 20) (Int32.toNatClampNeg x3))) (b0 + 20) (Int32.toNatClampNeg x3) x1) _ _ E (ShM_wi (ShM_wi hs))
      have E := (if_neg c12).symm.trans E
      obtain ⟨z9, E⟩ := gd_some E
      obtain ⟨z11, E⟩ := gd_some E
      exact ih 60 0 (x1 : Int32) 0 0 0 (x2 : Int32) (x3 : Int32) (x4 : Int32) ((((12 : Int32) * x1) + x4) : Int32) (((ea_i (ea_wi h (b0 + 15) (Int32.toNatClampNeg (((12 : Int32) * x1) + x4)) 1000000) (b0 + 13) (Int32.toNatClampNeg x1)) + (1 : Int32)) : Int32) 0 0 (ea_wi h (b0 + 15) (Int32.toNatClampNeg (((12 : Int32) * x1) + x4)) 1000000) _ _ E (ShM_wi hs)
    have E := (if_neg el1).symm.trans E
    by_cases el2 : lbl = 60
    · have E := (if_pos el2).symm.trans E
      obtain ⟨z13, E⟩ := gd_some E
      by_cases c20 : (ea_i h (b0 + 2) (Int32.toNatClampNeg (x2 / (7 : Int32)))) ≤ x6
      · have E := (if_pos c20).symm.trans E
        exact ih 22 0 (x1 : Int32) 0 0 0 (x2 : Int32) (x3 : Int32) ((x4 + (1 : Int32)) : Int32) 0 0 0 0 h _ _ E hs
      have E := (if_neg c20).symm.trans E
      obtain ⟨z14, E⟩ := gd_some E
      by_cases c19 : (vX12_comesAt b0 (x2 : Int32) (x6 : Int32) h) ≤ (10079 : Int32)
      · have E := (if_pos c19).symm.trans E
        obtain ⟨z15, E⟩ := gd_some E
        by_cases c18 : (vX12_townOf b0 (x2 : Int32) (x6 : Int32) h) = x4
        · have E := (if_pos c18).symm.trans E
          exact ih 122 ((-1) : Int32) (x1 : Int32) 0 0 0 (x2 : Int32) (x3 : Int32) (x4 : Int32) (x5 : Int32) (x6 : Int32) ((vX12_comesAt b0 (x2 : Int32) (x6 : Int32) h) : Int32) ((vX12_townOf b0 (x2 : Int32) (x6 : Int32) h) : Int32) h _ _ E hs
        have E := (if_neg c18).symm.trans E
        obtain ⟨z16, E⟩ := gd_some E
        exact ih 122 ((vX12_going b0 ((vX12_townOf b0 (x2 : Int32) (x6 : Int32) h) : Int32) ((vX12_comesAt b0 (x2 : Int32) (x6 : Int32) h) : Int32) h) : Int32) (x1 : Int32) 0 0 0 (x2 : Int32) (x3 : Int32) (x4 : Int32) (x5 : Int32) (x6 : Int32) ((vX12_comesAt b0 (x2 : Int32) (x6 : Int32) h) : Int32) ((vX12_townOf b0 (x2 : Int32) (x6 : Int32) h) : Int32) (wX12_going b0 ((vX12_townOf b0 (x2 : Int32) (x6 : Int32) h) : Int32) ((vX12_comesAt b0 (x2 : Int32) (x6 : Int32) h) : Int32) h) _ _ E (shX12_going hs)
      have E := (if_neg c19).symm.trans E
      exact ih 22 0 (x1 : Int32) 0 0 0 (x2 : Int32) (x3 : Int32) ((x4 + (1 : Int32)) : Int32) 0 0 0 0 h _ _ E hs
    have E := (if_neg el2).symm.trans E
    by_cases el3 : lbl = 122
    · have E := (if_pos el3).symm.trans E
      by_cases c22 : sx0 = ((-1) : Int32)
      · have E := (if_pos c22).symm.trans E
        exact ih 147 ((-1) : Int32) (x1 : Int32) 0 0 0 (x2 : Int32) (x3 : Int32) (x4 : Int32) (x5 : Int32) (x6 : Int32) (x7 : Int32) (x8 : Int32) h _ _ E hs
      have E := (if_neg c22).symm.trans E
      obtain ⟨z21, E⟩ := gd_some E
      exact ih 147 ((ea_i h (b0 + 18) (Int32.toNatClampNeg (((12 : Int32) * sx0) + x4))) : Int32) (x1 : Int32) 0 0 0 (x2 : Int32) (x3 : Int32) (x4 : Int32) (x5 : Int32) (x6 : Int32) (x7 : Int32) (x8 : Int32) h _ _ E hs
    have E := (if_neg el3).symm.trans E
    by_cases el4 : lbl = 147
    · have E := (if_pos el4).symm.trans E
      by_cases c24 : x8 = x4
      · have E := (if_pos c24).symm.trans E
        exact ih 165 0 (x1 : Int32) (sx0 : Int32) 0 0 (x2 : Int32) (x3 : Int32) (x4 : Int32) (x5 : Int32) (x6 : Int32) (x7 : Int32) (x8 : Int32) h _ _ E hs
      have E := (if_neg c24).symm.trans E
      by_cases c23 : sx0 = ((-1) : Int32)
      · have E := (if_pos c23).symm.trans E
        exact ih 60 0 (x1 : Int32) 0 0 0 (x2 : Int32) (x3 : Int32) (x4 : Int32) (x5 : Int32) ((x6 + (1 : Int32)) : Int32) 0 0 h _ _ E hs
      have E := (if_neg c23).symm.trans E
      exact ih 165 0 (x1 : Int32) (sx0 : Int32) 0 0 (x2 : Int32) (x3 : Int32) (x4 : Int32) (x5 : Int32) (x6 : Int32) (x7 : Int32) (x8 : Int32) h _ _ E hs
    have E := (if_neg el4).symm.trans E
    by_cases el5 : lbl = 165
    · have E := (if_pos el5).symm.trans E
      by_cases c26 : x8 = x4
      · have E := (if_pos c26).symm.trans E
        exact ih 190 (x7 : Int32) (x1 : Int32) (x10 : Int32) 0 0 (x2 : Int32) (x3 : Int32) (x4 : Int32) (x5 : Int32) (x6 : Int32) 0 (x8 : Int32) h _ _ E hs
      have E := (if_neg c26).symm.trans E
      obtain ⟨z25, E⟩ := gd_some E
      exact ih 190 ((ea_i h (b0 + 15) (Int32.toNatClampNeg (((12 : Int32) * x10) + x4))) : Int32) (x1 : Int32) (x10 : Int32) 0 0 (x2 : Int32) (x3 : Int32) (x4 : Int32) (x5 : Int32) (x6 : Int32) 0 (x8 : Int32) h _ _ E hs
    have E := (if_neg el5).symm.trans E
    by_cases el6 : lbl = 190
    · have E := (if_pos el6).symm.trans E
      by_cases c28 : x8 = x4
      · have E := (if_pos c28).symm.trans E
        exact ih 218 (1 : Int32) (x1 : Int32) 0 (sx0 : Int32) 0 (x2 : Int32) (x3 : Int32) (x4 : Int32) (x5 : Int32) (x6 : Int32) 0 0 h _ _ E hs
      have E := (if_neg c28).symm.trans E
      obtain ⟨z27, E⟩ := gd_some E
      exact ih 218 (((ea_i h (b0 + 16) (Int32.toNatClampNeg (((12 : Int32) * x10) + x4))) + (1 : Int32)) : Int32) (x1 : Int32) 0 (sx0 : Int32) 0 (x2 : Int32) (x3 : Int32) (x4 : Int32) (x5 : Int32) (x6 : Int32) 0 0 h _ _ E hs
    have E := (if_neg el6).symm.trans E
    by_cases el7 : lbl = 218
    · have E := (if_pos el7).symm.trans E
      obtain ⟨z29, E⟩ := gd_some E
      by_cases c34 : (ea_i h (b0 + 15) (Int32.toNatClampNeg x5)) < x11
      · have E := (if_pos c34).symm.trans E
        exact ih 60 0 (x1 : Int32) 0 0 0 (x2 : Int32) (x3 : Int32) (x4 : Int32) (x5 : Int32) ((x6 + (1 : Int32)) : Int32) 0 0 h _ _ E hs
      have E := (if_neg c34).symm.trans E
      obtain ⟨z30, E⟩ := gd_some E
      by_cases c33 : x11 = (ea_i h (b0 + 15) (Int32.toNatClampNeg x5))
      · have E := (if_pos c33).symm.trans E
        obtain ⟨z31, E⟩ := gd_some E
        by_cases c32 : sx0 < (ea_i h (b0 + 16) (Int32.toNatClampNeg x5))
        · have E := (if_pos c32).symm.trans E
          exact ih 259 0 (x1 : Int32) 0 (x11 : Int32) (sx0 : Int32) (x2 : Int32) (x3 : Int32) (x4 : Int32) (x5 : Int32) (x6 : Int32) 0 0 h _ _ E hs
        have E := (if_neg c32).symm.trans E
        exact ih 60 0 (x1 : Int32) 0 0 0 (x2 : Int32) (x3 : Int32) (x4 : Int32) (x5 : Int32) ((x6 + (1 : Int32)) : Int32) 0 0 h _ _ E hs
      have E := (if_neg c33).symm.trans E
      exact ih 259 0 (x1 : Int32) 0 (x11 : Int32) (sx0 : Int32) (x2 : Int32) (x3 : Int32) (x4 : Int32) (x5 : Int32) (x6 : Int32) 0 0 h _ _ E hs
    have E := (if_neg el7).symm.trans E
    by_cases el8 : lbl = 259
    · have E := (if_pos el8).symm.trans E
      obtain ⟨z35, E⟩ := gd_some E
      obtain ⟨z37, E⟩ := gd_some E
      obtain ⟨z39, E⟩ := gd_some E
      exact ih 60 0 (x1 : Int32) 0 0 0 (x2 : Int32) (x3 : Int32) (x4 : Int32) (x5 : Int32) ((x6 + (1 : Int32)) : Int32) 0 0 (ea_wi (ea_wi (ea_wi h (b0 + 15) (Int32.toNatClampNeg x5) x11) (b0 + 16) (Int32.toNatClampNeg x5) x12) (b0 + 17) (Int32.toNatClampNeg x5) x6) _ _ E (ShM_wi (ShM_wi (ShM_wi hs)))
    have E := (if_neg el8).symm.trans E
    by_cases el9 : lbl = 320
    · have E := (if_pos el9).symm.trans E
      by_cases c45 : (ea_i h (b0 + 0) 1) ≤ x4
      · have E := (if_pos c45).symm.trans E
        exact ea_shO E hs
      have E := (if_neg c45).symm.trans E
      obtain ⟨z41, E⟩ := gd_some E
      by_cases c44 : (ea_i h (b0 + 19) (Int32.toNatClampNeg x1)) = ((-1) : Int32)
      · have E := (if_pos c44).symm.trans E
        exact ih 360 ((-1) : Int32) (x1 : Int32) 0 0 0 0 0 (x4 : Int32) 0 0 0 0 h _ _ E hs
      have E := (if_neg c44).symm.trans E
      obtain ⟨z42, E⟩ := gd_some E
      obtain ⟨z43, E⟩ := gd_some E
      exact ih 360 ((ea_i h (b0 + 18) (Int32.toNatClampNeg (((12 : Int32) * (ea_i h (b0 + 19) (Int32.toNatClampNeg x1))) + x4))) : Int32) (x1 : Int32) 0 0 0 0 0 (x4 : Int32) 0 0 0 0 h _ _ E hs
    have E := (if_neg el9).symm.trans E
    by_cases el10 : lbl = 360
    · have E := (if_pos el10).symm.trans E
      obtain ⟨z46, E⟩ := gd_some E
      by_cases c58 : (ea_i h (b0 + 15) (Int32.toNatClampNeg (((12 : Int32) * x1) + x4))) = (1000000 : Int32)
      · have E := (if_pos c58).symm.trans E
        obtain ⟨z56, E⟩ := gd_some E
        exact ih 320 0 (x1 : Int32) 0 0 0 0 0 ((x4 + (1 : Int32)) : Int32) 0 0 0 0 (ea_wi h (b0 + 18) (Int32.toNatClampNeg (((12 : Int32) * x1) + x4)) sx0) _ _ E (ShM_wi hs)
      have E := (if_neg c58).symm.trans E
      by_cases c55 : sx0 = ((-1) : Int32)
      · have E := (if_pos c55).symm.trans E
        obtain ⟨z47, E⟩ := gd_some E
        exact ih 320 0 (x1 : Int32) 0 0 0 0 0 ((x4 + (1 : Int32)) : Int32) 0 0 0 0 (ea_wi h (b0 + 18) (Int32.toNatClampNeg (((12 : Int32) * x1) + x4)) x1) _ _ E (ShM_wi hs)
      have E := (if_neg c55).symm.trans E
      obtain ⟨z49, E⟩ := gd_some E
      by_cases c54 : (vX12_isBetter b0 (x1 : Int32) (sx0 : Int32) (x4 : Int32) h) = (0 : Int32)
      · have E := (if_pos c54).symm.trans E
        obtain ⟨z50, E⟩ := gd_some E
        exact ih 320 0 (x1 : Int32) 0 0 0 0 0 ((x4 + (1 : Int32)) : Int32) 0 0 0 0 (ea_wi h (b0 + 18) (Int32.toNatClampNeg (((12 : Int32) * x1) + x4)) sx0) _ _ E (ShM_wi hs)
      have E := (if_neg c54).symm.trans E
      obtain ⟨z52, E⟩ := gd_some E
      exact ih 320 0 (x1 : Int32) 0 0 0 0 0 ((x4 + (1 : Int32)) : Int32) 0 0 0 0 (ea_wi h (b0 + 18) (Int32.toNatClampNeg (((12 : Int32) * x1) + x4)) x1) _ _ E (ShM_wi hs)
    have E := (if_neg el10).symm.trans E
    cases E
theorem shX12_goings {b0 : Nat} {x1 : Int32} {h : ea_H} (hs : ShM b0 h) : ShM b0 (wX12_goings b0 x1 h) := by
  unfold wX12_goings
  cases K : qX12_goings b0 x1 h with
  | none => exact hs
  | some x => obtain ⟨x, y⟩ := x; unfold qX12_goings at K; exact zX12_goings _ _ _ _ _ _ _ _ _ _ _ _ _ _ _ _ _ K hs
noncomputable def gX12_feed (b0 : Nat) : Nat → Nat → Int32 → Int32 → Int32 → Int32 → Int32 → Int32 → Int32 → ea_H → Option (Int32 × ea_H)
  | 0, _, _, _, _, _, _, _, _, _ => none
  | f + 1, lbl, sx0, x1, x2, x3, x4, x5, x6, h =>
    if lbl = 0 then (if ((ea_i h (b0 + 0) 52) + (20 : Int32)) ≤ (600 : Int32) then (gX12_feed b0 f 18 0 (x1 : Int32) (x2 : Int32) (x3 : Int32) (x4 : Int32) (x5 : Int32) (0 : Int32) h) else (some (((-1) : Int32), h))) else
    if lbl = 18 then (if (20 : Int32) ≤ x6 then (some ((ea_i h (b0 + 0) 52), h)) else (if (4 : Int32) ≤ x6 then (if (8 : Int32) ≤ x6 then (if (12 : Int32) ≤ x6 then (if (16 : Int32) ≤ x6 then (gX12_feed b0 f 71 (x5 : Int32) (x1 : Int32) (x2 : Int32) (x3 : Int32) (x4 : Int32) (x5 : Int32) (x6 : Int32) h) else (gX12_feed b0 f 71 (x4 : Int32) (x1 : Int32) (x2 : Int32) (x3 : Int32) (x4 : Int32) (x5 : Int32) (x6 : Int32) h)) else (gX12_feed b0 f 71 (x3 : Int32) (x1 : Int32) (x2 : Int32) (x3 : Int32) (x4 : Int32) (x5 : Int32) (x6 : Int32) h)) else (gX12_feed b0 f 71 (x2 : Int32) (x1 : Int32) (x2 : Int32) (x3 : Int32) (x4 : Int32) (x5 : Int32) (x6 : Int32) h)) else (gX12_feed b0 f 71 (x1 : Int32) (x1 : Int32) (x2 : Int32) (x3 : Int32) (x4 : Int32) (x5 : Int32) (x6 : Int32) h))) else
    if lbl = 71 then (gd (vp_in (ea_i h (b0 + 0) 52) 600) (gX12_feed b0 f 18 0 (x1 : Int32) (x2 : Int32) (x3 : Int32) (x4 : Int32) (x5 : Int32) ((x6 + (1 : Int32)) : Int32) (ea_wi (ea_wi h (b0 + 36) (Int32.toNatClampNeg (ea_i h (b0 + 0) 52)) ((sx0 >>> (((24 : Int32) - ((8 : Int32) * (x6 - x6 / (4 : Int32) * (4 : Int32)))) &&& 31)) &&& (255 : Int32))) (b0 + 0) 52 ((ea_i (ea_wi h (b0 + 36) (Int32.toNatClampNeg (ea_i h (b0 + 0) 52)) ((sx0 >>> (((24 : Int32) - ((8 : Int32) * (x6 - x6 / (4 : Int32) * (4 : Int32)))) &&& 31)) &&& (255 : Int32))) (b0 + 0) 52) + (1 : Int32))))) else none
theorem tX12_feed {d : Nat} {b0 : Nat} {h0 : ea_H} (hd : 1 ≤ d) : ∀ (f lbl : Nat) (sx0 : Int32) (x1 : Int32) (x2 : Int32) (x3 : Int32) (x4 : Int32) (x5 : Int32) (x6 : Int32) (h : ea_H) (r : Int32) (h' : ea_H), gX12_feed b0 f lbl sx0 x1 x2 x3 x4 x5 x6 h = some (r, h') → ShM b0 h → (lbl = 0 → ea_W mX12_feed d h0 (some (vI r)) h' 0 [(0, vR (some (b0 + 0))), (1, vI x1), (2, vI x2), (3, vI x3), (4, vI x4), (5, vI x5)] [] h) ∧ (lbl = 18 → ea_W mX12_feed d h0 (some (vI r)) h' 18 [(0, vR (some (b0 + 0))), (1, vI x1), (2, vI x2), (3, vI x3), (4, vI x4), (5, vI x5), (6, vI x6)] [] h) ∧ (lbl = 71 → ea_W mX12_feed d h0 (some (vI r)) h' 71 [(0, vR (some (b0 + 0))), (1, vI x1), (2, vI x2), (3, vI x3), (4, vI x4), (5, vI x5), (6, vI x6)] [vI sx0] h) := by
  intro f
  induction f with
  | zero => intro lbl sx0 x1 x2 x3 x4 x5 x6 h r h' E; cases E
  | succ f ih =>
    intro lbl sx0 x1 x2 x3 x4 x5 x6 h r h' E hs
    unfold gX12_feed at E
    refine ⟨?_, ?_⟩
    · intro el
      subst el
      have E := (if_pos rfl).symm.trans E
      refine ea_aload_n (pc := 0) dX12_feed_0 rfl 0 rfl ?_
      refine ea_getI (pc := 1) dX12_feed_1 ec_12 (k := 52) (Nat.le_of_ble_eq_true rfl) rfl (Or.inl ew_1397) (hs.1 0 (by decide)).1 (hs.1 0 (by decide)).2.1 ?_
      refine ea_bipush (pc := 4) dX12_feed_4 (v := 20) rfl ?_
      refine ea_iadd (pc := 6) dX12_feed_6 ?_
      refine ea_sipush (pc := 7) dX12_feed_7 (v := 600) rfl ?_
      refine ea_icmp_le (pc := 10) (tgt := 15) dX12_feed_10 rfl (fun c1 => ?_) (fun c1 => ?_)
      · have E := (if_pos c1).symm.trans E
        refine ea_iconst (pc := 15) dX12_feed_15 (v := 0) rfl ?_
        refine ea_istore (pc := 16) (lv' := [(0, vR (some (b0 + 0))), (1, vI x1), (2, vI x2), (3, vI x3), (4, vI x4), (5, vI x5), (6, vI 0)]) dX12_feed_16 (Nat.le_of_ble_eq_true rfl) [1, 2, 3, 4, 5, 6, 0] rfl ?_
        exact ((ih 18 0 (x1 : Int32) (x2 : Int32) (x3 : Int32) (x4 : Int32) (x5 : Int32) (0 : Int32) h _ _ E hs).2.1 rfl)
      · have E := (if_neg c1).symm.trans E
        refine ea_iconst (pc := 13) dX12_feed_13 (v := (-1)) rfl ?_
        exact ea_iretO (pc := 14) dX12_feed_14 rfl rfl E
    refine ⟨?_, ?_⟩
    · intro el
      subst el
      have E := (if_neg (by decide)).symm.trans E
      have E := (if_pos rfl).symm.trans E
      refine ea_iload (pc := 18) dX12_feed_18 6 rfl ?_
      refine ea_bipush (pc := 20) dX12_feed_20 (v := 20) rfl ?_
      refine ea_icmp_ge (pc := 22) (tgt := 115) dX12_feed_22 rfl (fun c6 => ?_) (fun c6 => ?_)
      · have E := (if_pos c6).symm.trans E
        refine ea_aload_n (pc := 115) dX12_feed_115 rfl 0 rfl ?_
        refine ea_getI (pc := 116) dX12_feed_116 ec_12 (k := 52) (Nat.le_of_ble_eq_true rfl) rfl (Or.inl ew_1397) (hs.1 0 (by decide)).1 (hs.1 0 (by decide)).2.1 ?_
        exact ea_iretO (pc := 119) dX12_feed_119 rfl rfl E
      · have E := (if_neg c6).symm.trans E
        refine ea_iload (pc := 25) dX12_feed_25 6 rfl ?_
        refine ea_iconst (pc := 27) dX12_feed_27 (v := 4) rfl ?_
        refine ea_icmp_ge (pc := 28) (tgt := 35) dX12_feed_28 rfl (fun c5 => ?_) (fun c5 => ?_)
        · have E := (if_pos c5).symm.trans E
          refine ea_iload (pc := 35) dX12_feed_35 6 rfl ?_
          refine ea_bipush (pc := 37) dX12_feed_37 (v := 8) rfl ?_
          refine ea_icmp_ge (pc := 39) (tgt := 46) dX12_feed_39 rfl (fun c4 => ?_) (fun c4 => ?_)
          · have E := (if_pos c4).symm.trans E
            refine ea_iload (pc := 46) dX12_feed_46 6 rfl ?_
            refine ea_bipush (pc := 48) dX12_feed_48 (v := 12) rfl ?_
            refine ea_icmp_ge (pc := 50) (tgt := 57) dX12_feed_50 rfl (fun c3 => ?_) (fun c3 => ?_)
            · have E := (if_pos c3).symm.trans E
              refine ea_iload (pc := 57) dX12_feed_57 6 rfl ?_
              refine ea_bipush (pc := 59) dX12_feed_59 (v := 16) rfl ?_
              refine ea_icmp_ge (pc := 61) (tgt := 69) dX12_feed_61 rfl (fun c2 => ?_) (fun c2 => ?_)
              · have E := (if_pos c2).symm.trans E
                refine ea_iload (pc := 69) dX12_feed_69 5 rfl ?_
                exact ((ih 71 (x5 : Int32) (x1 : Int32) (x2 : Int32) (x3 : Int32) (x4 : Int32) (x5 : Int32) (x6 : Int32) h _ _ E hs).2.2 rfl)
              · have E := (if_neg c2).symm.trans E
                refine ea_iload (pc := 64) dX12_feed_64 4 rfl ?_
                refine ea_goto (pc := 66) (tgt := 71) dX12_feed_66 rfl ?_
                exact ((ih 71 (x4 : Int32) (x1 : Int32) (x2 : Int32) (x3 : Int32) (x4 : Int32) (x5 : Int32) (x6 : Int32) h _ _ E hs).2.2 rfl)
            · have E := (if_neg c3).symm.trans E
              refine ea_iload_n (pc := 53) dX12_feed_53 rfl 3 rfl ?_
              refine ea_goto (pc := 54) (tgt := 71) dX12_feed_54 rfl ?_
              exact ((ih 71 (x3 : Int32) (x1 : Int32) (x2 : Int32) (x3 : Int32) (x4 : Int32) (x5 : Int32) (x6 : Int32) h _ _ E hs).2.2 rfl)
          · have E := (if_neg c4).symm.trans E
            refine ea_iload_n (pc := 42) dX12_feed_42 rfl 2 rfl ?_
            refine ea_goto (pc := 43) (tgt := 71) dX12_feed_43 rfl ?_
            exact ((ih 71 (x2 : Int32) (x1 : Int32) (x2 : Int32) (x3 : Int32) (x4 : Int32) (x5 : Int32) (x6 : Int32) h _ _ E hs).2.2 rfl)
        · have E := (if_neg c5).symm.trans E
          refine ea_iload_n (pc := 31) dX12_feed_31 rfl 1 rfl ?_
          refine ea_goto (pc := 32) (tgt := 71) dX12_feed_32 rfl ?_
          exact ((ih 71 (x1 : Int32) (x1 : Int32) (x2 : Int32) (x3 : Int32) (x4 : Int32) (x5 : Int32) (x6 : Int32) h _ _ E hs).2.2 rfl)
    intro el
    subst el
    have E := (if_neg (by decide)).symm.trans E
    have E := (if_neg (by decide)).symm.trans E
    have E := (if_pos rfl).symm.trans E
    refine ea_istore (pc := 71) (lv' := [(0, vR (some (b0 + 0))), (1, vI x1), (2, vI x2), (3, vI x3), (4, vI x4), (5, vI x5), (6, vI x6), (7, vI sx0)]) dX12_feed_71 (Nat.le_of_ble_eq_true rfl) [1, 2, 3, 4, 5, 6, 7, 0] rfl ?_
    refine ea_aload_n (pc := 73) dX12_feed_73 rfl 0 rfl ?_
    refine ea_getR (pc := 74) dX12_feed_74 ec_12 (k := 41) (Nat.le_of_ble_eq_true rfl) rfl (Or.inl ew_1386) (hs.1 0 (by decide)).1 (hs.1 0 (by decide)).2.1 (hs.2 0 41 rfl) ?_
    refine ea_aload_n (pc := 77) dX12_feed_77 rfl 0 rfl ?_
    refine ea_getI (pc := 78) dX12_feed_78 ec_12 (k := 52) (Nat.le_of_ble_eq_true rfl) rfl (Or.inl ew_1397) (hs.1 0 (by decide)).1 (hs.1 0 (by decide)).2.1 ?_
    refine ea_iload (pc := 81) dX12_feed_81 7 rfl ?_
    refine ea_bipush (pc := 83) dX12_feed_83 (v := 24) rfl ?_
    refine ea_bipush (pc := 85) dX12_feed_85 (v := 8) rfl ?_
    refine ea_iload (pc := 87) dX12_feed_87 6 rfl ?_
    refine ea_iconst (pc := 89) dX12_feed_89 (v := 4) rfl ?_
    refine ea_irem (pc := 90) dX12_feed_90 (by decide) ?_
    refine ea_imul (pc := 91) dX12_feed_91 ?_
    refine ea_isub (pc := 92) dX12_feed_92 ?_
    refine ea_ishr (pc := 93) dX12_feed_93 ?_
    refine ea_sipush (pc := 94) dX12_feed_94 (v := 255) rfl ?_
    refine ea_iand (pc := 97) dX12_feed_97 ?_
    obtain ⟨z7, E⟩ := gd_some E
    refine ea_iast (pc := 98) dX12_feed_98 (hs.1 36 (by decide)).1 (hs.1 36 (by decide)).2.1 (ea_vpl (hs.1 36 (by decide)).2.2 z7) ?_
    have hs8 : ShM b0 (ea_wi h (b0 + 36) (Int32.toNatClampNeg (ea_i h (b0 + 0) 52)) ((sx0 >>> (((24 : Int32) - ((8 : Int32) * (x6 - x6 / (4 : Int32) * (4 : Int32)))) &&& 31)) &&& (255 : Int32))) := ShM_wi hs
    refine ea_aload_n (pc := 99) dX12_feed_99 rfl 0 rfl ?_
    refine ea_dup (pc := 100) dX12_feed_100 rfl ?_
    refine ea_getI (pc := 101) dX12_feed_101 ec_12 (k := 52) (Nat.le_of_ble_eq_true rfl) rfl (Or.inl ew_1397) (hs8.1 0 (by decide)).1 (hs8.1 0 (by decide)).2.1 ?_
    refine ea_iconst (pc := 104) dX12_feed_104 (v := 1) rfl ?_
    refine ea_iadd (pc := 105) dX12_feed_105 ?_
    refine ea_putI (pc := 106) dX12_feed_106 ec_12 (k := 52) (Nat.le_of_ble_eq_true rfl) rfl (Or.inl ⟨rfl, Or.inl ew_1397⟩) rfl rfl (hs8.1 0 (by decide)).1 (hs8.1 0 (by decide)).2.1 ?_
    have hs9 : ShM b0 (ea_wi (ea_wi h (b0 + 36) (Int32.toNatClampNeg (ea_i h (b0 + 0) 52)) ((sx0 >>> (((24 : Int32) - ((8 : Int32) * (x6 - x6 / (4 : Int32) * (4 : Int32)))) &&& 31)) &&& (255 : Int32))) (b0 + 0) 52 ((ea_i (ea_wi h (b0 + 36) (Int32.toNatClampNeg (ea_i h (b0 + 0) 52)) ((sx0 >>> (((24 : Int32) - ((8 : Int32) * (x6 - x6 / (4 : Int32) * (4 : Int32)))) &&& 31)) &&& (255 : Int32))) (b0 + 0) 52) + (1 : Int32))) := ShM_wi hs8
    refine ea_iinc (pc := 109) (v := 1) (lv' := [(0, vR (some (b0 + 0))), (1, vI x1), (2, vI x2), (3, vI x3), (4, vI x4), (5, vI x5), (6, vI (x6 + (1 : Int32)))]) dX12_feed_109 6 rfl rfl (Nat.le_of_ble_eq_true rfl) [1, 2, 3, 4, 5, 6, 0] rfl ?_
    refine ea_goto (pc := 112) (tgt := 18) dX12_feed_112 rfl ?_
    exact ((ih 18 0 (x1 : Int32) (x2 : Int32) (x3 : Int32) (x4 : Int32) (x5 : Int32) ((x6 + (1 : Int32)) : Int32) (ea_wi (ea_wi h (b0 + 36) (Int32.toNatClampNeg (ea_i h (b0 + 0) 52)) ((sx0 >>> (((24 : Int32) - ((8 : Int32) * (x6 - x6 / (4 : Int32) * (4 : Int32)))) &&& 31)) &&& (255 : Int32))) (b0 + 0) 52 ((ea_i (ea_wi h (b0 + 36) (Int32.toNatClampNeg (ea_i h (b0 + 0) 52)) ((sx0 >>> (((24 : Int32) - ((8 : Int32) * (x6 - x6 / (4 : Int32) * (4 : Int32)))) &&& 31)) &&& (255 : Int32))) (b0 + 0) 52) + (1 : Int32))) _ _ E hs9).2.1 rfl)
noncomputable def qX12_feed (b0 : Nat) (x1 : Int32) (x2 : Int32) (x3 : Int32) (x4 : Int32) (x5 : Int32) (h : ea_H) : Option (Int32 × ea_H) := gX12_feed b0 1000000000 0 0 x1 x2 x3 x4 x5 0 h
def okX12_feed (b0 : Nat) (x1 : Int32) (x2 : Int32) (x3 : Int32) (x4 : Int32) (x5 : Int32) (h : ea_H) : Prop := ∃ x, qX12_feed b0 x1 x2 x3 x4 x5 h = some x
noncomputable def vX12_feed (b0 : Nat) (x1 : Int32) (x2 : Int32) (x3 : Int32) (x4 : Int32) (x5 : Int32) (h : ea_H) : Int32 := ((qX12_feed b0 x1 x2 x3 x4 x5 h).getD (0, h)).1
noncomputable def wX12_feed (b0 : Nat) (x1 : Int32) (x2 : Int32) (x3 : Int32) (x4 : Int32) (x5 : Int32) (h : ea_H) : ea_H := ((qX12_feed b0 x1 x2 x3 x4 x5 h).getD (0, h)).2
theorem sX12_feed {d : Nat} {b0 : Nat} {x1 : Int32} {x2 : Int32} {x3 : Int32} {x4 : Int32} {x5 : Int32} {h : ea_H} (hd : 1 ≤ d) (hs : ShM b0 h) (K : okX12_feed b0 x1 x2 x3 x4 x5 h) : ea_Met mX12_feed d [vR (some (b0 + 0)), vI x1, vI x2, vI x3, vI x4, vI x5] h (some (vI (vX12_feed b0 x1 x2 x3 x4 x5 h))) (wX12_feed b0 x1 x2 x3 x4 x5 h) := by
  obtain ⟨⟨x, y⟩, K⟩ := K
  unfold wX12_feed vX12_feed
  rw [K]
  unfold qX12_feed at K
  exact ea_enter rfl (Nat.le_of_ble_eq_true rfl) ((tX12_feed hd 1000000000 0 0 x1 x2 x3 x4 x5 0 h x y K hs).1 rfl)
theorem zX12_feed {b0 : Nat} : ∀ (f lbl : Nat) (sx0 : Int32) (x1 : Int32) (x2 : Int32) (x3 : Int32) (x4 : Int32) (x5 : Int32) (x6 : Int32) (h : ea_H) (r : Int32) (h' : ea_H), gX12_feed b0 f lbl sx0 x1 x2 x3 x4 x5 x6 h = some (r, h') → ShM b0 h → ShM b0 h' := by
  intro f
  induction f with
  | zero => intro lbl sx0 x1 x2 x3 x4 x5 x6 h r h' E; cases E
  | succ f ih =>
    intro lbl sx0 x1 x2 x3 x4 x5 x6 h r h' E hs
    unfold gX12_feed at E
    by_cases el0 : lbl = 0
    · have E := (if_pos el0).symm.trans E
      by_cases c1 : ((ea_i h (b0 + 0) 52) + (20 : Int32)) ≤ (600 : Int32)
      · have E := (if_pos c1).symm.trans E
        exact ih 18 0 (x1 : Int32) (x2 : Int32) (x3 : Int32) (x4 : Int32) (x5 : Int32) (0 : Int32) h _ _ E hs
      have E := (if_neg c1).symm.trans E
      exact ea_shO E hs
    have E := (if_neg el0).symm.trans E
    by_cases el1 : lbl = 18
    · have E := (if_pos el1).symm.trans E
      by_cases c6 : (20 : Int32) ≤ x6
      · have E := (if_pos c6).symm.trans E
        exact ea_shO E hs
      have E := (if_neg c6).symm.trans E
      by_cases c5 : (4 : Int32) ≤ x6
      · have E := (if_pos c5).symm.trans E
        by_cases c4 : (8 : Int32) ≤ x6
        · have E := (if_pos c4).symm.trans E
          by_cases c3 : (12 : Int32) ≤ x6
          · have E := (if_pos c3).symm.trans E
            by_cases c2 : (16 : Int32) ≤ x6
            · have E := (if_pos c2).symm.trans E
              exact ih 71 (x5 : Int32) (x1 : Int32) (x2 : Int32) (x3 : Int32) (x4 : Int32) (x5 : Int32) (x6 : Int32) h _ _ E hs
            have E := (if_neg c2).symm.trans E
            exact ih 71 (x4 : Int32) (x1 : Int32) (x2 : Int32) (x3 : Int32) (x4 : Int32) (x5 : Int32) (x6 : Int32) h _ _ E hs
          have E := (if_neg c3).symm.trans E
          exact ih 71 (x3 : Int32) (x1 : Int32) (x2 : Int32) (x3 : Int32) (x4 : Int32) (x5 : Int32) (x6 : Int32) h _ _ E hs
        have E := (if_neg c4).symm.trans E
        exact ih 71 (x2 : Int32) (x1 : Int32) (x2 : Int32) (x3 : Int32) (x4 : Int32) (x5 : Int32) (x6 : Int32) h _ _ E hs
      have E := (if_neg c5).symm.trans E
      exact ih 71 (x1 : Int32) (x1 : Int32) (x2 : Int32) (x3 : Int32) (x4 : Int32) (x5 : Int32) (x6 : Int32) h _ _ E hs
    have E := (if_neg el1).symm.trans E
    by_cases el2 : lbl = 71
    · have E := (if_pos el2).symm.trans E
      obtain ⟨z7, E⟩ := gd_some E
      exact ih 18 0 (x1 : Int32) (x2 : Int32) (x3 : Int32) (x4 : Int32) (x5 : Int32) ((x6 + (1 : Int32)) : Int32) (ea_wi (ea_wi h (b0 + 36) (Int32.toNatClampNeg (ea_i h (b0 + 0) 52)) ((sx0 >>> (((24 : Int32) - ((8 : Int32) * (x6 - x6 / (4 : Int32) * (4 : Int32)))) &&& 31)) &&& (255 : Int32))) (b0 + 0) 52 ((ea_i (ea_wi h (b0 + 36) (Int32.toNatClampNeg (ea_i h (b0 + 0) 52)) ((sx0 >>> (((24 : Int32) - ((8 : Int32) * (x6 - x6 / (4 : Int32) * (4 : Int32)))) &&& 31)) &&& (255 : Int32))) (b0 + 0) 52) + (1 : Int32))) _ _ E (ShM_wi (ShM_wi hs))
    have E := (if_neg el2).symm.trans E
    cases E
theorem shX12_feed {b0 : Nat} {x1 : Int32} {x2 : Int32} {x3 : Int32} {x4 : Int32} {x5 : Int32} {h : ea_H} (hs : ShM b0 h) : ShM b0 (wX12_feed b0 x1 x2 x3 x4 x5 h) := by
  unfold wX12_feed
  cases K : qX12_feed b0 x1 x2 x3 x4 x5 h with
  | none => exact hs
  | some x => obtain ⟨x, y⟩ := x; unfold qX12_feed at K; exact zX12_feed _ _ _ _ _ _ _ _ _ _ _ _ K hs
noncomputable def gX12_actOn (b0 : Nat) : Nat → Nat → Int32 → Int32 → ea_H → Option (Int32 × ea_H)
  | 0, _, _, _, _ => none
  | f + 1, lbl, x1, x2, h =>
    if lbl = 0 then (gX12_actOn b0 f 7 (x1 : Int32) (((ea_i h (b0 + 0) 25) - (1 : Int32)) : Int32) h) else
    if lbl = 7 then (if x2 < (0 : Int32) then (some (x2, h)) else (gd (vp_in x2 6) (if (ea_i h (b0 + 21) (Int32.toNatClampNeg x2)) ≤ x1 then (some (x2, h)) else (gX12_actOn b0 f 7 (x1 : Int32) ((x2 + ((-1) : Int32)) : Int32) h)))) else none
theorem tX12_actOn {d : Nat} {b0 : Nat} {h0 : ea_H} (hd : 1 ≤ d) : ∀ (f lbl : Nat) (x1 : Int32) (x2 : Int32) (h : ea_H) (r : Int32) (h' : ea_H), gX12_actOn b0 f lbl x1 x2 h = some (r, h') → ShM b0 h → (lbl = 0 → ea_W mX12_actOn d h0 (some (vI r)) h' 0 [(0, vR (some (b0 + 0))), (1, vI x1)] [] h) ∧ (lbl = 7 → ea_W mX12_actOn d h0 (some (vI r)) h' 7 [(0, vR (some (b0 + 0))), (1, vI x1), (2, vI x2)] [] h) := by
  intro f
  induction f with
  | zero => intro lbl x1 x2 h r h' E; cases E
  | succ f ih =>
    intro lbl x1 x2 h r h' E hs
    unfold gX12_actOn at E
    refine ⟨?_, ?_⟩
    · intro el
      subst el
      have E := (if_pos rfl).symm.trans E
      refine ea_aload_n (pc := 0) dX12_actOn_0 rfl 0 rfl ?_
      refine ea_getI (pc := 1) dX12_actOn_1 ec_12 (k := 25) (Nat.le_of_ble_eq_true rfl) rfl (Or.inl ew_1370) (hs.1 0 (by decide)).1 (hs.1 0 (by decide)).2.1 ?_
      refine ea_iconst (pc := 4) dX12_actOn_4 (v := 1) rfl ?_
      refine ea_isub (pc := 5) dX12_actOn_5 ?_
      refine ea_istore_n (pc := 6) (lv' := [(0, vR (some (b0 + 0))), (1, vI x1), (2, vI ((ea_i h (b0 + 0) 25) - (1 : Int32)))]) dX12_actOn_6 rfl (Nat.le_of_ble_eq_true rfl) [1, 2, 0] rfl ?_
      exact ((ih 7 (x1 : Int32) (((ea_i h (b0 + 0) 25) - (1 : Int32)) : Int32) h _ _ E hs).2 rfl)
    intro el
    subst el
    have E := (if_neg (by decide)).symm.trans E
    have E := (if_pos rfl).symm.trans E
    refine ea_iload_n (pc := 7) dX12_actOn_7 rfl 2 rfl ?_
    refine ea_if_lt (pc := 8) (tgt := 27) dX12_actOn_8 rfl (fun c3 => ?_) (fun c3 => ?_)
    · have E := (if_pos c3).symm.trans E
      refine ea_iload_n (pc := 27) dX12_actOn_27 rfl 2 rfl ?_
      exact ea_iretO (pc := 28) dX12_actOn_28 rfl rfl E
    · have E := (if_neg c3).symm.trans E
      refine ea_aload_n (pc := 11) dX12_actOn_11 rfl 0 rfl ?_
      refine ea_getR (pc := 12) dX12_actOn_12 ec_12 (k := 26) (Nat.le_of_ble_eq_true rfl) rfl (Or.inl ew_1371) (hs.1 0 (by decide)).1 (hs.1 0 (by decide)).2.1 (hs.2 0 26 rfl) ?_
      refine ea_iload_n (pc := 15) dX12_actOn_15 rfl 2 rfl ?_
      obtain ⟨z1, E⟩ := gd_some E
      refine ea_iald (pc := 16) dX12_actOn_16 (hs.1 21 (by decide)).1 (hs.1 21 (by decide)).2.1 (ea_vpl (hs.1 21 (by decide)).2.2 z1) ?_
      refine ea_iload_n (pc := 17) dX12_actOn_17 rfl 1 rfl ?_
      refine ea_icmp_le (pc := 18) (tgt := 27) dX12_actOn_18 rfl (fun c2 => ?_) (fun c2 => ?_)
      · have E := (if_pos c2).symm.trans E
        refine ea_iload_n (pc := 27) dX12_actOn_27 rfl 2 rfl ?_
        exact ea_iretO (pc := 28) dX12_actOn_28 rfl rfl E
      · have E := (if_neg c2).symm.trans E
        refine ea_iinc (pc := 21) (v := (-1)) (lv' := [(0, vR (some (b0 + 0))), (1, vI x1), (2, vI (x2 + ((-1) : Int32)))]) dX12_actOn_21 2 rfl rfl (Nat.le_of_ble_eq_true rfl) [1, 2, 0] rfl ?_
        refine ea_goto (pc := 24) (tgt := 7) dX12_actOn_24 rfl ?_
        exact ((ih 7 (x1 : Int32) ((x2 + ((-1) : Int32)) : Int32) h _ _ E hs).2 rfl)
noncomputable def qX12_actOn (b0 : Nat) (x1 : Int32) (h : ea_H) : Option (Int32 × ea_H) := gX12_actOn b0 1000000000 0 x1 0 h
def okX12_actOn (b0 : Nat) (x1 : Int32) (h : ea_H) : Prop := ∃ x, qX12_actOn b0 x1 h = some x
noncomputable def vX12_actOn (b0 : Nat) (x1 : Int32) (h : ea_H) : Int32 := ((qX12_actOn b0 x1 h).getD (0, h)).1
noncomputable def wX12_actOn (b0 : Nat) (x1 : Int32) (h : ea_H) : ea_H := ((qX12_actOn b0 x1 h).getD (0, h)).2
theorem sX12_actOn {d : Nat} {b0 : Nat} {x1 : Int32} {h : ea_H} (hd : 1 ≤ d) (hs : ShM b0 h) (K : okX12_actOn b0 x1 h) : ea_Met mX12_actOn d [vR (some (b0 + 0)), vI x1] h (some (vI (vX12_actOn b0 x1 h))) (wX12_actOn b0 x1 h) := by
  obtain ⟨⟨x, y⟩, K⟩ := K
  unfold wX12_actOn vX12_actOn
  rw [K]
  unfold qX12_actOn at K
  exact ea_enter rfl (Nat.le_of_ble_eq_true rfl) ((tX12_actOn hd 1000000000 0 x1 0 h x y K hs).1 rfl)
theorem zX12_actOn {b0 : Nat} : ∀ (f lbl : Nat) (x1 : Int32) (x2 : Int32) (h : ea_H) (r : Int32) (h' : ea_H), gX12_actOn b0 f lbl x1 x2 h = some (r, h') → ShM b0 h → ShM b0 h' := by
  intro f
  induction f with
  | zero => intro lbl x1 x2 h r h' E; cases E
  | succ f ih =>
    intro lbl x1 x2 h r h' E hs
    unfold gX12_actOn at E
    by_cases el0 : lbl = 0
    · have E := (if_pos el0).symm.trans E
      exact ih 7 (x1 : Int32) (((ea_i h (b0 + 0) 25) - (1 : Int32)) : Int32) h _ _ E hs
    have E := (if_neg el0).symm.trans E
    by_cases el1 : lbl = 7
    · have E := (if_pos el1).symm.trans E
      by_cases c3 : x2 < (0 : Int32)
      · have E := (if_pos c3).symm.trans E
        exact ea_shO E hs
      have E := (if_neg c3).symm.trans E
      obtain ⟨z1, E⟩ := gd_some E
      by_cases c2 : (ea_i h (b0 + 21) (Int32.toNatClampNeg x2)) ≤ x1
      · have E := (if_pos c2).symm.trans E
        exact ea_shO E hs
      have E := (if_neg c2).symm.trans E
      exact ih 7 (x1 : Int32) ((x2 + ((-1) : Int32)) : Int32) h _ _ E hs
    have E := (if_neg el1).symm.trans E
    cases E
theorem shX12_actOn {b0 : Nat} {x1 : Int32} {h : ea_H} (hs : ShM b0 h) : ShM b0 (wX12_actOn b0 x1 h) := by
  unfold wX12_actOn
  cases K : qX12_actOn b0 x1 h with
  | none => exact hs
  | some x => obtain ⟨x, y⟩ := x; unfold qX12_actOn at K; exact zX12_actOn _ _ _ _ _ _ _ K hs
noncomputable def vX12_inForce (b0 : Nat) (x1 : Int32) (x2 : Int32) (h : ea_H) : Int32 := (if (vX12_isDay (x1 : Int32) h) = (0 : Int32) then (if ((-1) : Int32) = ((-1) : Int32) then ((-1) : Int32) else (if Int32.toInt x2 = 0 then ((-1) : Int32) else (if Int32.toInt x2 = 1 then (ea_i h (b0 + 22) (Int32.toNatClampNeg (-1))) else (if Int32.toInt x2 = 2 then (ea_i h (b0 + 23) (Int32.toNatClampNeg (-1))) else (if Int32.toInt x2 = 3 then (ea_i h (b0 + 24) (Int32.toNatClampNeg (-1))) else (if Int32.toInt x2 = 4 then (ea_i h (b0 + 25) (Int32.toNatClampNeg (-1))) else (if Int32.toInt x2 = 5 then (ea_i h (b0 + 26) (Int32.toNatClampNeg (-1))) else (if Int32.toInt x2 = 6 then (ea_i h (b0 + 27) (Int32.toNatClampNeg (-1))) else (if Int32.toInt x2 = 7 then (ea_i h (b0 + 28) (Int32.toNatClampNeg (-1))) else ((-1) : Int32)))))))))) else (if (vX12_actOn b0 (x1 : Int32) h) = ((-1) : Int32) then ((-1) : Int32) else (if Int32.toInt x2 = 0 then (vX12_actOn b0 (x1 : Int32) h) else (if Int32.toInt x2 = 1 then (ea_i (wX12_actOn b0 (x1 : Int32) h) (b0 + 22) (Int32.toNatClampNeg (vX12_actOn b0 (x1 : Int32) h))) else (if Int32.toInt x2 = 2 then (ea_i (wX12_actOn b0 (x1 : Int32) h) (b0 + 23) (Int32.toNatClampNeg (vX12_actOn b0 (x1 : Int32) h))) else (if Int32.toInt x2 = 3 then (ea_i (wX12_actOn b0 (x1 : Int32) h) (b0 + 24) (Int32.toNatClampNeg (vX12_actOn b0 (x1 : Int32) h))) else (if Int32.toInt x2 = 4 then (ea_i (wX12_actOn b0 (x1 : Int32) h) (b0 + 25) (Int32.toNatClampNeg (vX12_actOn b0 (x1 : Int32) h))) else (if Int32.toInt x2 = 5 then (ea_i (wX12_actOn b0 (x1 : Int32) h) (b0 + 26) (Int32.toNatClampNeg (vX12_actOn b0 (x1 : Int32) h))) else (if Int32.toInt x2 = 6 then (ea_i (wX12_actOn b0 (x1 : Int32) h) (b0 + 27) (Int32.toNatClampNeg (vX12_actOn b0 (x1 : Int32) h))) else (if Int32.toInt x2 = 7 then (ea_i (wX12_actOn b0 (x1 : Int32) h) (b0 + 28) (Int32.toNatClampNeg (vX12_actOn b0 (x1 : Int32) h))) else ((-1) : Int32)))))))))))
noncomputable def wX12_inForce (b0 : Nat) (x1 : Int32) (x2 : Int32) (h : ea_H) : ea_H := (if (vX12_isDay (x1 : Int32) h) = (0 : Int32) then h else (wX12_actOn b0 (x1 : Int32) h))
def okX12_inForce (b0 : Nat) (x1 : Int32) (x2 : Int32) (h : ea_H) : Prop := ((vX12_isDay (x1 : Int32) h) = (0 : Int32) → (((-1) : Int32) = ((-1) : Int32) → True) ∧ (¬ ((-1) : Int32) = ((-1) : Int32) → (Int32.toInt x2 = 0 → True) ∧ (¬ Int32.toInt x2 = 0 → (Int32.toInt x2 = 1 → vp_in (-1) 6) ∧ (¬ Int32.toInt x2 = 1 → (Int32.toInt x2 = 2 → vp_in (-1) 6) ∧ (¬ Int32.toInt x2 = 2 → (Int32.toInt x2 = 3 → vp_in (-1) 6) ∧ (¬ Int32.toInt x2 = 3 → (Int32.toInt x2 = 4 → vp_in (-1) 6) ∧ (¬ Int32.toInt x2 = 4 → (Int32.toInt x2 = 5 → vp_in (-1) 6) ∧ (¬ Int32.toInt x2 = 5 → (Int32.toInt x2 = 6 → vp_in (-1) 6) ∧ (¬ Int32.toInt x2 = 6 → (Int32.toInt x2 = 7 → vp_in (-1) 6) ∧ (¬ Int32.toInt x2 = 7 → True)))))))))) ∧ (¬ (vX12_isDay (x1 : Int32) h) = (0 : Int32) → (okX12_actOn b0 (x1 : Int32) h) ∧ (((vX12_actOn b0 (x1 : Int32) h) = ((-1) : Int32) → True) ∧ (¬ (vX12_actOn b0 (x1 : Int32) h) = ((-1) : Int32) → (Int32.toInt x2 = 0 → True) ∧ (¬ Int32.toInt x2 = 0 → (Int32.toInt x2 = 1 → vp_in (vX12_actOn b0 (x1 : Int32) h) 6) ∧ (¬ Int32.toInt x2 = 1 → (Int32.toInt x2 = 2 → vp_in (vX12_actOn b0 (x1 : Int32) h) 6) ∧ (¬ Int32.toInt x2 = 2 → (Int32.toInt x2 = 3 → vp_in (vX12_actOn b0 (x1 : Int32) h) 6) ∧ (¬ Int32.toInt x2 = 3 → (Int32.toInt x2 = 4 → vp_in (vX12_actOn b0 (x1 : Int32) h) 6) ∧ (¬ Int32.toInt x2 = 4 → (Int32.toInt x2 = 5 → vp_in (vX12_actOn b0 (x1 : Int32) h) 6) ∧ (¬ Int32.toInt x2 = 5 → (Int32.toInt x2 = 6 → vp_in (vX12_actOn b0 (x1 : Int32) h) 6) ∧ (¬ Int32.toInt x2 = 6 → (Int32.toInt x2 = 7 → vp_in (vX12_actOn b0 (x1 : Int32) h) 6) ∧ (¬ Int32.toInt x2 = 7 → True)))))))))))
theorem shX12_inForce {b0 : Nat} {x1 : Int32} {x2 : Int32} {h : ea_H} (hs : ShM b0 h) : ShM b0 (wX12_inForce b0 x1 x2 h) := (ShM_it hs (shX12_actOn hs))
theorem sX12_inForce {d : Nat} {b0 : Nat} {x1 : Int32} {x2 : Int32} {h : ea_H} (hd : 3 ≤ d) (hs : ShM b0 h) (K : okX12_inForce b0 x1 x2 h) : ea_Met mX12_inForce d [vR (some (b0 + 0)), vI x1, vI x2] h (some (vI (vX12_inForce b0 x1 x2 h))) (wX12_inForce b0 x1 x2 h) := by
  obtain ⟨X, EX⟩ : ∃ z, z = vX12_inForce b0 x1 x2 h := ⟨_, rfl⟩
  rw [← EX]
  unfold vX12_inForce at EX
  obtain ⟨Y, EY⟩ : ∃ z, z = wX12_inForce b0 x1 x2 h := ⟨_, rfl⟩
  rw [← EY]
  unfold wX12_inForce at EY
  unfold okX12_inForce at K
  refine ea_enter rfl (Nat.le_of_ble_eq_true rfl) ?_
  refine ea_iload_n (pc := 0) dX12_inForce_0 rfl 1 rfl ?_
  refine ea_callS (pc := 1) (d' := d - 1) (As := [vI x1]) (st := []) dX12_inForce_1 kX12_isDay (sX12_isDay (d := d - 1) (by omega)) (by omega) rfl (Nat.le_of_ble_eq_true rfl) ew_1752 ew_1753 ?_
  refine ea_if_eq (pc := 4) (tgt := 15) dX12_inForce_4 rfl (fun c20 => ?_) (fun c20 => ?_)
  · have EX := EX.trans (if_pos c20)
    have EY := EY.trans (if_pos c20)
    have K := K.1 c20
    refine ea_iconst (pc := 15) dX12_inForce_15 (v := (-1)) rfl ?_
    refine ea_istore_n (pc := 16) (lv' := [(0, vR (some (b0 + 0))), (2, vI x2), (3, vI (-1))]) dX12_inForce_16 rfl (Nat.le_of_ble_eq_true rfl) [1, 3, 0] rfl ?_
    refine ea_iload_n (pc := 17) dX12_inForce_17 rfl 2 rfl ?_
    refine ea_iconst (pc := 18) dX12_inForce_18 (v := (-1)) rfl ?_
    refine ea_icmp_ne (pc := 19) (tgt := 24) dX12_inForce_19 rfl (fun c9 => ?_) (fun c9 => ?_)
    · have EX := EX.trans (if_neg c9)
      have K := K.2 c9
      refine ea_iload_n (pc := 24) dX12_inForce_24 rfl 1 rfl ?_
      by_cases qc25_0 : Int32.toInt x2 = 0
      · have EX := EX.trans (if_pos qc25_0)
        have K := K.1 qc25_0
        refine ea_tswIn (pc := 25) (tgt := 72) dX12_inForce_25 (by rw [qc25_0]; decide) (by rw [qc25_0]; decide) (by rw [qc25_0]; rfl) rfl ?_
        refine ea_iload_n (pc := 72) dX12_inForce_72 rfl 2 rfl ?_
        exact ea_iretE (pc := 73) dX12_inForce_73 rfl rfl EX EY
      have EX := EX.trans (if_neg qc25_0)
      have K := K.2 qc25_0
      by_cases qc25_1 : Int32.toInt x2 = 1
      · have EX := EX.trans (if_pos qc25_1)
        have K := K.1 qc25_1
        refine ea_tswIn (pc := 25) (tgt := 74) dX12_inForce_25 (by rw [qc25_1]; decide) (by rw [qc25_1]; decide) (by rw [qc25_1]; rfl) rfl ?_
        refine ea_aload_n (pc := 74) dX12_inForce_74 rfl 0 rfl ?_
        refine ea_getR (pc := 75) dX12_inForce_75 ec_12 (k := 27) (Nat.le_of_ble_eq_true rfl) rfl (Or.inl ew_1372) (hs.1 0 (by decide)).1 (hs.1 0 (by decide)).2.1 (hs.2 0 27 rfl) ?_
        refine ea_iload_n (pc := 78) dX12_inForce_78 rfl 2 rfl ?_
        have z2 := K
        refine ea_iald (pc := 79) dX12_inForce_79 (hs.1 22 (by decide)).1 (hs.1 22 (by decide)).2.1 (ea_vpl (hs.1 22 (by decide)).2.2 z2) ?_
        exact ea_iretE (pc := 80) dX12_inForce_80 rfl rfl EX EY
      have EX := EX.trans (if_neg qc25_1)
      have K := K.2 qc25_1
      by_cases qc25_2 : Int32.toInt x2 = 2
      · have EX := EX.trans (if_pos qc25_2)
        have K := K.1 qc25_2
        refine ea_tswIn (pc := 25) (tgt := 81) dX12_inForce_25 (by rw [qc25_2]; decide) (by rw [qc25_2]; decide) (by rw [qc25_2]; rfl) rfl ?_
        refine ea_aload_n (pc := 81) dX12_inForce_81 rfl 0 rfl ?_
        refine ea_getR (pc := 82) dX12_inForce_82 ec_12 (k := 28) (Nat.le_of_ble_eq_true rfl) rfl (Or.inl ew_1373) (hs.1 0 (by decide)).1 (hs.1 0 (by decide)).2.1 (hs.2 0 28 rfl) ?_
        refine ea_iload_n (pc := 85) dX12_inForce_85 rfl 2 rfl ?_
        have z3 := K
        refine ea_iald (pc := 86) dX12_inForce_86 (hs.1 23 (by decide)).1 (hs.1 23 (by decide)).2.1 (ea_vpl (hs.1 23 (by decide)).2.2 z3) ?_
        exact ea_iretE (pc := 87) dX12_inForce_87 rfl rfl EX EY
      have EX := EX.trans (if_neg qc25_2)
      have K := K.2 qc25_2
      by_cases qc25_3 : Int32.toInt x2 = 3
      · have EX := EX.trans (if_pos qc25_3)
        have K := K.1 qc25_3
        refine ea_tswIn (pc := 25) (tgt := 88) dX12_inForce_25 (by rw [qc25_3]; decide) (by rw [qc25_3]; decide) (by rw [qc25_3]; rfl) rfl ?_
        refine ea_aload_n (pc := 88) dX12_inForce_88 rfl 0 rfl ?_
        refine ea_getR (pc := 89) dX12_inForce_89 ec_12 (k := 29) (Nat.le_of_ble_eq_true rfl) rfl (Or.inl ew_1374) (hs.1 0 (by decide)).1 (hs.1 0 (by decide)).2.1 (hs.2 0 29 rfl) ?_
        refine ea_iload_n (pc := 92) dX12_inForce_92 rfl 2 rfl ?_
        have z4 := K
        refine ea_iald (pc := 93) dX12_inForce_93 (hs.1 24 (by decide)).1 (hs.1 24 (by decide)).2.1 (ea_vpl (hs.1 24 (by decide)).2.2 z4) ?_
        exact ea_iretE (pc := 94) dX12_inForce_94 rfl rfl EX EY
      have EX := EX.trans (if_neg qc25_3)
      have K := K.2 qc25_3
      by_cases qc25_4 : Int32.toInt x2 = 4
      · have EX := EX.trans (if_pos qc25_4)
        have K := K.1 qc25_4
        refine ea_tswIn (pc := 25) (tgt := 95) dX12_inForce_25 (by rw [qc25_4]; decide) (by rw [qc25_4]; decide) (by rw [qc25_4]; rfl) rfl ?_
        refine ea_aload_n (pc := 95) dX12_inForce_95 rfl 0 rfl ?_
        refine ea_getR (pc := 96) dX12_inForce_96 ec_12 (k := 30) (Nat.le_of_ble_eq_true rfl) rfl (Or.inl ew_1375) (hs.1 0 (by decide)).1 (hs.1 0 (by decide)).2.1 (hs.2 0 30 rfl) ?_
        refine ea_iload_n (pc := 99) dX12_inForce_99 rfl 2 rfl ?_
        have z5 := K
        refine ea_iald (pc := 100) dX12_inForce_100 (hs.1 25 (by decide)).1 (hs.1 25 (by decide)).2.1 (ea_vpl (hs.1 25 (by decide)).2.2 z5) ?_
        exact ea_iretE (pc := 101) dX12_inForce_101 rfl rfl EX EY
      have EX := EX.trans (if_neg qc25_4)
      have K := K.2 qc25_4
      by_cases qc25_5 : Int32.toInt x2 = 5
      · have EX := EX.trans (if_pos qc25_5)
        have K := K.1 qc25_5
        refine ea_tswIn (pc := 25) (tgt := 102) dX12_inForce_25 (by rw [qc25_5]; decide) (by rw [qc25_5]; decide) (by rw [qc25_5]; rfl) rfl ?_
        refine ea_aload_n (pc := 102) dX12_inForce_102 rfl 0 rfl ?_
        refine ea_getR (pc := 103) dX12_inForce_103 ec_12 (k := 31) (Nat.le_of_ble_eq_true rfl) rfl (Or.inl ew_1376) (hs.1 0 (by decide)).1 (hs.1 0 (by decide)).2.1 (hs.2 0 31 rfl) ?_
        refine ea_iload_n (pc := 106) dX12_inForce_106 rfl 2 rfl ?_
        have z6 := K
        refine ea_iald (pc := 107) dX12_inForce_107 (hs.1 26 (by decide)).1 (hs.1 26 (by decide)).2.1 (ea_vpl (hs.1 26 (by decide)).2.2 z6) ?_
        exact ea_iretE (pc := 108) dX12_inForce_108 rfl rfl EX EY
      have EX := EX.trans (if_neg qc25_5)
      have K := K.2 qc25_5
      by_cases qc25_6 : Int32.toInt x2 = 6
      · have EX := EX.trans (if_pos qc25_6)
        have K := K.1 qc25_6
        refine ea_tswIn (pc := 25) (tgt := 109) dX12_inForce_25 (by rw [qc25_6]; decide) (by rw [qc25_6]; decide) (by rw [qc25_6]; rfl) rfl ?_
        refine ea_aload_n (pc := 109) dX12_inForce_109 rfl 0 rfl ?_
        refine ea_getR (pc := 110) dX12_inForce_110 ec_12 (k := 32) (Nat.le_of_ble_eq_true rfl) rfl (Or.inl ew_1377) (hs.1 0 (by decide)).1 (hs.1 0 (by decide)).2.1 (hs.2 0 32 rfl) ?_
        refine ea_iload_n (pc := 113) dX12_inForce_113 rfl 2 rfl ?_
        have z7 := K
        refine ea_iald (pc := 114) dX12_inForce_114 (hs.1 27 (by decide)).1 (hs.1 27 (by decide)).2.1 (ea_vpl (hs.1 27 (by decide)).2.2 z7) ?_
        exact ea_iretE (pc := 115) dX12_inForce_115 rfl rfl EX EY
      have EX := EX.trans (if_neg qc25_6)
      have K := K.2 qc25_6
      by_cases qc25_7 : Int32.toInt x2 = 7
      · have EX := EX.trans (if_pos qc25_7)
        have K := K.1 qc25_7
        refine ea_tswIn (pc := 25) (tgt := 116) dX12_inForce_25 (by rw [qc25_7]; decide) (by rw [qc25_7]; decide) (by rw [qc25_7]; rfl) rfl ?_
        refine ea_aload_n (pc := 116) dX12_inForce_116 rfl 0 rfl ?_
        refine ea_getR (pc := 117) dX12_inForce_117 ec_12 (k := 33) (Nat.le_of_ble_eq_true rfl) rfl (Or.inl ew_1378) (hs.1 0 (by decide)).1 (hs.1 0 (by decide)).2.1 (hs.2 0 33 rfl) ?_
        refine ea_iload_n (pc := 120) dX12_inForce_120 rfl 2 rfl ?_
        have z8 := K
        refine ea_iald (pc := 121) dX12_inForce_121 (hs.1 28 (by decide)).1 (hs.1 28 (by decide)).2.1 (ea_vpl (hs.1 28 (by decide)).2.2 z8) ?_
        exact ea_iretE (pc := 122) dX12_inForce_122 rfl rfl EX EY
      have EX := EX.trans (if_neg qc25_7)
      have K := K.2 qc25_7
      refine ea_tswOut (pc := 25) (tgt := 123) dX12_inForce_25 (ea_sw_0_7 qc25_0 qc25_1 qc25_2 qc25_3 qc25_4 qc25_5 qc25_6 qc25_7) rfl ?_
      refine ea_iconst (pc := 123) dX12_inForce_123 (v := (-1)) rfl ?_
      exact ea_iretE (pc := 124) dX12_inForce_124 rfl rfl EX EY
    · have EX := EX.trans (if_pos c9)
      refine ea_iconst (pc := 22) dX12_inForce_22 (v := (-1)) rfl ?_
      exact ea_iretE (pc := 23) dX12_inForce_23 rfl rfl EX EY
  · have EX := EX.trans (if_neg c20)
    have EY := EY.trans (if_neg c20)
    have K := K.2 c20
    refine ea_aload_n (pc := 7) dX12_inForce_7 rfl 0 rfl ?_
    refine ea_iload_n (pc := 8) dX12_inForce_8 rfl 1 rfl ?_
    obtain ⟨z10, K⟩ := K
    refine ea_callV (pc := 9) (d' := d - 1) (As := [vI x1]) (st := []) dX12_inForce_9 kX12_actOn (sX12_actOn (d := d - 1) (by omega) hs z10) (by omega) rfl (Nat.le_of_ble_eq_true rfl) ew_1975 ew_1977 ew_81 (ci := 12) rfl (by decide) (hs.1 0 (by decide)).1 (hs.1 0 (by decide)).2.1 ?_
    have hs11 : ShM b0 (wX12_actOn b0 (x1 : Int32) h) := shX12_actOn hs
    refine ea_goto (pc := 12) (tgt := 16) dX12_inForce_12 rfl ?_
    refine ea_istore_n (pc := 16) (lv' := [(0, vR (some (b0 + 0))), (2, vI x2), (3, vI (vX12_actOn b0 (x1 : Int32) h))]) dX12_inForce_16 rfl (Nat.le_of_ble_eq_true rfl) [1, 3, 0] rfl ?_
    refine ea_iload_n (pc := 17) dX12_inForce_17 rfl 2 rfl ?_
    refine ea_iconst (pc := 18) dX12_inForce_18 (v := (-1)) rfl ?_
    refine ea_icmp_ne (pc := 19) (tgt := 24) dX12_inForce_19 rfl (fun c19 => ?_) (fun c19 => ?_)
    · have EX := EX.trans (if_neg c19)
      have K := K.2 c19
      refine ea_iload_n (pc := 24) dX12_inForce_24 rfl 1 rfl ?_
      by_cases qc25_0 : Int32.toInt x2 = 0
      · have EX := EX.trans (if_pos qc25_0)
        have K := K.1 qc25_0
        refine ea_tswIn (pc := 25) (tgt := 72) dX12_inForce_25 (by rw [qc25_0]; decide) (by rw [qc25_0]; decide) (by rw [qc25_0]; rfl) rfl ?_
        refine ea_iload_n (pc := 72) dX12_inForce_72 rfl 2 rfl ?_
        exact ea_iretE (pc := 73) dX12_inForce_73 rfl rfl EX EY
      have EX := EX.trans (if_neg qc25_0)
      have K := K.2 qc25_0
      by_cases qc25_1 : Int32.toInt x2 = 1
      · have EX := EX.trans (if_pos qc25_1)
        have K := K.1 qc25_1
        refine ea_tswIn (pc := 25) (tgt := 74) dX12_inForce_25 (by rw [qc25_1]; decide) (by rw [qc25_1]; decide) (by rw [qc25_1]; rfl) rfl ?_
        refine ea_aload_n (pc := 74) dX12_inForce_74 rfl 0 rfl ?_
        refine ea_getR (pc := 75) dX12_inForce_75 ec_12 (k := 27) (Nat.le_of_ble_eq_true rfl) rfl (Or.inl ew_1372) (hs11.1 0 (by decide)).1 (hs11.1 0 (by decide)).2.1 (hs11.2 0 27 rfl) ?_
        refine ea_iload_n (pc := 78) dX12_inForce_78 rfl 2 rfl ?_
        have z12 := K
        refine ea_iald (pc := 79) dX12_inForce_79 (hs11.1 22 (by decide)).1 (hs11.1 22 (by decide)).2.1 (ea_vpl (hs11.1 22 (by decide)).2.2 z12) ?_
        exact ea_iretE (pc := 80) dX12_inForce_80 rfl rfl EX EY
      have EX := EX.trans (if_neg qc25_1)
      have K := K.2 qc25_1
      by_cases qc25_2 : Int32.toInt x2 = 2
      · have EX := EX.trans (if_pos qc25_2)
        have K := K.1 qc25_2
        refine ea_tswIn (pc := 25) (tgt := 81) dX12_inForce_25 (by rw [qc25_2]; decide) (by rw [qc25_2]; decide) (by rw [qc25_2]; rfl) rfl ?_
        refine ea_aload_n (pc := 81) dX12_inForce_81 rfl 0 rfl ?_
        refine ea_getR (pc := 82) dX12_inForce_82 ec_12 (k := 28) (Nat.le_of_ble_eq_true rfl) rfl (Or.inl ew_1373) (hs11.1 0 (by decide)).1 (hs11.1 0 (by decide)).2.1 (hs11.2 0 28 rfl) ?_
        refine ea_iload_n (pc := 85) dX12_inForce_85 rfl 2 rfl ?_
        have z13 := K
        refine ea_iald (pc := 86) dX12_inForce_86 (hs11.1 23 (by decide)).1 (hs11.1 23 (by decide)).2.1 (ea_vpl (hs11.1 23 (by decide)).2.2 z13) ?_
        exact ea_iretE (pc := 87) dX12_inForce_87 rfl rfl EX EY
      have EX := EX.trans (if_neg qc25_2)
      have K := K.2 qc25_2
      by_cases qc25_3 : Int32.toInt x2 = 3
      · have EX := EX.trans (if_pos qc25_3)
        have K := K.1 qc25_3
        refine ea_tswIn (pc := 25) (tgt := 88) dX12_inForce_25 (by rw [qc25_3]; decide) (by rw [qc25_3]; decide) (by rw [qc25_3]; rfl) rfl ?_
        refine ea_aload_n (pc := 88) dX12_inForce_88 rfl 0 rfl ?_
        refine ea_getR (pc := 89) dX12_inForce_89 ec_12 (k := 29) (Nat.le_of_ble_eq_true rfl) rfl (Or.inl ew_1374) (hs11.1 0 (by decide)).1 (hs11.1 0 (by decide)).2.1 (hs11.2 0 29 rfl) ?_
        refine ea_iload_n (pc := 92) dX12_inForce_92 rfl 2 rfl ?_
        have z14 := K
        refine ea_iald (pc := 93) dX12_inForce_93 (hs11.1 24 (by decide)).1 (hs11.1 24 (by decide)).2.1 (ea_vpl (hs11.1 24 (by decide)).2.2 z14) ?_
        exact ea_iretE (pc := 94) dX12_inForce_94 rfl rfl EX EY
      have EX := EX.trans (if_neg qc25_3)
      have K := K.2 qc25_3
      by_cases qc25_4 : Int32.toInt x2 = 4
      · have EX := EX.trans (if_pos qc25_4)
        have K := K.1 qc25_4
        refine ea_tswIn (pc := 25) (tgt := 95) dX12_inForce_25 (by rw [qc25_4]; decide) (by rw [qc25_4]; decide) (by rw [qc25_4]; rfl) rfl ?_
        refine ea_aload_n (pc := 95) dX12_inForce_95 rfl 0 rfl ?_
        refine ea_getR (pc := 96) dX12_inForce_96 ec_12 (k := 30) (Nat.le_of_ble_eq_true rfl) rfl (Or.inl ew_1375) (hs11.1 0 (by decide)).1 (hs11.1 0 (by decide)).2.1 (hs11.2 0 30 rfl) ?_
        refine ea_iload_n (pc := 99) dX12_inForce_99 rfl 2 rfl ?_
        have z15 := K
        refine ea_iald (pc := 100) dX12_inForce_100 (hs11.1 25 (by decide)).1 (hs11.1 25 (by decide)).2.1 (ea_vpl (hs11.1 25 (by decide)).2.2 z15) ?_
        exact ea_iretE (pc := 101) dX12_inForce_101 rfl rfl EX EY
      have EX := EX.trans (if_neg qc25_4)
      have K := K.2 qc25_4
      by_cases qc25_5 : Int32.toInt x2 = 5
      · have EX := EX.trans (if_pos qc25_5)
        have K := K.1 qc25_5
        refine ea_tswIn (pc := 25) (tgt := 102) dX12_inForce_25 (by rw [qc25_5]; decide) (by rw [qc25_5]; decide) (by rw [qc25_5]; rfl) rfl ?_
        refine ea_aload_n (pc := 102) dX12_inForce_102 rfl 0 rfl ?_
        refine ea_getR (pc := 103) dX12_inForce_103 ec_12 (k := 31) (Nat.le_of_ble_eq_true rfl) rfl (Or.inl ew_1376) (hs11.1 0 (by decide)).1 (hs11.1 0 (by decide)).2.1 (hs11.2 0 31 rfl) ?_
        refine ea_iload_n (pc := 106) dX12_inForce_106 rfl 2 rfl ?_
        have z16 := K
        refine ea_iald (pc := 107) dX12_inForce_107 (hs11.1 26 (by decide)).1 (hs11.1 26 (by decide)).2.1 (ea_vpl (hs11.1 26 (by decide)).2.2 z16) ?_
        exact ea_iretE (pc := 108) dX12_inForce_108 rfl rfl EX EY
      have EX := EX.trans (if_neg qc25_5)
      have K := K.2 qc25_5
      by_cases qc25_6 : Int32.toInt x2 = 6
      · have EX := EX.trans (if_pos qc25_6)
        have K := K.1 qc25_6
        refine ea_tswIn (pc := 25) (tgt := 109) dX12_inForce_25 (by rw [qc25_6]; decide) (by rw [qc25_6]; decide) (by rw [qc25_6]; rfl) rfl ?_
        refine ea_aload_n (pc := 109) dX12_inForce_109 rfl 0 rfl ?_
        refine ea_getR (pc := 110) dX12_inForce_110 ec_12 (k := 32) (Nat.le_of_ble_eq_true rfl) rfl (Or.inl ew_1377) (hs11.1 0 (by decide)).1 (hs11.1 0 (by decide)).2.1 (hs11.2 0 32 rfl) ?_
        refine ea_iload_n (pc := 113) dX12_inForce_113 rfl 2 rfl ?_
        have z17 := K
        refine ea_iald (pc := 114) dX12_inForce_114 (hs11.1 27 (by decide)).1 (hs11.1 27 (by decide)).2.1 (ea_vpl (hs11.1 27 (by decide)).2.2 z17) ?_
        exact ea_iretE (pc := 115) dX12_inForce_115 rfl rfl EX EY
      have EX := EX.trans (if_neg qc25_6)
      have K := K.2 qc25_6
      by_cases qc25_7 : Int32.toInt x2 = 7
      · have EX := EX.trans (if_pos qc25_7)
        have K := K.1 qc25_7
        refine ea_tswIn (pc := 25) (tgt := 116) dX12_inForce_25 (by rw [qc25_7]; decide) (by rw [qc25_7]; decide) (by rw [qc25_7]; rfl) rfl ?_
        refine ea_aload_n (pc := 116) dX12_inForce_116 rfl 0 rfl ?_
        refine ea_getR (pc := 117) dX12_inForce_117 ec_12 (k := 33) (Nat.le_of_ble_eq_true rfl) rfl (Or.inl ew_1378) (hs11.1 0 (by decide)).1 (hs11.1 0 (by decide)).2.1 (hs11.2 0 33 rfl) ?_
        refine ea_iload_n (pc := 120) dX12_inForce_120 rfl 2 rfl ?_
        have z18 := K
        refine ea_iald (pc := 121) dX12_inForce_121 (hs11.1 28 (by decide)).1 (hs11.1 28 (by decide)).2.1 (ea_vpl (hs11.1 28 (by decide)).2.2 z18) ?_
        exact ea_iretE (pc := 122) dX12_inForce_122 rfl rfl EX EY
      have EX := EX.trans (if_neg qc25_7)
      have K := K.2 qc25_7
      refine ea_tswOut (pc := 25) (tgt := 123) dX12_inForce_25 (ea_sw_0_7 qc25_0 qc25_1 qc25_2 qc25_3 qc25_4 qc25_5 qc25_6 qc25_7) rfl ?_
      refine ea_iconst (pc := 123) dX12_inForce_123 (v := (-1)) rfl ?_
      exact ea_iretE (pc := 124) dX12_inForce_124 rfl rfl EX EY
    · have EX := EX.trans (if_pos c19)
      refine ea_iconst (pc := 22) dX12_inForce_22 (v := (-1)) rfl ?_
      exact ea_iretE (pc := 23) dX12_inForce_23 rfl rfl EX EY
noncomputable def vX12_isCross (b0 : Nat) (x1 : Int32) (x2 : Int32) (h : ea_H) : Int32 := (if x1 = (0 : Int32) then (0 : Int32) else (if x2 = (0 : Int32) then (0 : Int32) else (if (vX12_milesOf b0 (x1 : Int32) (x2 : Int32) (0 : Int32) h) = (1000000 : Int32) then (0 : Int32) else (if (vX12_milesOf b0 (x1 : Int32) (x2 : Int32) (1 : Int32) (wX12_milesOf b0 (x1 : Int32) (x2 : Int32) (0 : Int32) h)) = (vX12_milesOf b0 (x1 : Int32) (x2 : Int32) (0 : Int32) h) then (1 : Int32) else (0 : Int32)))))
noncomputable def wX12_isCross (b0 : Nat) (x1 : Int32) (x2 : Int32) (h : ea_H) : ea_H := (if x1 = (0 : Int32) then h else (if x2 = (0 : Int32) then h else (if (vX12_milesOf b0 (x1 : Int32) (x2 : Int32) (0 : Int32) h) = (1000000 : Int32) then (wX12_milesOf b0 (x1 : Int32) (x2 : Int32) (0 : Int32) h) else (wX12_milesOf b0 (x1 : Int32) (x2 : Int32) (1 : Int32) (wX12_milesOf b0 (x1 : Int32) (x2 : Int32) (0 : Int32) h)))))
def okX12_isCross (b0 : Nat) (x1 : Int32) (x2 : Int32) (h : ea_H) : Prop := (x1 = (0 : Int32) → True) ∧ (¬ x1 = (0 : Int32) → (x2 = (0 : Int32) → True) ∧ (¬ x2 = (0 : Int32) → (okX12_milesOf b0 (x1 : Int32) (x2 : Int32) (0 : Int32) h) ∧ (((vX12_milesOf b0 (x1 : Int32) (x2 : Int32) (0 : Int32) h) = (1000000 : Int32) → True) ∧ (¬ (vX12_milesOf b0 (x1 : Int32) (x2 : Int32) (0 : Int32) h) = (1000000 : Int32) → (okX12_milesOf b0 (x1 : Int32) (x2 : Int32) (1 : Int32) (wX12_milesOf b0 (x1 : Int32) (x2 : Int32) (0 : Int32) h))))))
theorem bo_vX12_isCross (b0 : Nat) (x1 : Int32) (x2 : Int32) (h : ea_H) : vX12_isCross b0 x1 x2 h = 0 ∨ vX12_isCross b0 x1 x2 h = 1 := (ea_itB (Or.inl rfl) (ea_itB (Or.inl rfl) (ea_itB (Or.inl rfl) (ea_itB (Or.inr rfl) (Or.inl rfl)))))
theorem shX12_isCross {b0 : Nat} {x1 : Int32} {x2 : Int32} {h : ea_H} (hs : ShM b0 h) : ShM b0 (wX12_isCross b0 x1 x2 h) := (ShM_it hs (ShM_it hs (ShM_it (shX12_milesOf hs) (shX12_milesOf (shX12_milesOf hs)))))
theorem sX12_isCross {d : Nat} {b0 : Nat} {x1 : Int32} {x2 : Int32} {h : ea_H} (hd : 3 ≤ d) (hs : ShM b0 h) (K : okX12_isCross b0 x1 x2 h) : ea_Met mX12_isCross d [vR (some (b0 + 0)), vI x1, vI x2] h (some (vI (vX12_isCross b0 x1 x2 h))) (wX12_isCross b0 x1 x2 h) := by
  obtain ⟨X, EX⟩ : ∃ z, z = vX12_isCross b0 x1 x2 h := ⟨_, rfl⟩
  rw [← EX]
  unfold vX12_isCross at EX
  obtain ⟨Y, EY⟩ : ∃ z, z = wX12_isCross b0 x1 x2 h := ⟨_, rfl⟩
  rw [← EY]
  unfold wX12_isCross at EY
  unfold okX12_isCross at K
  refine ea_enter rfl (Nat.le_of_ble_eq_true rfl) ?_
  refine ea_iload_n (pc := 0) dX12_isCross_0 rfl 1 rfl ?_
  refine ea_if_eq (pc := 1) (tgt := 8) dX12_isCross_1 rfl (fun c8 => ?_) (fun c8 => ?_)
  · have EX := EX.trans (if_pos c8)
    have EY := EY.trans (if_pos c8)
    refine ea_iconst (pc := 8) dX12_isCross_8 (v := 0) rfl ?_
    exact ea_iretE (pc := 9) dX12_isCross_9 rfl (ea_bn (Or.inl rfl)) EX EY
  · have EX := EX.trans (if_neg c8)
    have EY := EY.trans (if_neg c8)
    have K := K.2 c8
    refine ea_iload_n (pc := 4) dX12_isCross_4 rfl 2 rfl ?_
    refine ea_if_ne (pc := 5) (tgt := 10) dX12_isCross_5 rfl (fun c7 => ?_) (fun c7 => ?_)
    · have EX := EX.trans (if_neg c7)
      have EY := EY.trans (if_neg c7)
      have K := K.2 c7
      refine ea_aload_n (pc := 10) dX12_isCross_10 rfl 0 rfl ?_
      refine ea_iload_n (pc := 11) dX12_isCross_11 rfl 1 rfl ?_
      refine ea_iload_n (pc := 12) dX12_isCross_12 rfl 2 rfl ?_
      refine ea_iconst (pc := 13) dX12_isCross_13 (v := 0) rfl ?_
      obtain ⟨z1, K⟩ := K
      refine ea_callV (pc := 14) (d' := d - 1) (As := [vI x1, vI x2, vI 0]) (st := []) dX12_isCross_14 kX12_milesOf (sX12_milesOf (d := d - 1) (by omega) hs z1) (by omega) rfl (Nat.le_of_ble_eq_true rfl) ew_1719 ew_1721 ew_48 (ci := 12) rfl (by decide) (hs.1 0 (by decide)).1 (hs.1 0 (by decide)).2.1 ?_
      have hs2 : ShM b0 (wX12_milesOf b0 (x1 : Int32) (x2 : Int32) (0 : Int32) h) := shX12_milesOf hs
      refine ea_istore_n (pc := 17) (lv' := [(0, vR (some (b0 + 0))), (1, vI x1), (2, vI x2), (3, vI (vX12_milesOf b0 (x1 : Int32) (x2 : Int32) (0 : Int32) h))]) dX12_isCross_17 rfl (Nat.le_of_ble_eq_true rfl) [1, 2, 3, 0] rfl ?_
      refine ea_iload_n (pc := 18) dX12_isCross_18 rfl 3 rfl ?_
      refine ea_ldcw (pc := 19) dX12_isCross_19 ew_1727 ?_
      refine ea_icmp_eq (pc := 22) (tgt := 40) dX12_isCross_22 rfl (fun c6 => ?_) (fun c6 => ?_)
      · have EX := EX.trans (if_pos c6)
        have EY := EY.trans (if_pos c6)
        refine ea_iconst (pc := 40) dX12_isCross_40 (v := 0) rfl ?_
        exact ea_iretE (pc := 41) dX12_isCross_41 rfl (ea_bn (Or.inl rfl)) EX EY
      · have EX := EX.trans (if_neg c6)
        have EY := EY.trans (if_neg c6)
        have K := K.2 c6
        refine ea_aload_n (pc := 25) dX12_isCross_25 rfl 0 rfl ?_
        refine ea_iload_n (pc := 26) dX12_isCross_26 rfl 1 rfl ?_
        refine ea_iload_n (pc := 27) dX12_isCross_27 rfl 2 rfl ?_
        refine ea_iconst (pc := 28) dX12_isCross_28 (v := 1) rfl ?_
        have z3 := K
        refine ea_callV (pc := 29) (d' := d - 1) (As := [vI x1, vI x2, vI 1]) (st := []) dX12_isCross_29 kX12_milesOf (sX12_milesOf (d := d - 1) (by omega) hs2 z3) (by omega) rfl (Nat.le_of_ble_eq_true rfl) ew_1719 ew_1721 ew_48 (ci := 12) rfl (by decide) (hs2.1 0 (by decide)).1 (hs2.1 0 (by decide)).2.1 ?_
        have hs4 : ShM b0 (wX12_milesOf b0 (x1 : Int32) (x2 : Int32) (1 : Int32) (wX12_milesOf b0 (x1 : Int32) (x2 : Int32) (0 : Int32) h)) := shX12_milesOf hs2
        refine ea_iload_n (pc := 32) dX12_isCross_32 rfl 3 rfl ?_
        refine ea_icmp_ne (pc := 33) (tgt := 40) dX12_isCross_33 rfl (fun c5 => ?_) (fun c5 => ?_)
        · have EX := EX.trans (if_neg c5)
          refine ea_iconst (pc := 40) dX12_isCross_40 (v := 0) rfl ?_
          exact ea_iretE (pc := 41) dX12_isCross_41 rfl (ea_bn (Or.inl rfl)) EX EY
        · have EX := EX.trans (if_pos c5)
          refine ea_iconst (pc := 36) dX12_isCross_36 (v := 1) rfl ?_
          refine ea_goto (pc := 37) (tgt := 41) dX12_isCross_37 rfl ?_
          exact ea_iretE (pc := 41) dX12_isCross_41 rfl (ea_bn (Or.inr rfl)) EX EY
    · have EX := EX.trans (if_pos c7)
      have EY := EY.trans (if_pos c7)
      refine ea_iconst (pc := 8) dX12_isCross_8 (v := 0) rfl ?_
      exact ea_iretE (pc := 9) dX12_isCross_9 rfl (ea_bn (Or.inl rfl)) EX EY
noncomputable def gX12_comesTo (b0 : Nat) : Nat → Nat → Int32 → Int32 → Int32 → Int32 → Int32 → ea_H → Option (Int32 × ea_H)
  | 0, _, _, _, _, _, _, _ => none
  | f + 1, lbl, x1, x2, x3, x4, x5, h =>
    if lbl = 0 then (gX12_comesTo b0 f 6 (x1 : Int32) 0 (x3 : Int32) (0 : Int32) (x2 : Int32) h) else
    if lbl = 6 then (if x3 ≤ x5 then (some ((ea_i h (b0 + 37) 0), h)) else (gd (vp_in (((1220 : Int32) * x1) + ((2 : Int32) * x5)) 7320) (gd (vp_in ((((1220 : Int32) * x1) + ((2 : Int32) * x5)) + (1 : Int32)) 7320) (if (8 : Int32) ≤ (ea_i h (b0 + 32) (Int32.toNatClampNeg (((1220 : Int32) * x1) + ((2 : Int32) * x5)))) then (if (ea_i h (b0 + 32) (Int32.toNatClampNeg (((1220 : Int32) * x1) + ((2 : Int32) * x5)))) = (11 : Int32) then (gd (vp_in (x4 - (1 : Int32)) 620) (gd ((¬ (ea_i h (b0 + 32) (Int32.toNatClampNeg ((((1220 : Int32) * x1) + ((2 : Int32) * x5)) + (1 : Int32)))) = 0)) (gd (vp_in (x4 - (1 : Int32)) 620) (gX12_comesTo b0 f 6 (x1 : Int32) 0 (x3 : Int32) (x4 : Int32) ((x5 + (1 : Int32)) : Int32) (ea_wi h (b0 + 37) (Int32.toNatClampNeg (x4 - (1 : Int32))) ((ea_i h (b0 + 37) (Int32.toNatClampNeg (x4 - (1 : Int32)))) / (ea_i h (b0 + 32) (Int32.toNatClampNeg ((((1220 : Int32) * x1) + ((2 : Int32) * x5)) + (1 : Int32)))))))))) else (if (ea_i h (b0 + 32) (Int32.toNatClampNeg (((1220 : Int32) * x1) + ((2 : Int32) * x5)))) = (15 : Int32) then (gd (vp_in (x4 - (1 : Int32)) 620) (gd (vp_in (x4 - (1 : Int32)) 620) (gX12_comesTo b0 f 6 (x1 : Int32) 0 (x3 : Int32) (x4 : Int32) ((x5 + (1 : Int32)) : Int32) (ea_wi h (b0 + 37) (Int32.toNatClampNeg (x4 - (1 : Int32))) ((1 : Int32) - (ea_i h (b0 + 37) (Int32.toNatClampNeg (x4 - (1 : Int32))))))))) else (gd (vp_in ((x4 + ((-1) : Int32)) - (1 : Int32)) 620) (gd (vp_in (x4 + ((-1) : Int32)) 620) (gd (vp_in ((x4 + ((-1) : Int32)) - (1 : Int32)) 620) (gX12_comesTo b0 f 6 (x1 : Int32) 0 (x3 : Int32) ((x4 + ((-1) : Int32)) : Int32) ((x5 + (1 : Int32)) : Int32) (ea_wi h (b0 + 37) (Int32.toNatClampNeg ((x4 + ((-1) : Int32)) - (1 : Int32))) (vX12_both ((ea_i h (b0 + 32) (Int32.toNatClampNeg (((1220 : Int32) * x1) + ((2 : Int32) * x5)))) : Int32) ((ea_i h (b0 + 37) (Int32.toNatClampNeg ((x4 + ((-1) : Int32)) - (1 : Int32)))) : Int32) ((ea_i h (b0 + 37) (Int32.toNatClampNeg (x4 + ((-1) : Int32)))) : Int32) h)))))))) else (if (ea_i h (b0 + 32) (Int32.toNatClampNeg (((1220 : Int32) * x1) + ((2 : Int32) * x5)))) = (0 : Int32) then (gd (vp_in x4 620) (gX12_comesTo b0 f 6 (x1 : Int32) 0 (x3 : Int32) ((x4 + (1 : Int32)) : Int32) ((x5 + (1 : Int32)) : Int32) (ea_wi h (b0 + 37) (Int32.toNatClampNeg x4) (ea_i h (b0 + 32) (Int32.toNatClampNeg ((((1220 : Int32) * x1) + ((2 : Int32) * x5)) + (1 : Int32))))))) else (gd (vp_in (ea_i h (b0 + 32) (Int32.toNatClampNeg (((1220 : Int32) * x1) + ((2 : Int32) * x5)))) 8) (gd (vp_in x4 620) (gX12_comesTo b0 f 6 (x1 : Int32) 0 (x3 : Int32) ((x4 + (1 : Int32)) : Int32) ((x5 + (1 : Int32)) : Int32) (ea_wi h (b0 + 37) (Int32.toNatClampNeg x4) (ea_i h (b0 + 65) (Int32.toNatClampNeg (ea_i h (b0 + 32) (Int32.toNatClampNeg (((1220 : Int32) * x1) + ((2 : Int32) * x5))))))))))))))) else none
theorem tX12_comesTo {d : Nat} {b0 : Nat} {h0 : ea_H} (hd : 2 ≤ d) : ∀ (f lbl : Nat) (x1 : Int32) (x2 : Int32) (x3 : Int32) (x4 : Int32) (x5 : Int32) (h : ea_H) (r : Int32) (h' : ea_H), gX12_comesTo b0 f lbl x1 x2 x3 x4 x5 h = some (r, h') → ShM b0 h → (lbl = 0 → ea_W mX12_comesTo d h0 (some (vI r)) h' 0 [(0, vR (some (b0 + 0))), (1, vI x1), (2, vI x2), (3, vI x3)] [] h) ∧ (lbl = 6 → ea_W mX12_comesTo d h0 (some (vI r)) h' 6 [(0, vR (some (b0 + 0))), (1, vI x1), (3, vI x3), (4, vI x4), (5, vI x5)] [] h) := by
  intro f
  induction f with
  | zero => intro lbl x1 x2 x3 x4 x5 h r h' E; cases E
  | succ f ih =>
    intro lbl x1 x2 x3 x4 x5 h r h' E hs
    unfold gX12_comesTo at E
    refine ⟨?_, ?_⟩
    · intro el
      subst el
      have E := (if_pos rfl).symm.trans E
      refine ea_iconst (pc := 0) dX12_comesTo_0 (v := 0) rfl ?_
      refine ea_istore (pc := 1) (lv' := [(0, vR (some (b0 + 0))), (1, vI x1), (2, vI x2), (3, vI x3), (4, vI 0)]) dX12_comesTo_1 (Nat.le_of_ble_eq_true rfl) [1, 2, 3, 4, 0] rfl ?_
      refine ea_iload_n (pc := 3) dX12_comesTo_3 rfl 2 rfl ?_
      refine ea_istore (pc := 4) (lv' := [(0, vR (some (b0 + 0))), (1, vI x1), (3, vI x3), (4, vI 0), (5, vI x2)]) dX12_comesTo_4 (Nat.le_of_ble_eq_true rfl) [1, 2, 4, 5, 0] rfl ?_
      exact ((ih 6 (x1 : Int32) 0 (x3 : Int32) (0 : Int32) (x2 : Int32) h _ _ E hs).2 rfl)
    intro el
    subst el
    have E := (if_neg (by decide)).symm.trans E
    have E := (if_pos rfl).symm.trans E
    refine ea_iload (pc := 6) dX12_comesTo_6 4 rfl ?_
    refine ea_iload_n (pc := 8) dX12_comesTo_8 rfl 2 rfl ?_
    refine ea_icmp_ge (pc := 9) (tgt := 178) dX12_comesTo_9 rfl (fun c24 => ?_) (fun c24 => ?_)
    · have E := (if_pos c24).symm.trans E
      refine ea_aload_n (pc := 178) dX12_comesTo_178 rfl 0 rfl ?_
      refine ea_getR (pc := 179) dX12_comesTo_179 ec_12 (k := 42) (Nat.le_of_ble_eq_true rfl) rfl (Or.inl ew_1387) (hs.1 0 (by decide)).1 (hs.1 0 (by decide)).2.1 (hs.2 0 42 rfl) ?_
      refine ea_iconst (pc := 182) dX12_comesTo_182 (v := 0) rfl ?_
      refine ea_iald (pc := 183) dX12_comesTo_183 (hs.1 37 (by decide)).1 (hs.1 37 (by decide)).2.1 (ea_vpl (n := 620) (hs.1 37 (by decide)).2.2 (by unfold vp_in; decide)) ?_
      exact ea_iretO (pc := 184) dX12_comesTo_184 rfl rfl E
    · have E := (if_neg c24).symm.trans E
      refine ea_aload_n (pc := 12) dX12_comesTo_12 rfl 0 rfl ?_
      refine ea_getR (pc := 13) dX12_comesTo_13 ec_12 (k := 37) (Nat.le_of_ble_eq_true rfl) rfl (Or.inl ew_1382) (hs.1 0 (by decide)).1 (hs.1 0 (by decide)).2.1 (hs.2 0 37 rfl) ?_
      refine ea_sipush (pc := 16) dX12_comesTo_16 (v := 1220) rfl ?_
      refine ea_iload_n (pc := 19) dX12_comesTo_19 rfl 1 rfl ?_
      refine ea_imul (pc := 20) dX12_comesTo_20 ?_
      refine ea_iconst (pc := 21) dX12_comesTo_21 (v := 2) rfl ?_
      refine ea_iload (pc := 22) dX12_comesTo_22 4 rfl ?_
      refine ea_imul (pc := 24) dX12_comesTo_24 ?_
      refine ea_iadd (pc := 25) dX12_comesTo_25 ?_
      obtain ⟨z1, E⟩ := gd_some E
      refine ea_iald (pc := 26) dX12_comesTo_26 (hs.1 32 (by decide)).1 (hs.1 32 (by decide)).2.1 (ea_vpl (hs.1 32 (by decide)).2.2 z1) ?_
      refine ea_istore (pc := 27) (lv' := [(0, vR (some (b0 + 0))), (1, vI x1), (3, vI x3), (4, vI x4), (5, vI x5), (6, vI (ea_i h (b0 + 32) (Int32.toNatClampNeg (((1220 : Int32) * x1) + ((2 : Int32) * x5)))))]) dX12_comesTo_27 (Nat.le_of_ble_eq_true rfl) [1, 2, 3, 4, 5, 0] rfl ?_
      refine ea_aload_n (pc := 29) dX12_comesTo_29 rfl 0 rfl ?_
      refine ea_getR (pc := 30) dX12_comesTo_30 ec_12 (k := 37) (Nat.le_of_ble_eq_true rfl) rfl (Or.inl ew_1382) (hs.1 0 (by decide)).1 (hs.1 0 (by decide)).2.1 (hs.2 0 37 rfl) ?_
      refine ea_sipush (pc := 33) dX12_comesTo_33 (v := 1220) rfl ?_
      refine ea_iload_n (pc := 36) dX12_comesTo_36 rfl 1 rfl ?_
      refine ea_imul (pc := 37) dX12_comesTo_37 ?_
      refine ea_iconst (pc := 38) dX12_comesTo_38 (v := 2) rfl ?_
      refine ea_iload (pc := 39) dX12_comesTo_39 4 rfl ?_
      refine ea_imul (pc := 41) dX12_comesTo_41 ?_
      refine ea_iadd (pc := 42) dX12_comesTo_42 ?_
      refine ea_iconst (pc := 43) dX12_comesTo_43 (v := 1) rfl ?_
      refine ea_iadd (pc := 44) dX12_comesTo_44 ?_
      obtain ⟨z2, E⟩ := gd_some E
      refine ea_iald (pc := 45) dX12_comesTo_45 (hs.1 32 (by decide)).1 (hs.1 32 (by decide)).2.1 (ea_vpl (hs.1 32 (by decide)).2.2 z2) ?_
      refine ea_istore (pc := 46) (lv' := [(0, vR (some (b0 + 0))), (1, vI x1), (3, vI x3), (4, vI x4), (5, vI x5), (6, vI (ea_i h (b0 + 32) (Int32.toNatClampNeg (((1220 : Int32) * x1) + ((2 : Int32) * x5))))), (7, vI (ea_i h (b0 + 32) (Int32.toNatClampNeg ((((1220 : Int32) * x1) + ((2 : Int32) * x5)) + (1 : Int32)))))]) dX12_comesTo_46 (Nat.le_of_ble_eq_true rfl) [1, 2, 3, 4, 5, 6, 0] rfl ?_
      refine ea_iload (pc := 48) dX12_comesTo_48 5 rfl ?_
      refine ea_bipush (pc := 50) dX12_comesTo_50 (v := 8) rfl ?_
      refine ea_icmp_ge (pc := 52) (tgt := 85) dX12_comesTo_52 rfl (fun c23 => ?_) (fun c23 => ?_)
      · have E := (if_pos c23).symm.trans E
        refine ea_iload (pc := 85) dX12_comesTo_85 5 rfl ?_
        refine ea_bipush (pc := 87) dX12_comesTo_87 (v := 11) rfl ?_
        refine ea_icmp_ne (pc := 89) (tgt := 109) dX12_comesTo_89 rfl (fun c16 => ?_) (fun c16 => ?_)
        · have E := (if_neg c16).symm.trans E
          refine ea_iload (pc := 109) dX12_comesTo_109 5 rfl ?_
          refine ea_bipush (pc := 111) dX12_comesTo_111 (v := 15) rfl ?_
          refine ea_icmp_ne (pc := 113) (tgt := 139) dX12_comesTo_113 rfl (fun c11 => ?_) (fun c11 => ?_)
          · have E := (if_neg c11).symm.trans E
            refine ea_iinc (pc := 139) (v := (-1)) (lv' := [(0, vR (some (b0 + 0))), (1, vI x1), (3, vI x3), (4, vI (x4 + ((-1) : Int32))), (5, vI x5), (6, vI (ea_i h (b0 + 32) (Int32.toNatClampNeg (((1220 : Int32) * x1) + ((2 : Int32) * x5)))))]) dX12_comesTo_139 3 rfl rfl (Nat.le_of_ble_eq_true rfl) [1, 2, 3, 0, 4, 5] rfl ?_
            refine ea_aload_n (pc := 142) dX12_comesTo_142 rfl 0 rfl ?_
            refine ea_getR (pc := 143) dX12_comesTo_143 ec_12 (k := 42) (Nat.le_of_ble_eq_true rfl) rfl (Or.inl ew_1387) (hs.1 0 (by decide)).1 (hs.1 0 (by decide)).2.1 (hs.2 0 42 rfl) ?_
            refine ea_iload (pc := 146) dX12_comesTo_146 3 rfl ?_
            refine ea_iconst (pc := 148) dX12_comesTo_148 (v := 1) rfl ?_
            refine ea_isub (pc := 149) dX12_comesTo_149 ?_
            refine ea_iload (pc := 150) dX12_comesTo_150 5 rfl ?_
            refine ea_aload_n (pc := 152) dX12_comesTo_152 rfl 0 rfl ?_
            refine ea_getR (pc := 153) dX12_comesTo_153 ec_12 (k := 42) (Nat.le_of_ble_eq_true rfl) rfl (Or.inl ew_1387) (hs.1 0 (by decide)).1 (hs.1 0 (by decide)).2.1 (hs.2 0 42 rfl) ?_
            refine ea_iload (pc := 156) dX12_comesTo_156 3 rfl ?_
            refine ea_iconst (pc := 158) dX12_comesTo_158 (v := 1) rfl ?_
            refine ea_isub (pc := 159) dX12_comesTo_159 ?_
            obtain ⟨z3, E⟩ := gd_some E
            refine ea_iald (pc := 160) dX12_comesTo_160 (hs.1 37 (by decide)).1 (hs.1 37 (by decide)).2.1 (ea_vpl (hs.1 37 (by decide)).2.2 z3) ?_
            refine ea_aload_n (pc := 161) dX12_comesTo_161 rfl 0 rfl ?_
            refine ea_getR (pc := 162) dX12_comesTo_162 ec_12 (k := 42) (Nat.le_of_ble_eq_true rfl) rfl (Or.inl ew_1387) (hs.1 0 (by decide)).1 (hs.1 0 (by decide)).2.1 (hs.2 0 42 rfl) ?_
            refine ea_iload (pc := 165) dX12_comesTo_165 3 rfl ?_
            obtain ⟨z4, E⟩ := gd_some E
            refine ea_iald (pc := 167) dX12_comesTo_167 (hs.1 37 (by decide)).1 (hs.1 37 (by decide)).2.1 (ea_vpl (hs.1 37 (by decide)).2.2 z4) ?_
            refine ea_callS (pc := 168) (d' := d - 1) (As := [vI (ea_i h (b0 + 32) (Int32.toNatClampNeg (((1220 : Int32) * x1) + ((2 : Int32) * x5)))), vI (ea_i h (b0 + 37) (Int32.toNatClampNeg ((x4 + ((-1) : Int32)) - (1 : Int32)))), vI (ea_i h (b0 + 37) (Int32.toNatClampNeg (x4 + ((-1) : Int32))))]) (st := [vI ((x4 + ((-1) : Int32)) - (1 : Int32)), vR (some (b0 + 37))]) dX12_comesTo_168 kX12_both (sX12_both (d := d - 1) (by omega)) (by omega) rfl (Nat.le_of_ble_eq_true rfl) ew_2007 ew_2008 ?_
            obtain ⟨z6, E⟩ := gd_some E
            refine ea_iast (pc := 171) dX12_comesTo_171 (hs.1 37 (by decide)).1 (hs.1 37 (by decide)).2.1 (ea_vpl (hs.1 37 (by decide)).2.2 z6) ?_
            have hs7 : ShM b0 (ea_wi h (b0 + 37) (Int32.toNatClampNeg ((x4 + ((-1) : Int32)) - (1 : Int32))) (vX12_both ((ea_i h (b0 + 32) (Int32.toNatClampNeg (((1220 : Int32) * x1) + ((2 : Int32) * x5)))) : Int32) ((ea_i h (b0 + 37) (Int32.toNatClampNeg ((x4 + ((-1) : Int32)) - (1 : Int32)))) : Int32) ((ea_i h (b0 + 37) (Int32.toNatClampNeg (x4 + ((-1) : Int32)))) : Int32) h)) := ShM_wi hs
            refine ea_iinc (pc := 172) (v := 1) (lv' := [(0, vR (some (b0 + 0))), (1, vI x1), (3, vI x3), (4, vI (x4 + ((-1) : Int32))), (5, vI (x5 + (1 : Int32)))]) dX12_comesTo_172 4 rfl rfl (Nat.le_of_ble_eq_true rfl) [1, 2, 3, 4, 0] rfl ?_
            refine ea_goto (pc := 175) (tgt := 6) dX12_comesTo_175 rfl ?_
            exact ((ih 6 (x1 : Int32) 0 (x3 : Int32) ((x4 + ((-1) : Int32)) : Int32) ((x5 + (1 : Int32)) : Int32) (ea_wi h (b0 + 37) (Int32.toNatClampNeg ((x4 + ((-1) : Int32)) - (1 : Int32))) (vX12_both ((ea_i h (b0 + 32) (Int32.toNatClampNeg (((1220 : Int32) * x1) + ((2 : Int32) * x5)))) : Int32) ((ea_i h (b0 + 37) (Int32.toNatClampNeg ((x4 + ((-1) : Int32)) - (1 : Int32)))) : Int32) ((ea_i h (b0 + 37) (Int32.toNatClampNeg (x4 + ((-1) : Int32)))) : Int32) h)) _ _ E hs7).2 rfl)
          · have E := (if_pos c11).symm.trans E
            refine ea_aload_n (pc := 116) dX12_comesTo_116 rfl 0 rfl ?_
            refine ea_getR (pc := 117) dX12_comesTo_117 ec_12 (k := 42) (Nat.le_of_ble_eq_true rfl) rfl (Or.inl ew_1387) (hs.1 0 (by decide)).1 (hs.1 0 (by decide)).2.1 (hs.2 0 42 rfl) ?_
            refine ea_iload (pc := 120) dX12_comesTo_120 3 rfl ?_
            refine ea_iconst (pc := 122) dX12_comesTo_122 (v := 1) rfl ?_
            refine ea_isub (pc := 123) dX12_comesTo_123 ?_
            refine ea_iconst (pc := 124) dX12_comesTo_124 (v := 1) rfl ?_
            refine ea_aload_n (pc := 125) dX12_comesTo_125 rfl 0 rfl ?_
            refine ea_getR (pc := 126) dX12_comesTo_126 ec_12 (k := 42) (Nat.le_of_ble_eq_true rfl) rfl (Or.inl ew_1387) (hs.1 0 (by decide)).1 (hs.1 0 (by decide)).2.1 (hs.2 0 42 rfl) ?_
            refine ea_iload (pc := 129) dX12_comesTo_129 3 rfl ?_
            refine ea_iconst (pc := 131) dX12_comesTo_131 (v := 1) rfl ?_
            refine ea_isub (pc := 132) dX12_comesTo_132 ?_
            obtain ⟨z8, E⟩ := gd_some E
            refine ea_iald (pc := 133) dX12_comesTo_133 (hs.1 37 (by decide)).1 (hs.1 37 (by decide)).2.1 (ea_vpl (hs.1 37 (by decide)).2.2 z8) ?_
            refine ea_isub (pc := 134) dX12_comesTo_134 ?_
            obtain ⟨z9, E⟩ := gd_some E
            refine ea_iast (pc := 135) dX12_comesTo_135 (hs.1 37 (by decide)).1 (hs.1 37 (by decide)).2.1 (ea_vpl (hs.1 37 (by decide)).2.2 z9) ?_
            have hs10 : ShM b0 (ea_wi h (b0 + 37) (Int32.toNatClampNeg (x4 - (1 : Int32))) ((1 : Int32) - (ea_i h (b0 + 37) (Int32.toNatClampNeg (x4 - (1 : Int32)))))) := ShM_wi hs
            refine ea_goto (pc := 136) (tgt := 172) dX12_comesTo_136 rfl ?_
            refine ea_iinc (pc := 172) (v := 1) (lv' := [(0, vR (some (b0 + 0))), (1, vI x1), (3, vI x3), (4, vI x4), (5, vI (x5 + (1 : Int32)))]) dX12_comesTo_172 4 rfl rfl (Nat.le_of_ble_eq_true rfl) [1, 2, 3, 4, 0] rfl ?_
            refine ea_goto (pc := 175) (tgt := 6) dX12_comesTo_175 rfl ?_
            exact ((ih 6 (x1 : Int32) 0 (x3 : Int32) (x4 : Int32) ((x5 + (1 : Int32)) : Int32) (ea_wi h (b0 + 37) (Int32.toNatClampNeg (x4 - (1 : Int32))) ((1 : Int32) - (ea_i h (b0 + 37) (Int32.toNatClampNeg (x4 - (1 : Int32)))))) _ _ E hs10).2 rfl)
        · have E := (if_pos c16).symm.trans E
          refine ea_aload_n (pc := 92) dX12_comesTo_92 rfl 0 rfl ?_
          refine ea_getR (pc := 93) dX12_comesTo_93 ec_12 (k := 42) (Nat.le_of_ble_eq_true rfl) rfl (Or.inl ew_1387) (hs.1 0 (by decide)).1 (hs.1 0 (by decide)).2.1 (hs.2 0 42 rfl) ?_
          refine ea_iload (pc := 96) dX12_comesTo_96 3 rfl ?_
          refine ea_iconst (pc := 98) dX12_comesTo_98 (v := 1) rfl ?_
          refine ea_isub (pc := 99) dX12_comesTo_99 ?_
          refine ea_dup2 (pc := 100) dX12_comesTo_100 rfl rfl ?_
          obtain ⟨z12, E⟩ := gd_some E
          refine ea_iald (pc := 101) dX12_comesTo_101 (hs.1 37 (by decide)).1 (hs.1 37 (by decide)).2.1 (ea_vpl (hs.1 37 (by decide)).2.2 z12) ?_
          refine ea_iload (pc := 102) dX12_comesTo_102 6 rfl ?_
          obtain ⟨z13, E⟩ := gd_some E
          refine ea_idiv (pc := 104) dX12_comesTo_104 z13 ?_
          obtain ⟨z14, E⟩ := gd_some E
          refine ea_iast (pc := 105) dX12_comesTo_105 (hs.1 37 (by decide)).1 (hs.1 37 (by decide)).2.1 (ea_vpl (hs.1 37 (by decide)).2.2 z14) ?_
          have hs15 : ShM b0 (ea_wi h (b0 + 37) (Int32.toNatClampNeg (x4 - (1 : Int32))) ((ea_i h (b0 + 37) (Int32.toNatClampNeg (x4 - (1 : Int32)))) / (ea_i h (b0 + 32) (Int32.toNatClampNeg ((((1220 : Int32) * x1) + ((2 : Int32) * x5)) + (1 : Int32)))))) := ShM_wi hs
          refine ea_goto (pc := 106) (tgt := 172) dX12_comesTo_106 rfl ?_
          refine ea_iinc (pc := 172) (v := 1) (lv' := [(0, vR (some (b0 + 0))), (1, vI x1), (3, vI x3), (4, vI x4), (5, vI (x5 + (1 : Int32)))]) dX12_comesTo_172 4 rfl rfl (Nat.le_of_ble_eq_true rfl) [1, 2, 3, 4, 0] rfl ?_
          refine ea_goto (pc := 175) (tgt := 6) dX12_comesTo_175 rfl ?_
          exact ((ih 6 (x1 : Int32) 0 (x3 : Int32) (x4 : Int32) ((x5 + (1 : Int32)) : Int32) (ea_wi h (b0 + 37) (Int32.toNatClampNeg (x4 - (1 : Int32))) ((ea_i h (b0 + 37) (Int32.toNatClampNeg (x4 - (1 : Int32)))) / (ea_i h (b0 + 32) (Int32.toNatClampNeg ((((1220 : Int32) * x1) + ((2 : Int32) * x5)) + (1 : Int32)))))) _ _ E hs15).2 rfl)
      · have E := (if_neg c23).symm.trans E
        refine ea_aload_n (pc := 55) dX12_comesTo_55 rfl 0 rfl ?_
        refine ea_getR (pc := 56) dX12_comesTo_56 ec_12 (k := 42) (Nat.le_of_ble_eq_true rfl) rfl (Or.inl ew_1387) (hs.1 0 (by decide)).1 (hs.1 0 (by decide)).2.1 (hs.2 0 42 rfl) ?_
        refine ea_iload (pc := 59) dX12_comesTo_59 3 rfl ?_
        refine ea_iload (pc := 61) dX12_comesTo_61 5 rfl ?_
        refine ea_if_ne (pc := 63) (tgt := 71) dX12_comesTo_63 rfl (fun c22 => ?_) (fun c22 => ?_)
        · have E := (if_neg c22).symm.trans E
          refine ea_aload_n (pc := 71) dX12_comesTo_71 rfl 0 rfl ?_
          refine ea_getR (pc := 72) dX12_comesTo_72 ec_12 (k := 91) (Nat.le_of_ble_eq_true rfl) rfl (Or.inl ew_1436) (hs.1 0 (by decide)).1 (hs.1 0 (by decide)).2.1 (hs.2 0 91 rfl) ?_
          refine ea_iload (pc := 75) dX12_comesTo_75 5 rfl ?_
          obtain ⟨z17, E⟩ := gd_some E
          refine ea_iald (pc := 77) dX12_comesTo_77 (hs.1 65 (by decide)).1 (hs.1 65 (by decide)).2.1 (ea_vpl (hs.1 65 (by decide)).2.2 z17) ?_
          obtain ⟨z18, E⟩ := gd_some E
          refine ea_iast (pc := 78) dX12_comesTo_78 (hs.1 37 (by decide)).1 (hs.1 37 (by decide)).2.1 (ea_vpl (hs.1 37 (by decide)).2.2 z18) ?_
          have hs19 : ShM b0 (ea_wi h (b0 + 37) (Int32.toNatClampNeg x4) (ea_i h (b0 + 65) (Int32.toNatClampNeg (ea_i h (b0 + 32) (Int32.toNatClampNeg (((1220 : Int32) * x1) + ((2 : Int32) * x5))))))) := ShM_wi hs
          refine ea_iinc (pc := 79) (v := 1) (lv' := [(0, vR (some (b0 + 0))), (1, vI x1), (3, vI x3), (4, vI (x4 + (1 : Int32))), (5, vI x5)]) dX12_comesTo_79 3 rfl rfl (Nat.le_of_ble_eq_true rfl) [1, 2, 3, 0, 4] rfl ?_
          refine ea_goto (pc := 82) (tgt := 172) dX12_comesTo_82 rfl ?_
          refine ea_iinc (pc := 172) (v := 1) (lv' := [(0, vR (some (b0 + 0))), (1, vI x1), (3, vI x3), (4, vI (x4 + (1 : Int32))), (5, vI (x5 + (1 : Int32)))]) dX12_comesTo_172 4 rfl rfl (Nat.le_of_ble_eq_true rfl) [1, 2, 3, 4, 0] rfl ?_
          refine ea_goto (pc := 175) (tgt := 6) dX12_comesTo_175 rfl ?_
          exact ((ih 6 (x1 : Int32) 0 (x3 : Int32) ((x4 + (1 : Int32)) : Int32) ((x5 + (1 : Int32)) : Int32) (ea_wi h (b0 + 37) (Int32.toNatClampNeg x4) (ea_i h (b0 + 65) (Int32.toNatClampNeg (ea_i h (b0 + 32) (Int32.toNatClampNeg (((1220 : Int32) * x1) + ((2 : Int32) * x5))))))) _ _ E hs19).2 rfl)
        · have E := (if_pos c22).symm.trans E
          refine ea_iload (pc := 66) dX12_comesTo_66 6 rfl ?_
          refine ea_goto (pc := 68) (tgt := 78) dX12_comesTo_68 rfl ?_
          obtain ⟨z20, E⟩ := gd_some E
          refine ea_iast (pc := 78) dX12_comesTo_78 (hs.1 37 (by decide)).1 (hs.1 37 (by decide)).2.1 (ea_vpl (hs.1 37 (by decide)).2.2 z20) ?_
          have hs21 : ShM b0 (ea_wi h (b0 + 37) (Int32.toNatClampNeg x4) (ea_i h (b0 + 32) (Int32.toNatClampNeg ((((1220 : Int32) * x1) + ((2 : Int32) * x5)) + (1 : Int32))))) := ShM_wi hs
          refine ea_iinc (pc := 79) (v := 1) (lv' := [(0, vR (some (b0 + 0))), (1, vI x1), (3, vI x3), (4, vI (x4 + (1 : Int32))), (5, vI x5)]) dX12_comesTo_79 3 rfl rfl (Nat.le_of_ble_eq_true rfl) [1, 2, 3, 0, 4] rfl ?_
          refine ea_goto (pc := 82) (tgt := 172) dX12_comesTo_82 rfl ?_
          refine ea_iinc (pc := 172) (v := 1) (lv' := [(0, vR (some (b0 + 0))), (1, vI x1), (3, vI x3), (4, vI (x4 + (1 : Int32))), (5, vI (x5 + (1 : Int32)))]) dX12_comesTo_172 4 rfl rfl (Nat.le_of_ble_eq_true rfl) [1, 2, 3, 4, 0] rfl ?_
          refine ea_goto (pc := 175) (tgt := 6) dX12_comesTo_175 rfl ?_
          exact ((ih 6 (x1 : Int32) 0 (x3 : Int32) ((x4 + (1 : Int32)) : Int32) ((x5 + (1 : Int32)) : Int32) (ea_wi h (b0 + 37) (Int32.toNatClampNeg x4) (ea_i h (b0 + 32) (Int32.toNatClampNeg ((((1220 : Int32) * x1) + ((2 : Int32) * x5)) + (1 : Int32))))) _ _ E hs21).2 rfl)
noncomputable def qX12_comesTo (b0 : Nat) (x1 : Int32) (x2 : Int32) (x3 : Int32) (h : ea_H) : Option (Int32 × ea_H) := gX12_comesTo b0 1000000000 0 x1 x2 x3 0 0 h
def okX12_comesTo (b0 : Nat) (x1 : Int32) (x2 : Int32) (x3 : Int32) (h : ea_H) : Prop := ∃ x, qX12_comesTo b0 x1 x2 x3 h = some x
noncomputable def vX12_comesTo (b0 : Nat) (x1 : Int32) (x2 : Int32) (x3 : Int32) (h : ea_H) : Int32 := ((qX12_comesTo b0 x1 x2 x3 h).getD (0, h)).1
noncomputable def wX12_comesTo (b0 : Nat) (x1 : Int32) (x2 : Int32) (x3 : Int32) (h : ea_H) : ea_H := ((qX12_comesTo b0 x1 x2 x3 h).getD (0, h)).2
theorem sX12_comesTo {d : Nat} {b0 : Nat} {x1 : Int32} {x2 : Int32} {x3 : Int32} {h : ea_H} (hd : 2 ≤ d) (hs : ShM b0 h) (K : okX12_comesTo b0 x1 x2 x3 h) : ea_Met mX12_comesTo d [vR (some (b0 + 0)), vI x1, vI x2, vI x3] h (some (vI (vX12_comesTo b0 x1 x2 x3 h))) (wX12_comesTo b0 x1 x2 x3 h) := by
  obtain ⟨⟨x, y⟩, K⟩ := K
  unfold wX12_comesTo vX12_comesTo
  rw [K]
  unfold qX12_comesTo at K
  exact ea_enter rfl (Nat.le_of_ble_eq_true rfl) ((tX12_comesTo hd 1000000000 0 x1 x2 x3 0 0 h x y K hs).1 rfl)
theorem zX12_comesTo {b0 : Nat} : ∀ (f lbl : Nat) (x1 : Int32) (x2 : Int32) (x3 : Int32) (x4 : Int32) (x5 : Int32) (h : ea_H) (r : Int32) (h' : ea_H), gX12_comesTo b0 f lbl x1 x2 x3 x4 x5 h = some (r, h') → ShM b0 h → ShM b0 h' := by
  intro f
  induction f with
  | zero => intro lbl x1 x2 x3 x4 x5 h r h' E; cases E
  | succ f ih =>
    intro lbl x1 x2 x3 x4 x5 h r h' E hs
    unfold gX12_comesTo at E
    by_cases el0 : lbl = 0
    · have E := (if_pos el0).symm.trans E
      exact ih 6 (x1 : Int32) 0 (x3 : Int32) (0 : Int32) (x2 : Int32) h _ _ E hs
    have E := (if_neg el0).symm.trans E
    by_cases el1 : lbl = 6
    · have E := (if_pos el1).symm.trans E
      by_cases c24 : x3 ≤ x5
      · have E := (if_pos c24).symm.trans E
        exact ea_shO E hs
      have E := (if_neg c24).symm.trans E
      obtain ⟨z1, E⟩ := gd_some E
      obtain ⟨z2, E⟩ := gd_some E
      by_cases c23 : (8 : Int32) ≤ (ea_i h (b0 + 32) (Int32.toNatClampNeg (((1220 : Int32) * x1) + ((2 : Int32) * x5))))
      · have E := (if_pos c23).symm.trans E
        by_cases c16 : (ea_i h (b0 + 32) (Int32.toNatClampNeg (((1220 : Int32) * x1) + ((2 : Int32) * x5)))) = (11 : Int32)
        · have E := (if_pos c16).symm.trans E
          obtain ⟨z12, E⟩ := gd_some E
          obtain ⟨z13, E⟩ := gd_some E
          obtain ⟨z14, E⟩ := gd_some E
          exact ih 6 (x1 : Int32) 0 (x3 : Int32) (x4 : Int32) ((x5 + (1 : Int32)) : Int32) (ea_wi h (b0 + 37) (Int32.toNatClampNeg (x4 - (1 : Int32))) ((ea_i h (b0 + 37) (Int32.toNatClampNeg (x4 - (1 : Int32)))) / (ea_i h (b0 + 32) (Int32.toNatClampNeg ((((1220 : Int32) * x1) + ((2 : Int32) * x5)) + (1 : Int32)))))) _ _ E (ShM_wi hs)
        have E := (if_neg c16).symm.trans E
        by_cases c11 : (ea_i h (b0 + 32) (Int32.toNatClampNeg (((1220 : Int32) * x1) + ((2 : Int32) * x5)))) = (15 : Int32)
        · have E := (if_pos c11).symm.trans E
          obtain ⟨z8, E⟩ := gd_some E
          obtain ⟨z9, E⟩ := gd_some E
          exact ih 6 (x1 : Int32) 0 (x3 : Int32) (x4 : Int32) ((x5 + (1 : Int32)) : Int32) (ea_wi h (b0 + 37) (Int32.toNatClampNeg (x4 - (1 : Int32))) ((1 : Int32) - (ea_i h (b0 + 37) (Int32.toNatClampNeg (x4 - (1 : Int32)))))) _ _ E (ShM_wi hs)
        have E := (if_neg c11).symm.trans E
        obtain ⟨z3, E⟩ := gd_some E
        obtain ⟨z4, E⟩ := gd_some E
        obtain ⟨z6, E⟩ := gd_some E
        exact ih 6 (x1 : Int32) 0 (x3 : Int32) ((x4 + ((-1) : Int32)) : Int32) ((x5 + (1 : Int32)) : Int32) (ea_wi h (b0 + 37) (Int32.toNatClampNeg ((x4 + ((-1) : Int32)) - (1 : Int32))) (vX12_both ((ea_i h (b0 + 32) (Int32.toNatClampNeg (((1220 : Int32) * x1) + ((2 : Int32) * x5)))) : Int32) ((ea_i h (b0 + 37) (Int32.toNatClampNeg ((x4 + ((-1) : Int32)) - (1 : Int32)))) : Int32) ((ea_i h (b0 + 37) (Int32.toNatClampNeg (x4 + ((-1) : Int32)))) : Int32) h)) _ _ E (ShM_wi hs)
      have E := (if_neg c23).symm.trans E
      by_cases c22 : (ea_i h (b0 + 32) (Int32.toNatClampNeg (((1220 : Int32) * x1) + ((2 : Int32) * x5)))) = (0 : Int32)
      · have E := (if_pos c22).symm.trans E
        obtain ⟨z20, E⟩ := gd_some E
        exact ih 6 (x1 : Int32) 0 (x3 : Int32) ((x4 + (1 : Int32)) : Int32) ((x5 + (1 : Int32)) : Int32) (ea_wi h (b0 + 37) (Int32.toNatClampNeg x4) (ea_i h (b0 + 32) (Int32.toNatClampNeg ((((1220 : Int32) * x1) + ((2 : Int32) * x5)) + (1 : Int32))))) _ _ E (ShM_wi hs)
      have E := (if_neg c22).symm.trans E
      obtain ⟨z17, E⟩ := gd_some E
      obtain ⟨z18, E⟩ := gd_some E
      exact ih 6 (x1 : Int32) 0 (x3 : Int32) ((x4 + (1 : Int32)) : Int32) ((x5 + (1 : Int32)) : Int32) (ea_wi h (b0 + 37) (Int32.toNatClampNeg x4) (ea_i h (b0 + 65) (Int32.toNatClampNeg (ea_i h (b0 + 32) (Int32.toNatClampNeg (((1220 : Int32) * x1) + ((2 : Int32) * x5))))))) _ _ E (ShM_wi hs)
    have E := (if_neg el1).symm.trans E
    cases E
theorem shX12_comesTo {b0 : Nat} {x1 : Int32} {x2 : Int32} {x3 : Int32} {h : ea_H} (hs : ShM b0 h) : ShM b0 (wX12_comesTo b0 x1 x2 x3 h) := by
  unfold wX12_comesTo
  cases K : qX12_comesTo b0 x1 x2 x3 h with
  | none => exact hs
  | some x => obtain ⟨x, y⟩ := x; unfold qX12_comesTo at K; exact zX12_comesTo _ _ _ _ _ _ _ _ _ _ K hs
noncomputable def gX12_lineOf (b0 : Nat) : Nat → Nat → Int32 → Int32 → Int32 → ea_H → Option (Int32 × ea_H)
  | 0, _, _, _, _, _ => none
  | f + 1, lbl, x1, x2, x3, h =>
    if lbl = 0 then (gd ((okX12_gathers b0 (x1 : Int32) h)) (gX12_lineOf b0 f 7 0 (x2 : Int32) (0 : Int32) (wX12_gathers b0 (x1 : Int32) h))) else
    if lbl = 7 then (gd (vp_in x2 6) (if (ea_i h (b0 + 29) (Int32.toNatClampNeg x2)) ≤ x3 then (some (((-1) : Int32), h)) else (gd (vp_in (((24 : Int32) * x2) + x3) 144) (gd (vp_in ((((25 : Int32) * x2) + x3) + (1 : Int32)) 150) (if (ea_i h (b0 + 31) (Int32.toNatClampNeg (((24 : Int32) * x2) + x3))) = (ea_i h (b0 + 30) (Int32.toNatClampNeg ((((25 : Int32) * x2) + x3) + (1 : Int32)))) then (some (x3, h)) else (gd ((okX12_comesTo b0 (x2 : Int32) ((ea_i h (b0 + 31) (Int32.toNatClampNeg (((24 : Int32) * x2) + x3))) : Int32) ((ea_i h (b0 + 30) (Int32.toNatClampNeg ((((25 : Int32) * x2) + x3) + (1 : Int32)))) : Int32) h)) (if (vX12_comesTo b0 (x2 : Int32) ((ea_i h (b0 + 31) (Int32.toNatClampNeg (((24 : Int32) * x2) + x3))) : Int32) ((ea_i h (b0 + 30) (Int32.toNatClampNeg ((((25 : Int32) * x2) + x3) + (1 : Int32)))) : Int32) h) = (1 : Int32) then (some (x3, (wX12_comesTo b0 (x2 : Int32) ((ea_i h (b0 + 31) (Int32.toNatClampNeg (((24 : Int32) * x2) + x3))) : Int32) ((ea_i h (b0 + 30) (Int32.toNatClampNeg ((((25 : Int32) * x2) + x3) + (1 : Int32)))) : Int32) h))) else (gX12_lineOf b0 f 7 0 (x2 : Int32) ((x3 + (1 : Int32)) : Int32) (wX12_comesTo b0 (x2 : Int32) ((ea_i h (b0 + 31) (Int32.toNatClampNeg (((24 : Int32) * x2) + x3))) : Int32) ((ea_i h (b0 + 30) (Int32.toNatClampNeg ((((25 : Int32) * x2) + x3) + (1 : Int32)))) : Int32) h))))))))) else none
theorem tX12_lineOf {d : Nat} {b0 : Nat} {h0 : ea_H} (hd : 3 ≤ d) : ∀ (f lbl : Nat) (x1 : Int32) (x2 : Int32) (x3 : Int32) (h : ea_H) (r : Int32) (h' : ea_H), gX12_lineOf b0 f lbl x1 x2 x3 h = some (r, h') → ShM b0 h → (lbl = 0 → ea_W mX12_lineOf d h0 (some (vI r)) h' 0 [(0, vR (some (b0 + 0))), (1, vI x1), (2, vI x2)] [] h) ∧ (lbl = 7 → ea_W mX12_lineOf d h0 (some (vI r)) h' 7 [(0, vR (some (b0 + 0))), (2, vI x2), (3, vI x3)] [] h) := by
  intro f
  induction f with
  | zero => intro lbl x1 x2 x3 h r h' E; cases E
  | succ f ih =>
    intro lbl x1 x2 x3 h r h' E hs
    unfold gX12_lineOf at E
    refine ⟨?_, ?_⟩
    · intro el
      subst el
      have E := (if_pos rfl).symm.trans E
      refine ea_aload_n (pc := 0) dX12_lineOf_0 rfl 0 rfl ?_
      refine ea_iload_n (pc := 1) dX12_lineOf_1 rfl 1 rfl ?_
      obtain ⟨z1, E⟩ := gd_some E
      refine ea_callV (pc := 2) (d' := d - 1) (As := [vI x1]) (st := []) dX12_lineOf_2 kX12_gathers (sX12_gathers (d := d - 1) (by omega) hs z1) (by omega) rfl (Nat.le_of_ble_eq_true rfl) ew_1999 ew_2001 ew_86 (ci := 12) rfl (by decide) (hs.1 0 (by decide)).1 (hs.1 0 (by decide)).2.1 ?_
      have hs2 : ShM b0 (wX12_gathers b0 (x1 : Int32) h) := shX12_gathers hs
      refine ea_iconst (pc := 5) dX12_lineOf_5 (v := 0) rfl ?_
      refine ea_istore_n (pc := 6) (lv' := [(0, vR (some (b0 + 0))), (2, vI x2), (3, vI 0)]) dX12_lineOf_6 rfl (Nat.le_of_ble_eq_true rfl) [1, 3, 0] rfl ?_
      exact ((ih 7 0 (x2 : Int32) (0 : Int32) (wX12_gathers b0 (x1 : Int32) h) _ _ E hs2).2 rfl)
    intro el
    subst el
    have E := (if_neg (by decide)).symm.trans E
    have E := (if_pos rfl).symm.trans E
    refine ea_iload_n (pc := 7) dX12_lineOf_7 rfl 2 rfl ?_
    refine ea_aload_n (pc := 8) dX12_lineOf_8 rfl 0 rfl ?_
    refine ea_getR (pc := 9) dX12_lineOf_9 ec_12 (k := 34) (Nat.le_of_ble_eq_true rfl) rfl (Or.inl ew_1379) (hs.1 0 (by decide)).1 (hs.1 0 (by decide)).2.1 (hs.2 0 34 rfl) ?_
    refine ea_iload_n (pc := 12) dX12_lineOf_12 rfl 1 rfl ?_
    obtain ⟨z3, E⟩ := gd_some E
    refine ea_iald (pc := 13) dX12_lineOf_13 (hs.1 29 (by decide)).1 (hs.1 29 (by decide)).2.1 (ea_vpl (hs.1 29 (by decide)).2.2 z3) ?_
    refine ea_icmp_ge (pc := 14) (tgt := 73) dX12_lineOf_14 rfl (fun c10 => ?_) (fun c10 => ?_)
    · have E := (if_pos c10).symm.trans E
      refine ea_iconst (pc := 73) dX12_lineOf_73 (v := (-1)) rfl ?_
      exact ea_iretO (pc := 74) dX12_lineOf_74 rfl rfl E
    · have E := (if_neg c10).symm.trans E
      refine ea_aload_n (pc := 17) dX12_lineOf_17 rfl 0 rfl ?_
      refine ea_getR (pc := 18) dX12_lineOf_18 ec_12 (k := 36) (Nat.le_of_ble_eq_true rfl) rfl (Or.inl ew_1381) (hs.1 0 (by decide)).1 (hs.1 0 (by decide)).2.1 (hs.2 0 36 rfl) ?_
      refine ea_bipush (pc := 21) dX12_lineOf_21 (v := 24) rfl ?_
      refine ea_iload_n (pc := 23) dX12_lineOf_23 rfl 1 rfl ?_
      refine ea_imul (pc := 24) dX12_lineOf_24 ?_
      refine ea_iload_n (pc := 25) dX12_lineOf_25 rfl 2 rfl ?_
      refine ea_iadd (pc := 26) dX12_lineOf_26 ?_
      obtain ⟨z4, E⟩ := gd_some E
      refine ea_iald (pc := 27) dX12_lineOf_27 (hs.1 31 (by decide)).1 (hs.1 31 (by decide)).2.1 (ea_vpl (hs.1 31 (by decide)).2.2 z4) ?_
      refine ea_istore (pc := 28) (lv' := [(0, vR (some (b0 + 0))), (2, vI x2), (3, vI x3), (4, vI (ea_i h (b0 + 31) (Int32.toNatClampNeg (((24 : Int32) * x2) + x3))))]) dX12_lineOf_28 (Nat.le_of_ble_eq_true rfl) [1, 2, 3, 0] rfl ?_
      refine ea_aload_n (pc := 30) dX12_lineOf_30 rfl 0 rfl ?_
      refine ea_getR (pc := 31) dX12_lineOf_31 ec_12 (k := 35) (Nat.le_of_ble_eq_true rfl) rfl (Or.inl ew_1380) (hs.1 0 (by decide)).1 (hs.1 0 (by decide)).2.1 (hs.2 0 35 rfl) ?_
      refine ea_bipush (pc := 34) dX12_lineOf_34 (v := 25) rfl ?_
      refine ea_iload_n (pc := 36) dX12_lineOf_36 rfl 1 rfl ?_
      refine ea_imul (pc := 37) dX12_lineOf_37 ?_
      refine ea_iload_n (pc := 38) dX12_lineOf_38 rfl 2 rfl ?_
      refine ea_iadd (pc := 39) dX12_lineOf_39 ?_
      refine ea_iconst (pc := 40) dX12_lineOf_40 (v := 1) rfl ?_
      refine ea_iadd (pc := 41) dX12_lineOf_41 ?_
      obtain ⟨z5, E⟩ := gd_some E
      refine ea_iald (pc := 42) dX12_lineOf_42 (hs.1 30 (by decide)).1 (hs.1 30 (by decide)).2.1 (ea_vpl (hs.1 30 (by decide)).2.2 z5) ?_
      refine ea_istore (pc := 43) (lv' := [(0, vR (some (b0 + 0))), (2, vI x2), (3, vI x3), (4, vI (ea_i h (b0 + 31) (Int32.toNatClampNeg (((24 : Int32) * x2) + x3)))), (5, vI (ea_i h (b0 + 30) (Int32.toNatClampNeg ((((25 : Int32) * x2) + x3) + (1 : Int32)))))]) dX12_lineOf_43 (Nat.le_of_ble_eq_true rfl) [1, 2, 3, 4, 0] rfl ?_
      refine ea_iload (pc := 45) dX12_lineOf_45 3 rfl ?_
      refine ea_iload (pc := 47) dX12_lineOf_47 4 rfl ?_
      refine ea_icmp_eq (pc := 49) (tgt := 65) dX12_lineOf_49 rfl (fun c9 => ?_) (fun c9 => ?_)
      · have E := (if_pos c9).symm.trans E
        refine ea_iload_n (pc := 65) dX12_lineOf_65 rfl 2 rfl ?_
        exact ea_iretO (pc := 66) dX12_lineOf_66 rfl rfl E
      · have E := (if_neg c9).symm.trans E
        refine ea_aload_n (pc := 52) dX12_lineOf_52 rfl 0 rfl ?_
        refine ea_iload_n (pc := 53) dX12_lineOf_53 rfl 1 rfl ?_
        refine ea_iload (pc := 54) dX12_lineOf_54 3 rfl ?_
        refine ea_iload (pc := 56) dX12_lineOf_56 4 rfl ?_
        obtain ⟨z6, E⟩ := gd_some E
        refine ea_callV (pc := 58) (d' := d - 1) (As := [vI x2, vI (ea_i h (b0 + 31) (Int32.toNatClampNeg (((24 : Int32) * x2) + x3))), vI (ea_i h (b0 + 30) (Int32.toNatClampNeg ((((25 : Int32) * x2) + x3) + (1 : Int32))))]) (st := []) dX12_lineOf_58 kX12_comesTo (sX12_comesTo (d := d - 1) (by omega) hs z6) (by omega) rfl (Nat.le_of_ble_eq_true rfl) ew_2003 ew_2005 ew_87 (ci := 12) rfl (by decide) (hs.1 0 (by decide)).1 (hs.1 0 (by decide)).2.1 ?_
        have hs7 : ShM b0 (wX12_comesTo b0 (x2 : Int32) ((ea_i h (b0 + 31) (Int32.toNatClampNeg (((24 : Int32) * x2) + x3))) : Int32) ((ea_i h (b0 + 30) (Int32.toNatClampNeg ((((25 : Int32) * x2) + x3) + (1 : Int32)))) : Int32) h) := shX12_comesTo hs
        refine ea_iconst (pc := 61) dX12_lineOf_61 (v := 1) rfl ?_
        refine ea_icmp_ne (pc := 62) (tgt := 67) dX12_lineOf_62 rfl (fun c8 => ?_) (fun c8 => ?_)
        · have E := (if_neg c8).symm.trans E
          refine ea_iinc (pc := 67) (v := 1) (lv' := [(0, vR (some (b0 + 0))), (2, vI x2), (3, vI (x3 + (1 : Int32)))]) dX12_lineOf_67 2 rfl rfl (Nat.le_of_ble_eq_true rfl) [1, 2, 0] rfl ?_
          refine ea_goto (pc := 70) (tgt := 7) dX12_lineOf_70 rfl ?_
          exact ((ih 7 0 (x2 : Int32) ((x3 + (1 : Int32)) : Int32) (wX12_comesTo b0 (x2 : Int32) ((ea_i h (b0 + 31) (Int32.toNatClampNeg (((24 : Int32) * x2) + x3))) : Int32) ((ea_i h (b0 + 30) (Int32.toNatClampNeg ((((25 : Int32) * x2) + x3) + (1 : Int32)))) : Int32) h) _ _ E hs7).2 rfl)
        · have E := (if_pos c8).symm.trans E
          refine ea_iload_n (pc := 65) dX12_lineOf_65 rfl 2 rfl ?_
          exact ea_iretO (pc := 66) dX12_lineOf_66 rfl rfl E
noncomputable def qX12_lineOf (b0 : Nat) (x1 : Int32) (x2 : Int32) (h : ea_H) : Option (Int32 × ea_H) := gX12_lineOf b0 1000000000 0 x1 x2 0 h
def okX12_lineOf (b0 : Nat) (x1 : Int32) (x2 : Int32) (h : ea_H) : Prop := ∃ x, qX12_lineOf b0 x1 x2 h = some x
noncomputable def vX12_lineOf (b0 : Nat) (x1 : Int32) (x2 : Int32) (h : ea_H) : Int32 := ((qX12_lineOf b0 x1 x2 h).getD (0, h)).1
noncomputable def wX12_lineOf (b0 : Nat) (x1 : Int32) (x2 : Int32) (h : ea_H) : ea_H := ((qX12_lineOf b0 x1 x2 h).getD (0, h)).2
theorem sX12_lineOf {d : Nat} {b0 : Nat} {x1 : Int32} {x2 : Int32} {h : ea_H} (hd : 3 ≤ d) (hs : ShM b0 h) (K : okX12_lineOf b0 x1 x2 h) : ea_Met mX12_lineOf d [vR (some (b0 + 0)), vI x1, vI x2] h (some (vI (vX12_lineOf b0 x1 x2 h))) (wX12_lineOf b0 x1 x2 h) := by
  obtain ⟨⟨x, y⟩, K⟩ := K
  unfold wX12_lineOf vX12_lineOf
  rw [K]
  unfold qX12_lineOf at K
  exact ea_enter rfl (Nat.le_of_ble_eq_true rfl) ((tX12_lineOf hd 1000000000 0 x1 x2 0 h x y K hs).1 rfl)
theorem zX12_lineOf {b0 : Nat} : ∀ (f lbl : Nat) (x1 : Int32) (x2 : Int32) (x3 : Int32) (h : ea_H) (r : Int32) (h' : ea_H), gX12_lineOf b0 f lbl x1 x2 x3 h = some (r, h') → ShM b0 h → ShM b0 h' := by
  intro f
  induction f with
  | zero => intro lbl x1 x2 x3 h r h' E; cases E
  | succ f ih =>
    intro lbl x1 x2 x3 h r h' E hs
    unfold gX12_lineOf at E
    by_cases el0 : lbl = 0
    · have E := (if_pos el0).symm.trans E
      obtain ⟨z1, E⟩ := gd_some E
      exact ih 7 0 (x2 : Int32) (0 : Int32) (wX12_gathers b0 (x1 : Int32) h) _ _ E (shX12_gathers hs)
    have E := (if_neg el0).symm.trans E
    by_cases el1 : lbl = 7
    · have E := (if_pos el1).symm.trans E
      obtain ⟨z3, E⟩ := gd_some E
      by_cases c10 : (ea_i h (b0 + 29) (Int32.toNatClampNeg x2)) ≤ x3
      · have E := (if_pos c10).symm.trans E
        exact ea_shO E hs
      have E := (if_neg c10).symm.trans E
      obtain ⟨z4, E⟩ := gd_some E
      obtain ⟨z5, E⟩ := gd_some E
      by_cases c9 : (ea_i h (b0 + 31) (Int32.toNatClampNeg (((24 : Int32) * x2) + x3))) = (ea_i h (b0 + 30) (Int32.toNatClampNeg ((((25 : Int32) * x2) + x3) + (1 : Int32))))
      · have E := (if_pos c9).symm.trans E
        exact ea_shO E hs
      have E := (if_neg c9).symm.trans E
      obtain ⟨z6, E⟩ := gd_some E
      by_cases c8 : (vX12_comesTo b0 (x2 : Int32) ((ea_i h (b0 + 31) (Int32.toNatClampNeg (((24 : Int32) * x2) + x3))) : Int32) ((ea_i h (b0 + 30) (Int32.toNatClampNeg ((((25 : Int32) * x2) + x3) + (1 : Int32)))) : Int32) h) = (1 : Int32)
      · have E := (if_pos c8).symm.trans E
        exact ea_shO E (shX12_comesTo hs)
      have E := (if_neg c8).symm.trans E
      exact ih 7 0 (x2 : Int32) ((x3 + (1 : Int32)) : Int32) (wX12_comesTo b0 (x2 : Int32) ((ea_i h (b0 + 31) (Int32.toNatClampNeg (((24 : Int32) * x2) + x3))) : Int32) ((ea_i h (b0 + 30) (Int32.toNatClampNeg ((((25 : Int32) * x2) + x3) + (1 : Int32)))) : Int32) h) _ _ E (shX12_comesTo hs)
    have E := (if_neg el1).symm.trans E
    cases E
theorem shX12_lineOf {b0 : Nat} {x1 : Int32} {x2 : Int32} {h : ea_H} (hs : ShM b0 h) : ShM b0 (wX12_lineOf b0 x1 x2 h) := by
  unfold wX12_lineOf
  cases K : qX12_lineOf b0 x1 x2 h with
  | none => exact hs
  | some x => obtain ⟨x, y⟩ := x; unfold qX12_lineOf at K; exact zX12_lineOf _ _ _ _ _ _ _ _ K hs
noncomputable def vX12_chargeBy (b0 : Nat) (x1 : Int32) (x2 : Int32) (h : ea_H) : Int32 := (if (vX12_isFree b0 (x1 : Int32) (x2 : Int32) h) = (0 : Int32) then (if (vX12_lineOf b0 (x1 : Int32) (x2 : Int32) h) = ((-1) : Int32) then (if (0 : Int32) ≤ (0 : Int32) then (if (0 : Int32) ≤ (99999 : Int32) then (if ((ea_i (wX12_lineOf b0 (x1 : Int32) (x2 : Int32) h) (b0 + 44) (Int32.toNatClampNeg x1)) - (ea_i (wX12_lineOf b0 (x1 : Int32) (x2 : Int32) h) (b0 + 44) (Int32.toNatClampNeg x1)) / (1440 : Int32) * (1440 : Int32)) ≤ (ea_i (wX12_lineOf b0 (x1 : Int32) (x2 : Int32) h) (b0 + 24) (Int32.toNatClampNeg x2)) then (if (ea_i (wX12_lineOf b0 (x1 : Int32) (x2 : Int32) h) (b0 + 38) (Int32.toNatClampNeg x1)) = (3 : Int32) then (if (ea_i (wX12_lineOf b0 (x1 : Int32) (x2 : Int32) h) (b0 + 38) (Int32.toNatClampNeg x1)) = (4 : Int32) then (((0 : Int32) + (ea_i (wX12_lineOf b0 (x1 : Int32) (x2 : Int32) h) (b0 + 26) (Int32.toNatClampNeg x2))) + (ea_i (wX12_lineOf b0 (x1 : Int32) (x2 : Int32) h) (b0 + 27) (Int32.toNatClampNeg x2))) else ((0 : Int32) + (ea_i (wX12_lineOf b0 (x1 : Int32) (x2 : Int32) h) (b0 + 26) (Int32.toNatClampNeg x2)))) else (if (ea_i (wX12_lineOf b0 (x1 : Int32) (x2 : Int32) h) (b0 + 38) (Int32.toNatClampNeg x1)) = (4 : Int32) then ((0 : Int32) + (ea_i (wX12_lineOf b0 (x1 : Int32) (x2 : Int32) h) (b0 + 27) (Int32.toNatClampNeg x2))) else (0 : Int32))) else (if (ea_i (wX12_lineOf b0 (x1 : Int32) (x2 : Int32) h) (b0 + 38) (Int32.toNatClampNeg x1)) = (3 : Int32) then (if (ea_i (wX12_lineOf b0 (x1 : Int32) (x2 : Int32) h) (b0 + 38) (Int32.toNatClampNeg x1)) = (4 : Int32) then ((((0 : Int32) + (ea_i (wX12_lineOf b0 (x1 : Int32) (x2 : Int32) h) (b0 + 23) (Int32.toNatClampNeg x2))) + (ea_i (wX12_lineOf b0 (x1 : Int32) (x2 : Int32) h) (b0 + 26) (Int32.toNatClampNeg x2))) + (ea_i (wX12_lineOf b0 (x1 : Int32) (x2 : Int32) h) (b0 + 27) (Int32.toNatClampNeg x2))) else (((0 : Int32) + (ea_i (wX12_lineOf b0 (x1 : Int32) (x2 : Int32) h) (b0 + 23) (Int32.toNatClampNeg x2))) + (ea_i (wX12_lineOf b0 (x1 : Int32) (x2 : Int32) h) (b0 + 26) (Int32.toNatClampNeg x2)))) else (if (ea_i (wX12_lineOf b0 (x1 : Int32) (x2 : Int32) h) (b0 + 38) (Int32.toNatClampNeg x1)) = (4 : Int32) then (((0 : Int32) + (ea_i (wX12_lineOf b0 (x1 : Int32) (x2 : Int32) h) (b0 + 23) (Int32.toNatClampNeg x2))) + (ea_i (wX12_lineOf b0 (x1 : Int32) (x2 : Int32) h) (b0 + 27) (Int32.toNatClampNeg x2))) else ((0 : Int32) + (ea_i (wX12_lineOf b0 (x1 : Int32) (x2 : Int32) h) (b0 + 23) (Int32.toNatClampNeg x2)))))) else (if ((ea_i (wX12_lineOf b0 (x1 : Int32) (x2 : Int32) h) (b0 + 44) (Int32.toNatClampNeg x1)) - (ea_i (wX12_lineOf b0 (x1 : Int32) (x2 : Int32) h) (b0 + 44) (Int32.toNatClampNeg x1)) / (1440 : Int32) * (1440 : Int32)) ≤ (ea_i (wX12_lineOf b0 (x1 : Int32) (x2 : Int32) h) (b0 + 24) (Int32.toNatClampNeg x2)) then (if (ea_i (wX12_lineOf b0 (x1 : Int32) (x2 : Int32) h) (b0 + 38) (Int32.toNatClampNeg x1)) = (3 : Int32) then (if (ea_i (wX12_lineOf b0 (x1 : Int32) (x2 : Int32) h) (b0 + 38) (Int32.toNatClampNeg x1)) = (4 : Int32) then (((99999 : Int32) + (ea_i (wX12_lineOf b0 (x1 : Int32) (x2 : Int32) h) (b0 + 26) (Int32.toNatClampNeg x2))) + (ea_i (wX12_lineOf b0 (x1 : Int32) (x2 : Int32) h) (b0 + 27) (Int32.toNatClampNeg x2))) else ((99999 : Int32) + (ea_i (wX12_lineOf b0 (x1 : Int32) (x2 : Int32) h) (b0 + 26) (Int32.toNatClampNeg x2)))) else (if (ea_i (wX12_lineOf b0 (x1 : Int32) (x2 : Int32) h) (b0 + 38) (Int32.toNatClampNeg x1)) = (4 : Int32) then ((99999 : Int32) + (ea_i (wX12_lineOf b0 (x1 : Int32) (x2 : Int32) h) (b0 + 27) (Int32.toNatClampNeg x2))) else (99999 : Int32))) else (if (ea_i (wX12_lineOf b0 (x1 : Int32) (x2 : Int32) h) (b0 + 38) (Int32.toNatClampNeg x1)) = (3 : Int32) then (if (ea_i (wX12_lineOf b0 (x1 : Int32) (x2 : Int32) h) (b0 + 38) (Int32.toNatClampNeg x1)) = (4 : Int32) then ((((99999 : Int32) + (ea_i (wX12_lineOf b0 (x1 : Int32) (x2 : Int32) h) (b0 + 23) (Int32.toNatClampNeg x2))) + (ea_i (wX12_lineOf b0 (x1 : Int32) (x2 : Int32) h) (b0 + 26) (Int32.toNatClampNeg x2))) + (ea_i (wX12_lineOf b0 (x1 : Int32) (x2 : Int32) h) (b0 + 27) (Int32.toNatClampNeg x2))) else (((99999 : Int32) + (ea_i (wX12_lineOf b0 (x1 : Int32) (x2 : Int32) h) (b0 + 23) (Int32.toNatClampNeg x2))) + (ea_i (wX12_lineOf b0 (x1 : Int32) (x2 : Int32) h) (b0 + 26) (Int32.toNatClampNeg x2)))) else (if (ea_i (wX12_lineOf b0 (x1 : Int32) (x2 : Int32) h) (b0 + 38) (Int32.toNatClampNeg x1)) = (4 : Int32) then (((99999 : Int32) + (ea_i (wX12_lineOf b0 (x1 : Int32) (x2 : Int32) h) (b0 + 23) (Int32.toNatClampNeg x2))) + (ea_i (wX12_lineOf b0 (x1 : Int32) (x2 : Int32) h) (b0 + 27) (Int32.toNatClampNeg x2))) else ((99999 : Int32) + (ea_i (wX12_lineOf b0 (x1 : Int32) (x2 : Int32) h) (b0 + 23) (Int32.toNatClampNeg x2))))))) else (if ((ea_i (wX12_lineOf b0 (x1 : Int32) (x2 : Int32) h) (b0 + 44) (Int32.toNatClampNeg x1)) - (ea_i (wX12_lineOf b0 (x1 : Int32) (x2 : Int32) h) (b0 + 44) (Int32.toNatClampNeg x1)) / (1440 : Int32) * (1440 : Int32)) ≤ (ea_i (wX12_lineOf b0 (x1 : Int32) (x2 : Int32) h) (b0 + 24) (Int32.toNatClampNeg x2)) then (if (ea_i (wX12_lineOf b0 (x1 : Int32) (x2 : Int32) h) (b0 + 38) (Int32.toNatClampNeg x1)) = (3 : Int32) then (if (ea_i (wX12_lineOf b0 (x1 : Int32) (x2 : Int32) h) (b0 + 38) (Int32.toNatClampNeg x1)) = (4 : Int32) then (((0 : Int32) + (ea_i (wX12_lineOf b0 (x1 : Int32) (x2 : Int32) h) (b0 + 26) (Int32.toNatClampNeg x2))) + (ea_i (wX12_lineOf b0 (x1 : Int32) (x2 : Int32) h) (b0 + 27) (Int32.toNatClampNeg x2))) else ((0 : Int32) + (ea_i (wX12_lineOf b0 (x1 : Int32) (x2 : Int32) h) (b0 + 26) (Int32.toNatClampNeg x2)))) else (if (ea_i (wX12_lineOf b0 (x1 : Int32) (x2 : Int32) h) (b0 + 38) (Int32.toNatClampNeg x1)) = (4 : Int32) then ((0 : Int32) + (ea_i (wX12_lineOf b0 (x1 : Int32) (x2 : Int32) h) (b0 + 27) (Int32.toNatClampNeg x2))) else (0 : Int32))) else (if (ea_i (wX12_lineOf b0 (x1 : Int32) (x2 : Int32) h) (b0 + 38) (Int32.toNatClampNeg x1)) = (3 : Int32) then (if (ea_i (wX12_lineOf b0 (x1 : Int32) (x2 : Int32) h) (b0 + 38) (Int32.toNatClampNeg x1)) = (4 : Int32) then ((((0 : Int32) + (ea_i (wX12_lineOf b0 (x1 : Int32) (x2 : Int32) h) (b0 + 23) (Int32.toNatClampNeg x2))) + (ea_i (wX12_lineOf b0 (x1 : Int32) (x2 : Int32) h) (b0 + 26) (Int32.toNatClampNeg x2))) + (ea_i (wX12_lineOf b0 (x1 : Int32) (x2 : Int32) h) (b0 + 27) (Int32.toNatClampNeg x2))) else (((0 : Int32) + (ea_i (wX12_lineOf b0 (x1 : Int32) (x2 : Int32) h) (b0 + 23) (Int32.toNatClampNeg x2))) + (ea_i (wX12_lineOf b0 (x1 : Int32) (x2 : Int32) h) (b0 + 26) (Int32.toNatClampNeg x2)))) else (if (ea_i (wX12_lineOf b0 (x1 : Int32) (x2 : Int32) h) (b0 + 38) (Int32.toNatClampNeg x1)) = (4 : Int32) then (((0 : Int32) + (ea_i (wX12_lineOf b0 (x1 : Int32) (x2 : Int32) h) (b0 + 23) (Int32.toNatClampNeg x2))) + (ea_i (wX12_lineOf b0 (x1 : Int32) (x2 : Int32) h) (b0 + 27) (Int32.toNatClampNeg x2))) else ((0 : Int32) + (ea_i (wX12_lineOf b0 (x1 : Int32) (x2 : Int32) h) (b0 + 23) (Int32.toNatClampNeg x2))))))) else (if (0 : Int32) ≤ (vX12_comesTo b0 (x2 : Int32) ((ea_i (wX12_lineOf b0 (x1 : Int32) (x2 : Int32) h) (b0 + 30) (Int32.toNatClampNeg (((25 : Int32) * x2) + (vX12_lineOf b0 (x1 : Int32) (x2 : Int32) h)))) : Int32) ((ea_i (wX12_lineOf b0 (x1 : Int32) (x2 : Int32) h) (b0 + 31) (Int32.toNatClampNeg (((24 : Int32) * x2) + (vX12_lineOf b0 (x1 : Int32) (x2 : Int32) h)))) : Int32) (wX12_lineOf b0 (x1 : Int32) (x2 : Int32) h)) then (if (vX12_comesTo b0 (x2 : Int32) ((ea_i (wX12_lineOf b0 (x1 : Int32) (x2 : Int32) h) (b0 + 30) (Int32.toNatClampNeg (((25 : Int32) * x2) + (vX12_lineOf b0 (x1 : Int32) (x2 : Int32) h)))) : Int32) ((ea_i (wX12_lineOf b0 (x1 : Int32) (x2 : Int32) h) (b0 + 31) (Int32.toNatClampNeg (((24 : Int32) * x2) + (vX12_lineOf b0 (x1 : Int32) (x2 : Int32) h)))) : Int32) (wX12_lineOf b0 (x1 : Int32) (x2 : Int32) h)) ≤ (99999 : Int32) then (if ((ea_i (wX12_comesTo b0 (x2 : Int32) ((ea_i (wX12_lineOf b0 (x1 : Int32) (x2 : Int32) h) (b0 + 30) (Int32.toNatClampNeg (((25 : Int32) * x2) + (vX12_lineOf b0 (x1 : Int32) (x2 : Int32) h)))) : Int32) ((ea_i (wX12_lineOf b0 (x1 : Int32) (x2 : Int32) h) (b0 + 31) (Int32.toNatClampNeg (((24 : Int32) * x2) + (vX12_lineOf b0 (x1 : Int32) (x2 : Int32) h)))) : Int32) (wX12_lineOf b0 (x1 : Int32) (x2 : Int32) h)) (b0 + 44) (Int32.toNatClampNeg x1)) - (ea_i (wX12_comesTo b0 (x2 : Int32) ((ea_i (wX12_lineOf b0 (x1 : Int32) (x2 : Int32) h) (b0 + 30) (Int32.toNatClampNeg (((25 : Int32) * x2) + (vX12_lineOf b0 (x1 : Int32) (x2 : Int32) h)))) : Int32) ((ea_i (wX12_lineOf b0 (x1 : Int32) (x2 : Int32) h) (b0 + 31) (Int32.toNatClampNeg (((24 : Int32) * x2) + (vX12_lineOf b0 (x1 : Int32) (x2 : Int32) h)))) : Int32) (wX12_lineOf b0 (x1 : Int32) (x2 : Int32) h)) (b0 + 44) (Int32.toNatClampNeg x1)) / (1440 : Int32) * (1440 : Int32)) ≤ (ea_i (wX12_comesTo b0 (x2 : Int32) ((ea_i (wX12_lineOf b0 (x1 : Int32) (x2 : Int32) h) (b0 + 30) (Int32.toNatClampNeg (((25 : Int32) * x2) + (vX12_lineOf b0 (x1 : Int32) (x2 : Int32) h)))) : Int32) ((ea_i (wX12_lineOf b0 (x1 : Int32) (x2 : Int32) h) (b0 + 31) (Int32.toNatClampNeg (((24 : Int32) * x2) + (vX12_lineOf b0 (x1 : Int32) (x2 : Int32) h)))) : Int32) (wX12_lineOf b0 (x1 : Int32) (x2 : Int32) h)) (b0 + 24) (Int32.toNatClampNeg x2)) then (if (ea_i (wX12_comesTo b0 (x2 : Int32) ((ea_i (wX12_lineOf b0 (x1 : Int32) (x2 : Int32) h) (b0 + 30) (Int32.toNatClampNeg (((25 : Int32) * x2) + (vX12_lineOf b0 (x1 : Int32) (x2 : Int32) h)))) : Int32) ((ea_i (wX12_lineOf b0 (x1 : Int32) (x2 : Int32) h) (b0 + 31) (Int32.toNatClampNeg (((24 : Int32) * x2) + (vX12_lineOf b0 (x1 : Int32) (x2 : Int32) h)))) : Int32) (wX12_lineOf b0 (x1 : Int32) (x2 : Int32) h)) (b0 + 38) (Int32.toNatClampNeg x1)) = (3 : Int32) then (if (ea_i (wX12_comesTo b0 (x2 : Int32) ((ea_i (wX12_lineOf b0 (x1 : Int32) (x2 : Int32) h) (b0 + 30) (Int32.toNatClampNeg (((25 : Int32) * x2) + (vX12_lineOf b0 (x1 : Int32) (x2 : Int32) h)))) : Int32) ((ea_i (wX12_lineOf b0 (x1 : Int32) (x2 : Int32) h) (b0 + 31) (Int32.toNatClampNeg (((24 : Int32) * x2) + (vX12_lineOf b0 (x1 : Int32) (x2 : Int32) h)))) : Int32) (wX12_lineOf b0 (x1 : Int32) (x2 : Int32) h)) (b0 + 38) (Int32.toNatClampNeg x1)) = (4 : Int32) then (((vX12_comesTo b0 (x2 : Int32) ((ea_i (wX12_lineOf b0 (x1 : Int32) (x2 : Int32) h) (b0 + 30) (Int32.toNatClampNeg (((25 : Int32) * x2) + (vX12_lineOf b0 (x1 : Int32) (x2 : Int32) h)))) : Int32) ((ea_i (wX12_lineOf b0 (x1 : Int32) (x2 : Int32) h) (b0 + 31) (Int32.toNatClampNeg (((24 : Int32) * x2) + (vX12_lineOf b0 (x1 : Int32) (x2 : Int32) h)))) : Int32) (wX12_lineOf b0 (x1 : Int32) (x2 : Int32) h)) + (ea_i (wX12_comesTo b0 (x2 : Int32) ((ea_i (wX12_lineOf b0 (x1 : Int32) (x2 : Int32) h) (b0 + 30) (Int32.toNatClampNeg (((25 : Int32) * x2) + (vX12_lineOf b0 (x1 : Int32) (x2 : Int32) h)))) : Int32) ((ea_i (wX12_lineOf b0 (x1 : Int32) (x2 : Int32) h) (b0 + 31) (Int32.toNatClampNeg (((24 : Int32) * x2) + (vX12_lineOf b0 (x1 : Int32) (x2 : Int32) h)))) : Int32) (wX12_lineOf b0 (x1 : Int32) (x2 : Int32) h)) (b0 + 26) (Int32.toNatClampNeg x2))) + (ea_i (wX12_comesTo b0 (x2 : Int32) ((ea_i (wX12_lineOf b0 (x1 : Int32) (x2 : Int32) h) (b0 + 30) (Int32.toNatClampNeg (((25 : Int32) * x2) + (vX12_lineOf b0 (x1 : Int32) (x2 : Int32) h)))) : Int32) ((ea_i (wX12_lineOf b0 (x1 : Int32) (x2 : Int32) h) (b0 + 31) (Int32.toNatClampNeg (((24 : Int32) * x2) + (vX12_lineOf b0 (x1 : Int32) (x2 : Int32) h)))) : Int32) (wX12_lineOf b0 (x1 : Int32) (x2 : Int32) h)) (b0 + 27) (Int32.toNatClampNeg x2))) else ((vX12_comesTo b0 (x2 : Int32) ((ea_i (wX12_lineOf b0 (x1 : Int32) (x2 : Int32) h) (b0 + 30) (Int32.toNatClampNeg (((25 : Int32) * x2) + (vX12_lineOf b0 (x1 : Int32) (x2 : Int32) h)))) : Int32) ((ea_i (wX12_lineOf b0 (x1 : Int32) (x2 : Int32) h) (b0 + 31) (Int32.toNatClampNeg (((24 : Int32) * x2) + (vX12_lineOf b0 (x1 : Int32) (x2 : Int32) h)))) : Int32) (wX12_lineOf b0 (x1 : Int32) (x2 : Int32) h)) + (ea_i (wX12_comesTo b0 (x2 : Int32) ((ea_i (wX12_lineOf b0 (x1 : Int32) (x2 : Int32) h) (b0 + 30) (Int32.toNatClampNeg (((25 : Int32) * x2) + (vX12_lineOf b0 (x1 : Int32) (x2 : Int32) h)))) : Int32) ((ea_i (wX12_lineOf b0 (x1 : Int32) (x2 : Int32) h) (b0 + 31) (Int32.toNatClampNeg (((24 : Int32) * x2) + (vX12_lineOf b0 (x1 : Int32) (x2 : Int32) h)))) : Int32) (wX12_lineOf b0 (x1 : Int32) (x2 : Int32) h)) (b0 + 26) (Int32.toNatClampNeg x2)))) else (if (ea_i (wX12_comesTo b0 (x2 : Int32) ((ea_i (wX12_lineOf b0 (x1 : Int32) (x2 : Int32) h) (b0 + 30) (Int32.toNatClampNeg (((25 : Int32) * x2) + (vX12_lineOf b0 (x1 : Int32) (x2 : Int32) h)))) : Int32) ((ea_i (wX12_lineOf b0 (x1 : Int32) (x2 : Int32) h) (b0 + 31) (Int32.toNatClampNeg (((24 : Int32) * x2) + (vX12_lineOf b0 (x1 : Int32) (x2 : Int32) h)))) : Int32) (wX12_lineOf b0 (x1 : Int32) (x2 : Int32) h)) (b0 + 38) (Int32.toNatClampNeg x1)) = (4 : Int32) then ((vX12_comesTo b0 (x2 : Int32) ((ea_i (wX12_lineOf b0 (x1 : Int32) (x2 : Int32) h) (b0 + 30) (Int32.toNatClampNeg (((25 : Int32) * x2) + (vX12_lineOf b0 (x1 : Int32) (x2 : Int32) h)))) : Int32) ((ea_i (wX12_lineOf b0 (x1 : Int32) (x2 : Int32) h) (b0 + 31) (Int32.toNatClampNeg (((24 : Int32) * x2) + (vX12_lineOf b0 (x1 : Int32) (x2 : Int32) h)))) : Int32) (wX12_lineOf b0 (x1 : Int32) (x2 : Int32) h)) + (ea_i (wX12_comesTo b0 (x2 : Int32) ((ea_i (wX12_lineOf b0 (x1 : Int32) (x2 : Int32) h) (b0 + 30) (Int32.toNatClampNeg (((25 : Int32) * x2) + (vX12_lineOf b0 (x1 : Int32) (x2 : Int32) h)))) : Int32) ((ea_i (wX12_lineOf b0 (x1 : Int32) (x2 : Int32) h) (b0 + 31) (Int32.toNatClampNeg (((24 : Int32) * x2) + (vX12_lineOf b0 (x1 : Int32) (x2 : Int32) h)))) : Int32) (wX12_lineOf b0 (x1 : Int32) (x2 : Int32) h)) (b0 + 27) (Int32.toNatClampNeg x2))) else (vX12_comesTo b0 (x2 : Int32) ((ea_i (wX12_lineOf b0 (x1 : Int32) (x2 : Int32) h) (b0 + 30) (Int32.toNatClampNeg (((25 : Int32) * x2) + (vX12_lineOf b0 (x1 : Int32) (x2 : Int32) h)))) : Int32) ((ea_i (wX12_lineOf b0 (x1 : Int32) (x2 : Int32) h) (b0 + 31) (Int32.toNatClampNeg (((24 : Int32) * x2) + (vX12_lineOf b0 (x1 : Int32) (x2 : Int32) h)))) : Int32) (wX12_lineOf b0 (x1 : Int32) (x2 : Int32) h)))) else (if (ea_i (wX12_comesTo b0 (x2 : Int32) ((ea_i (wX12_lineOf b0 (x1 : Int32) (x2 : Int32) h) (b0 + 30) (Int32.toNatClampNeg (((25 : Int32) * x2) + (vX12_lineOf b0 (x1 : Int32) (x2 : Int32) h)))) : Int32) ((ea_i (wX12_lineOf b0 (x1 : Int32) (x2 : Int32) h) (b0 + 31) (Int32.toNatClampNeg (((24 : Int32) * x2) + (vX12_lineOf b0 (x1 : Int32) (x2 : Int32) h)))) : Int32) (wX12_lineOf b0 (x1 : Int32) (x2 : Int32) h)) (b0 + 38) (Int32.toNatClampNeg x1)) = (3 : Int32) then (if (ea_i (wX12_comesTo b0 (x2 : Int32) ((ea_i (wX12_lineOf b0 (x1 : Int32) (x2 : Int32) h) (b0 + 30) (Int32.toNatClampNeg (((25 : Int32) * x2) + (vX12_lineOf b0 (x1 : Int32) (x2 : Int32) h)))) : Int32) ((ea_i (wX12_lineOf b0 (x1 : Int32) (x2 : Int32) h) (b0 + 31) (Int32.toNatClampNeg (((24 : Int32) * x2) + (vX12_lineOf b0 (x1 : Int32) (x2 : Int32) h)))) : Int32) (wX12_lineOf b0 (x1 : Int32) (x2 : Int32) h)) (b0 + 38) (Int32.toNatClampNeg x1)) = (4 : Int32) then ((((vX12_comesTo b0 (x2 : Int32) ((ea_i (wX12_lineOf b0 (x1 : Int32) (x2 : Int32) h) (b0 + 30) (Int32.toNatClampNeg (((25 : Int32) * x2) + (vX12_lineOf b0 (x1 : Int32) (x2 : Int32) h)))) : Int32) ((ea_i (wX12_lineOf b0 (x1 : Int32) (x2 : Int32) h) (b0 + 31) (Int32.toNatClampNeg (((24 : Int32) * x2) + (vX12_lineOf b0 (x1 : Int32) (x2 : Int32) h)))) : Int32) (wX12_lineOf b0 (x1 : Int32) (x2 : Int32) h)) + (ea_i (wX12_comesTo b0 (x2 : Int32) ((ea_i (wX12_lineOf b0 (x1 : Int32) (x2 : Int32) h) (b0 + 30) (Int32.toNatClampNeg (((25 : Int32) * x2) + (vX12_lineOf b0 (x1 : Int32) (x2 : Int32) h)))) : Int32) ((ea_i (wX12_lineOf b0 (x1 : Int32) (x2 : Int32) h) (b0 + 31) (Int32.toNatClampNeg (((24 : Int32) * x2) + (vX12_lineOf b0 (x1 : Int32) (x2 : Int32) h)))) : Int32) (wX12_lineOf b0 (x1 : Int32) (x2 : Int32) h)) (b0 + 23) (Int32.toNatClampNeg x2))) + (ea_i (wX12_comesTo b0 (x2 : Int32) ((ea_i (wX12_lineOf b0 (x1 : Int32) (x2 : Int32) h) (b0 + 30) (Int32.toNatClampNeg (((25 : Int32) * x2) + (vX12_lineOf b0 (x1 : Int32) (x2 : Int32) h)))) : Int32) ((ea_i (wX12_lineOf b0 (x1 : Int32) (x2 : Int32) h) (b0 + 31) (Int32.toNatClampNeg (((24 : Int32) * x2) + (vX12_lineOf b0 (x1 : Int32) (x2 : Int32) h)))) : Int32) (wX12_lineOf b0 (x1 : Int32) (x2 : Int32) h)) (b0 + 26) (Int32.toNatClampNeg x2))) + (ea_i (wX12_comesTo b0 (x2 : Int32) ((ea_i (wX12_lineOf b0 (x1 : Int32) (x2 : Int32) h) (b0 + 30) (Int32.toNatClampNeg (((25 : Int32) * x2) + (vX12_lineOf b0 (x1 : Int32) (x2 : Int32) h)))) : Int32) ((ea_i (wX12_lineOf b0 (x1 : Int32) (x2 : Int32) h) (b0 + 31) (Int32.toNatClampNeg (((24 : Int32) * x2) + (vX12_lineOf b0 (x1 : Int32) (x2 : Int32) h)))) : Int32) (wX12_lineOf b0 (x1 : Int32) (x2 : Int32) h)) (b0 + 27) (Int32.toNatClampNeg x2))) else (((vX12_comesTo b0 (x2 : Int32) ((ea_i (wX12_lineOf b0 (x1 : Int32) (x2 : Int32) h) (b0 + 30) (Int32.toNatClampNeg (((25 : Int32) * x2) + (vX12_lineOf b0 (x1 : Int32) (x2 : Int32) h)))) : Int32) ((ea_i (wX12_lineOf b0 (x1 : Int32) (x2 : Int32) h) (b0 + 31) (Int32.toNatClampNeg (((24 : Int32) * x2) + (vX12_lineOf b0 (x1 : Int32) (x2 : Int32) h)))) : Int32) (wX12_lineOf b0 (x1 : Int32) (x2 : Int32) h)) + (ea_i (wX12_comesTo b0 (x2 : Int32) ((ea_i (wX12_lineOf b0 (x1 : Int32) (x2 : Int32) h) (b0 + 30) (Int32.toNatClampNeg (((25 : Int32) * x2) + (vX12_lineOf b0 (x1 : Int32) (x2 : Int32) h)))) : Int32) ((ea_i (wX12_lineOf b0 (x1 : Int32) (x2 : Int32) h) (b0 + 31) (Int32.toNatClampNeg (((24 : Int32) * x2) + (vX12_lineOf b0 (x1 : Int32) (x2 : Int32) h)))) : Int32) (wX12_lineOf b0 (x1 : Int32) (x2 : Int32) h)) (b0 + 23) (Int32.toNatClampNeg x2))) + (ea_i (wX12_comesTo b0 (x2 : Int32) ((ea_i (wX12_lineOf b0 (x1 : Int32) (x2 : Int32) h) (b0 + 30) (Int32.toNatClampNeg (((25 : Int32) * x2) + (vX12_lineOf b0 (x1 : Int32) (x2 : Int32) h)))) : Int32) ((ea_i (wX12_lineOf b0 (x1 : Int32) (x2 : Int32) h) (b0 + 31) (Int32.toNatClampNeg (((24 : Int32) * x2) + (vX12_lineOf b0 (x1 : Int32) (x2 : Int32) h)))) : Int32) (wX12_lineOf b0 (x1 : Int32) (x2 : Int32) h)) (b0 + 26) (Int32.toNatClampNeg x2)))) else (if (ea_i (wX12_comesTo b0 (x2 : Int32) ((ea_i (wX12_lineOf b0 (x1 : Int32) (x2 : Int32) h) (b0 + 30) (Int32.toNatClampNeg (((25 : Int32) * x2) + (vX12_lineOf b0 (x1 : Int32) (x2 : Int32) h)))) : Int32) ((ea_i (wX12_lineOf b0 (x1 : Int32) (x2 : Int32) h) (b0 + 31) (Int32.toNatClampNeg (((24 : Int32) * x2) + (vX12_lineOf b0 (x1 : Int32) (x2 : Int32) h)))) : Int32) (wX12_lineOf b0 (x1 : Int32) (x2 : Int32) h)) (b0 + 38) (Int32.toNatClampNeg x1)) = (4 : Int32) then (((vX12_comesTo b0 (x2 : Int32) ((ea_i (wX12_lineOf b0 (x1 : Int32) (x2 : Int32) h) (b0 + 30) (Int32.toNatClampNeg (((25 : Int32) * x2) + (vX12_lineOf b0 (x1 : Int32) (x2 : Int32) h)))) : Int32) ((ea_i (wX12_lineOf b0 (x1 : Int32) (x2 : Int32) h) (b0 + 31) (Int32.toNatClampNeg (((24 : Int32) * x2) + (vX12_lineOf b0 (x1 : Int32) (x2 : Int32) h)))) : Int32) (wX12_lineOf b0 (x1 : Int32) (x2 : Int32) h)) + (ea_i (wX12_comesTo b0 (x2 : Int32) ((ea_i (wX12_lineOf b0 (x1 : Int32) (x2 : Int32) h) (b0 + 30) (Int32.toNatClampNeg (((25 : Int32) * x2) + (vX12_lineOf b0 (x1 : Int32) (x2 : Int32) h)))) : Int32) ((ea_i (wX12_lineOf b0 (x1 : Int32) (x2 : Int32) h) (b0 + 31) (Int32.toNatClampNeg (((24 : Int32) * x2) + (vX12_lineOf b0 (x1 : Int32) (x2 : Int32) h)))) : Int32) (wX12_lineOf b0 (x1 : Int32) (x2 : Int32) h)) (b0 + 23) (Int32.toNatClampNeg x2))) + (ea_i (wX12_comesTo b0 (x2 : Int32) ((ea_i (wX12_lineOf b0 (x1 : Int32) (x2 : Int32) h) (b0 + 30) (Int32.toNatClampNeg (((25 : Int32) * x2) + (vX12_lineOf b0 (x1 : Int32) (x2 : Int32) h)))) : Int32) ((ea_i (wX12_lineOf b0 (x1 : Int32) (x2 : Int32) h) (b0 + 31) (Int32.toNatClampNeg (((24 : Int32) * x2) + (vX12_lineOf b0 (x1 : Int32) (x2 : Int32) h)))) : Int32) (wX12_lineOf b0 (x1 : Int32) (x2 : Int32) h)) (b0 + 27) (Int32.toNatClampNeg x2))) else ((vX12_comesTo b0 (x2 : Int32) ((ea_i (wX12_lineOf b0 (x1 : Int32) (x2 : Int32) h) (b0 + 30) (Int32.toNatClampNeg (((25 : Int32) * x2) + (vX12_lineOf b0 (x1 : Int32) (x2 : Int32) h)))) : Int32) ((ea_i (wX12_lineOf b0 (x1 : Int32) (x2 : Int32) h) (b0 + 31) (Int32.toNatClampNeg (((24 : Int32) * x2) + (vX12_lineOf b0 (x1 : Int32) (x2 : Int32) h)))) : Int32) (wX12_lineOf b0 (x1 : Int32) (x2 : Int32) h)) + (ea_i (wX12_comesTo b0 (x2 : Int32) ((ea_i (wX12_lineOf b0 (x1 : Int32) (x2 : Int32) h) (b0 + 30) (Int32.toNatClampNeg (((25 : Int32) * x2) + (vX12_lineOf b0 (x1 : Int32) (x2 : Int32) h)))) : Int32) ((ea_i (wX12_lineOf b0 (x1 : Int32) (x2 : Int32) h) (b0 + 31) (Int32.toNatClampNeg (((24 : Int32) * x2) + (vX12_lineOf b0 (x1 : Int32) (x2 : Int32) h)))) : Int32) (wX12_lineOf b0 (x1 : Int32) (x2 : Int32) h)) (b0 + 23) (Int32.toNatClampNeg x2)))))) else (if ((ea_i (wX12_comesTo b0 (x2 : Int32) ((ea_i (wX12_lineOf b0 (x1 : Int32) (x2 : Int32) h) (b0 + 30) (Int32.toNatClampNeg (((25 : Int32) * x2) + (vX12_lineOf b0 (x1 : Int32) (x2 : Int32) h)))) : Int32) ((ea_i (wX12_lineOf b0 (x1 : Int32) (x2 : Int32) h) (b0 + 31) (Int32.toNatClampNeg (((24 : Int32) * x2) + (vX12_lineOf b0 (x1 : Int32) (x2 : Int32) h)))) : Int32) (wX12_lineOf b0 (x1 : Int32) (x2 : Int32) h)) (b0 + 44) (Int32.toNatClampNeg x1)) - (ea_i (wX12_comesTo b0 (x2 : Int32) ((ea_i (wX12_lineOf b0 (x1 : Int32) (x2 : Int32) h) (b0 + 30) (Int32.toNatClampNeg (((25 : Int32) * x2) + (vX12_lineOf b0 (x1 : Int32) (x2 : Int32) h)))) : Int32) ((ea_i (wX12_lineOf b0 (x1 : Int32) (x2 : Int32) h) (b0 + 31) (Int32.toNatClampNeg (((24 : Int32) * x2) + (vX12_lineOf b0 (x1 : Int32) (x2 : Int32) h)))) : Int32) (wX12_lineOf b0 (x1 : Int32) (x2 : Int32) h)) (b0 + 44) (Int32.toNatClampNeg x1)) / (1440 : Int32) * (1440 : Int32)) ≤ (ea_i (wX12_comesTo b0 (x2 : Int32) ((ea_i (wX12_lineOf b0 (x1 : Int32) (x2 : Int32) h) (b0 + 30) (Int32.toNatClampNeg (((25 : Int32) * x2) + (vX12_lineOf b0 (x1 : Int32) (x2 : Int32) h)))) : Int32) ((ea_i (wX12_lineOf b0 (x1 : Int32) (x2 : Int32) h) (b0 + 31) (Int32.toNatClampNeg (((24 : Int32) * x2) + (vX12_lineOf b0 (x1 : Int32) (x2 : Int32) h)))) : Int32) (wX12_lineOf b0 (x1 : Int32) (x2 : Int32) h)) (b0 + 24) (Int32.toNatClampNeg x2)) then (if (ea_i (wX12_comesTo b0 (x2 : Int32) ((ea_i (wX12_lineOf b0 (x1 : Int32) (x2 : Int32) h) (b0 + 30) (Int32.toNatClampNeg (((25 : Int32) * x2) + (vX12_lineOf b0 (x1 : Int32) (x2 : Int32) h)))) : Int32) ((ea_i (wX12_lineOf b0 (x1 : Int32) (x2 : Int32) h) (b0 + 31) (Int32.toNatClampNeg (((24 : Int32) * x2) + (vX12_lineOf b0 (x1 : Int32) (x2 : Int32) h)))) : Int32) (wX12_lineOf b0 (x1 : Int32) (x2 : Int32) h)) (b0 + 38) (Int32.toNatClampNeg x1)) = (3 : Int32) then (if (ea_i (wX12_comesTo b0 (x2 : Int32) ((ea_i (wX12_lineOf b0 (x1 : Int32) (x2 : Int32) h) (b0 + 30) (Int32.toNatClampNeg (((25 : Int32) * x2) + (vX12_lineOf b0 (x1 : Int32) (x2 : Int32) h)))) : Int32) ((ea_i (wX12_lineOf b0 (x1 : Int32) (x2 : Int32) h) (b0 + 31) (Int32.toNatClampNeg (((24 : Int32) * x2) + (vX12_lineOf b0 (x1 : Int32) (x2 : Int32) h)))) : Int32) (wX12_lineOf b0 (x1 : Int32) (x2 : Int32) h)) (b0 + 38) (Int32.toNatClampNeg x1)) = (4 : Int32) then (((99999 : Int32) + (ea_i (wX12_comesTo b0 (x2 : Int32) ((ea_i (wX12_lineOf b0 (x1 : Int32) (x2 : Int32) h) (b0 + 30) (Int32.toNatClampNeg (((25 : Int32) * x2) + (vX12_lineOf b0 (x1 : Int32) (x2 : Int32) h)))) : Int32) ((ea_i (wX12_lineOf b0 (x1 : Int32) (x2 : Int32) h) (b0 + 31) (Int32.toNatClampNeg (((24 : Int32) * x2) + (vX12_lineOf b0 (x1 : Int32) (x2 : Int32) h)))) : Int32) (wX12_lineOf b0 (x1 : Int32) (x2 : Int32) h)) (b0 + 26) (Int32.toNatClampNeg x2))) + (ea_i (wX12_comesTo b0 (x2 : Int32) ((ea_i (wX12_lineOf b0 (x1 : Int32) (x2 : Int32) h) (b0 + 30) (Int32.toNatClampNeg (((25 : Int32) * x2) + (vX12_lineOf b0 (x1 : Int32) (x2 : Int32) h)))) : Int32) ((ea_i (wX12_lineOf b0 (x1 : Int32) (x2 : Int32) h) (b0 + 31) (Int32.toNatClampNeg (((24 : Int32) * x2) + (vX12_lineOf b0 (x1 : Int32) (x2 : Int32) h)))) : Int32) (wX12_lineOf b0 (x1 : Int32) (x2 : Int32) h)) (b0 + 27) (Int32.toNatClampNeg x2))) else ((99999 : Int32) + (ea_i (wX12_comesTo b0 (x2 : Int32) ((ea_i (wX12_lineOf b0 (x1 : Int32) (x2 : Int32) h) (b0 + 30) (Int32.toNatClampNeg (((25 : Int32) * x2) + (vX12_lineOf b0 (x1 : Int32) (x2 : Int32) h)))) : Int32) ((ea_i (wX12_lineOf b0 (x1 : Int32) (x2 : Int32) h) (b0 + 31) (Int32.toNatClampNeg (((24 : Int32) * x2) + (vX12_lineOf b0 (x1 : Int32) (x2 : Int32) h)))) : Int32) (wX12_lineOf b0 (x1 : Int32) (x2 : Int32) h)) (b0 + 26) (Int32.toNatClampNeg x2)))) else (if (ea_i (wX12_comesTo b0 (x2 : Int32) ((ea_i (wX12_lineOf b0 (x1 : Int32) (x2 : Int32) h) (b0 + 30) (Int32.toNatClampNeg (((25 : Int32) * x2) + (vX12_lineOf b0 (x1 : Int32) (x2 : Int32) h)))) : Int32) ((ea_i (wX12_lineOf b0 (x1 : Int32) (x2 : Int32) h) (b0 + 31) (Int32.toNatClampNeg (((24 : Int32) * x2) + (vX12_lineOf b0 (x1 : Int32) (x2 : Int32) h)))) : Int32) (wX12_lineOf b0 (x1 : Int32) (x2 : Int32) h)) (b0 + 38) (Int32.toNatClampNeg x1)) = (4 : Int32) then ((99999 : Int32) + (ea_i (wX12_comesTo b0 (x2 : Int32) ((ea_i (wX12_lineOf b0 (x1 : Int32) (x2 : Int32) h) (b0 + 30) (Int32.toNatClampNeg (((25 : Int32) * x2) + (vX12_lineOf b0 (x1 : Int32) (x2 : Int32) h)))) : Int32) ((ea_i (wX12_lineOf b0 (x1 : Int32) (x2 : Int32) h) (b0 + 31) (Int32.toNatClampNeg (((24 : Int32) * x2) + (vX12_lineOf b0 (x1 : Int32) (x2 : Int32) h)))) : Int32) (wX12_lineOf b0 (x1 : Int32) (x2 : Int32) h)) (b0 + 27) (Int32.toNatClampNeg x2))) else (99999 : Int32))) else (if (ea_i (wX12_comesTo b0 (x2 : Int32) ((ea_i (wX12_lineOf b0 (x1 : Int32) (x2 : Int32) h) (b0 + 30) (Int32.toNatClampNeg (((25 : Int32) * x2) + (vX12_lineOf b0 (x1 : Int32) (x2 : Int32) h)))) : Int32) ((ea_i (wX12_lineOf b0 (x1 : Int32) (x2 : Int32) h) (b0 + 31) (Int32.toNatClampNeg (((24 : Int32) * x2) + (vX12_lineOf b0 (x1 : Int32) (x2 : Int32) h)))) : Int32) (wX12_lineOf b0 (x1 : Int32) (x2 : Int32) h)) (b0 + 38) (Int32.toNatClampNeg x1)) = (3 : Int32) then (if (ea_i (wX12_comesTo b0 (x2 : Int32) ((ea_i (wX12_lineOf b0 (x1 : Int32) (x2 : Int32) h) (b0 + 30) (Int32.toNatClampNeg (((25 : Int32) * x2) + (vX12_lineOf b0 (x1 : Int32) (x2 : Int32) h)))) : Int32) ((ea_i (wX12_lineOf b0 (x1 : Int32) (x2 : Int32) h) (b0 + 31) (Int32.toNatClampNeg (((24 : Int32) * x2) + (vX12_lineOf b0 (x1 : Int32) (x2 : Int32) h)))) : Int32) (wX12_lineOf b0 (x1 : Int32) (x2 : Int32) h)) (b0 + 38) (Int32.toNatClampNeg x1)) = (4 : Int32) then ((((99999 : Int32) + (ea_i (wX12_comesTo b0 (x2 : Int32) ((ea_i (wX12_lineOf b0 (x1 : Int32) (x2 : Int32) h) (b0 + 30) (Int32.toNatClampNeg (((25 : Int32) * x2) + (vX12_lineOf b0 (x1 : Int32) (x2 : Int32) h)))) : Int32) ((ea_i (wX12_lineOf b0 (x1 : Int32) (x2 : Int32) h) (b0 + 31) (Int32.toNatClampNeg (((24 : Int32) * x2) + (vX12_lineOf b0 (x1 : Int32) (x2 : Int32) h)))) : Int32) (wX12_lineOf b0 (x1 : Int32) (x2 : Int32) h)) (b0 + 23) (Int32.toNatClampNeg x2))) + (ea_i (wX12_comesTo b0 (x2 : Int32) ((ea_i (wX12_lineOf b0 (x1 : Int32) (x2 : Int32) h) (b0 + 30) (Int32.toNatClampNeg (((25 : Int32) * x2) + (vX12_lineOf b0 (x1 : Int32) (x2 : Int32) h)))) : Int32) ((ea_i (wX12_lineOf b0 (x1 : Int32) (x2 : Int32) h) (b0 + 31) (Int32.toNatClampNeg (((24 : Int32) * x2) + (vX12_lineOf b0 (x1 : Int32) (x2 : Int32) h)))) : Int32) (wX12_lineOf b0 (x1 : Int32) (x2 : Int32) h)) (b0 + 26) (Int32.toNatClampNeg x2))) + (ea_i (wX12_comesTo b0 (x2 : Int32) ((ea_i (wX12_lineOf b0 (x1 : Int32) (x2 : Int32) h) (b0 + 30) (Int32.toNatClampNeg (((25 : Int32) * x2) + (vX12_lineOf b0 (x1 : Int32) (x2 : Int32) h)))) : Int32) ((ea_i (wX12_lineOf b0 (x1 : Int32) (x2 : Int32) h) (b0 + 31) (Int32.toNatClampNeg (((24 : Int32) * x2) + (vX12_lineOf b0 (x1 : Int32) (x2 : Int32) h)))) : Int32) (wX12_lineOf b0 (x1 : Int32) (x2 : Int32) h)) (b0 + 27) (Int32.toNatClampNeg x2))) else (((99999 : Int32) + (ea_i (wX12_comesTo b0 (x2 : Int32) ((ea_i (wX12_lineOf b0 (x1 : Int32) (x2 : Int32) h) (b0 + 30) (Int32.toNatClampNeg (((25 : Int32) * x2) + (vX12_lineOf b0 (x1 : Int32) (x2 : Int32) h)))) : Int32) ((ea_i (wX12_lineOf b0 (x1 : Int32) (x2 : Int32) h) (b0 + 31) (Int32.toNatClampNeg (((24 : Int32) * x2) + (vX12_lineOf b0 (x1 : Int32) (x2 : Int32) h)))) : Int32) (wX12_lineOf b0 (x1 : Int32) (x2 : Int32) h)) (b0 + 23) (Int32.toNatClampNeg x2))) + (ea_i (wX12_comesTo b0 (x2 : Int32) ((ea_i (wX12_lineOf b0 (x1 : Int32) (x2 : Int32) h) (b0 + 30) (Int32.toNatClampNeg (((25 : Int32) * x2) + (vX12_lineOf b0 (x1 : Int32) (x2 : Int32) h)))) : Int32) ((ea_i (wX12_lineOf b0 (x1 : Int32) (x2 : Int32) h) (b0 + 31) (Int32.toNatClampNeg (((24 : Int32) * x2) + (vX12_lineOf b0 (x1 : Int32) (x2 : Int32) h)))) : Int32) (wX12_lineOf b0 (x1 : Int32) (x2 : Int32) h)) (b0 + 26) (Int32.toNatClampNeg x2)))) else (if (ea_i (wX12_comesTo b0 (x2 : Int32) ((ea_i (wX12_lineOf b0 (x1 : Int32) (x2 : Int32) h) (b0 + 30) (Int32.toNatClampNeg (((25 : Int32) * x2) + (vX12_lineOf b0 (x1 : Int32) (x2 : Int32) h)))) : Int32) ((ea_i (wX12_lineOf b0 (x1 : Int32) (x2 : Int32) h) (b0 + 31) (Int32.toNatClampNeg (((24 : Int32) * x2) + (vX12_lineOf b0 (x1 : Int32) (x2 : Int32) h)))) : Int32) (wX12_lineOf b0 (x1 : Int32) (x2 : Int32) h)) (b0 + 38) (Int32.toNatClampNeg x1)) = (4 : Int32) then (((99999 : Int32) + (ea_i (wX12_comesTo b0 (x2 : Int32) ((ea_i (wX12_lineOf b0 (x1 : Int32) (x2 : Int32) h) (b0 + 30) (Int32.toNatClampNeg (((25 : Int32) * x2) + (vX12_lineOf b0 (x1 : Int32) (x2 : Int32) h)))) : Int32) ((ea_i (wX12_lineOf b0 (x1 : Int32) (x2 : Int32) h) (b0 + 31) (Int32.toNatClampNeg (((24 : Int32) * x2) + (vX12_lineOf b0 (x1 : Int32) (x2 : Int32) h)))) : Int32) (wX12_lineOf b0 (x1 : Int32) (x2 : Int32) h)) (b0 + 23) (Int32.toNatClampNeg x2))) + (ea_i (wX12_comesTo b0 (x2 : Int32) ((ea_i (wX12_lineOf b0 (x1 : Int32) (x2 : Int32) h) (b0 + 30) (Int32.toNatClampNeg (((25 : Int32) * x2) + (vX12_lineOf b0 (x1 : Int32) (x2 : Int32) h)))) : Int32) ((ea_i (wX12_lineOf b0 (x1 : Int32) (x2 : Int32) h) (b0 + 31) (Int32.toNatClampNeg (((24 : Int32) * x2) + (vX12_lineOf b0 (x1 : Int32) (x2 : Int32) h)))) : Int32) (wX12_lineOf b0 (x1 : Int32) (x2 : Int32) h)) (b0 + 27) (Int32.toNatClampNeg x2))) else ((99999 : Int32) + (ea_i (wX12_comesTo b0 (x2 : Int32) ((ea_i (wX12_lineOf b0 (x1 : Int32) (x2 : Int32) h) (b0 + 30) (Int32.toNatClampNeg (((25 : Int32) * x2) + (vX12_lineOf b0 (x1 : Int32) (x2 : Int32) h)))) : Int32) ((ea_i (wX12_lineOf b0 (x1 : Int32) (x2 : Int32) h) (b0 + 31) (Int32.toNatClampNeg (((24 : Int32) * x2) + (vX12_lineOf b0 (x1 : Int32) (x2 : Int32) h)))) : Int32) (wX12_lineOf b0 (x1 : Int32) (x2 : Int32) h)) (b0 + 23) (Int32.toNatClampNeg x2))))))) else (if ((ea_i (wX12_comesTo b0 (x2 : Int32) ((ea_i (wX12_lineOf b0 (x1 : Int32) (x2 : Int32) h) (b0 + 30) (Int32.toNatClampNeg (((25 : Int32) * x2) + (vX12_lineOf b0 (x1 : Int32) (x2 : Int32) h)))) : Int32) ((ea_i (wX12_lineOf b0 (x1 : Int32) (x2 : Int32) h) (b0 + 31) (Int32.toNatClampNeg (((24 : Int32) * x2) + (vX12_lineOf b0 (x1 : Int32) (x2 : Int32) h)))) : Int32) (wX12_lineOf b0 (x1 : Int32) (x2 : Int32) h)) (b0 + 44) (Int32.toNatClampNeg x1)) - (ea_i (wX12_comesTo b0 (x2 : Int32) ((ea_i (wX12_lineOf b0 (x1 : Int32) (x2 : Int32) h) (b0 + 30) (Int32.toNatClampNeg (((25 : Int32) * x2) + (vX12_lineOf b0 (x1 : Int32) (x2 : Int32) h)))) : Int32) ((ea_i (wX12_lineOf b0 (x1 : Int32) (x2 : Int32) h) (b0 + 31) (Int32.toNatClampNeg (((24 : Int32) * x2) + (vX12_lineOf b0 (x1 : Int32) (x2 : Int32) h)))) : Int32) (wX12_lineOf b0 (x1 : Int32) (x2 : Int32) h)) (b0 + 44) (Int32.toNatClampNeg x1)) / (1440 : Int32) * (1440 : Int32)) ≤ (ea_i (wX12_comesTo b0 (x2 : Int32) ((ea_i (wX12_lineOf b0 (x1 : Int32) (x2 : Int32) h) (b0 + 30) (Int32.toNatClampNeg (((25 : Int32) * x2) + (vX12_lineOf b0 (x1 : Int32) (x2 : Int32) h)))) : Int32) ((ea_i (wX12_lineOf b0 (x1 : Int32) (x2 : Int32) h) (b0 + 31) (Int32.toNatClampNeg (((24 : Int32) * x2) + (vX12_lineOf b0 (x1 : Int32) (x2 : Int32) h)))) : Int32) (wX12_lineOf b0 (x1 : Int32) (x2 : Int32) h)) (b0 + 24) (Int32.toNatClampNeg x2)) then (if (ea_i (wX12_comesTo b0 (x2 : Int32) ((ea_i (wX12_lineOf b0 (x1 : Int32) (x2 : Int32) h) (b0 + 30) (Int32.toNatClampNeg (((25 : Int32) * x2) + (vX12_lineOf b0 (x1 : Int32) (x2 : Int32) h)))) : Int32) ((ea_i (wX12_lineOf b0 (x1 : Int32) (x2 : Int32) h) (b0 + 31) (Int32.toNatClampNeg (((24 : Int32) * x2) + (vX12_lineOf b0 (x1 : Int32) (x2 : Int32) h)))) : Int32) (wX12_lineOf b0 (x1 : Int32) (x2 : Int32) h)) (b0 + 38) (Int32.toNatClampNeg x1)) = (3 : Int32) then (if (ea_i (wX12_comesTo b0 (x2 : Int32) ((ea_i (wX12_lineOf b0 (x1 : Int32) (x2 : Int32) h) (b0 + 30) (Int32.toNatClampNeg (((25 : Int32) * x2) + (vX12_lineOf b0 (x1 : Int32) (x2 : Int32) h)))) : Int32) ((ea_i (wX12_lineOf b0 (x1 : Int32) (x2 : Int32) h) (b0 + 31) (Int32.toNatClampNeg (((24 : Int32) * x2) + (vX12_lineOf b0 (x1 : Int32) (x2 : Int32) h)))) : Int32) (wX12_lineOf b0 (x1 : Int32) (x2 : Int32) h)) (b0 + 38) (Int32.toNatClampNeg x1)) = (4 : Int32) then (((0 : Int32) + (ea_i (wX12_comesTo b0 (x2 : Int32) ((ea_i (wX12_lineOf b0 (x1 : Int32) (x2 : Int32) h) (b0 + 30) (Int32.toNatClampNeg (((25 : Int32) * x2) + (vX12_lineOf b0 (x1 : Int32) (x2 : Int32) h)))) : Int32) ((ea_i (wX12_lineOf b0 (x1 : Int32) (x2 : Int32) h) (b0 + 31) (Int32.toNatClampNeg (((24 : Int32) * x2) + (vX12_lineOf b0 (x1 : Int32) (x2 : Int32) h)))) : Int32) (wX12_lineOf b0 (x1 : Int32) (x2 : Int32) h)) (b0 + 26) (Int32.toNatClampNeg x2))) + (ea_i (wX12_comesTo b0 (x2 : Int32) ((ea_i (wX12_lineOf b0 (x1 : Int32) (x2 : Int32) h) (b0 + 30) (Int32.toNatClampNeg (((25 : Int32) * x2) + (vX12_lineOf b0 (x1 : Int32) (x2 : Int32) h)))) : Int32) ((ea_i (wX12_lineOf b0 (x1 : Int32) (x2 : Int32) h) (b0 + 31) (Int32.toNatClampNeg (((24 : Int32) * x2) + (vX12_lineOf b0 (x1 : Int32) (x2 : Int32) h)))) : Int32) (wX12_lineOf b0 (x1 : Int32) (x2 : Int32) h)) (b0 + 27) (Int32.toNatClampNeg x2))) else ((0 : Int32) + (ea_i (wX12_comesTo b0 (x2 : Int32) ((ea_i (wX12_lineOf b0 (x1 : Int32) (x2 : Int32) h) (b0 + 30) (Int32.toNatClampNeg (((25 : Int32) * x2) + (vX12_lineOf b0 (x1 : Int32) (x2 : Int32) h)))) : Int32) ((ea_i (wX12_lineOf b0 (x1 : Int32) (x2 : Int32) h) (b0 + 31) (Int32.toNatClampNeg (((24 : Int32) * x2) + (vX12_lineOf b0 (x1 : Int32) (x2 : Int32) h)))) : Int32) (wX12_lineOf b0 (x1 : Int32) (x2 : Int32) h)) (b0 + 26) (Int32.toNatClampNeg x2)))) else (if (ea_i (wX12_comesTo b0 (x2 : Int32) ((ea_i (wX12_lineOf b0 (x1 : Int32) (x2 : Int32) h) (b0 + 30) (Int32.toNatClampNeg (((25 : Int32) * x2) + (vX12_lineOf b0 (x1 : Int32) (x2 : Int32) h)))) : Int32) ((ea_i (wX12_lineOf b0 (x1 : Int32) (x2 : Int32) h) (b0 + 31) (Int32.toNatClampNeg (((24 : Int32) * x2) + (vX12_lineOf b0 (x1 : Int32) (x2 : Int32) h)))) : Int32) (wX12_lineOf b0 (x1 : Int32) (x2 : Int32) h)) (b0 + 38) (Int32.toNatClampNeg x1)) = (4 : Int32) then ((0 : Int32) + (ea_i (wX12_comesTo b0 (x2 : Int32) ((ea_i (wX12_lineOf b0 (x1 : Int32) (x2 : Int32) h) (b0 + 30) (Int32.toNatClampNeg (((25 : Int32) * x2) + (vX12_lineOf b0 (x1 : Int32) (x2 : Int32) h)))) : Int32) ((ea_i (wX12_lineOf b0 (x1 : Int32) (x2 : Int32) h) (b0 + 31) (Int32.toNatClampNeg (((24 : Int32) * x2) + (vX12_lineOf b0 (x1 : Int32) (x2 : Int32) h)))) : Int32) (wX12_lineOf b0 (x1 : Int32) (x2 : Int32) h)) (b0 + 27) (Int32.toNatClampNeg x2))) else (0 : Int32))) else (if (ea_i (wX12_comesTo b0 (x2 : Int32) ((ea_i (wX12_lineOf b0 (x1 : Int32) (x2 : Int32) h) (b0 + 30) (Int32.toNatClampNeg (((25 : Int32) * x2) + (vX12_lineOf b0 (x1 : Int32) (x2 : Int32) h)))) : Int32) ((ea_i (wX12_lineOf b0 (x1 : Int32) (x2 : Int32) h) (b0 + 31) (Int32.toNatClampNeg (((24 : Int32) * x2) + (vX12_lineOf b0 (x1 : Int32) (x2 : Int32) h)))) : Int32) (wX12_lineOf b0 (x1 : Int32) (x2 : Int32) h)) (b0 + 38) (Int32.toNatClampNeg x1)) = (3 : Int32) then (if (ea_i (wX12_comesTo b0 (x2 : Int32) ((ea_i (wX12_lineOf b0 (x1 : Int32) (x2 : Int32) h) (b0 + 30) (Int32.toNatClampNeg (((25 : Int32) * x2) + (vX12_lineOf b0 (x1 : Int32) (x2 : Int32) h)))) : Int32) ((ea_i (wX12_lineOf b0 (x1 : Int32) (x2 : Int32) h) (b0 + 31) (Int32.toNatClampNeg (((24 : Int32) * x2) + (vX12_lineOf b0 (x1 : Int32) (x2 : Int32) h)))) : Int32) (wX12_lineOf b0 (x1 : Int32) (x2 : Int32) h)) (b0 + 38) (Int32.toNatClampNeg x1)) = (4 : Int32) then ((((0 : Int32) + (ea_i (wX12_comesTo b0 (x2 : Int32) ((ea_i (wX12_lineOf b0 (x1 : Int32) (x2 : Int32) h) (b0 + 30) (Int32.toNatClampNeg (((25 : Int32) * x2) + (vX12_lineOf b0 (x1 : Int32) (x2 : Int32) h)))) : Int32) ((ea_i (wX12_lineOf b0 (x1 : Int32) (x2 : Int32) h) (b0 + 31) (Int32.toNatClampNeg (((24 : Int32) * x2) + (vX12_lineOf b0 (x1 : Int32) (x2 : Int32) h)))) : Int32) (wX12_lineOf b0 (x1 : Int32) (x2 : Int32) h)) (b0 + 23) (Int32.toNatClampNeg x2))) + (ea_i (wX12_comesTo b0 (x2 : Int32) ((ea_i (wX12_lineOf b0 (x1 : Int32) (x2 : Int32) h) (b0 + 30) (Int32.toNatClampNeg (((25 : Int32) * x2) + (vX12_lineOf b0 (x1 : Int32) (x2 : Int32) h)))) : Int32) ((ea_i (wX12_lineOf b0 (x1 : Int32) (x2 : Int32) h) (b0 + 31) (Int32.toNatClampNeg (((24 : Int32) * x2) + (vX12_lineOf b0 (x1 : Int32) (x2 : Int32) h)))) : Int32) (wX12_lineOf b0 (x1 : Int32) (x2 : Int32) h)) (b0 + 26) (Int32.toNatClampNeg x2))) + (ea_i (wX12_comesTo b0 (x2 : Int32) ((ea_i (wX12_lineOf b0 (x1 : Int32) (x2 : Int32) h) (b0 + 30) (Int32.toNatClampNeg (((25 : Int32) * x2) + (vX12_lineOf b0 (x1 : Int32) (x2 : Int32) h)))) : Int32) ((ea_i (wX12_lineOf b0 (x1 : Int32) (x2 : Int32) h) (b0 + 31) (Int32.toNatClampNeg (((24 : Int32) * x2) + (vX12_lineOf b0 (x1 : Int32) (x2 : Int32) h)))) : Int32) (wX12_lineOf b0 (x1 : Int32) (x2 : Int32) h)) (b0 + 27) (Int32.toNatClampNeg x2))) else (((0 : Int32) + (ea_i (wX12_comesTo b0 (x2 : Int32) ((ea_i (wX12_lineOf b0 (x1 : Int32) (x2 : Int32) h) (b0 + 30) (Int32.toNatClampNeg (((25 : Int32) * x2) + (vX12_lineOf b0 (x1 : Int32) (x2 : Int32) h)))) : Int32) ((ea_i (wX12_lineOf b0 (x1 : Int32) (x2 : Int32) h) (b0 + 31) (Int32.toNatClampNeg (((24 : Int32) * x2) + (vX12_lineOf b0 (x1 : Int32) (x2 : Int32) h)))) : Int32) (wX12_lineOf b0 (x1 : Int32) (x2 : Int32) h)) (b0 + 23) (Int32.toNatClampNeg x2))) + (ea_i (wX12_comesTo b0 (x2 : Int32) ((ea_i (wX12_lineOf b0 (x1 : Int32) (x2 : Int32) h) (b0 + 30) (Int32.toNatClampNeg (((25 : Int32) * x2) + (vX12_lineOf b0 (x1 : Int32) (x2 : Int32) h)))) : Int32) ((ea_i (wX12_lineOf b0 (x1 : Int32) (x2 : Int32) h) (b0 + 31) (Int32.toNatClampNeg (((24 : Int32) * x2) + (vX12_lineOf b0 (x1 : Int32) (x2 : Int32) h)))) : Int32) (wX12_lineOf b0 (x1 : Int32) (x2 : Int32) h)) (b0 + 26) (Int32.toNatClampNeg x2)))) else (if (ea_i (wX12_comesTo b0 (x2 : Int32) ((ea_i (wX12_lineOf b0 (x1 : Int32) (x2 : Int32) h) (b0 + 30) (Int32.toNatClampNeg (((25 : Int32) * x2) + (vX12_lineOf b0 (x1 : Int32) (x2 : Int32) h)))) : Int32) ((ea_i (wX12_lineOf b0 (x1 : Int32) (x2 : Int32) h) (b0 + 31) (Int32.toNatClampNeg (((24 : Int32) * x2) + (vX12_lineOf b0 (x1 : Int32) (x2 : Int32) h)))) : Int32) (wX12_lineOf b0 (x1 : Int32) (x2 : Int32) h)) (b0 + 38) (Int32.toNatClampNeg x1)) = (4 : Int32) then (((0 : Int32) + (ea_i (wX12_comesTo b0 (x2 : Int32) ((ea_i (wX12_lineOf b0 (x1 : Int32) (x2 : Int32) h) (b0 + 30) (Int32.toNatClampNeg (((25 : Int32) * x2) + (vX12_lineOf b0 (x1 : Int32) (x2 : Int32) h)))) : Int32) ((ea_i (wX12_lineOf b0 (x1 : Int32) (x2 : Int32) h) (b0 + 31) (Int32.toNatClampNeg (((24 : Int32) * x2) + (vX12_lineOf b0 (x1 : Int32) (x2 : Int32) h)))) : Int32) (wX12_lineOf b0 (x1 : Int32) (x2 : Int32) h)) (b0 + 23) (Int32.toNatClampNeg x2))) + (ea_i (wX12_comesTo b0 (x2 : Int32) ((ea_i (wX12_lineOf b0 (x1 : Int32) (x2 : Int32) h) (b0 + 30) (Int32.toNatClampNeg (((25 : Int32) * x2) + (vX12_lineOf b0 (x1 : Int32) (x2 : Int32) h)))) : Int32) ((ea_i (wX12_lineOf b0 (x1 : Int32) (x2 : Int32) h) (b0 + 31) (Int32.toNatClampNeg (((24 : Int32) * x2) + (vX12_lineOf b0 (x1 : Int32) (x2 : Int32) h)))) : Int32) (wX12_lineOf b0 (x1 : Int32) (x2 : Int32) h)) (b0 + 27) (Int32.toNatClampNeg x2))) else ((0 : Int32) + (ea_i (wX12_comesTo b0 (x2 : Int32) ((ea_i (wX12_lineOf b0 (x1 : Int32) (x2 : Int32) h) (b0 + 30) (Int32.toNatClampNeg (((25 : Int32) * x2) + (vX12_lineOf b0 (x1 : Int32) (x2 : Int32) h)))) : Int32) ((ea_i (wX12_lineOf b0 (x1 : Int32) (x2 : Int32) h) (b0 + 31) (Int32.toNatClampNeg (((24 : Int32) * x2) + (vX12_lineOf b0 (x1 : Int32) (x2 : Int32) h)))) : Int32) (wX12_lineOf b0 (x1 : Int32) (x2 : Int32) h)) (b0 + 23) (Int32.toNatClampNeg x2)))))))) else (0 : Int32))
noncomputable def wX12_chargeBy (b0 : Nat) (x1 : Int32) (x2 : Int32) (h : ea_H) : ea_H := (if (vX12_isFree b0 (x1 : Int32) (x2 : Int32) h) = (0 : Int32) then (if (vX12_lineOf b0 (x1 : Int32) (x2 : Int32) h) = ((-1) : Int32) then (wX12_lineOf b0 (x1 : Int32) (x2 : Int32) h) else (wX12_comesTo b0 (x2 : Int32) ((ea_i (wX12_lineOf b0 (x1 : Int32) (x2 : Int32) h) (b0 + 30) (Int32.toNatClampNeg (((25 : Int32) * x2) + (vX12_lineOf b0 (x1 : Int32) (x2 : Int32) h)))) : Int32) ((ea_i (wX12_lineOf b0 (x1 : Int32) (x2 : Int32) h) (b0 + 31) (Int32.toNatClampNeg (((24 : Int32) * x2) + (vX12_lineOf b0 (x1 : Int32) (x2 : Int32) h)))) : Int32) (wX12_lineOf b0 (x1 : Int32) (x2 : Int32) h))) else h)
def okX12_chargeBy (b0 : Nat) (x1 : Int32) (x2 : Int32) (h : ea_H) : Prop := (okX12_isFree b0 (x1 : Int32) (x2 : Int32) h) ∧ (((vX12_isFree b0 (x1 : Int32) (x2 : Int32) h) = (0 : Int32) → (okX12_lineOf b0 (x1 : Int32) (x2 : Int32) h) ∧ (((vX12_lineOf b0 (x1 : Int32) (x2 : Int32) h) = ((-1) : Int32) → ((0 : Int32) ≤ (0 : Int32) → ((0 : Int32) ≤ (99999 : Int32) → vp_in x1 120 ∧ (vp_in x2 6 ∧ ((((ea_i (wX12_lineOf b0 (x1 : Int32) (x2 : Int32) h) (b0 + 44) (Int32.toNatClampNeg x1)) - (ea_i (wX12_lineOf b0 (x1 : Int32) (x2 : Int32) h) (b0 + 44) (Int32.toNatClampNeg x1)) / (1440 : Int32) * (1440 : Int32)) ≤ (ea_i (wX12_lineOf b0 (x1 : Int32) (x2 : Int32) h) (b0 + 24) (Int32.toNatClampNeg x2)) → vp_in x1 120 ∧ (((ea_i (wX12_lineOf b0 (x1 : Int32) (x2 : Int32) h) (b0 + 38) (Int32.toNatClampNeg x1)) = (3 : Int32) → vp_in x2 6 ∧ (vp_in x1 120 ∧ (((ea_i (wX12_lineOf b0 (x1 : Int32) (x2 : Int32) h) (b0 + 38) (Int32.toNatClampNeg x1)) = (4 : Int32) → vp_in x2 6) ∧ (¬ (ea_i (wX12_lineOf b0 (x1 : Int32) (x2 : Int32) h) (b0 + 38) (Int32.toNatClampNeg x1)) = (4 : Int32) → True)))) ∧ (¬ (ea_i (wX12_lineOf b0 (x1 : Int32) (x2 : Int32) h) (b0 + 38) (Int32.toNatClampNeg x1)) = (3 : Int32) → vp_in x1 120 ∧ (((ea_i (wX12_lineOf b0 (x1 : Int32) (x2 : Int32) h) (b0 + 38) (Int32.toNatClampNeg x1)) = (4 : Int32) → vp_in x2 6) ∧ (¬ (ea_i (wX12_lineOf b0 (x1 : Int32) (x2 : Int32) h) (b0 + 38) (Int32.toNatClampNeg x1)) = (4 : Int32) → True))))) ∧ (¬ ((ea_i (wX12_lineOf b0 (x1 : Int32) (x2 : Int32) h) (b0 + 44) (Int32.toNatClampNeg x1)) - (ea_i (wX12_lineOf b0 (x1 : Int32) (x2 : Int32) h) (b0 + 44) (Int32.toNatClampNeg x1)) / (1440 : Int32) * (1440 : Int32)) ≤ (ea_i (wX12_lineOf b0 (x1 : Int32) (x2 : Int32) h) (b0 + 24) (Int32.toNatClampNeg x2)) → vp_in x2 6 ∧ (vp_in x1 120 ∧ (((ea_i (wX12_lineOf b0 (x1 : Int32) (x2 : Int32) h) (b0 + 38) (Int32.toNatClampNeg x1)) = (3 : Int32) → vp_in x2 6 ∧ (vp_in x1 120 ∧ (((ea_i (wX12_lineOf b0 (x1 : Int32) (x2 : Int32) h) (b0 + 38) (Int32.toNatClampNeg x1)) = (4 : Int32) → vp_in x2 6) ∧ (¬ (ea_i (wX12_lineOf b0 (x1 : Int32) (x2 : Int32) h) (b0 + 38) (Int32.toNatClampNeg x1)) = (4 : Int32) → True)))) ∧ (¬ (ea_i (wX12_lineOf b0 (x1 : Int32) (x2 : Int32) h) (b0 + 38) (Int32.toNatClampNeg x1)) = (3 : Int32) → vp_in x1 120 ∧ (((ea_i (wX12_lineOf b0 (x1 : Int32) (x2 : Int32) h) (b0 + 38) (Int32.toNatClampNeg x1)) = (4 : Int32) → vp_in x2 6) ∧ (¬ (ea_i (wX12_lineOf b0 (x1 : Int32) (x2 : Int32) h) (b0 + 38) (Int32.toNatClampNeg x1)) = (4 : Int32) → True))))))))) ∧ (¬ (0 : Int32) ≤ (99999 : Int32) → vp_in x1 120 ∧ (vp_in x2 6 ∧ ((((ea_i (wX12_lineOf b0 (x1 : Int32) (x2 : Int32) h) (b0 + 44) (Int32.toNatClampNeg x1)) - (ea_i (wX12_lineOf b0 (x1 : Int32) (x2 : Int32) h) (b0 + 44) (Int32.toNatClampNeg x1)) / (1440 : Int32) * (1440 : Int32)) ≤ (ea_i (wX12_lineOf b0 (x1 : Int32) (x2 : Int32) h) (b0 + 24) (Int32.toNatClampNeg x2)) → vp_in x1 120 ∧ (((ea_i (wX12_lineOf b0 (x1 : Int32) (x2 : Int32) h) (b0 + 38) (Int32.toNatClampNeg x1)) = (3 : Int32) → vp_in x2 6 ∧ (vp_in x1 120 ∧ (((ea_i (wX12_lineOf b0 (x1 : Int32) (x2 : Int32) h) (b0 + 38) (Int32.toNatClampNeg x1)) = (4 : Int32) → vp_in x2 6) ∧ (¬ (ea_i (wX12_lineOf b0 (x1 : Int32) (x2 : Int32) h) (b0 + 38) (Int32.toNatClampNeg x1)) = (4 : Int32) → True)))) ∧ (¬ (ea_i (wX12_lineOf b0 (x1 : Int32) (x2 : Int32) h) (b0 + 38) (Int32.toNatClampNeg x1)) = (3 : Int32) → vp_in x1 120 ∧ (((ea_i (wX12_lineOf b0 (x1 : Int32) (x2 : Int32) h) (b0 + 38) (Int32.toNatClampNeg x1)) = (4 : Int32) → vp_in x2 6) ∧ (¬ (ea_i (wX12_lineOf b0 (x1 : Int32) (x2 : Int32) h) (b0 + 38) (Int32.toNatClampNeg x1)) = (4 : Int32) → True))))) ∧ (¬ ((ea_i (wX12_lineOf b0 (x1 : Int32) (x2 : Int32) h) (b0 + 44) (Int32.toNatClampNeg x1)) - (ea_i (wX12_lineOf b0 (x1 : Int32) (x2 : Int32) h) (b0 + 44) (Int32.toNatClampNeg x1)) / (1440 : Int32) * (1440 : Int32)) ≤ (ea_i (wX12_lineOf b0 (x1 : Int32) (x2 : Int32) h) (b0 + 24) (Int32.toNatClampNeg x2)) → vp_in x2 6 ∧ (vp_in x1 120 ∧ (((ea_i (wX12_lineOf b0 (x1 : Int32) (x2 : Int32) h) (b0 + 38) (Int32.toNatClampNeg x1)) = (3 : Int32) → vp_in x2 6 ∧ (vp_in x1 120 ∧ (((ea_i (wX12_lineOf b0 (x1 : Int32) (x2 : Int32) h) (b0 + 38) (Int32.toNatClampNeg x1)) = (4 : Int32) → vp_in x2 6) ∧ (¬ (ea_i (wX12_lineOf b0 (x1 : Int32) (x2 : Int32) h) (b0 + 38) (Int32.toNatClampNeg x1)) = (4 : Int32) → True)))) ∧ (¬ (ea_i (wX12_lineOf b0 (x1 : Int32) (x2 : Int32) h) (b0 + 38) (Int32.toNatClampNeg x1)) = (3 : Int32) → vp_in x1 120 ∧ (((ea_i (wX12_lineOf b0 (x1 : Int32) (x2 : Int32) h) (b0 + 38) (Int32.toNatClampNeg x1)) = (4 : Int32) → vp_in x2 6) ∧ (¬ (ea_i (wX12_lineOf b0 (x1 : Int32) (x2 : Int32) h) (b0 + 38) (Int32.toNatClampNeg x1)) = (4 : Int32) → True)))))))))) ∧ (¬ (0 : Int32) ≤ (0 : Int32) → vp_in x1 120 ∧ (vp_in x2 6 ∧ ((((ea_i (wX12_lineOf b0 (x1 : Int32) (x2 : Int32) h) (b0 + 44) (Int32.toNatClampNeg x1)) - (ea_i (wX12_lineOf b0 (x1 : Int32) (x2 : Int32) h) (b0 + 44) (Int32.toNatClampNeg x1)) / (1440 : Int32) * (1440 : Int32)) ≤ (ea_i (wX12_lineOf b0 (x1 : Int32) (x2 : Int32) h) (b0 + 24) (Int32.toNatClampNeg x2)) → vp_in x1 120 ∧ (((ea_i (wX12_lineOf b0 (x1 : Int32) (x2 : Int32) h) (b0 + 38) (Int32.toNatClampNeg x1)) = (3 : Int32) → vp_in x2 6 ∧ (vp_in x1 120 ∧ (((ea_i (wX12_lineOf b0 (x1 : Int32) (x2 : Int32) h) (b0 + 38) (Int32.toNatClampNeg x1)) = (4 : Int32) → vp_in x2 6) ∧ (¬ (ea_i (wX12_lineOf b0 (x1 : Int32) (x2 : Int32) h) (b0 + 38) (Int32.toNatClampNeg x1)) = (4 : Int32) → True)))) ∧ (¬ (ea_i (wX12_lineOf b0 (x1 : Int32) (x2 : Int32) h) (b0 + 38) (Int32.toNatClampNeg x1)) = (3 : Int32) → vp_in x1 120 ∧ (((ea_i (wX12_lineOf b0 (x1 : Int32) (x2 : Int32) h) (b0 + 38) (Int32.toNatClampNeg x1)) = (4 : Int32) → vp_in x2 6) ∧ (¬ (ea_i (wX12_lineOf b0 (x1 : Int32) (x2 : Int32) h) (b0 + 38) (Int32.toNatClampNeg x1)) = (4 : Int32) → True))))) ∧ (¬ ((ea_i (wX12_lineOf b0 (x1 : Int32) (x2 : Int32) h) (b0 + 44) (Int32.toNatClampNeg x1)) - (ea_i (wX12_lineOf b0 (x1 : Int32) (x2 : Int32) h) (b0 + 44) (Int32.toNatClampNeg x1)) / (1440 : Int32) * (1440 : Int32)) ≤ (ea_i (wX12_lineOf b0 (x1 : Int32) (x2 : Int32) h) (b0 + 24) (Int32.toNatClampNeg x2)) → vp_in x2 6 ∧ (vp_in x1 120 ∧ (((ea_i (wX12_lineOf b0 (x1 : Int32) (x2 : Int32) h) (b0 + 38) (Int32.toNatClampNeg x1)) = (3 : Int32) → vp_in x2 6 ∧ (vp_in x1 120 ∧ (((ea_i (wX12_lineOf b0 (x1 : Int32) (x2 : Int32) h) (b0 + 38) (Int32.toNatClampNeg x1)) = (4 : Int32) → vp_in x2 6) ∧ (¬ (ea_i (wX12_lineOf b0 (x1 : Int32) (x2 : Int32) h) (b0 + 38) (Int32.toNatClampNeg x1)) = (4 : Int32) → True)))) ∧ (¬ (ea_i (wX12_lineOf b0 (x1 : Int32) (x2 : Int32) h) (b0 + 38) (Int32.toNatClampNeg x1)) = (3 : Int32) → vp_in x1 120 ∧ (((ea_i (wX12_lineOf b0 (x1 : Int32) (x2 : Int32) h) (b0 + 38) (Int32.toNatClampNeg x1)) = (4 : Int32) → vp_in x2 6) ∧ (¬ (ea_i (wX12_lineOf b0 (x1 : Int32) (x2 : Int32) h) (b0 + 38) (Int32.toNatClampNeg x1)) = (4 : Int32) → True)))))))))) ∧ (¬ (vX12_lineOf b0 (x1 : Int32) (x2 : Int32) h) = ((-1) : Int32) → vp_in (((25 : Int32) * x2) + (vX12_lineOf b0 (x1 : Int32) (x2 : Int32) h)) 150 ∧ (vp_in (((24 : Int32) * x2) + (vX12_lineOf b0 (x1 : Int32) (x2 : Int32) h)) 144 ∧ ((okX12_comesTo b0 (x2 : Int32) ((ea_i (wX12_lineOf b0 (x1 : Int32) (x2 : Int32) h) (b0 + 30) (Int32.toNatClampNeg (((25 : Int32) * x2) + (vX12_lineOf b0 (x1 : Int32) (x2 : Int32) h)))) : Int32) ((ea_i (wX12_lineOf b0 (x1 : Int32) (x2 : Int32) h) (b0 + 31) (Int32.toNatClampNeg (((24 : Int32) * x2) + (vX12_lineOf b0 (x1 : Int32) (x2 : Int32) h)))) : Int32) (wX12_lineOf b0 (x1 : Int32) (x2 : Int32) h)) ∧ (((0 : Int32) ≤ (vX12_comesTo b0 (x2 : Int32) ((ea_i (wX12_lineOf b0 (x1 : Int32) (x2 : Int32) h) (b0 + 30) (Int32.toNatClampNeg (((25 : Int32) * x2) + (vX12_lineOf b0 (x1 : Int32) (x2 : Int32) h)))) : Int32) ((ea_i (wX12_lineOf b0 (x1 : Int32) (x2 : Int32) h) (b0 + 31) (Int32.toNatClampNeg (((24 : Int32) * x2) + (vX12_lineOf b0 (x1 : Int32) (x2 : Int32) h)))) : Int32) (wX12_lineOf b0 (x1 : Int32) (x2 : Int32) h)) → ((vX12_comesTo b0 (x2 : Int32) ((ea_i (wX12_lineOf b0 (x1 : Int32) (x2 : Int32) h) (b0 + 30) (Int32.toNatClampNeg (((25 : Int32) * x2) + (vX12_lineOf b0 (x1 : Int32) (x2 : Int32) h)))) : Int32) ((ea_i (wX12_lineOf b0 (x1 : Int32) (x2 : Int32) h) (b0 + 31) (Int32.toNatClampNeg (((24 : Int32) * x2) + (vX12_lineOf b0 (x1 : Int32) (x2 : Int32) h)))) : Int32) (wX12_lineOf b0 (x1 : Int32) (x2 : Int32) h)) ≤ (99999 : Int32) → vp_in x1 120 ∧ (vp_in x2 6 ∧ ((((ea_i (wX12_comesTo b0 (x2 : Int32) ((ea_i (wX12_lineOf b0 (x1 : Int32) (x2 : Int32) h) (b0 + 30) (Int32.toNatClampNeg (((25 : Int32) * x2) + (vX12_lineOf b0 (x1 : Int32) (x2 : Int32) h)))) : Int32) ((ea_i (wX12_lineOf b0 (x1 : Int32) (x2 : Int32) h) (b0 + 31) (Int32.toNatClampNeg (((24 : Int32) * x2) + (vX12_lineOf b0 (x1 : Int32) (x2 : Int32) h)))) : Int32) (wX12_lineOf b0 (x1 : Int32) (x2 : Int32) h)) (b0 + 44) (Int32.toNatClampNeg x1)) - (ea_i (wX12_comesTo b0 (x2 : Int32) ((ea_i (wX12_lineOf b0 (x1 : Int32) (x2 : Int32) h) (b0 + 30) (Int32.toNatClampNeg (((25 : Int32) * x2) + (vX12_lineOf b0 (x1 : Int32) (x2 : Int32) h)))) : Int32) ((ea_i (wX12_lineOf b0 (x1 : Int32) (x2 : Int32) h) (b0 + 31) (Int32.toNatClampNeg (((24 : Int32) * x2) + (vX12_lineOf b0 (x1 : Int32) (x2 : Int32) h)))) : Int32) (wX12_lineOf b0 (x1 : Int32) (x2 : Int32) h)) (b0 + 44) (Int32.toNatClampNeg x1)) / (1440 : Int32) * (1440 : Int32)) ≤ (ea_i (wX12_comesTo b0 (x2 : Int32) ((ea_i (wX12_lineOf b0 (x1 : Int32) (x2 : Int32) h) (b0 + 30) (Int32.toNatClampNeg (((25 : Int32) * x2) + (vX12_lineOf b0 (x1 : Int32) (x2 : Int32) h)))) : Int32) ((ea_i (wX12_lineOf b0 (x1 : Int32) (x2 : Int32) h) (b0 + 31) (Int32.toNatClampNeg (((24 : Int32) * x2) + (vX12_lineOf b0 (x1 : Int32) (x2 : Int32) h)))) : Int32) (wX12_lineOf b0 (x1 : Int32) (x2 : Int32) h)) (b0 + 24) (Int32.toNatClampNeg x2)) → vp_in x1 120 ∧ (((ea_i (wX12_comesTo b0 (x2 : Int32) ((ea_i (wX12_lineOf b0 (x1 : Int32) (x2 : Int32) h) (b0 + 30) (Int32.toNatClampNeg (((25 : Int32) * x2) + (vX12_lineOf b0 (x1 : Int32) (x2 : Int32) h)))) : Int32) ((ea_i (wX12_lineOf b0 (x1 : Int32) (x2 : Int32) h) (b0 + 31) (Int32.toNatClampNeg (((24 : Int32) * x2) + (vX12_lineOf b0 (x1 : Int32) (x2 : Int32) h)))) : Int32) (wX12_lineOf b0 (x1 : Int32) (x2 : Int32) h)) (b0 + 38) (Int32.toNatClampNeg x1)) = (3 : Int32) → vp_in x2 6 ∧ (vp_in x1 120 ∧ (((ea_i (wX12_comesTo b0 (x2 : Int32) ((ea_i (wX12_lineOf b0 (x1 : Int32) (x2 : Int32) h) (b0 + 30) (Int32.toNatClampNeg (((25 : Int32) * x2) + (vX12_lineOf b0 (x1 : Int32) (x2 : Int32) h)))) : Int32) ((ea_i (wX12_lineOf b0 (x1 : Int32) (x2 : Int32) h) (b0 + 31) (Int32.toNatClampNeg (((24 : Int32) * x2) + (vX12_lineOf b0 (x1 : Int32) (x2 : Int32) h)))) : Int32) (wX12_lineOf b0 (x1 : Int32) (x2 : Int32) h)) (b0 + 38) (Int32.toNatClampNeg x1)) = (4 : Int32) → vp_in x2 6) ∧ (¬ (ea_i (wX12_comesTo b0 (x2 : Int32) ((ea_i (wX12_lineOf b0 (x1 : Int32) (x2 : Int32) h) (b0 + 30) (Int32.toNatClampNeg (((25 : Int32) * x2) + (vX12_lineOf b0 (x1 : Int32) (x2 : Int32) h)))) : Int32) ((ea_i (wX12_lineOf b0 (x1 : Int32) (x2 : Int32) h) (b0 + 31) (Int32.toNatClampNeg (((24 : Int32) * x2) + (vX12_lineOf b0 (x1 : Int32) (x2 : Int32) h)))) : Int32) (wX12_lineOf b0 (x1 : Int32) (x2 : Int32) h)) (b0 + 38) (Int32.toNatClampNeg x1)) = (4 : Int32) → True)))) ∧ (¬ (ea_i (wX12_comesTo b0 (x2 : Int32) ((ea_i (wX12_lineOf b0 (x1 : Int32) (x2 : Int32) h) (b0 + 30) (Int32.toNatClampNeg (((25 : Int32) * x2) + (vX12_lineOf b0 (x1 : Int32) (x2 : Int32) h)))) : Int32) ((ea_i (wX12_lineOf b0 (x1 : Int32) (x2 : Int32) h) (b0 + 31) (Int32.toNatClampNeg (((24 : Int32) * x2) + (vX12_lineOf b0 (x1 : Int32) (x2 : Int32) h)))) : Int32) (wX12_lineOf b0 (x1 : Int32) (x2 : Int32) h)) (b0 + 38) (Int32.toNatClampNeg x1)) = (3 : Int32) → vp_in x1 120 ∧ (((ea_i (wX12_comesTo b0 (x2 : Int32) ((ea_i (wX12_lineOf b0 (x1 : Int32) (x2 : Int32) h) (b0 + 30) (Int32.toNatClampNeg (((25 : Int32) * x2) + (vX12_lineOf b0 (x1 : Int32) (x2 : Int32) h)))) : Int32) ((ea_i (wX12_lineOf b0 (x1 : Int32) (x2 : Int32) h) (b0 + 31) (Int32.toNatClampNeg (((24 : Int32) * x2) + (vX12_lineOf b0 (x1 : Int32) (x2 : Int32) h)))) : Int32) (wX12_lineOf b0 (x1 : Int32) (x2 : Int32) h)) (b0 + 38) (Int32.toNatClampNeg x1)) = (4 : Int32) → vp_in x2 6) ∧ (¬ (ea_i (wX12_comesTo b0 (x2 : Int32) ((ea_i (wX12_lineOf b0 (x1 : Int32) (x2 : Int32) h) (b0 + 30) (Int32.toNatClampNeg (((25 : Int32) * x2) + (vX12_lineOf b0 (x1 : Int32) (x2 : Int32) h)))) : Int32) ((ea_i (wX12_lineOf b0 (x1 : Int32) (x2 : Int32) h) (b0 + 31) (Int32.toNatClampNeg (((24 : Int32) * x2) + (vX12_lineOf b0 (x1 : Int32) (x2 : Int32) h)))) : Int32) (wX12_lineOf b0 (x1 : Int32) (x2 : Int32) h)) (b0 + 38) (Int32.toNatClampNeg x1)) = (4 : Int32) → True))))) ∧ (¬ ((ea_i (wX12_comesTo b0 (x2 : Int32) ((ea_i (wX12_lineOf b0 (x1 : Int32) (x2 : Int32) h) (b0 + 30) (Int32.toNatClampNeg (((25 : Int32) * x2) + (vX12_lineOf b0 (x1 : Int32) (x2 : Int32) h)))) : Int32) ((ea_i (wX12_lineOf b0 (x1 : Int32) (x2 : Int32) h) (b0 + 31) (Int32.toNatClampNeg (((24 : Int32) * x2) + (vX12_lineOf b0 (x1 : Int32) (x2 : Int32) h)))) : Int32) (wX12_lineOf b0 (x1 : Int32) (x2 : Int32) h)) (b0 + 44) (Int32.toNatClampNeg x1)) - (ea_i (wX12_comesTo b0 (x2 : Int32) ((ea_i (wX12_lineOf b0 (x1 : Int32) (x2 : Int32) h) (b0 + 30) (Int32.toNatClampNeg (((25 : Int32) * x2) + (vX12_lineOf b0 (x1 : Int32) (x2 : Int32) h)))) : Int32) ((ea_i (wX12_lineOf b0 (x1 : Int32) (x2 : Int32) h) (b0 + 31) (Int32.toNatClampNeg (((24 : Int32) * x2) + (vX12_lineOf b0 (x1 : Int32) (x2 : Int32) h)))) : Int32) (wX12_lineOf b0 (x1 : Int32) (x2 : Int32) h)) (b0 + 44) (Int32.toNatClampNeg x1)) / (1440 : Int32) * (1440 : Int32)) ≤ (ea_i (wX12_comesTo b0 (x2 : Int32) ((ea_i (wX12_lineOf b0 (x1 : Int32) (x2 : Int32) h) (b0 + 30) (Int32.toNatClampNeg (((25 : Int32) * x2) + (vX12_lineOf b0 (x1 : Int32) (x2 : Int32) h)))) : Int32) ((ea_i (wX12_lineOf b0 (x1 : Int32) (x2 : Int32) h) (b0 + 31) (Int32.toNatClampNeg (((24 : Int32) * x2) + (vX12_lineOf b0 (x1 : Int32) (x2 : Int32) h)))) : Int32) (wX12_lineOf b0 (x1 : Int32) (x2 : Int32) h)) (b0 + 24) (Int32.toNatClampNeg x2)) → vp_in x2 6 ∧ (vp_in x1 120 ∧ (((ea_i (wX12_comesTo b0 (x2 : Int32) ((ea_i (wX12_lineOf b0 (x1 : Int32) (x2 : Int32) h) (b0 + 30) (Int32.toNatClampNeg (((25 : Int32) * x2) + (vX12_lineOf b0 (x1 : Int32) (x2 : Int32) h)))) : Int32) ((ea_i (wX12_lineOf b0 (x1 : Int32) (x2 : Int32) h) (b0 + 31) (Int32.toNatClampNeg (((24 : Int32) * x2) + (vX12_lineOf b0 (x1 : Int32) (x2 : Int32) h)))) : Int32) (wX12_lineOf b0 (x1 : Int32) (x2 : Int32) h)) (b0 + 38) (Int32.toNatClampNeg x1)) = (3 : Int32) → vp_in x2 6 ∧ (vp_in x1 120 ∧ (((ea_i (wX12_comesTo b0 (x2 : Int32) ((ea_i (wX12_lineOf b0 (x1 : Int32) (x2 : Int32) h) (b0 + 30) (Int32.toNatClampNeg (((25 : Int32) * x2) + (vX12_lineOf b0 (x1 : Int32) (x2 : Int32) h)))) : Int32) ((ea_i (wX12_lineOf b0 (x1 : Int32) (x2 : Int32) h) (b0 + 31) (Int32.toNatClampNeg (((24 : Int32) * x2) + (vX12_lineOf b0 (x1 : Int32) (x2 : Int32) h)))) : Int32) (wX12_lineOf b0 (x1 : Int32) (x2 : Int32) h)) (b0 + 38) (Int32.toNatClampNeg x1)) = (4 : Int32) → vp_in x2 6) ∧ (¬ (ea_i (wX12_comesTo b0 (x2 : Int32) ((ea_i (wX12_lineOf b0 (x1 : Int32) (x2 : Int32) h) (b0 + 30) (Int32.toNatClampNeg (((25 : Int32) * x2) + (vX12_lineOf b0 (x1 : Int32) (x2 : Int32) h)))) : Int32) ((ea_i (wX12_lineOf b0 (x1 : Int32) (x2 : Int32) h) (b0 + 31) (Int32.toNatClampNeg (((24 : Int32) * x2) + (vX12_lineOf b0 (x1 : Int32) (x2 : Int32) h)))) : Int32) (wX12_lineOf b0 (x1 : Int32) (x2 : Int32) h)) (b0 + 38) (Int32.toNatClampNeg x1)) = (4 : Int32) → True)))) ∧ (¬ (ea_i (wX12_comesTo b0 (x2 : Int32) ((ea_i (wX12_lineOf b0 (x1 : Int32) (x2 : Int32) h) (b0 + 30) (Int32.toNatClampNeg (((25 : Int32) * x2) + (vX12_lineOf b0 (x1 : Int32) (x2 : Int32) h)))) : Int32) ((ea_i (wX12_lineOf b0 (x1 : Int32) (x2 : Int32) h) (b0 + 31) (Int32.toNatClampNeg (((24 : Int32) * x2) + (vX12_lineOf b0 (x1 : Int32) (x2 : Int32) h)))) : Int32) (wX12_lineOf b0 (x1 : Int32) (x2 : Int32) h)) (b0 + 38) (Int32.toNatClampNeg x1)) = (3 : Int32) → vp_in x1 120 ∧ (((ea_i (wX12_comesTo b0 (x2 : Int32) ((ea_i (wX12_lineOf b0 (x1 : Int32) (x2 : Int32) h) (b0 + 30) (Int32.toNatClampNeg (((25 : Int32) * x2) + (vX12_lineOf b0 (x1 : Int32) (x2 : Int32) h)))) : Int32) ((ea_i (wX12_lineOf b0 (x1 : Int32) (x2 : Int32) h) (b0 + 31) (Int32.toNatClampNeg (((24 : Int32) * x2) + (vX12_lineOf b0 (x1 : Int32) (x2 : Int32) h)))) : Int32) (wX12_lineOf b0 (x1 : Int32) (x2 : Int32) h)) (b0 + 38) (Int32.toNatClampNeg x1)) = (4 : Int32) → vp_in x2 6) ∧ (¬ (ea_i (wX12_comesTo b0 (x2 : Int32) ((ea_i (wX12_lineOf b0 (x1 : Int32) (x2 : Int32) h) (b0 + 30) (Int32.toNatClampNeg (((25 : Int32) * x2) + (vX12_lineOf b0 (x1 : Int32) (x2 : Int32) h)))) : Int32) ((ea_i (wX12_lineOf b0 (x1 : Int32) (x2 : Int32) h) (b0 + 31) (Int32.toNatClampNeg (((24 : Int32) * x2) + (vX12_lineOf b0 (x1 : Int32) (x2 : Int32) h)))) : Int32) (wX12_lineOf b0 (x1 : Int32) (x2 : Int32) h)) (b0 + 38) (Int32.toNatClampNeg x1)) = (4 : Int32) → True))))))))) ∧ (¬ (vX12_comesTo b0 (x2 : Int32) ((ea_i (wX12_lineOf b0 (x1 : Int32) (x2 : Int32) h) (b0 + 30) (Int32.toNatClampNeg (((25 : Int32) * x2) + (vX12_lineOf b0 (x1 : Int32) (x2 : Int32) h)))) : Int32) ((ea_i (wX12_lineOf b0 (x1 : Int32) (x2 : Int32) h) (b0 + 31) (Int32.toNatClampNeg (((24 : Int32) * x2) + (vX12_lineOf b0 (x1 : Int32) (x2 : Int32) h)))) : Int32) (wX12_lineOf b0 (x1 : Int32) (x2 : Int32) h)) ≤ (99999 : Int32) → vp_in x1 120 ∧ (vp_in x2 6 ∧ ((((ea_i (wX12_comesTo b0 (x2 : Int32) ((ea_i (wX12_lineOf b0 (x1 : Int32) (x2 : Int32) h) (b0 + 30) (Int32.toNatClampNeg (((25 : Int32) * x2) + (vX12_lineOf b0 (x1 : Int32) (x2 : Int32) h)))) : Int32) ((ea_i (wX12_lineOf b0 (x1 : Int32) (x2 : Int32) h) (b0 + 31) (Int32.toNatClampNeg (((24 : Int32) * x2) + (vX12_lineOf b0 (x1 : Int32) (x2 : Int32) h)))) : Int32) (wX12_lineOf b0 (x1 : Int32) (x2 : Int32) h)) (b0 + 44) (Int32.toNatClampNeg x1)) - (ea_i (wX12_comesTo b0 (x2 : Int32) ((ea_i (wX12_lineOf b0 (x1 : Int32) (x2 : Int32) h) (b0 + 30) (Int32.toNatClampNeg (((25 : Int32) * x2) + (vX12_lineOf b0 (x1 : Int32) (x2 : Int32) h)))) : Int32) ((ea_i (wX12_lineOf b0 (x1 : Int32) (x2 : Int32) h) (b0 + 31) (Int32.toNatClampNeg (((24 : Int32) * x2) + (vX12_lineOf b0 (x1 : Int32) (x2 : Int32) h)))) : Int32) (wX12_lineOf b0 (x1 : Int32) (x2 : Int32) h)) (b0 + 44) (Int32.toNatClampNeg x1)) / (1440 : Int32) * (1440 : Int32)) ≤ (ea_i (wX12_comesTo b0 (x2 : Int32) ((ea_i (wX12_lineOf b0 (x1 : Int32) (x2 : Int32) h) (b0 + 30) (Int32.toNatClampNeg (((25 : Int32) * x2) + (vX12_lineOf b0 (x1 : Int32) (x2 : Int32) h)))) : Int32) ((ea_i (wX12_lineOf b0 (x1 : Int32) (x2 : Int32) h) (b0 + 31) (Int32.toNatClampNeg (((24 : Int32) * x2) + (vX12_lineOf b0 (x1 : Int32) (x2 : Int32) h)))) : Int32) (wX12_lineOf b0 (x1 : Int32) (x2 : Int32) h)) (b0 + 24) (Int32.toNatClampNeg x2)) → vp_in x1 120 ∧ (((ea_i (wX12_comesTo b0 (x2 : Int32) ((ea_i (wX12_lineOf b0 (x1 : Int32) (x2 : Int32) h) (b0 + 30) (Int32.toNatClampNeg (((25 : Int32) * x2) + (vX12_lineOf b0 (x1 : Int32) (x2 : Int32) h)))) : Int32) ((ea_i (wX12_lineOf b0 (x1 : Int32) (x2 : Int32) h) (b0 + 31) (Int32.toNatClampNeg (((24 : Int32) * x2) + (vX12_lineOf b0 (x1 : Int32) (x2 : Int32) h)))) : Int32) (wX12_lineOf b0 (x1 : Int32) (x2 : Int32) h)) (b0 + 38) (Int32.toNatClampNeg x1)) = (3 : Int32) → vp_in x2 6 ∧ (vp_in x1 120 ∧ (((ea_i (wX12_comesTo b0 (x2 : Int32) ((ea_i (wX12_lineOf b0 (x1 : Int32) (x2 : Int32) h) (b0 + 30) (Int32.toNatClampNeg (((25 : Int32) * x2) + (vX12_lineOf b0 (x1 : Int32) (x2 : Int32) h)))) : Int32) ((ea_i (wX12_lineOf b0 (x1 : Int32) (x2 : Int32) h) (b0 + 31) (Int32.toNatClampNeg (((24 : Int32) * x2) + (vX12_lineOf b0 (x1 : Int32) (x2 : Int32) h)))) : Int32) (wX12_lineOf b0 (x1 : Int32) (x2 : Int32) h)) (b0 + 38) (Int32.toNatClampNeg x1)) = (4 : Int32) → vp_in x2 6) ∧ (¬ (ea_i (wX12_comesTo b0 (x2 : Int32) ((ea_i (wX12_lineOf b0 (x1 : Int32) (x2 : Int32) h) (b0 + 30) (Int32.toNatClampNeg (((25 : Int32) * x2) + (vX12_lineOf b0 (x1 : Int32) (x2 : Int32) h)))) : Int32) ((ea_i (wX12_lineOf b0 (x1 : Int32) (x2 : Int32) h) (b0 + 31) (Int32.toNatClampNeg (((24 : Int32) * x2) + (vX12_lineOf b0 (x1 : Int32) (x2 : Int32) h)))) : Int32) (wX12_lineOf b0 (x1 : Int32) (x2 : Int32) h)) (b0 + 38) (Int32.toNatClampNeg x1)) = (4 : Int32) → True)))) ∧ (¬ (ea_i (wX12_comesTo b0 (x2 : Int32) ((ea_i (wX12_lineOf b0 (x1 : Int32) (x2 : Int32) h) (b0 + 30) (Int32.toNatClampNeg (((25 : Int32) * x2) + (vX12_lineOf b0 (x1 : Int32) (x2 : Int32) h)))) : Int32) ((ea_i (wX12_lineOf b0 (x1 : Int32) (x2 : Int32) h) (b0 + 31) (Int32.toNatClampNeg (((24 : Int32) * x2) + (vX12_lineOf b0 (x1 : Int32) (x2 : Int32) h)))) : Int32) (wX12_lineOf b0 (x1 : Int32) (x2 : Int32) h)) (b0 + 38) (Int32.toNatClampNeg x1)) = (3 : Int32) → vp_in x1 120 ∧ (((ea_i (wX12_comesTo b0 (x2 : Int32) ((ea_i (wX12_lineOf b0 (x1 : Int32) (x2 : Int32) h) (b0 + 30) (Int32.toNatClampNeg (((25 : Int32) * x2) + (vX12_lineOf b0 (x1 : Int32) (x2 : Int32) h)))) : Int32) ((ea_i (wX12_lineOf b0 (x1 : Int32) (x2 : Int32) h) (b0 + 31) (Int32.toNatClampNeg (((24 : Int32) * x2) + (vX12_lineOf b0 (x1 : Int32) (x2 : Int32) h)))) : Int32) (wX12_lineOf b0 (x1 : Int32) (x2 : Int32) h)) (b0 + 38) (Int32.toNatClampNeg x1)) = (4 : Int32) → vp_in x2 6) ∧ (¬ (ea_i (wX12_comesTo b0 (x2 : Int32) ((ea_i (wX12_lineOf b0 (x1 : Int32) (x2 : Int32) h) (b0 + 30) (Int32.toNatClampNeg (((25 : Int32) * x2) + (vX12_lineOf b0 (x1 : Int32) (x2 : Int32) h)))) : Int32) ((ea_i (wX12_lineOf b0 (x1 : Int32) (x2 : Int32) h) (b0 + 31) (Int32.toNatClampNeg (((24 : Int32) * x2) + (vX12_lineOf b0 (x1 : Int32) (x2 : Int32) h)))) : Int32) (wX12_lineOf b0 (x1 : Int32) (x2 : Int32) h)) (b0 + 38) (Int32.toNatClampNeg x1)) = (4 : Int32) → True))))) ∧ (¬ ((ea_i (wX12_comesTo b0 (x2 : Int32) ((ea_i (wX12_lineOf b0 (x1 : Int32) (x2 : Int32) h) (b0 + 30) (Int32.toNatClampNeg (((25 : Int32) * x2) + (vX12_lineOf b0 (x1 : Int32) (x2 : Int32) h)))) : Int32) ((ea_i (wX12_lineOf b0 (x1 : Int32) (x2 : Int32) h) (b0 + 31) (Int32.toNatClampNeg (((24 : Int32) * x2) + (vX12_lineOf b0 (x1 : Int32) (x2 : Int32) h)))) : Int32) (wX12_lineOf b0 (x1 : Int32) (x2 : Int32) h)) (b0 + 44) (Int32.toNatClampNeg x1)) - (ea_i (wX12_comesTo b0 (x2 : Int32) ((ea_i (wX12_lineOf b0 (x1 : Int32) (x2 : Int32) h) (b0 + 30) (Int32.toNatClampNeg (((25 : Int32) * x2) + (vX12_lineOf b0 (x1 : Int32) (x2 : Int32) h)))) : Int32) ((ea_i (wX12_lineOf b0 (x1 : Int32) (x2 : Int32) h) (b0 + 31) (Int32.toNatClampNeg (((24 : Int32) * x2) + (vX12_lineOf b0 (x1 : Int32) (x2 : Int32) h)))) : Int32) (wX12_lineOf b0 (x1 : Int32) (x2 : Int32) h)) (b0 + 44) (Int32.toNatClampNeg x1)) / (1440 : Int32) * (1440 : Int32)) ≤ (ea_i (wX12_comesTo b0 (x2 : Int32) ((ea_i (wX12_lineOf b0 (x1 : Int32) (x2 : Int32) h) (b0 + 30) (Int32.toNatClampNeg (((25 : Int32) * x2) + (vX12_lineOf b0 (x1 : Int32) (x2 : Int32) h)))) : Int32) ((ea_i (wX12_lineOf b0 (x1 : Int32) (x2 : Int32) h) (b0 + 31) (Int32.toNatClampNeg (((24 : Int32) * x2) + (vX12_lineOf b0 (x1 : Int32) (x2 : Int32) h)))) : Int32) (wX12_lineOf b0 (x1 : Int32) (x2 : Int32) h)) (b0 + 24) (Int32.toNatClampNeg x2)) → vp_in x2 6 ∧ (vp_in x1 120 ∧ (((ea_i (wX12_comesTo b0 (x2 : Int32) ((ea_i (wX12_lineOf b0 (x1 : Int32) (x2 : Int32) h) (b0 + 30) (Int32.toNatClampNeg (((25 : Int32) * x2) + (vX12_lineOf b0 (x1 : Int32) (x2 : Int32) h)))) : Int32) ((ea_i (wX12_lineOf b0 (x1 : Int32) (x2 : Int32) h) (b0 + 31) (Int32.toNatClampNeg (((24 : Int32) * x2) + (vX12_lineOf b0 (x1 : Int32) (x2 : Int32) h)))) : Int32) (wX12_lineOf b0 (x1 : Int32) (x2 : Int32) h)) (b0 + 38) (Int32.toNatClampNeg x1)) = (3 : Int32) → vp_in x2 6 ∧ (vp_in x1 120 ∧ (((ea_i (wX12_comesTo b0 (x2 : Int32) ((ea_i (wX12_lineOf b0 (x1 : Int32) (x2 : Int32) h) (b0 + 30) (Int32.toNatClampNeg (((25 : Int32) * x2) + (vX12_lineOf b0 (x1 : Int32) (x2 : Int32) h)))) : Int32) ((ea_i (wX12_lineOf b0 (x1 : Int32) (x2 : Int32) h) (b0 + 31) (Int32.toNatClampNeg (((24 : Int32) * x2) + (vX12_lineOf b0 (x1 : Int32) (x2 : Int32) h)))) : Int32) (wX12_lineOf b0 (x1 : Int32) (x2 : Int32) h)) (b0 + 38) (Int32.toNatClampNeg x1)) = (4 : Int32) → vp_in x2 6) ∧ (¬ (ea_i (wX12_comesTo b0 (x2 : Int32) ((ea_i (wX12_lineOf b0 (x1 : Int32) (x2 : Int32) h) (b0 + 30) (Int32.toNatClampNeg (((25 : Int32) * x2) + (vX12_lineOf b0 (x1 : Int32) (x2 : Int32) h)))) : Int32) ((ea_i (wX12_lineOf b0 (x1 : Int32) (x2 : Int32) h) (b0 + 31) (Int32.toNatClampNeg (((24 : Int32) * x2) + (vX12_lineOf b0 (x1 : Int32) (x2 : Int32) h)))) : Int32) (wX12_lineOf b0 (x1 : Int32) (x2 : Int32) h)) (b0 + 38) (Int32.toNatClampNeg x1)) = (4 : Int32) → True)))) ∧ (¬ (ea_i (wX12_comesTo b0 (x2 : Int32) ((ea_i (wX12_lineOf b0 (x1 : Int32) (x2 : Int32) h) (b0 + 30) (Int32.toNatClampNeg (((25 : Int32) * x2) + (vX12_lineOf b0 (x1 : Int32) (x2 : Int32) h)))) : Int32) ((ea_i (wX12_lineOf b0 (x1 : Int32) (x2 : Int32) h) (b0 + 31) (Int32.toNatClampNeg (((24 : Int32) * x2) + (vX12_lineOf b0 (x1 : Int32) (x2 : Int32) h)))) : Int32) (wX12_lineOf b0 (x1 : Int32) (x2 : Int32) h)) (b0 + 38) (Int32.toNatClampNeg x1)) = (3 : Int32) → vp_in x1 120 ∧ (((ea_i (wX12_comesTo b0 (x2 : Int32) ((ea_i (wX12_lineOf b0 (x1 : Int32) (x2 : Int32) h) (b0 + 30) (Int32.toNatClampNeg (((25 : Int32) * x2) + (vX12_lineOf b0 (x1 : Int32) (x2 : Int32) h)))) : Int32) ((ea_i (wX12_lineOf b0 (x1 : Int32) (x2 : Int32) h) (b0 + 31) (Int32.toNatClampNeg (((24 : Int32) * x2) + (vX12_lineOf b0 (x1 : Int32) (x2 : Int32) h)))) : Int32) (wX12_lineOf b0 (x1 : Int32) (x2 : Int32) h)) (b0 + 38) (Int32.toNatClampNeg x1)) = (4 : Int32) → vp_in x2 6) ∧ (¬ (ea_i (wX12_comesTo b0 (x2 : Int32) ((ea_i (wX12_lineOf b0 (x1 : Int32) (x2 : Int32) h) (b0 + 30) (Int32.toNatClampNeg (((25 : Int32) * x2) + (vX12_lineOf b0 (x1 : Int32) (x2 : Int32) h)))) : Int32) ((ea_i (wX12_lineOf b0 (x1 : Int32) (x2 : Int32) h) (b0 + 31) (Int32.toNatClampNeg (((24 : Int32) * x2) + (vX12_lineOf b0 (x1 : Int32) (x2 : Int32) h)))) : Int32) (wX12_lineOf b0 (x1 : Int32) (x2 : Int32) h)) (b0 + 38) (Int32.toNatClampNeg x1)) = (4 : Int32) → True)))))))))) ∧ (¬ (0 : Int32) ≤ (vX12_comesTo b0 (x2 : Int32) ((ea_i (wX12_lineOf b0 (x1 : Int32) (x2 : Int32) h) (b0 + 30) (Int32.toNatClampNeg (((25 : Int32) * x2) + (vX12_lineOf b0 (x1 : Int32) (x2 : Int32) h)))) : Int32) ((ea_i (wX12_lineOf b0 (x1 : Int32) (x2 : Int32) h) (b0 + 31) (Int32.toNatClampNeg (((24 : Int32) * x2) + (vX12_lineOf b0 (x1 : Int32) (x2 : Int32) h)))) : Int32) (wX12_lineOf b0 (x1 : Int32) (x2 : Int32) h)) → vp_in x1 120 ∧ (vp_in x2 6 ∧ ((((ea_i (wX12_comesTo b0 (x2 : Int32) ((ea_i (wX12_lineOf b0 (x1 : Int32) (x2 : Int32) h) (b0 + 30) (Int32.toNatClampNeg (((25 : Int32) * x2) + (vX12_lineOf b0 (x1 : Int32) (x2 : Int32) h)))) : Int32) ((ea_i (wX12_lineOf b0 (x1 : Int32) (x2 : Int32) h) (b0 + 31) (Int32.toNatClampNeg (((24 : Int32) * x2) + (vX12_lineOf b0 (x1 : Int32) (x2 : Int32) h)))) : Int32) (wX12_lineOf b0 (x1 : Int32) (x2 : Int32) h)) (b0 + 44) (Int32.toNatClampNeg x1)) - (ea_i (wX12_comesTo b0 (x2 : Int32) ((ea_i (wX12_lineOf b0 (x1 : Int32) (x2 : Int32) h) (b0 + 30) (Int32.toNatClampNeg (((25 : Int32) * x2) + (vX12_lineOf b0 (x1 : Int32) (x2 : Int32) h)))) : Int32) ((ea_i (wX12_lineOf b0 (x1 : Int32) (x2 : Int32) h) (b0 + 31) (Int32.toNatClampNeg (((24 : Int32) * x2) + (vX12_lineOf b0 (x1 : Int32) (x2 : Int32) h)))) : Int32) (wX12_lineOf b0 (x1 : Int32) (x2 : Int32) h)) (b0 + 44) (Int32.toNatClampNeg x1)) / (1440 : Int32) * (1440 : Int32)) ≤ (ea_i (wX12_comesTo b0 (x2 : Int32) ((ea_i (wX12_lineOf b0 (x1 : Int32) (x2 : Int32) h) (b0 + 30) (Int32.toNatClampNeg (((25 : Int32) * x2) + (vX12_lineOf b0 (x1 : Int32) (x2 : Int32) h)))) : Int32) ((ea_i (wX12_lineOf b0 (x1 : Int32) (x2 : Int32) h) (b0 + 31) (Int32.toNatClampNeg (((24 : Int32) * x2) + (vX12_lineOf b0 (x1 : Int32) (x2 : Int32) h)))) : Int32) (wX12_lineOf b0 (x1 : Int32) (x2 : Int32) h)) (b0 + 24) (Int32.toNatClampNeg x2)) → vp_in x1 120 ∧ (((ea_i (wX12_comesTo b0 (x2 : Int32) ((ea_i (wX12_lineOf b0 (x1 : Int32) (x2 : Int32) h) (b0 + 30) (Int32.toNatClampNeg (((25 : Int32) * x2) + (vX12_lineOf b0 (x1 : Int32) (x2 : Int32) h)))) : Int32) ((ea_i (wX12_lineOf b0 (x1 : Int32) (x2 : Int32) h) (b0 + 31) (Int32.toNatClampNeg (((24 : Int32) * x2) + (vX12_lineOf b0 (x1 : Int32) (x2 : Int32) h)))) : Int32) (wX12_lineOf b0 (x1 : Int32) (x2 : Int32) h)) (b0 + 38) (Int32.toNatClampNeg x1)) = (3 : Int32) → vp_in x2 6 ∧ (vp_in x1 120 ∧ (((ea_i (wX12_comesTo b0 (x2 : Int32) ((ea_i (wX12_lineOf b0 (x1 : Int32) (x2 : Int32) h) (b0 + 30) (Int32.toNatClampNeg (((25 : Int32) * x2) + (vX12_lineOf b0 (x1 : Int32) (x2 : Int32) h)))) : Int32) ((ea_i (wX12_lineOf b0 (x1 : Int32) (x2 : Int32) h) (b0 + 31) (Int32.toNatClampNeg (((24 : Int32) * x2) + (vX12_lineOf b0 (x1 : Int32) (x2 : Int32) h)))) : Int32) (wX12_lineOf b0 (x1 : Int32) (x2 : Int32) h)) (b0 + 38) (Int32.toNatClampNeg x1)) = (4 : Int32) → vp_in x2 6) ∧ (¬ (ea_i (wX12_comesTo b0 (x2 : Int32) ((ea_i (wX12_lineOf b0 (x1 : Int32) (x2 : Int32) h) (b0 + 30) (Int32.toNatClampNeg (((25 : Int32) * x2) + (vX12_lineOf b0 (x1 : Int32) (x2 : Int32) h)))) : Int32) ((ea_i (wX12_lineOf b0 (x1 : Int32) (x2 : Int32) h) (b0 + 31) (Int32.toNatClampNeg (((24 : Int32) * x2) + (vX12_lineOf b0 (x1 : Int32) (x2 : Int32) h)))) : Int32) (wX12_lineOf b0 (x1 : Int32) (x2 : Int32) h)) (b0 + 38) (Int32.toNatClampNeg x1)) = (4 : Int32) → True)))) ∧ (¬ (ea_i (wX12_comesTo b0 (x2 : Int32) ((ea_i (wX12_lineOf b0 (x1 : Int32) (x2 : Int32) h) (b0 + 30) (Int32.toNatClampNeg (((25 : Int32) * x2) + (vX12_lineOf b0 (x1 : Int32) (x2 : Int32) h)))) : Int32) ((ea_i (wX12_lineOf b0 (x1 : Int32) (x2 : Int32) h) (b0 + 31) (Int32.toNatClampNeg (((24 : Int32) * x2) + (vX12_lineOf b0 (x1 : Int32) (x2 : Int32) h)))) : Int32) (wX12_lineOf b0 (x1 : Int32) (x2 : Int32) h)) (b0 + 38) (Int32.toNatClampNeg x1)) = (3 : Int32) → vp_in x1 120 ∧ (((ea_i (wX12_comesTo b0 (x2 : Int32) ((ea_i (wX12_lineOf b0 (x1 : Int32) (x2 : Int32) h) (b0 + 30) (Int32.toNatClampNeg (((25 : Int32) * x2) + (vX12_lineOf b0 (x1 : Int32) (x2 : Int32) h)))) : Int32) ((ea_i (wX12_lineOf b0 (x1 : Int32) (x2 : Int32) h) (b0 + 31) (Int32.toNatClampNeg (((24 : Int32) * x2) + (vX12_lineOf b0 (x1 : Int32) (x2 : Int32) h)))) : Int32) (wX12_lineOf b0 (x1 : Int32) (x2 : Int32) h)) (b0 + 38) (Int32.toNatClampNeg x1)) = (4 : Int32) → vp_in x2 6) ∧ (¬ (ea_i (wX12_comesTo b0 (x2 : Int32) ((ea_i (wX12_lineOf b0 (x1 : Int32) (x2 : Int32) h) (b0 + 30) (Int32.toNatClampNeg (((25 : Int32) * x2) + (vX12_lineOf b0 (x1 : Int32) (x2 : Int32) h)))) : Int32) ((ea_i (wX12_lineOf b0 (x1 : Int32) (x2 : Int32) h) (b0 + 31) (Int32.toNatClampNeg (((24 : Int32) * x2) + (vX12_lineOf b0 (x1 : Int32) (x2 : Int32) h)))) : Int32) (wX12_lineOf b0 (x1 : Int32) (x2 : Int32) h)) (b0 + 38) (Int32.toNatClampNeg x1)) = (4 : Int32) → True))))) ∧ (¬ ((ea_i (wX12_comesTo b0 (x2 : Int32) ((ea_i (wX12_lineOf b0 (x1 : Int32) (x2 : Int32) h) (b0 + 30) (Int32.toNatClampNeg (((25 : Int32) * x2) + (vX12_lineOf b0 (x1 : Int32) (x2 : Int32) h)))) : Int32) ((ea_i (wX12_lineOf b0 (x1 : Int32) (x2 : Int32) h) (b0 + 31) (Int32.toNatClampNeg (((24 : Int32) * x2) + (vX12_lineOf b0 (x1 : Int32) (x2 : Int32) h)))) : Int32) (wX12_lineOf b0 (x1 : Int32) (x2 : Int32) h)) (b0 + 44) (Int32.toNatClampNeg x1)) - (ea_i (wX12_comesTo b0 (x2 : Int32) ((ea_i (wX12_lineOf b0 (x1 : Int32) (x2 : Int32) h) (b0 + 30) (Int32.toNatClampNeg (((25 : Int32) * x2) + (vX12_lineOf b0 (x1 : Int32) (x2 : Int32) h)))) : Int32) ((ea_i (wX12_lineOf b0 (x1 : Int32) (x2 : Int32) h) (b0 + 31) (Int32.toNatClampNeg (((24 : Int32) * x2) + (vX12_lineOf b0 (x1 : Int32) (x2 : Int32) h)))) : Int32) (wX12_lineOf b0 (x1 : Int32) (x2 : Int32) h)) (b0 + 44) (Int32.toNatClampNeg x1)) / (1440 : Int32) * (1440 : Int32)) ≤ (ea_i (wX12_comesTo b0 (x2 : Int32) ((ea_i (wX12_lineOf b0 (x1 : Int32) (x2 : Int32) h) (b0 + 30) (Int32.toNatClampNeg (((25 : Int32) * x2) + (vX12_lineOf b0 (x1 : Int32) (x2 : Int32) h)))) : Int32) ((ea_i (wX12_lineOf b0 (x1 : Int32) (x2 : Int32) h) (b0 + 31) (Int32.toNatClampNeg (((24 : Int32) * x2) + (vX12_lineOf b0 (x1 : Int32) (x2 : Int32) h)))) : Int32) (wX12_lineOf b0 (x1 : Int32) (x2 : Int32) h)) (b0 + 24) (Int32.toNatClampNeg x2)) → vp_in x2 6 ∧ (vp_in x1 120 ∧ (((ea_i (wX12_comesTo b0 (x2 : Int32) ((ea_i (wX12_lineOf b0 (x1 : Int32) (x2 : Int32) h) (b0 + 30) (Int32.toNatClampNeg (((25 : Int32) * x2) + (vX12_lineOf b0 (x1 : Int32) (x2 : Int32) h)))) : Int32) ((ea_i (wX12_lineOf b0 (x1 : Int32) (x2 : Int32) h) (b0 + 31) (Int32.toNatClampNeg (((24 : Int32) * x2) + (vX12_lineOf b0 (x1 : Int32) (x2 : Int32) h)))) : Int32) (wX12_lineOf b0 (x1 : Int32) (x2 : Int32) h)) (b0 + 38) (Int32.toNatClampNeg x1)) = (3 : Int32) → vp_in x2 6 ∧ (vp_in x1 120 ∧ (((ea_i (wX12_comesTo b0 (x2 : Int32) ((ea_i (wX12_lineOf b0 (x1 : Int32) (x2 : Int32) h) (b0 + 30) (Int32.toNatClampNeg (((25 : Int32) * x2) + (vX12_lineOf b0 (x1 : Int32) (x2 : Int32) h)))) : Int32) ((ea_i (wX12_lineOf b0 (x1 : Int32) (x2 : Int32) h) (b0 + 31) (Int32.toNatClampNeg (((24 : Int32) * x2) + (vX12_lineOf b0 (x1 : Int32) (x2 : Int32) h)))) : Int32) (wX12_lineOf b0 (x1 : Int32) (x2 : Int32) h)) (b0 + 38) (Int32.toNatClampNeg x1)) = (4 : Int32) → vp_in x2 6) ∧ (¬ (ea_i (wX12_comesTo b0 (x2 : Int32) ((ea_i (wX12_lineOf b0 (x1 : Int32) (x2 : Int32) h) (b0 + 30) (Int32.toNatClampNeg (((25 : Int32) * x2) + (vX12_lineOf b0 (x1 : Int32) (x2 : Int32) h)))) : Int32) ((ea_i (wX12_lineOf b0 (x1 : Int32) (x2 : Int32) h) (b0 + 31) (Int32.toNatClampNeg (((24 : Int32) * x2) + (vX12_lineOf b0 (x1 : Int32) (x2 : Int32) h)))) : Int32) (wX12_lineOf b0 (x1 : Int32) (x2 : Int32) h)) (b0 + 38) (Int32.toNatClampNeg x1)) = (4 : Int32) → True)))) ∧ (¬ (ea_i (wX12_comesTo b0 (x2 : Int32) ((ea_i (wX12_lineOf b0 (x1 : Int32) (x2 : Int32) h) (b0 + 30) (Int32.toNatClampNeg (((25 : Int32) * x2) + (vX12_lineOf b0 (x1 : Int32) (x2 : Int32) h)))) : Int32) ((ea_i (wX12_lineOf b0 (x1 : Int32) (x2 : Int32) h) (b0 + 31) (Int32.toNatClampNeg (((24 : Int32) * x2) + (vX12_lineOf b0 (x1 : Int32) (x2 : Int32) h)))) : Int32) (wX12_lineOf b0 (x1 : Int32) (x2 : Int32) h)) (b0 + 38) (Int32.toNatClampNeg x1)) = (3 : Int32) → vp_in x1 120 ∧ (((ea_i (wX12_comesTo b0 (x2 : Int32) ((ea_i (wX12_lineOf b0 (x1 : Int32) (x2 : Int32) h) (b0 + 30) (Int32.toNatClampNeg (((25 : Int32) * x2) + (vX12_lineOf b0 (x1 : Int32) (x2 : Int32) h)))) : Int32) ((ea_i (wX12_lineOf b0 (x1 : Int32) (x2 : Int32) h) (b0 + 31) (Int32.toNatClampNeg (((24 : Int32) * x2) + (vX12_lineOf b0 (x1 : Int32) (x2 : Int32) h)))) : Int32) (wX12_lineOf b0 (x1 : Int32) (x2 : Int32) h)) (b0 + 38) (Int32.toNatClampNeg x1)) = (4 : Int32) → vp_in x2 6) ∧ (¬ (ea_i (wX12_comesTo b0 (x2 : Int32) ((ea_i (wX12_lineOf b0 (x1 : Int32) (x2 : Int32) h) (b0 + 30) (Int32.toNatClampNeg (((25 : Int32) * x2) + (vX12_lineOf b0 (x1 : Int32) (x2 : Int32) h)))) : Int32) ((ea_i (wX12_lineOf b0 (x1 : Int32) (x2 : Int32) h) (b0 + 31) (Int32.toNatClampNeg (((24 : Int32) * x2) + (vX12_lineOf b0 (x1 : Int32) (x2 : Int32) h)))) : Int32) (wX12_lineOf b0 (x1 : Int32) (x2 : Int32) h)) (b0 + 38) (Int32.toNatClampNeg x1)) = (4 : Int32) → True))))))))))))))) ∧ (¬ (vX12_isFree b0 (x1 : Int32) (x2 : Int32) h) = (0 : Int32) → True))
theorem shX12_chargeBy {b0 : Nat} {x1 : Int32} {x2 : Int32} {h : ea_H} (hs : ShM b0 h) : ShM b0 (wX12_chargeBy b0 x1 x2 h) := (ShM_it (ShM_it (shX12_lineOf hs) (shX12_comesTo (shX12_lineOf hs))) hs)
theorem sX12_chargeBy {d : Nat} {b0 : Nat} {x1 : Int32} {x2 : Int32} {h : ea_H} (hd : 4 ≤ d) (hs : ShM b0 h) (K : okX12_chargeBy b0 x1 x2 h) : ea_Met mX12_chargeBy d [vR (some (b0 + 0)), vI x1, vI x2] h (some (vI (vX12_chargeBy b0 x1 x2 h))) (wX12_chargeBy b0 x1 x2 h) := by
  obtain ⟨X, EX⟩ : ∃ z, z = vX12_chargeBy b0 x1 x2 h := ⟨_, rfl⟩
  rw [← EX]
  unfold vX12_chargeBy at EX
  obtain ⟨Y, EY⟩ : ∃ z, z = wX12_chargeBy b0 x1 x2 h := ⟨_, rfl⟩
  rw [← EY]
  unfold wX12_chargeBy at EY
  unfold okX12_chargeBy at K
  refine ea_enter rfl (Nat.le_of_ble_eq_true rfl) ?_
  refine ea_aload_n (pc := 0) dX12_chargeBy_0 rfl 0 rfl ?_
  refine ea_iload_n (pc := 1) dX12_chargeBy_1 rfl 1 rfl ?_
  refine ea_iload_n (pc := 2) dX12_chargeBy_2 rfl 2 rfl ?_
  obtain ⟨z1, K⟩ := K
  refine ea_callV (pc := 3) (d' := d - 1) (As := [vI x1, vI x2]) (st := []) dX12_chargeBy_3 kX12_isFree (sX12_isFree (d := d - 1) (by omega) hs z1) (by omega) rfl (Nat.le_of_ble_eq_true rfl) ew_1987 ew_1989 ew_83 (ci := 12) rfl (by decide) (hs.1 0 (by decide)).1 (hs.1 0 (by decide)).2.1 ?_
  refine ea_if_eq (pc := 6) (tgt := 11) dX12_chargeBy_6 rfl (fun c145 => ?_) (fun c145 => ?_)
  · have EX := EX.trans (if_pos c145)
    have EY := EY.trans (if_pos c145)
    have K := K.1 c145
    refine ea_aload_n (pc := 11) dX12_chargeBy_11 rfl 0 rfl ?_
    refine ea_iload_n (pc := 12) dX12_chargeBy_12 rfl 1 rfl ?_
    refine ea_iload_n (pc := 13) dX12_chargeBy_13 rfl 2 rfl ?_
    obtain ⟨z2, K⟩ := K
    refine ea_callV (pc := 14) (d' := d - 1) (As := [vI x1, vI x2]) (st := []) dX12_chargeBy_14 kX12_lineOf (sX12_lineOf (d := d - 1) (by omega) hs z2) (by omega) rfl (Nat.le_of_ble_eq_true rfl) ew_1995 ew_1997 ew_85 (ci := 12) rfl (by decide) (hs.1 0 (by decide)).1 (hs.1 0 (by decide)).2.1 ?_
    have hs3 : ShM b0 (wX12_lineOf b0 (x1 : Int32) (x2 : Int32) h) := shX12_lineOf hs
    refine ea_istore_n (pc := 17) (lv' := [(0, vR (some (b0 + 0))), (1, vI x1), (2, vI x2), (3, vI (vX12_lineOf b0 (x1 : Int32) (x2 : Int32) h))]) dX12_chargeBy_17 rfl (Nat.le_of_ble_eq_true rfl) [1, 2, 3, 0] rfl ?_
    refine ea_iload_n (pc := 18) dX12_chargeBy_18 rfl 3 rfl ?_
    refine ea_iconst (pc := 19) dX12_chargeBy_19 (v := (-1)) rfl ?_
    refine ea_icmp_ne (pc := 20) (tgt := 27) dX12_chargeBy_20 rfl (fun c144 => ?_) (fun c144 => ?_)
    · have EX := EX.trans (if_neg c144)
      have EY := EY.trans (if_neg c144)
      have K := K.2 c144
      refine ea_aload_n (pc := 27) dX12_chargeBy_27 rfl 0 rfl ?_
      refine ea_iload_n (pc := 28) dX12_chargeBy_28 rfl 2 rfl ?_
      refine ea_aload_n (pc := 29) dX12_chargeBy_29 rfl 0 rfl ?_
      refine ea_getR (pc := 30) dX12_chargeBy_30 ec_12 (k := 35) (Nat.le_of_ble_eq_true rfl) rfl (Or.inl ew_1380) (hs3.1 0 (by decide)).1 (hs3.1 0 (by decide)).2.1 (hs3.2 0 35 rfl) ?_
      refine ea_bipush (pc := 33) dX12_chargeBy_33 (v := 25) rfl ?_
      refine ea_iload_n (pc := 35) dX12_chargeBy_35 rfl 2 rfl ?_
      refine ea_imul (pc := 36) dX12_chargeBy_36 ?_
      refine ea_iload_n (pc := 37) dX12_chargeBy_37 rfl 3 rfl ?_
      refine ea_iadd (pc := 38) dX12_chargeBy_38 ?_
      obtain ⟨z4, K⟩ := K
      refine ea_iald (pc := 39) dX12_chargeBy_39 (hs3.1 30 (by decide)).1 (hs3.1 30 (by decide)).2.1 (ea_vpl (hs3.1 30 (by decide)).2.2 z4) ?_
      refine ea_aload_n (pc := 40) dX12_chargeBy_40 rfl 0 rfl ?_
      refine ea_getR (pc := 41) dX12_chargeBy_41 ec_12 (k := 36) (Nat.le_of_ble_eq_true rfl) rfl (Or.inl ew_1381) (hs3.1 0 (by decide)).1 (hs3.1 0 (by decide)).2.1 (hs3.2 0 36 rfl) ?_
      refine ea_bipush (pc := 44) dX12_chargeBy_44 (v := 24) rfl ?_
      refine ea_iload_n (pc := 46) dX12_chargeBy_46 rfl 2 rfl ?_
      refine ea_imul (pc := 47) dX12_chargeBy_47 ?_
      refine ea_iload_n (pc := 48) dX12_chargeBy_48 rfl 3 rfl ?_
      refine ea_iadd (pc := 49) dX12_chargeBy_49 ?_
      obtain ⟨z5, K⟩ := K
      refine ea_iald (pc := 50) dX12_chargeBy_50 (hs3.1 31 (by decide)).1 (hs3.1 31 (by decide)).2.1 (ea_vpl (hs3.1 31 (by decide)).2.2 z5) ?_
      obtain ⟨z6, K⟩ := K
      refine ea_callV (pc := 51) (d' := d - 1) (As := [vI x2, vI (ea_i (wX12_lineOf b0 (x1 : Int32) (x2 : Int32) h) (b0 + 30) (Int32.toNatClampNeg (((25 : Int32) * x2) + (vX12_lineOf b0 (x1 : Int32) (x2 : Int32) h)))), vI (ea_i (wX12_lineOf b0 (x1 : Int32) (x2 : Int32) h) (b0 + 31) (Int32.toNatClampNeg (((24 : Int32) * x2) + (vX12_lineOf b0 (x1 : Int32) (x2 : Int32) h))))]) (st := []) dX12_chargeBy_51 kX12_comesTo (sX12_comesTo (d := d - 1) (by omega) hs3 z6) (by omega) rfl (Nat.le_of_ble_eq_true rfl) ew_2003 ew_2005 ew_87 (ci := 12) rfl (by decide) (hs3.1 0 (by decide)).1 (hs3.1 0 (by decide)).2.1 ?_
      have hs7 : ShM b0 (wX12_comesTo b0 (x2 : Int32) ((ea_i (wX12_lineOf b0 (x1 : Int32) (x2 : Int32) h) (b0 + 30) (Int32.toNatClampNeg (((25 : Int32) * x2) + (vX12_lineOf b0 (x1 : Int32) (x2 : Int32) h)))) : Int32) ((ea_i (wX12_lineOf b0 (x1 : Int32) (x2 : Int32) h) (b0 + 31) (Int32.toNatClampNeg (((24 : Int32) * x2) + (vX12_lineOf b0 (x1 : Int32) (x2 : Int32) h)))) : Int32) (wX12_lineOf b0 (x1 : Int32) (x2 : Int32) h)) := shX12_comesTo hs3
      refine ea_istore (pc := 54) (lv' := [(0, vR (some (b0 + 0))), (1, vI x1), (2, vI x2), (4, vI (vX12_comesTo b0 (x2 : Int32) ((ea_i (wX12_lineOf b0 (x1 : Int32) (x2 : Int32) h) (b0 + 30) (Int32.toNatClampNeg (((25 : Int32) * x2) + (vX12_lineOf b0 (x1 : Int32) (x2 : Int32) h)))) : Int32) ((ea_i (wX12_lineOf b0 (x1 : Int32) (x2 : Int32) h) (b0 + 31) (Int32.toNatClampNeg (((24 : Int32) * x2) + (vX12_lineOf b0 (x1 : Int32) (x2 : Int32) h)))) : Int32) (wX12_lineOf b0 (x1 : Int32) (x2 : Int32) h)))]) dX12_chargeBy_54 (Nat.le_of_ble_eq_true rfl) [1, 2, 3, 0] rfl ?_
      refine ea_iload (pc := 56) dX12_chargeBy_56 3 rfl ?_
      refine ea_if_ge (pc := 58) (tgt := 65) dX12_chargeBy_58 rfl (fun c75 => ?_) (fun c75 => ?_)
      · have EX := EX.trans (if_pos c75)
        have K := K.1 c75
        refine ea_iload (pc := 65) dX12_chargeBy_65 3 rfl ?_
        refine ea_ldcw (pc := 67) dX12_chargeBy_67 ew_2010 ?_
        refine ea_icmp_le (pc := 70) (tgt := 79) dX12_chargeBy_70 rfl (fun c52 => ?_) (fun c52 => ?_)
        · have EX := EX.trans (if_pos c52)
          have K := K.1 c52
          refine ea_iload (pc := 79) dX12_chargeBy_79 3 rfl ?_
          refine ea_istore (pc := 81) (lv' := [(0, vR (some (b0 + 0))), (1, vI x1), (2, vI x2), (4, vI (vX12_comesTo b0 (x2 : Int32) ((ea_i (wX12_lineOf b0 (x1 : Int32) (x2 : Int32) h) (b0 + 30) (Int32.toNatClampNeg (((25 : Int32) * x2) + (vX12_lineOf b0 (x1 : Int32) (x2 : Int32) h)))) : Int32) ((ea_i (wX12_lineOf b0 (x1 : Int32) (x2 : Int32) h) (b0 + 31) (Int32.toNatClampNeg (((24 : Int32) * x2) + (vX12_lineOf b0 (x1 : Int32) (x2 : Int32) h)))) : Int32) (wX12_lineOf b0 (x1 : Int32) (x2 : Int32) h)))]) dX12_chargeBy_81 (Nat.le_of_ble_eq_true rfl) [1, 2, 3, 0] rfl ?_
          refine ea_aload_n (pc := 83) dX12_chargeBy_83 rfl 0 rfl ?_
          refine ea_getR (pc := 84) dX12_chargeBy_84 ec_12 (k := 70) (Nat.le_of_ble_eq_true rfl) rfl (Or.inl ew_1415) (hs7.1 0 (by decide)).1 (hs7.1 0 (by decide)).2.1 (hs7.2 0 70 rfl) ?_
          refine ea_iload_n (pc := 87) dX12_chargeBy_87 rfl 1 rfl ?_
          obtain ⟨z8, K⟩ := K
          refine ea_iald (pc := 88) dX12_chargeBy_88 (hs7.1 44 (by decide)).1 (hs7.1 44 (by decide)).2.1 (ea_vpl (hs7.1 44 (by decide)).2.2 z8) ?_
          refine ea_sipush (pc := 89) dX12_chargeBy_89 (v := 1440) rfl ?_
          refine ea_irem (pc := 92) dX12_chargeBy_92 (by decide) ?_
          refine ea_aload_n (pc := 93) dX12_chargeBy_93 rfl 0 rfl ?_
          refine ea_getR (pc := 94) dX12_chargeBy_94 ec_12 (k := 29) (Nat.le_of_ble_eq_true rfl) rfl (Or.inl ew_1374) (hs7.1 0 (by decide)).1 (hs7.1 0 (by decide)).2.1 (hs7.2 0 29 rfl) ?_
          refine ea_iload_n (pc := 97) dX12_chargeBy_97 rfl 2 rfl ?_
          obtain ⟨z9, K⟩ := K
          refine ea_iald (pc := 98) dX12_chargeBy_98 (hs7.1 24 (by decide)).1 (hs7.1 24 (by decide)).2.1 (ea_vpl (hs7.1 24 (by decide)).2.2 z9) ?_
          refine ea_icmp_le (pc := 99) (tgt := 113) dX12_chargeBy_99 rfl (fun c29 => ?_) (fun c29 => ?_)
          · have EX := EX.trans (if_pos c29)
            have K := K.1 c29
            refine ea_aload_n (pc := 113) dX12_chargeBy_113 rfl 0 rfl ?_
            refine ea_getR (pc := 114) dX12_chargeBy_114 ec_12 (k := 64) (Nat.le_of_ble_eq_true rfl) rfl (Or.inl ew_1409) (hs7.1 0 (by decide)).1 (hs7.1 0 (by decide)).2.1 (hs7.2 0 64 rfl) ?_
            refine ea_iload_n (pc := 117) dX12_chargeBy_117 rfl 1 rfl ?_
            obtain ⟨z10, K⟩ := K
            refine ea_iald (pc := 118) dX12_chargeBy_118 (hs7.1 38 (by decide)).1 (hs7.1 38 (by decide)).2.1 (ea_vpl (hs7.1 38 (by decide)).2.2 z10) ?_
            refine ea_iconst (pc := 119) dX12_chargeBy_119 (v := 3) rfl ?_
            refine ea_icmp_ne (pc := 120) (tgt := 134) dX12_chargeBy_120 rfl (fun c18 => ?_) (fun c18 => ?_)
            · have EX := EX.trans (if_neg c18)
              have K := K.2 c18
              refine ea_aload_n (pc := 134) dX12_chargeBy_134 rfl 0 rfl ?_
              refine ea_getR (pc := 135) dX12_chargeBy_135 ec_12 (k := 64) (Nat.le_of_ble_eq_true rfl) rfl (Or.inl ew_1409) (hs7.1 0 (by decide)).1 (hs7.1 0 (by decide)).2.1 (hs7.2 0 64 rfl) ?_
              refine ea_iload_n (pc := 138) dX12_chargeBy_138 rfl 1 rfl ?_
              obtain ⟨z11, K⟩ := K
              refine ea_iald (pc := 139) dX12_chargeBy_139 (hs7.1 38 (by decide)).1 (hs7.1 38 (by decide)).2.1 (ea_vpl (hs7.1 38 (by decide)).2.2 z11) ?_
              refine ea_iconst (pc := 140) dX12_chargeBy_140 (v := 4) rfl ?_
              refine ea_icmp_ne (pc := 141) (tgt := 155) dX12_chargeBy_141 rfl (fun c13 => ?_) (fun c13 => ?_)
              · have EX := EX.trans (if_neg c13)
                refine ea_iload (pc := 155) dX12_chargeBy_155 3 rfl ?_
                exact ea_iretE (pc := 157) dX12_chargeBy_157 rfl rfl EX EY
              · have EX := EX.trans (if_pos c13)
                have K := K.1 c13
                refine ea_iload (pc := 144) dX12_chargeBy_144 3 rfl ?_
                refine ea_aload_n (pc := 146) dX12_chargeBy_146 rfl 0 rfl ?_
                refine ea_getR (pc := 147) dX12_chargeBy_147 ec_12 (k := 32) (Nat.le_of_ble_eq_true rfl) rfl (Or.inl ew_1377) (hs7.1 0 (by decide)).1 (hs7.1 0 (by decide)).2.1 (hs7.2 0 32 rfl) ?_
                refine ea_iload_n (pc := 150) dX12_chargeBy_150 rfl 2 rfl ?_
                have z12 := K
                refine ea_iald (pc := 151) dX12_chargeBy_151 (hs7.1 27 (by decide)).1 (hs7.1 27 (by decide)).2.1 (ea_vpl (hs7.1 27 (by decide)).2.2 z12) ?_
                refine ea_iadd (pc := 152) dX12_chargeBy_152 ?_
                refine ea_istore (pc := 153) (lv' := [(4, vI ((vX12_comesTo b0 (x2 : Int32) ((ea_i (wX12_lineOf b0 (x1 : Int32) (x2 : Int32) h) (b0 + 30) (Int32.toNatClampNeg (((25 : Int32) * x2) + (vX12_lineOf b0 (x1 : Int32) (x2 : Int32) h)))) : Int32) ((ea_i (wX12_lineOf b0 (x1 : Int32) (x2 : Int32) h) (b0 + 31) (Int32.toNatClampNeg (((24 : Int32) * x2) + (vX12_lineOf b0 (x1 : Int32) (x2 : Int32) h)))) : Int32) (wX12_lineOf b0 (x1 : Int32) (x2 : Int32) h)) + (ea_i (wX12_comesTo b0 (x2 : Int32) ((ea_i (wX12_lineOf b0 (x1 : Int32) (x2 : Int32) h) (b0 + 30) (Int32.toNatClampNeg (((25 : Int32) * x2) + (vX12_lineOf b0 (x1 : Int32) (x2 : Int32) h)))) : Int32) ((ea_i (wX12_lineOf b0 (x1 : Int32) (x2 : Int32) h) (b0 + 31) (Int32.toNatClampNeg (((24 : Int32) * x2) + (vX12_lineOf b0 (x1 : Int32) (x2 : Int32) h)))) : Int32) (wX12_lineOf b0 (x1 : Int32) (x2 : Int32) h)) (b0 + 27) (Int32.toNatClampNeg x2))))]) dX12_chargeBy_153 (Nat.le_of_ble_eq_true rfl) [0] rfl ?_
                refine ea_iload (pc := 155) dX12_chargeBy_155 0 rfl ?_
                exact ea_iretE (pc := 157) dX12_chargeBy_157 rfl rfl EX EY
            · have EX := EX.trans (if_pos c18)
              have K := K.1 c18
              refine ea_iload (pc := 123) dX12_chargeBy_123 3 rfl ?_
              refine ea_aload_n (pc := 125) dX12_chargeBy_125 rfl 0 rfl ?_
              refine ea_getR (pc := 126) dX12_chargeBy_126 ec_12 (k := 31) (Nat.le_of_ble_eq_true rfl) rfl (Or.inl ew_1376) (hs7.1 0 (by decide)).1 (hs7.1 0 (by decide)).2.1 (hs7.2 0 31 rfl) ?_
              refine ea_iload_n (pc := 129) dX12_chargeBy_129 rfl 2 rfl ?_
              obtain ⟨z14, K⟩ := K
              refine ea_iald (pc := 130) dX12_chargeBy_130 (hs7.1 26 (by decide)).1 (hs7.1 26 (by decide)).2.1 (ea_vpl (hs7.1 26 (by decide)).2.2 z14) ?_
              refine ea_iadd (pc := 131) dX12_chargeBy_131 ?_
              refine ea_istore (pc := 132) (lv' := [(0, vR (some (b0 + 0))), (1, vI x1), (2, vI x2), (4, vI ((vX12_comesTo b0 (x2 : Int32) ((ea_i (wX12_lineOf b0 (x1 : Int32) (x2 : Int32) h) (b0 + 30) (Int32.toNatClampNeg (((25 : Int32) * x2) + (vX12_lineOf b0 (x1 : Int32) (x2 : Int32) h)))) : Int32) ((ea_i (wX12_lineOf b0 (x1 : Int32) (x2 : Int32) h) (b0 + 31) (Int32.toNatClampNeg (((24 : Int32) * x2) + (vX12_lineOf b0 (x1 : Int32) (x2 : Int32) h)))) : Int32) (wX12_lineOf b0 (x1 : Int32) (x2 : Int32) h)) + (ea_i (wX12_comesTo b0 (x2 : Int32) ((ea_i (wX12_lineOf b0 (x1 : Int32) (x2 : Int32) h) (b0 + 30) (Int32.toNatClampNeg (((25 : Int32) * x2) + (vX12_lineOf b0 (x1 : Int32) (x2 : Int32) h)))) : Int32) ((ea_i (wX12_lineOf b0 (x1 : Int32) (x2 : Int32) h) (b0 + 31) (Int32.toNatClampNeg (((24 : Int32) * x2) + (vX12_lineOf b0 (x1 : Int32) (x2 : Int32) h)))) : Int32) (wX12_lineOf b0 (x1 : Int32) (x2 : Int32) h)) (b0 + 26) (Int32.toNatClampNeg x2))))]) dX12_chargeBy_132 (Nat.le_of_ble_eq_true rfl) [1, 2, 3, 0] rfl ?_
              refine ea_aload_n (pc := 134) dX12_chargeBy_134 rfl 0 rfl ?_
              refine ea_getR (pc := 135) dX12_chargeBy_135 ec_12 (k := 64) (Nat.le_of_ble_eq_true rfl) rfl (Or.inl ew_1409) (hs7.1 0 (by decide)).1 (hs7.1 0 (by decide)).2.1 (hs7.2 0 64 rfl) ?_
              refine ea_iload_n (pc := 138) dX12_chargeBy_138 rfl 1 rfl ?_
              obtain ⟨z15, K⟩ := K
              refine ea_iald (pc := 139) dX12_chargeBy_139 (hs7.1 38 (by decide)).1 (hs7.1 38 (by decide)).2.1 (ea_vpl (hs7.1 38 (by decide)).2.2 z15) ?_
              refine ea_iconst (pc := 140) dX12_chargeBy_140 (v := 4) rfl ?_
              refine ea_icmp_ne (pc := 141) (tgt := 155) dX12_chargeBy_141 rfl (fun c17 => ?_) (fun c17 => ?_)
              · have EX := EX.trans (if_neg c17)
                refine ea_iload (pc := 155) dX12_chargeBy_155 3 rfl ?_
                exact ea_iretE (pc := 157) dX12_chargeBy_157 rfl rfl EX EY
              · have EX := EX.trans (if_pos c17)
                have K := K.1 c17
                refine ea_iload (pc := 144) dX12_chargeBy_144 3 rfl ?_
                refine ea_aload_n (pc := 146) dX12_chargeBy_146 rfl 0 rfl ?_
                refine ea_getR (pc := 147) dX12_chargeBy_147 ec_12 (k := 32) (Nat.le_of_ble_eq_true rfl) rfl (Or.inl ew_1377) (hs7.1 0 (by decide)).1 (hs7.1 0 (by decide)).2.1 (hs7.2 0 32 rfl) ?_
                refine ea_iload_n (pc := 150) dX12_chargeBy_150 rfl 2 rfl ?_
                have z16 := K
                refine ea_iald (pc := 151) dX12_chargeBy_151 (hs7.1 27 (by decide)).1 (hs7.1 27 (by decide)).2.1 (ea_vpl (hs7.1 27 (by decide)).2.2 z16) ?_
                refine ea_iadd (pc := 152) dX12_chargeBy_152 ?_
                refine ea_istore (pc := 153) (lv' := [(4, vI (((vX12_comesTo b0 (x2 : Int32) ((ea_i (wX12_lineOf b0 (x1 : Int32) (x2 : Int32) h) (b0 + 30) (Int32.toNatClampNeg (((25 : Int32) * x2) + (vX12_lineOf b0 (x1 : Int32) (x2 : Int32) h)))) : Int32) ((ea_i (wX12_lineOf b0 (x1 : Int32) (x2 : Int32) h) (b0 + 31) (Int32.toNatClampNeg (((24 : Int32) * x2) + (vX12_lineOf b0 (x1 : Int32) (x2 : Int32) h)))) : Int32) (wX12_lineOf b0 (x1 : Int32) (x2 : Int32) h)) + (ea_i (wX12_comesTo b0 (x2 : Int32) ((ea_i (wX12_lineOf b0 (x1 : Int32) (x2 : Int32) h) (b0 + 30) (Int32.toNatClampNeg (((25 : Int32) * x2) + (vX12_lineOf b0 (x1 : Int32) (x2 : Int32) h)))) : Int32) ((ea_i (wX12_lineOf b0 (x1 : Int32) (x2 : Int32) h) (b0 + 31) (Int32.toNatClampNeg (((24 : Int32) * x2) + (vX12_lineOf b0 (x1 : Int32) (x2 : Int32) h)))) : Int32) (wX12_lineOf b0 (x1 : Int32) (x2 : Int32) h)) (b0 + 26) (Int32.toNatClampNeg x2))) + (ea_i (wX12_comesTo b0 (x2 : Int32) ((ea_i (wX12_lineOf b0 (x1 : Int32) (x2 : Int32) h) (b0 + 30) (Int32.toNatClampNeg (((25 : Int32) * x2) + (vX12_lineOf b0 (x1 : Int32) (x2 : Int32) h)))) : Int32) ((ea_i (wX12_lineOf b0 (x1 : Int32) (x2 : Int32) h) (b0 + 31) (Int32.toNatClampNeg (((24 : Int32) * x2) + (vX12_lineOf b0 (x1 : Int32) (x2 : Int32) h)))) : Int32) (wX12_lineOf b0 (x1 : Int32) (x2 : Int32) h)) (b0 + 27) (Int32.toNatClampNeg x2))))]) dX12_chargeBy_153 (Nat.le_of_ble_eq_true rfl) [0] rfl ?_
                refine ea_iload (pc := 155) dX12_chargeBy_155 0 rfl ?_
                exact ea_iretE (pc := 157) dX12_chargeBy_157 rfl rfl EX EY
          · have EX := EX.trans (if_neg c29)
            have K := K.2 c29
            refine ea_iload (pc := 102) dX12_chargeBy_102 3 rfl ?_
            refine ea_aload_n (pc := 104) dX12_chargeBy_104 rfl 0 rfl ?_
            refine ea_getR (pc := 105) dX12_chargeBy_105 ec_12 (k := 28) (Nat.le_of_ble_eq_true rfl) rfl (Or.inl ew_1373) (hs7.1 0 (by decide)).1 (hs7.1 0 (by decide)).2.1 (hs7.2 0 28 rfl) ?_
            refine ea_iload_n (pc := 108) dX12_chargeBy_108 rfl 2 rfl ?_
            obtain ⟨z19, K⟩ := K
            refine ea_iald (pc := 109) dX12_chargeBy_109 (hs7.1 23 (by decide)).1 (hs7.1 23 (by decide)).2.1 (ea_vpl (hs7.1 23 (by decide)).2.2 z19) ?_
            refine ea_iadd (pc := 110) dX12_chargeBy_110 ?_
            refine ea_istore (pc := 111) (lv' := [(0, vR (some (b0 + 0))), (1, vI x1), (2, vI x2), (4, vI ((vX12_comesTo b0 (x2 : Int32) ((ea_i (wX12_lineOf b0 (x1 : Int32) (x2 : Int32) h) (b0 + 30) (Int32.toNatClampNeg (((25 : Int32) * x2) + (vX12_lineOf b0 (x1 : Int32) (x2 : Int32) h)))) : Int32) ((ea_i (wX12_lineOf b0 (x1 : Int32) (x2 : Int32) h) (b0 + 31) (Int32.toNatClampNeg (((24 : Int32) * x2) + (vX12_lineOf b0 (x1 : Int32) (x2 : Int32) h)))) : Int32) (wX12_lineOf b0 (x1 : Int32) (x2 : Int32) h)) + (ea_i (wX12_comesTo b0 (x2 : Int32) ((ea_i (wX12_lineOf b0 (x1 : Int32) (x2 : Int32) h) (b0 + 30) (Int32.toNatClampNeg (((25 : Int32) * x2) + (vX12_lineOf b0 (x1 : Int32) (x2 : Int32) h)))) : Int32) ((ea_i (wX12_lineOf b0 (x1 : Int32) (x2 : Int32) h) (b0 + 31) (Int32.toNatClampNeg (((24 : Int32) * x2) + (vX12_lineOf b0 (x1 : Int32) (x2 : Int32) h)))) : Int32) (wX12_lineOf b0 (x1 : Int32) (x2 : Int32) h)) (b0 + 23) (Int32.toNatClampNeg x2))))]) dX12_chargeBy_111 (Nat.le_of_ble_eq_true rfl) [1, 2, 3, 0] rfl ?_
            refine ea_aload_n (pc := 113) dX12_chargeBy_113 rfl 0 rfl ?_
            refine ea_getR (pc := 114) dX12_chargeBy_114 ec_12 (k := 64) (Nat.le_of_ble_eq_true rfl) rfl (Or.inl ew_1409) (hs7.1 0 (by decide)).1 (hs7.1 0 (by decide)).2.1 (hs7.2 0 64 rfl) ?_
            refine ea_iload_n (pc := 117) dX12_chargeBy_117 rfl 1 rfl ?_
            obtain ⟨z20, K⟩ := K
            refine ea_iald (pc := 118) dX12_chargeBy_118 (hs7.1 38 (by decide)).1 (hs7.1 38 (by decide)).2.1 (ea_vpl (hs7.1 38 (by decide)).2.2 z20) ?_
            refine ea_iconst (pc := 119) dX12_chargeBy_119 (v := 3) rfl ?_
            refine ea_icmp_ne (pc := 120) (tgt := 134) dX12_chargeBy_120 rfl (fun c28 => ?_) (fun c28 => ?_)
            · have EX := EX.trans (if_neg c28)
              have K := K.2 c28
              refine ea_aload_n (pc := 134) dX12_chargeBy_134 rfl 0 rfl ?_
              refine ea_getR (pc := 135) dX12_chargeBy_135 ec_12 (k := 64) (Nat.le_of_ble_eq_true rfl) rfl (Or.inl ew_1409) (hs7.1 0 (by decide)).1 (hs7.1 0 (by decide)).2.1 (hs7.2 0 64 rfl) ?_
              refine ea_iload_n (pc := 138) dX12_chargeBy_138 rfl 1 rfl ?_
              obtain ⟨z21, K⟩ := K
              refine ea_iald (pc := 139) dX12_chargeBy_139 (hs7.1 38 (by decide)).1 (hs7.1 38 (by decide)).2.1 (ea_vpl (hs7.1 38 (by decide)).2.2 z21) ?_
              refine ea_iconst (pc := 140) dX12_chargeBy_140 (v := 4) rfl ?_
              refine ea_icmp_ne (pc := 141) (tgt := 155) dX12_chargeBy_141 rfl (fun c23 => ?_) (fun c23 => ?_)
              · have EX := EX.trans (if_neg c23)
                refine ea_iload (pc := 155) dX12_chargeBy_155 3 rfl ?_
                exact ea_iretE (pc := 157) dX12_chargeBy_157 rfl rfl EX EY
              · have EX := EX.trans (if_pos c23)
                have K := K.1 c23
                refine ea_iload (pc := 144) dX12_chargeBy_144 3 rfl ?_
                refine ea_aload_n (pc := 146) dX12_chargeBy_146 rfl 0 rfl ?_
                refine ea_getR (pc := 147) dX12_chargeBy_147 ec_12 (k := 32) (Nat.le_of_ble_eq_true rfl) rfl (Or.inl ew_1377) (hs7.1 0 (by decide)).1 (hs7.1 0 (by decide)).2.1 (hs7.2 0 32 rfl) ?_
                refine ea_iload_n (pc := 150) dX12_chargeBy_150 rfl 2 rfl ?_
                have z22 := K
                refine ea_iald (pc := 151) dX12_chargeBy_151 (hs7.1 27 (by decide)).1 (hs7.1 27 (by decide)).2.1 (ea_vpl (hs7.1 27 (by decide)).2.2 z22) ?_
                refine ea_iadd (pc := 152) dX12_chargeBy_152 ?_
                refine ea_istore (pc := 153) (lv' := [(4, vI (((vX12_comesTo b0 (x2 : Int32) ((ea_i (wX12_lineOf b0 (x1 : Int32) (x2 : Int32) h) (b0 + 30) (Int32.toNatClampNeg (((25 : Int32) * x2) + (vX12_lineOf b0 (x1 : Int32) (x2 : Int32) h)))) : Int32) ((ea_i (wX12_lineOf b0 (x1 : Int32) (x2 : Int32) h) (b0 + 31) (Int32.toNatClampNeg (((24 : Int32) * x2) + (vX12_lineOf b0 (x1 : Int32) (x2 : Int32) h)))) : Int32) (wX12_lineOf b0 (x1 : Int32) (x2 : Int32) h)) + (ea_i (wX12_comesTo b0 (x2 : Int32) ((ea_i (wX12_lineOf b0 (x1 : Int32) (x2 : Int32) h) (b0 + 30) (Int32.toNatClampNeg (((25 : Int32) * x2) + (vX12_lineOf b0 (x1 : Int32) (x2 : Int32) h)))) : Int32) ((ea_i (wX12_lineOf b0 (x1 : Int32) (x2 : Int32) h) (b0 + 31) (Int32.toNatClampNeg (((24 : Int32) * x2) + (vX12_lineOf b0 (x1 : Int32) (x2 : Int32) h)))) : Int32) (wX12_lineOf b0 (x1 : Int32) (x2 : Int32) h)) (b0 + 23) (Int32.toNatClampNeg x2))) + (ea_i (wX12_comesTo b0 (x2 : Int32) ((ea_i (wX12_lineOf b0 (x1 : Int32) (x2 : Int32) h) (b0 + 30) (Int32.toNatClampNeg (((25 : Int32) * x2) + (vX12_lineOf b0 (x1 : Int32) (x2 : Int32) h)))) : Int32) ((ea_i (wX12_lineOf b0 (x1 : Int32) (x2 : Int32) h) (b0 + 31) (Int32.toNatClampNeg (((24 : Int32) * x2) + (vX12_lineOf b0 (x1 : Int32) (x2 : Int32) h)))) : Int32) (wX12_lineOf b0 (x1 : Int32) (x2 : Int32) h)) (b0 + 27) (Int32.toNatClampNeg x2))))]) dX12_chargeBy_153 (Nat.le_of_ble_eq_true rfl) [0] rfl ?_
                refine ea_iload (pc := 155) dX12_chargeBy_155 0 rfl ?_
                exact ea_iretE (pc := 157) dX12_chargeBy_157 rfl rfl EX EY
            · have EX := EX.trans (if_pos c28)
              have K := K.1 c28
              refine ea_iload (pc := 123) dX12_chargeBy_123 3 rfl ?_
              refine ea_aload_n (pc := 125) dX12_chargeBy_125 rfl 0 rfl ?_
              refine ea_getR (pc := 126) dX12_chargeBy_126 ec_12 (k := 31) (Nat.le_of_ble_eq_true rfl) rfl (Or.inl ew_1376) (hs7.1 0 (by decide)).1 (hs7.1 0 (by decide)).2.1 (hs7.2 0 31 rfl) ?_
              refine ea_iload_n (pc := 129) dX12_chargeBy_129 rfl 2 rfl ?_
              obtain ⟨z24, K⟩ := K
              refine ea_iald (pc := 130) dX12_chargeBy_130 (hs7.1 26 (by decide)).1 (hs7.1 26 (by decide)).2.1 (ea_vpl (hs7.1 26 (by decide)).2.2 z24) ?_
              refine ea_iadd (pc := 131) dX12_chargeBy_131 ?_
              refine ea_istore (pc := 132) (lv' := [(0, vR (some (b0 + 0))), (1, vI x1), (2, vI x2), (4, vI (((vX12_comesTo b0 (x2 : Int32) ((ea_i (wX12_lineOf b0 (x1 : Int32) (x2 : Int32) h) (b0 + 30) (Int32.toNatClampNeg (((25 : Int32) * x2) + (vX12_lineOf b0 (x1 : Int32) (x2 : Int32) h)))) : Int32) ((ea_i (wX12_lineOf b0 (x1 : Int32) (x2 : Int32) h) (b0 + 31) (Int32.toNatClampNeg (((24 : Int32) * x2) + (vX12_lineOf b0 (x1 : Int32) (x2 : Int32) h)))) : Int32) (wX12_lineOf b0 (x1 : Int32) (x2 : Int32) h)) + (ea_i (wX12_comesTo b0 (x2 : Int32) ((ea_i (wX12_lineOf b0 (x1 : Int32) (x2 : Int32) h) (b0 + 30) (Int32.toNatClampNeg (((25 : Int32) * x2) + (vX12_lineOf b0 (x1 : Int32) (x2 : Int32) h)))) : Int32) ((ea_i (wX12_lineOf b0 (x1 : Int32) (x2 : Int32) h) (b0 + 31) (Int32.toNatClampNeg (((24 : Int32) * x2) + (vX12_lineOf b0 (x1 : Int32) (x2 : Int32) h)))) : Int32) (wX12_lineOf b0 (x1 : Int32) (x2 : Int32) h)) (b0 + 23) (Int32.toNatClampNeg x2))) + (ea_i (wX12_comesTo b0 (x2 : Int32) ((ea_i (wX12_lineOf b0 (x1 : Int32) (x2 : Int32) h) (b0 + 30) (Int32.toNatClampNeg (((25 : Int32) * x2) + (vX12_lineOf b0 (x1 : Int32) (x2 : Int32) h)))) : Int32) ((ea_i (wX12_lineOf b0 (x1 : Int32) (x2 : Int32) h) (b0 + 31) (Int32.toNatClampNeg (((24 : Int32) * x2) + (vX12_lineOf b0 (x1 : Int32) (x2 : Int32) h)))) : Int32) (wX12_lineOf b0 (x1 : Int32) (x2 : Int32) h)) (b0 + 26) (Int32.toNatClampNeg x2))))]) dX12_chargeBy_132 (Nat.le_of_ble_eq_true rfl) [1, 2, 3, 0] rfl ?_
              refine ea_aload_n (pc := 134) dX12_chargeBy_134 rfl 0 rfl ?_
              refine ea_getR (pc := 135) dX12_chargeBy_135 ec_12 (k := 64) (Nat.le_of_ble_eq_true rfl) rfl (Or.inl ew_1409) (hs7.1 0 (by decide)).1 (hs7.1 0 (by decide)).2.1 (hs7.2 0 64 rfl) ?_
              refine ea_iload_n (pc := 138) dX12_chargeBy_138 rfl 1 rfl ?_
              obtain ⟨z25, K⟩ := K
              refine ea_iald (pc := 139) dX12_chargeBy_139 (hs7.1 38 (by decide)).1 (hs7.1 38 (by decide)).2.1 (ea_vpl (hs7.1 38 (by decide)).2.2 z25) ?_
              refine ea_iconst (pc := 140) dX12_chargeBy_140 (v := 4) rfl ?_
              refine ea_icmp_ne (pc := 141) (tgt := 155) dX12_chargeBy_141 rfl (fun c27 => ?_) (fun c27 => ?_)
              · have EX := EX.trans (if_neg c27)
                refine ea_iload (pc := 155) dX12_chargeBy_155 3 rfl ?_
                exact ea_iretE (pc := 157) dX12_chargeBy_157 rfl rfl EX EY
              · have EX := EX.trans (if_pos c27)
                have K := K.1 c27
                refine ea_iload (pc := 144) dX12_chargeBy_144 3 rfl ?_
                refine ea_aload_n (pc := 146) dX12_chargeBy_146 rfl 0 rfl ?_
                refine ea_getR (pc := 147) dX12_chargeBy_147 ec_12 (k := 32) (Nat.le_of_ble_eq_true rfl) rfl (Or.inl ew_1377) (hs7.1 0 (by decide)).1 (hs7.1 0 (by decide)).2.1 (hs7.2 0 32 rfl) ?_
                refine ea_iload_n (pc := 150) dX12_chargeBy_150 rfl 2 rfl ?_
                have z26 := K
                refine ea_iald (pc := 151) dX12_chargeBy_151 (hs7.1 27 (by decide)).1 (hs7.1 27 (by decide)).2.1 (ea_vpl (hs7.1 27 (by decide)).2.2 z26) ?_
                refine ea_iadd (pc := 152) dX12_chargeBy_152 ?_
                refine ea_istore (pc := 153) (lv' := [(4, vI ((((vX12_comesTo b0 (x2 : Int32) ((ea_i (wX12_lineOf b0 (x1 : Int32) (x2 : Int32) h) (b0 + 30) (Int32.toNatClampNeg (((25 : Int32) * x2) + (vX12_lineOf b0 (x1 : Int32) (x2 : Int32) h)))) : Int32) ((ea_i (wX12_lineOf b0 (x1 : Int32) (x2 : Int32) h) (b0 + 31) (Int32.toNatClampNeg (((24 : Int32) * x2) + (vX12_lineOf b0 (x1 : Int32) (x2 : Int32) h)))) : Int32) (wX12_lineOf b0 (x1 : Int32) (x2 : Int32) h)) + (ea_i (wX12_comesTo b0 (x2 : Int32) ((ea_i (wX12_lineOf b0 (x1 : Int32) (x2 : Int32) h) (b0 + 30) (Int32.toNatClampNeg (((25 : Int32) * x2) + (vX12_lineOf b0 (x1 : Int32) (x2 : Int32) h)))) : Int32) ((ea_i (wX12_lineOf b0 (x1 : Int32) (x2 : Int32) h) (b0 + 31) (Int32.toNatClampNeg (((24 : Int32) * x2) + (vX12_lineOf b0 (x1 : Int32) (x2 : Int32) h)))) : Int32) (wX12_lineOf b0 (x1 : Int32) (x2 : Int32) h)) (b0 + 23) (Int32.toNatClampNeg x2))) + (ea_i (wX12_comesTo b0 (x2 : Int32) ((ea_i (wX12_lineOf b0 (x1 : Int32) (x2 : Int32) h) (b0 + 30) (Int32.toNatClampNeg (((25 : Int32) * x2) + (vX12_lineOf b0 (x1 : Int32) (x2 : Int32) h)))) : Int32) ((ea_i (wX12_lineOf b0 (x1 : Int32) (x2 : Int32) h) (b0 + 31) (Int32.toNatClampNeg (((24 : Int32) * x2) + (vX12_lineOf b0 (x1 : Int32) (x2 : Int32) h)))) : Int32) (wX12_lineOf b0 (x1 : Int32) (x2 : Int32) h)) (b0 + 26) (Int32.toNatClampNeg x2))) + (ea_i (wX12_comesTo b0 (x2 : Int32) ((ea_i (wX12_lineOf b0 (x1 : Int32) (x2 : Int32) h) (b0 + 30) (Int32.toNatClampNeg (((25 : Int32) * x2) + (vX12_lineOf b0 (x1 : Int32) (x2 : Int32) h)))) : Int32) ((ea_i (wX12_lineOf b0 (x1 : Int32) (x2 : Int32) h) (b0 + 31) (Int32.toNatClampNeg (((24 : Int32) * x2) + (vX12_lineOf b0 (x1 : Int32) (x2 : Int32) h)))) : Int32) (wX12_lineOf b0 (x1 : Int32) (x2 : Int32) h)) (b0 + 27) (Int32.toNatClampNeg x2))))]) dX12_chargeBy_153 (Nat.le_of_ble_eq_true rfl) [0] rfl ?_
                refine ea_iload (pc := 155) dX12_chargeBy_155 0 rfl ?_
                exact ea_iretE (pc := 157) dX12_chargeBy_157 rfl rfl EX EY
        · have EX := EX.trans (if_neg c52)
          have K := K.2 c52
          refine ea_ldcw (pc := 73) dX12_chargeBy_73 ew_2010 ?_
          refine ea_goto (pc := 76) (tgt := 81) dX12_chargeBy_76 rfl ?_
          refine ea_istore (pc := 81) (lv' := [(0, vR (some (b0 + 0))), (1, vI x1), (2, vI x2), (4, vI 99999)]) dX12_chargeBy_81 (Nat.le_of_ble_eq_true rfl) [1, 2, 3, 0] rfl ?_
          refine ea_aload_n (pc := 83) dX12_chargeBy_83 rfl 0 rfl ?_
          refine ea_getR (pc := 84) dX12_chargeBy_84 ec_12 (k := 70) (Nat.le_of_ble_eq_true rfl) rfl (Or.inl ew_1415) (hs7.1 0 (by decide)).1 (hs7.1 0 (by decide)).2.1 (hs7.2 0 70 rfl) ?_
          refine ea_iload_n (pc := 87) dX12_chargeBy_87 rfl 1 rfl ?_
          obtain ⟨z30, K⟩ := K
          refine ea_iald (pc := 88) dX12_chargeBy_88 (hs7.1 44 (by decide)).1 (hs7.1 44 (by decide)).2.1 (ea_vpl (hs7.1 44 (by decide)).2.2 z30) ?_
          refine ea_sipush (pc := 89) dX12_chargeBy_89 (v := 1440) rfl ?_
          refine ea_irem (pc := 92) dX12_chargeBy_92 (by decide) ?_
          refine ea_aload_n (pc := 93) dX12_chargeBy_93 rfl 0 rfl ?_
          refine ea_getR (pc := 94) dX12_chargeBy_94 ec_12 (k := 29) (Nat.le_of_ble_eq_true rfl) rfl (Or.inl ew_1374) (hs7.1 0 (by decide)).1 (hs7.1 0 (by decide)).2.1 (hs7.2 0 29 rfl) ?_
          refine ea_iload_n (pc := 97) dX12_chargeBy_97 rfl 2 rfl ?_
          obtain ⟨z31, K⟩ := K
          refine ea_iald (pc := 98) dX12_chargeBy_98 (hs7.1 24 (by decide)).1 (hs7.1 24 (by decide)).2.1 (ea_vpl (hs7.1 24 (by decide)).2.2 z31) ?_
          refine ea_icmp_le (pc := 99) (tgt := 113) dX12_chargeBy_99 rfl (fun c51 => ?_) (fun c51 => ?_)
          · have EX := EX.trans (if_pos c51)
            have K := K.1 c51
            refine ea_aload_n (pc := 113) dX12_chargeBy_113 rfl 0 rfl ?_
            refine ea_getR (pc := 114) dX12_chargeBy_114 ec_12 (k := 64) (Nat.le_of_ble_eq_true rfl) rfl (Or.inl ew_1409) (hs7.1 0 (by decide)).1 (hs7.1 0 (by decide)).2.1 (hs7.2 0 64 rfl) ?_
            refine ea_iload_n (pc := 117) dX12_chargeBy_117 rfl 1 rfl ?_
            obtain ⟨z32, K⟩ := K
            refine ea_iald (pc := 118) dX12_chargeBy_118 (hs7.1 38 (by decide)).1 (hs7.1 38 (by decide)).2.1 (ea_vpl (hs7.1 38 (by decide)).2.2 z32) ?_
            refine ea_iconst (pc := 119) dX12_chargeBy_119 (v := 3) rfl ?_
            refine ea_icmp_ne (pc := 120) (tgt := 134) dX12_chargeBy_120 rfl (fun c40 => ?_) (fun c40 => ?_)
            · have EX := EX.trans (if_neg c40)
              have K := K.2 c40
              refine ea_aload_n (pc := 134) dX12_chargeBy_134 rfl 0 rfl ?_
              refine ea_getR (pc := 135) dX12_chargeBy_135 ec_12 (k := 64) (Nat.le_of_ble_eq_true rfl) rfl (Or.inl ew_1409) (hs7.1 0 (by decide)).1 (hs7.1 0 (by decide)).2.1 (hs7.2 0 64 rfl) ?_
              refine ea_iload_n (pc := 138) dX12_chargeBy_138 rfl 1 rfl ?_
              obtain ⟨z33, K⟩ := K
              refine ea_iald (pc := 139) dX12_chargeBy_139 (hs7.1 38 (by decide)).1 (hs7.1 38 (by decide)).2.1 (ea_vpl (hs7.1 38 (by decide)).2.2 z33) ?_
              refine ea_iconst (pc := 140) dX12_chargeBy_140 (v := 4) rfl ?_
              refine ea_icmp_ne (pc := 141) (tgt := 155) dX12_chargeBy_141 rfl (fun c35 => ?_) (fun c35 => ?_)
              · have EX := EX.trans (if_neg c35)
                refine ea_iload (pc := 155) dX12_chargeBy_155 3 rfl ?_
                exact ea_iretE (pc := 157) dX12_chargeBy_157 rfl rfl EX EY
              · have EX := EX.trans (if_pos c35)
                have K := K.1 c35
                refine ea_iload (pc := 144) dX12_chargeBy_144 3 rfl ?_
                refine ea_aload_n (pc := 146) dX12_chargeBy_146 rfl 0 rfl ?_
                refine ea_getR (pc := 147) dX12_chargeBy_147 ec_12 (k := 32) (Nat.le_of_ble_eq_true rfl) rfl (Or.inl ew_1377) (hs7.1 0 (by decide)).1 (hs7.1 0 (by decide)).2.1 (hs7.2 0 32 rfl) ?_
                refine ea_iload_n (pc := 150) dX12_chargeBy_150 rfl 2 rfl ?_
                have z34 := K
                refine ea_iald (pc := 151) dX12_chargeBy_151 (hs7.1 27 (by decide)).1 (hs7.1 27 (by decide)).2.1 (ea_vpl (hs7.1 27 (by decide)).2.2 z34) ?_
                refine ea_iadd (pc := 152) dX12_chargeBy_152 ?_
                refine ea_istore (pc := 153) (lv' := [(4, vI ((99999 : Int32) + (ea_i (wX12_comesTo b0 (x2 : Int32) ((ea_i (wX12_lineOf b0 (x1 : Int32) (x2 : Int32) h) (b0 + 30) (Int32.toNatClampNeg (((25 : Int32) * x2) + (vX12_lineOf b0 (x1 : Int32) (x2 : Int32) h)))) : Int32) ((ea_i (wX12_lineOf b0 (x1 : Int32) (x2 : Int32) h) (b0 + 31) (Int32.toNatClampNeg (((24 : Int32) * x2) + (vX12_lineOf b0 (x1 : Int32) (x2 : Int32) h)))) : Int32) (wX12_lineOf b0 (x1 : Int32) (x2 : Int32) h)) (b0 + 27) (Int32.toNatClampNeg x2))))]) dX12_chargeBy_153 (Nat.le_of_ble_eq_true rfl) [0] rfl ?_
                refine ea_iload (pc := 155) dX12_chargeBy_155 0 rfl ?_
                exact ea_iretE (pc := 157) dX12_chargeBy_157 rfl rfl EX EY
            · have EX := EX.trans (if_pos c40)
              have K := K.1 c40
              refine ea_iload (pc := 123) dX12_chargeBy_123 3 rfl ?_
              refine ea_aload_n (pc := 125) dX12_chargeBy_125 rfl 0 rfl ?_
              refine ea_getR (pc := 126) dX12_chargeBy_126 ec_12 (k := 31) (Nat.le_of_ble_eq_true rfl) rfl (Or.inl ew_1376) (hs7.1 0 (by decide)).1 (hs7.1 0 (by decide)).2.1 (hs7.2 0 31 rfl) ?_
              refine ea_iload_n (pc := 129) dX12_chargeBy_129 rfl 2 rfl ?_
              obtain ⟨z36, K⟩ := K
              refine ea_iald (pc := 130) dX12_chargeBy_130 (hs7.1 26 (by decide)).1 (hs7.1 26 (by decide)).2.1 (ea_vpl (hs7.1 26 (by decide)).2.2 z36) ?_
              refine ea_iadd (pc := 131) dX12_chargeBy_131 ?_
              refine ea_istore (pc := 132) (lv' := [(0, vR (some (b0 + 0))), (1, vI x1), (2, vI x2), (4, vI ((99999 : Int32) + (ea_i (wX12_comesTo b0 (x2 : Int32) ((ea_i (wX12_lineOf b0 (x1 : Int32) (x2 : Int32) h) (b0 + 30) (Int32.toNatClampNeg (((25 : Int32) * x2) + (vX12_lineOf b0 (x1 : Int32) (x2 : Int32) h)))) : Int32) ((ea_i (wX12_lineOf b0 (x1 : Int32) (x2 : Int32) h) (b0 + 31) (Int32.toNatClampNeg (((24 : Int32) * x2) + (vX12_lineOf b0 (x1 : Int32) (x2 : Int32) h)))) : Int32) (wX12_lineOf b0 (x1 : Int32) (x2 : Int32) h)) (b0 + 26) (Int32.toNatClampNeg x2))))]) dX12_chargeBy_132 (Nat.le_of_ble_eq_true rfl) [1, 2, 3, 0] rfl ?_
              refine ea_aload_n (pc := 134) dX12_chargeBy_134 rfl 0 rfl ?_
              refine ea_getR (pc := 135) dX12_chargeBy_135 ec_12 (k := 64) (Nat.le_of_ble_eq_true rfl) rfl (Or.inl ew_1409) (hs7.1 0 (by decide)).1 (hs7.1 0 (by decide)).2.1 (hs7.2 0 64 rfl) ?_
              refine ea_iload_n (pc := 138) dX12_chargeBy_138 rfl 1 rfl ?_
              obtain ⟨z37, K⟩ := K
              refine ea_iald (pc := 139) dX12_chargeBy_139 (hs7.1 38 (by decide)).1 (hs7.1 38 (by decide)).2.1 (ea_vpl (hs7.1 38 (by decide)).2.2 z37) ?_
              refine ea_iconst (pc := 140) dX12_chargeBy_140 (v := 4) rfl ?_
              refine ea_icmp_ne (pc := 141) (tgt := 155) dX12_chargeBy_141 rfl (fun c39 => ?_) (fun c39 => ?_)
              · have EX := EX.trans (if_neg c39)
                refine ea_iload (pc := 155) dX12_chargeBy_155 3 rfl ?_
                exact ea_iretE (pc := 157) dX12_chargeBy_157 rfl rfl EX EY
              · have EX := EX.trans (if_pos c39)
                have K := K.1 c39
                refine ea_iload (pc := 144) dX12_chargeBy_144 3 rfl ?_
                refine ea_aload_n (pc := 146) dX12_chargeBy_146 rfl 0 rfl ?_
                refine ea_getR (pc := 147) dX12_chargeBy_147 ec_12 (k := 32) (Nat.le_of_ble_eq_true rfl) rfl (Or.inl ew_1377) (hs7.1 0 (by decide)).1 (hs7.1 0 (by decide)).2.1 (hs7.2 0 32 rfl) ?_
                refine ea_iload_n (pc := 150) dX12_chargeBy_150 rfl 2 rfl ?_
                have z38 := K
                refine ea_iald (pc := 151) dX12_chargeBy_151 (hs7.1 27 (by decide)).1 (hs7.1 27 (by decide)).2.1 (ea_vpl (hs7.1 27 (by decide)).2.2 z38) ?_
                refine ea_iadd (pc := 152) dX12_chargeBy_152 ?_
                refine ea_istore (pc := 153) (lv' := [(4, vI (((99999 : Int32) + (ea_i (wX12_comesTo b0 (x2 : Int32) ((ea_i (wX12_lineOf b0 (x1 : Int32) (x2 : Int32) h) (b0 + 30) (Int32.toNatClampNeg (((25 : Int32) * x2) + (vX12_lineOf b0 (x1 : Int32) (x2 : Int32) h)))) : Int32) ((ea_i (wX12_lineOf b0 (x1 : Int32) (x2 : Int32) h) (b0 + 31) (Int32.toNatClampNeg (((24 : Int32) * x2) + (vX12_lineOf b0 (x1 : Int32) (x2 : Int32) h)))) : Int32) (wX12_lineOf b0 (x1 : Int32) (x2 : Int32) h)) (b0 + 26) (Int32.toNatClampNeg x2))) + (ea_i (wX12_comesTo b0 (x2 : Int32) ((ea_i (wX12_lineOf b0 (x1 : Int32) (x2 : Int32) h) (b0 + 30) (Int32.toNatClampNeg (((25 : Int32) * x2) + (vX12_lineOf b0 (x1 : Int32) (x2 : Int32) h)))) : Int32) ((ea_i (wX12_lineOf b0 (x1 : Int32) (x2 : Int32) h) (b0 + 31) (Int32.toNatClampNeg (((24 : Int32) * x2) + (vX12_lineOf b0 (x1 : Int32) (x2 : Int32) h)))) : Int32) (wX12_lineOf b0 (x1 : Int32) (x2 : Int32) h)) (b0 + 27) (Int32.toNatClampNeg x2))))]) dX12_chargeBy_153 (Nat.le_of_ble_eq_true rfl) [0] rfl ?_
                refine ea_iload (pc := 155) dX12_chargeBy_155 0 rfl ?_
                exact ea_iretE (pc := 157) dX12_chargeBy_157 rfl rfl EX EY
          · have EX := EX.trans (if_neg c51)
            have K := K.2 c51
            refine ea_iload (pc := 102) dX12_chargeBy_102 3 rfl ?_
            refine ea_aload_n (pc := 104) dX12_chargeBy_104 rfl 0 rfl ?_
            refine ea_getR (pc := 105) dX12_chargeBy_105 ec_12 (k := 28) (Nat.le_of_ble_eq_true rfl) rfl (Or.inl ew_1373) (hs7.1 0 (by decide)).1 (hs7.1 0 (by decide)).2.1 (hs7.2 0 28 rfl) ?_
            refine ea_iload_n (pc := 108) dX12_chargeBy_108 rfl 2 rfl ?_
            obtain ⟨z41, K⟩ := K
            refine ea_iald (pc := 109) dX12_chargeBy_109 (hs7.1 23 (by decide)).1 (hs7.1 23 (by decide)).2.1 (ea_vpl (hs7.1 23 (by decide)).2.2 z41) ?_
            refine ea_iadd (pc := 110) dX12_chargeBy_110 ?_
            refine ea_istore (pc := 111) (lv' := [(0, vR (some (b0 + 0))), (1, vI x1), (2, vI x2), (4, vI ((99999 : Int32) + (ea_i (wX12_comesTo b0 (x2 : Int32) ((ea_i (wX12_lineOf b0 (x1 : Int32) (x2 : Int32) h) (b0 + 30) (Int32.toNatClampNeg (((25 : Int32) * x2) + (vX12_lineOf b0 (x1 : Int32) (x2 : Int32) h)))) : Int32) ((ea_i (wX12_lineOf b0 (x1 : Int32) (x2 : Int32) h) (b0 + 31) (Int32.toNatClampNeg (((24 : Int32) * x2) + (vX12_lineOf b0 (x1 : Int32) (x2 : Int32) h)))) : Int32) (wX12_lineOf b0 (x1 : Int32) (x2 : Int32) h)) (b0 + 23) (Int32.toNatClampNeg x2))))]) dX12_chargeBy_111 (Nat.le_of_ble_eq_true rfl) [1, 2, 3, 0] rfl ?_
            refine ea_aload_n (pc := 113) dX12_chargeBy_113 rfl 0 rfl ?_
            refine ea_getR (pc := 114) dX12_chargeBy_114 ec_12 (k := 64) (Nat.le_of_ble_eq_true rfl) rfl (Or.inl ew_1409) (hs7.1 0 (by decide)).1 (hs7.1 0 (by decide)).2.1 (hs7.2 0 64 rfl) ?_
            refine ea_iload_n (pc := 117) dX12_chargeBy_117 rfl 1 rfl ?_
            obtain ⟨z42, K⟩ := K
            refine ea_iald (pc := 118) dX12_chargeBy_118 (hs7.1 38 (by decide)).1 (hs7.1 38 (by decide)).2.1 (ea_vpl (hs7.1 38 (by decide)).2.2 z42) ?_
            refine ea_iconst (pc := 119) dX12_chargeBy_119 (v := 3) rfl ?_
            refine ea_icmp_ne (pc := 120) (tgt := 134) dX12_chargeBy_120 rfl (fun c50 => ?_) (fun c50 => ?_)
            · have EX := EX.trans (if_neg c50)
              have K := K.2 c50
              refine ea_aload_n (pc := 134) dX12_chargeBy_134 rfl 0 rfl ?_
              refine ea_getR (pc := 135) dX12_chargeBy_135 ec_12 (k := 64) (Nat.le_of_ble_eq_true rfl) rfl (Or.inl ew_1409) (hs7.1 0 (by decide)).1 (hs7.1 0 (by decide)).2.1 (hs7.2 0 64 rfl) ?_
              refine ea_iload_n (pc := 138) dX12_chargeBy_138 rfl 1 rfl ?_
              obtain ⟨z43, K⟩ := K
              refine ea_iald (pc := 139) dX12_chargeBy_139 (hs7.1 38 (by decide)).1 (hs7.1 38 (by decide)).2.1 (ea_vpl (hs7.1 38 (by decide)).2.2 z43) ?_
              refine ea_iconst (pc := 140) dX12_chargeBy_140 (v := 4) rfl ?_
              refine ea_icmp_ne (pc := 141) (tgt := 155) dX12_chargeBy_141 rfl (fun c45 => ?_) (fun c45 => ?_)
              · have EX := EX.trans (if_neg c45)
                refine ea_iload (pc := 155) dX12_chargeBy_155 3 rfl ?_
                exact ea_iretE (pc := 157) dX12_chargeBy_157 rfl rfl EX EY
              · have EX := EX.trans (if_pos c45)
                have K := K.1 c45
                refine ea_iload (pc := 144) dX12_chargeBy_144 3 rfl ?_
                refine ea_aload_n (pc := 146) dX12_chargeBy_146 rfl 0 rfl ?_
                refine ea_getR (pc := 147) dX12_chargeBy_147 ec_12 (k := 32) (Nat.le_of_ble_eq_true rfl) rfl (Or.inl ew_1377) (hs7.1 0 (by decide)).1 (hs7.1 0 (by decide)).2.1 (hs7.2 0 32 rfl) ?_
                refine ea_iload_n (pc := 150) dX12_chargeBy_150 rfl 2 rfl ?_
                have z44 := K
                refine ea_iald (pc := 151) dX12_chargeBy_151 (hs7.1 27 (by decide)).1 (hs7.1 27 (by decide)).2.1 (ea_vpl (hs7.1 27 (by decide)).2.2 z44) ?_
                refine ea_iadd (pc := 152) dX12_chargeBy_152 ?_
                refine ea_istore (pc := 153) (lv' := [(4, vI (((99999 : Int32) + (ea_i (wX12_comesTo b0 (x2 : Int32) ((ea_i (wX12_lineOf b0 (x1 : Int32) (x2 : Int32) h) (b0 + 30) (Int32.toNatClampNeg (((25 : Int32) * x2) + (vX12_lineOf b0 (x1 : Int32) (x2 : Int32) h)))) : Int32) ((ea_i (wX12_lineOf b0 (x1 : Int32) (x2 : Int32) h) (b0 + 31) (Int32.toNatClampNeg (((24 : Int32) * x2) + (vX12_lineOf b0 (x1 : Int32) (x2 : Int32) h)))) : Int32) (wX12_lineOf b0 (x1 : Int32) (x2 : Int32) h)) (b0 + 23) (Int32.toNatClampNeg x2))) + (ea_i (wX12_comesTo b0 (x2 : Int32) ((ea_i (wX12_lineOf b0 (x1 : Int32) (x2 : Int32) h) (b0 + 30) (Int32.toNatClampNeg (((25 : Int32) * x2) + (vX12_lineOf b0 (x1 : Int32) (x2 : Int32) h)))) : Int32) ((ea_i (wX12_lineOf b0 (x1 : Int32) (x2 : Int32) h) (b0 + 31) (Int32.toNatClampNeg (((24 : Int32) * x2) + (vX12_lineOf b0 (x1 : Int32) (x2 : Int32) h)))) : Int32) (wX12_lineOf b0 (x1 : Int32) (x2 : Int32) h)) (b0 + 27) (Int32.toNatClampNeg x2))))]) dX12_chargeBy_153 (Nat.le_of_ble_eq_true rfl) [0] rfl ?_
                refine ea_iload (pc := 155) dX12_chargeBy_155 0 rfl ?_
                exact ea_iretE (pc := 157) dX12_chargeBy_157 rfl rfl EX EY
            · have EX := EX.trans (if_pos c50)
              have K := K.1 c50
              refine ea_iload (pc := 123) dX12_chargeBy_123 3 rfl ?_
              refine ea_aload_n (pc := 125) dX12_chargeBy_125 rfl 0 rfl ?_
              refine ea_getR (pc := 126) dX12_chargeBy_126 ec_12 (k := 31) (Nat.le_of_ble_eq_true rfl) rfl (Or.inl ew_1376) (hs7.1 0 (by decide)).1 (hs7.1 0 (by decide)).2.1 (hs7.2 0 31 rfl) ?_
              refine ea_iload_n (pc := 129) dX12_chargeBy_129 rfl 2 rfl ?_
              obtain ⟨z46, K⟩ := K
              refine ea_iald (pc := 130) dX12_chargeBy_130 (hs7.1 26 (by decide)).1 (hs7.1 26 (by decide)).2.1 (ea_vpl (hs7.1 26 (by decide)).2.2 z46) ?_
              refine ea_iadd (pc := 131) dX12_chargeBy_131 ?_
              refine ea_istore (pc := 132) (lv' := [(0, vR (some (b0 + 0))), (1, vI x1), (2, vI x2), (4, vI (((99999 : Int32) + (ea_i (wX12_comesTo b0 (x2 : Int32) ((ea_i (wX12_lineOf b0 (x1 : Int32) (x2 : Int32) h) (b0 + 30) (Int32.toNatClampNeg (((25 : Int32) * x2) + (vX12_lineOf b0 (x1 : Int32) (x2 : Int32) h)))) : Int32) ((ea_i (wX12_lineOf b0 (x1 : Int32) (x2 : Int32) h) (b0 + 31) (Int32.toNatClampNeg (((24 : Int32) * x2) + (vX12_lineOf b0 (x1 : Int32) (x2 : Int32) h)))) : Int32) (wX12_lineOf b0 (x1 : Int32) (x2 : Int32) h)) (b0 + 23) (Int32.toNatClampNeg x2))) + (ea_i (wX12_comesTo b0 (x2 : Int32) ((ea_i (wX12_lineOf b0 (x1 : Int32) (x2 : Int32) h) (b0 + 30) (Int32.toNatClampNeg (((25 : Int32) * x2) + (vX12_lineOf b0 (x1 : Int32) (x2 : Int32) h)))) : Int32) ((ea_i (wX12_lineOf b0 (x1 : Int32) (x2 : Int32) h) (b0 + 31) (Int32.toNatClampNeg (((24 : Int32) * x2) + (vX12_lineOf b0 (x1 : Int32) (x2 : Int32) h)))) : Int32) (wX12_lineOf b0 (x1 : Int32) (x2 : Int32) h)) (b0 + 26) (Int32.toNatClampNeg x2))))]) dX12_chargeBy_132 (Nat.le_of_ble_eq_true rfl) [1, 2, 3, 0] rfl ?_
              refine ea_aload_n (pc := 134) dX12_chargeBy_134 rfl 0 rfl ?_
              refine ea_getR (pc := 135) dX12_chargeBy_135 ec_12 (k := 64) (Nat.le_of_ble_eq_true rfl) rfl (Or.inl ew_1409) (hs7.1 0 (by decide)).1 (hs7.1 0 (by decide)).2.1 (hs7.2 0 64 rfl) ?_
              refine ea_iload_n (pc := 138) dX12_chargeBy_138 rfl 1 rfl ?_
              obtain ⟨z47, K⟩ := K
              refine ea_iald (pc := 139) dX12_chargeBy_139 (hs7.1 38 (by decide)).1 (hs7.1 38 (by decide)).2.1 (ea_vpl (hs7.1 38 (by decide)).2.2 z47) ?_
              refine ea_iconst (pc := 140) dX12_chargeBy_140 (v := 4) rfl ?_
              refine ea_icmp_ne (pc := 141) (tgt := 155) dX12_chargeBy_141 rfl (fun c49 => ?_) (fun c49 => ?_)
              · have EX := EX.trans (if_neg c49)
                refine ea_iload (pc := 155) dX12_chargeBy_155 3 rfl ?_
                exact ea_iretE (pc := 157) dX12_chargeBy_157 rfl rfl EX EY
              · have EX := EX.trans (if_pos c49)
                have K := K.1 c49
                refine ea_iload (pc := 144) dX12_chargeBy_144 3 rfl ?_
                refine ea_aload_n (pc := 146) dX12_chargeBy_146 rfl 0 rfl ?_
                refine ea_getR (pc := 147) dX12_chargeBy_147 ec_12 (k := 32) (Nat.le_of_ble_eq_true rfl) rfl (Or.inl ew_1377) (hs7.1 0 (by decide)).1 (hs7.1 0 (by decide)).2.1 (hs7.2 0 32 rfl) ?_
                refine ea_iload_n (pc := 150) dX12_chargeBy_150 rfl 2 rfl ?_
                have z48 := K
                refine ea_iald (pc := 151) dX12_chargeBy_151 (hs7.1 27 (by decide)).1 (hs7.1 27 (by decide)).2.1 (ea_vpl (hs7.1 27 (by decide)).2.2 z48) ?_
                refine ea_iadd (pc := 152) dX12_chargeBy_152 ?_
                refine ea_istore (pc := 153) (lv' := [(4, vI ((((99999 : Int32) + (ea_i (wX12_comesTo b0 (x2 : Int32) ((ea_i (wX12_lineOf b0 (x1 : Int32) (x2 : Int32) h) (b0 + 30) (Int32.toNatClampNeg (((25 : Int32) * x2) + (vX12_lineOf b0 (x1 : Int32) (x2 : Int32) h)))) : Int32) ((ea_i (wX12_lineOf b0 (x1 : Int32) (x2 : Int32) h) (b0 + 31) (Int32.toNatClampNeg (((24 : Int32) * x2) + (vX12_lineOf b0 (x1 : Int32) (x2 : Int32) h)))) : Int32) (wX12_lineOf b0 (x1 : Int32) (x2 : Int32) h)) (b0 + 23) (Int32.toNatClampNeg x2))) + (ea_i (wX12_comesTo b0 (x2 : Int32) ((ea_i (wX12_lineOf b0 (x1 : Int32) (x2 : Int32) h) (b0 + 30) (Int32.toNatClampNeg (((25 : Int32) * x2) + (vX12_lineOf b0 (x1 : Int32) (x2 : Int32) h)))) : Int32) ((ea_i (wX12_lineOf b0 (x1 : Int32) (x2 : Int32) h) (b0 + 31) (Int32.toNatClampNeg (((24 : Int32) * x2) + (vX12_lineOf b0 (x1 : Int32) (x2 : Int32) h)))) : Int32) (wX12_lineOf b0 (x1 : Int32) (x2 : Int32) h)) (b0 + 26) (Int32.toNatClampNeg x2))) + (ea_i (wX12_comesTo b0 (x2 : Int32) ((ea_i (wX12_lineOf b0 (x1 : Int32) (x2 : Int32) h) (b0 + 30) (Int32.toNatClampNeg (((25 : Int32) * x2) + (vX12_lineOf b0 (x1 : Int32) (x2 : Int32) h)))) : Int32) ((ea_i (wX12_lineOf b0 (x1 : Int32) (x2 : Int32) h) (b0 + 31) (Int32.toNatClampNeg (((24 : Int32) * x2) + (vX12_lineOf b0 (x1 : Int32) (x2 : Int32) h)))) : Int32) (wX12_lineOf b0 (x1 : Int32) (x2 : Int32) h)) (b0 + 27) (Int32.toNatClampNeg x2))))]) dX12_chargeBy_153 (Nat.le_of_ble_eq_true rfl) [0] rfl ?_
                refine ea_iload (pc := 155) dX12_chargeBy_155 0 rfl ?_
                exact ea_iretE (pc := 157) dX12_chargeBy_157 rfl rfl EX EY
      · have EX := EX.trans (if_neg c75)
        have K := K.2 c75
        refine ea_iconst (pc := 61) dX12_chargeBy_61 (v := 0) rfl ?_
        refine ea_goto (pc := 62) (tgt := 81) dX12_chargeBy_62 rfl ?_
        refine ea_istore (pc := 81) (lv' := [(0, vR (some (b0 + 0))), (1, vI x1), (2, vI x2), (4, vI 0)]) dX12_chargeBy_81 (Nat.le_of_ble_eq_true rfl) [1, 2, 3, 0] rfl ?_
        refine ea_aload_n (pc := 83) dX12_chargeBy_83 rfl 0 rfl ?_
        refine ea_getR (pc := 84) dX12_chargeBy_84 ec_12 (k := 70) (Nat.le_of_ble_eq_true rfl) rfl (Or.inl ew_1415) (hs7.1 0 (by decide)).1 (hs7.1 0 (by decide)).2.1 (hs7.2 0 70 rfl) ?_
        refine ea_iload_n (pc := 87) dX12_chargeBy_87 rfl 1 rfl ?_
        obtain ⟨z53, K⟩ := K
        refine ea_iald (pc := 88) dX12_chargeBy_88 (hs7.1 44 (by decide)).1 (hs7.1 44 (by decide)).2.1 (ea_vpl (hs7.1 44 (by decide)).2.2 z53) ?_
        refine ea_sipush (pc := 89) dX12_chargeBy_89 (v := 1440) rfl ?_
        refine ea_irem (pc := 92) dX12_chargeBy_92 (by decide) ?_
        refine ea_aload_n (pc := 93) dX12_chargeBy_93 rfl 0 rfl ?_
        refine ea_getR (pc := 94) dX12_chargeBy_94 ec_12 (k := 29) (Nat.le_of_ble_eq_true rfl) rfl (Or.inl ew_1374) (hs7.1 0 (by decide)).1 (hs7.1 0 (by decide)).2.1 (hs7.2 0 29 rfl) ?_
        refine ea_iload_n (pc := 97) dX12_chargeBy_97 rfl 2 rfl ?_
        obtain ⟨z54, K⟩ := K
        refine ea_iald (pc := 98) dX12_chargeBy_98 (hs7.1 24 (by decide)).1 (hs7.1 24 (by decide)).2.1 (ea_vpl (hs7.1 24 (by decide)).2.2 z54) ?_
        refine ea_icmp_le (pc := 99) (tgt := 113) dX12_chargeBy_99 rfl (fun c74 => ?_) (fun c74 => ?_)
        · have EX := EX.trans (if_pos c74)
          have K := K.1 c74
          refine ea_aload_n (pc := 113) dX12_chargeBy_113 rfl 0 rfl ?_
          refine ea_getR (pc := 114) dX12_chargeBy_114 ec_12 (k := 64) (Nat.le_of_ble_eq_true rfl) rfl (Or.inl ew_1409) (hs7.1 0 (by decide)).1 (hs7.1 0 (by decide)).2.1 (hs7.2 0 64 rfl) ?_
          refine ea_iload_n (pc := 117) dX12_chargeBy_117 rfl 1 rfl ?_
          obtain ⟨z55, K⟩ := K
          refine ea_iald (pc := 118) dX12_chargeBy_118 (hs7.1 38 (by decide)).1 (hs7.1 38 (by decide)).2.1 (ea_vpl (hs7.1 38 (by decide)).2.2 z55) ?_
          refine ea_iconst (pc := 119) dX12_chargeBy_119 (v := 3) rfl ?_
          refine ea_icmp_ne (pc := 120) (tgt := 134) dX12_chargeBy_120 rfl (fun c63 => ?_) (fun c63 => ?_)
          · have EX := EX.trans (if_neg c63)
            have K := K.2 c63
            refine ea_aload_n (pc := 134) dX12_chargeBy_134 rfl 0 rfl ?_
            refine ea_getR (pc := 135) dX12_chargeBy_135 ec_12 (k := 64) (Nat.le_of_ble_eq_true rfl) rfl (Or.inl ew_1409) (hs7.1 0 (by decide)).1 (hs7.1 0 (by decide)).2.1 (hs7.2 0 64 rfl) ?_
            refine ea_iload_n (pc := 138) dX12_chargeBy_138 rfl 1 rfl ?_
            obtain ⟨z56, K⟩ := K
            refine ea_iald (pc := 139) dX12_chargeBy_139 (hs7.1 38 (by decide)).1 (hs7.1 38 (by decide)).2.1 (ea_vpl (hs7.1 38 (by decide)).2.2 z56) ?_
            refine ea_iconst (pc := 140) dX12_chargeBy_140 (v := 4) rfl ?_
            refine ea_icmp_ne (pc := 141) (tgt := 155) dX12_chargeBy_141 rfl (fun c58 => ?_) (fun c58 => ?_)
            · have EX := EX.trans (if_neg c58)
              refine ea_iload (pc := 155) dX12_chargeBy_155 3 rfl ?_
              exact ea_iretE (pc := 157) dX12_chargeBy_157 rfl rfl EX EY
            · have EX := EX.trans (if_pos c58)
              have K := K.1 c58
              refine ea_iload (pc := 144) dX12_chargeBy_144 3 rfl ?_
              refine ea_aload_n (pc := 146) dX12_chargeBy_146 rfl 0 rfl ?_
              refine ea_getR (pc := 147) dX12_chargeBy_147 ec_12 (k := 32) (Nat.le_of_ble_eq_true rfl) rfl (Or.inl ew_1377) (hs7.1 0 (by decide)).1 (hs7.1 0 (by decide)).2.1 (hs7.2 0 32 rfl) ?_
              refine ea_iload_n (pc := 150) dX12_chargeBy_150 rfl 2 rfl ?_
              have z57 := K
              refine ea_iald (pc := 151) dX12_chargeBy_151 (hs7.1 27 (by decide)).1 (hs7.1 27 (by decide)).2.1 (ea_vpl (hs7.1 27 (by decide)).2.2 z57) ?_
              refine ea_iadd (pc := 152) dX12_chargeBy_152 ?_
              refine ea_istore (pc := 153) (lv' := [(4, vI ((0 : Int32) + (ea_i (wX12_comesTo b0 (x2 : Int32) ((ea_i (wX12_lineOf b0 (x1 : Int32) (x2 : Int32) h) (b0 + 30) (Int32.toNatClampNeg (((25 : Int32) * x2) + (vX12_lineOf b0 (x1 : Int32) (x2 : Int32) h)))) : Int32) ((ea_i (wX12_lineOf b0 (x1 : Int32) (x2 : Int32) h) (b0 + 31) (Int32.toNatClampNeg (((24 : Int32) * x2) + (vX12_lineOf b0 (x1 : Int32) (x2 : Int32) h)))) : Int32) (wX12_lineOf b0 (x1 : Int32) (x2 : Int32) h)) (b0 + 27) (Int32.toNatClampNeg x2))))]) dX12_chargeBy_153 (Nat.le_of_ble_eq_true rfl) [0] rfl ?_
              refine ea_iload (pc := 155) dX12_chargeBy_155 0 rfl ?_
              exact ea_iretE (pc := 157) dX12_chargeBy_157 rfl rfl EX EY
          · have EX := EX.trans (if_pos c63)
            have K := K.1 c63
            refine ea_iload (pc := 123) dX12_chargeBy_123 3 rfl ?_
            refine ea_aload_n (pc := 125) dX12_chargeBy_125 rfl 0 rfl ?_
            refine ea_getR (pc := 126) dX12_chargeBy_126 ec_12 (k := 31) (Nat.le_of_ble_eq_true rfl) rfl (Or.inl ew_1376) (hs7.1 0 (by decide)).1 (hs7.1 0 (by decide)).2.1 (hs7.2 0 31 rfl) ?_
            refine ea_iload_n (pc := 129) dX12_chargeBy_129 rfl 2 rfl ?_
            obtain ⟨z59, K⟩ := K
            refine ea_iald (pc := 130) dX12_chargeBy_130 (hs7.1 26 (by decide)).1 (hs7.1 26 (by decide)).2.1 (ea_vpl (hs7.1 26 (by decide)).2.2 z59) ?_
            refine ea_iadd (pc := 131) dX12_chargeBy_131 ?_
            refine ea_istore (pc := 132) (lv' := [(0, vR (some (b0 + 0))), (1, vI x1), (2, vI x2), (4, vI ((0 : Int32) + (ea_i (wX12_comesTo b0 (x2 : Int32) ((ea_i (wX12_lineOf b0 (x1 : Int32) (x2 : Int32) h) (b0 + 30) (Int32.toNatClampNeg (((25 : Int32) * x2) + (vX12_lineOf b0 (x1 : Int32) (x2 : Int32) h)))) : Int32) ((ea_i (wX12_lineOf b0 (x1 : Int32) (x2 : Int32) h) (b0 + 31) (Int32.toNatClampNeg (((24 : Int32) * x2) + (vX12_lineOf b0 (x1 : Int32) (x2 : Int32) h)))) : Int32) (wX12_lineOf b0 (x1 : Int32) (x2 : Int32) h)) (b0 + 26) (Int32.toNatClampNeg x2))))]) dX12_chargeBy_132 (Nat.le_of_ble_eq_true rfl) [1, 2, 3, 0] rfl ?_
            refine ea_aload_n (pc := 134) dX12_chargeBy_134 rfl 0 rfl ?_
            refine ea_getR (pc := 135) dX12_chargeBy_135 ec_12 (k := 64) (Nat.le_of_ble_eq_true rfl) rfl (Or.inl ew_1409) (hs7.1 0 (by decide)).1 (hs7.1 0 (by decide)).2.1 (hs7.2 0 64 rfl) ?_
            refine ea_iload_n (pc := 138) dX12_chargeBy_138 rfl 1 rfl ?_
            obtain ⟨z60, K⟩ := K
            refine ea_iald (pc := 139) dX12_chargeBy_139 (hs7.1 38 (by decide)).1 (hs7.1 38 (by decide)).2.1 (ea_vpl (hs7.1 38 (by decide)).2.2 z60) ?_
            refine ea_iconst (pc := 140) dX12_chargeBy_140 (v := 4) rfl ?_
            refine ea_icmp_ne (pc := 141) (tgt := 155) dX12_chargeBy_141 rfl (fun c62 => ?_) (fun c62 => ?_)
            · have EX := EX.trans (if_neg c62)
              refine ea_iload (pc := 155) dX12_chargeBy_155 3 rfl ?_
              exact ea_iretE (pc := 157) dX12_chargeBy_157 rfl rfl EX EY
            · have EX := EX.trans (if_pos c62)
              have K := K.1 c62
              refine ea_iload (pc := 144) dX12_chargeBy_144 3 rfl ?_
              refine ea_aload_n (pc := 146) dX12_chargeBy_146 rfl 0 rfl ?_
              refine ea_getR (pc := 147) dX12_chargeBy_147 ec_12 (k := 32) (Nat.le_of_ble_eq_true rfl) rfl (Or.inl ew_1377) (hs7.1 0 (by decide)).1 (hs7.1 0 (by decide)).2.1 (hs7.2 0 32 rfl) ?_
              refine ea_iload_n (pc := 150) dX12_chargeBy_150 rfl 2 rfl ?_
              have z61 := K
              refine ea_iald (pc := 151) dX12_chargeBy_151 (hs7.1 27 (by decide)).1 (hs7.1 27 (by decide)).2.1 (ea_vpl (hs7.1 27 (by decide)).2.2 z61) ?_
              refine ea_iadd (pc := 152) dX12_chargeBy_152 ?_
              refine ea_istore (pc := 153) (lv' := [(4, vI (((0 : Int32) + (ea_i (wX12_comesTo b0 (x2 : Int32) ((ea_i (wX12_lineOf b0 (x1 : Int32) (x2 : Int32) h) (b0 + 30) (Int32.toNatClampNeg (((25 : Int32) * x2) + (vX12_lineOf b0 (x1 : Int32) (x2 : Int32) h)))) : Int32) ((ea_i (wX12_lineOf b0 (x1 : Int32) (x2 : Int32) h) (b0 + 31) (Int32.toNatClampNeg (((24 : Int32) * x2) + (vX12_lineOf b0 (x1 : Int32) (x2 : Int32) h)))) : Int32) (wX12_lineOf b0 (x1 : Int32) (x2 : Int32) h)) (b0 + 26) (Int32.toNatClampNeg x2))) + (ea_i (wX12_comesTo b0 (x2 : Int32) ((ea_i (wX12_lineOf b0 (x1 : Int32) (x2 : Int32) h) (b0 + 30) (Int32.toNatClampNeg (((25 : Int32) * x2) + (vX12_lineOf b0 (x1 : Int32) (x2 : Int32) h)))) : Int32) ((ea_i (wX12_lineOf b0 (x1 : Int32) (x2 : Int32) h) (b0 + 31) (Int32.toNatClampNeg (((24 : Int32) * x2) + (vX12_lineOf b0 (x1 : Int32) (x2 : Int32) h)))) : Int32) (wX12_lineOf b0 (x1 : Int32) (x2 : Int32) h)) (b0 + 27) (Int32.toNatClampNeg x2))))]) dX12_chargeBy_153 (Nat.le_of_ble_eq_true rfl) [0] rfl ?_
              refine ea_iload (pc := 155) dX12_chargeBy_155 0 rfl ?_
              exact ea_iretE (pc := 157) dX12_chargeBy_157 rfl rfl EX EY
        · have EX := EX.trans (if_neg c74)
          have K := K.2 c74
          refine ea_iload (pc := 102) dX12_chargeBy_102 3 rfl ?_
          refine ea_aload_n (pc := 104) dX12_chargeBy_104 rfl 0 rfl ?_
          refine ea_getR (pc := 105) dX12_chargeBy_105 ec_12 (k := 28) (Nat.le_of_ble_eq_true rfl) rfl (Or.inl ew_1373) (hs7.1 0 (by decide)).1 (hs7.1 0 (by decide)).2.1 (hs7.2 0 28 rfl) ?_
          refine ea_iload_n (pc := 108) dX12_chargeBy_108 rfl 2 rfl ?_
          obtain ⟨z64, K⟩ := K
          refine ea_iald (pc := 109) dX12_chargeBy_109 (hs7.1 23 (by decide)).1 (hs7.1 23 (by decide)).2.1 (ea_vpl (hs7.1 23 (by decide)).2.2 z64) ?_
          refine ea_iadd (pc := 110) dX12_chargeBy_110 ?_
          refine ea_istore (pc := 111) (lv' := [(0, vR (some (b0 + 0))), (1, vI x1), (2, vI x2), (4, vI ((0 : Int32) + (ea_i (wX12_comesTo b0 (x2 : Int32) ((ea_i (wX12_lineOf b0 (x1 : Int32) (x2 : Int32) h) (b0 + 30) (Int32.toNatClampNeg (((25 : Int32) * x2) + (vX12_lineOf b0 (x1 : Int32) (x2 : Int32) h)))) : Int32) ((ea_i (wX12_lineOf b0 (x1 : Int32) (x2 : Int32) h) (b0 + 31) (Int32.toNatClampNeg (((24 : Int32) * x2) + (vX12_lineOf b0 (x1 : Int32) (x2 : Int32) h)))) : Int32) (wX12_lineOf b0 (x1 : Int32) (x2 : Int32) h)) (b0 + 23) (Int32.toNatClampNeg x2))))]) dX12_chargeBy_111 (Nat.le_of_ble_eq_true rfl) [1, 2, 3, 0] rfl ?_
          refine ea_aload_n (pc := 113) dX12_chargeBy_113 rfl 0 rfl ?_
          refine ea_getR (pc := 114) dX12_chargeBy_114 ec_12 (k := 64) (Nat.le_of_ble_eq_true rfl) rfl (Or.inl ew_1409) (hs7.1 0 (by decide)).1 (hs7.1 0 (by decide)).2.1 (hs7.2 0 64 rfl) ?_
          refine ea_iload_n (pc := 117) dX12_chargeBy_117 rfl 1 rfl ?_
          obtain ⟨z65, K⟩ := K
          refine ea_iald (pc := 118) dX12_chargeBy_118 (hs7.1 38 (by decide)).1 (hs7.1 38 (by decide)).2.1 (ea_vpl (hs7.1 38 (by decide)).2.2 z65) ?_
          refine ea_iconst (pc := 119) dX12_chargeBy_119 (v := 3) rfl ?_
          refine ea_icmp_ne (pc := 120) (tgt := 134) dX12_chargeBy_120 rfl (fun c73 => ?_) (fun c73 => ?_)
          · have EX := EX.trans (if_neg c73)
            have K := K.2 c73
            refine ea_aload_n (pc := 134) dX12_chargeBy_134 rfl 0 rfl ?_
            refine ea_getR (pc := 135) dX12_chargeBy_135 ec_12 (k := 64) (Nat.le_of_ble_eq_true rfl) rfl (Or.inl ew_1409) (hs7.1 0 (by decide)).1 (hs7.1 0 (by decide)).2.1 (hs7.2 0 64 rfl) ?_
            refine ea_iload_n (pc := 138) dX12_chargeBy_138 rfl 1 rfl ?_
            obtain ⟨z66, K⟩ := K
            refine ea_iald (pc := 139) dX12_chargeBy_139 (hs7.1 38 (by decide)).1 (hs7.1 38 (by decide)).2.1 (ea_vpl (hs7.1 38 (by decide)).2.2 z66) ?_
            refine ea_iconst (pc := 140) dX12_chargeBy_140 (v := 4) rfl ?_
            refine ea_icmp_ne (pc := 141) (tgt := 155) dX12_chargeBy_141 rfl (fun c68 => ?_) (fun c68 => ?_)
            · have EX := EX.trans (if_neg c68)
              refine ea_iload (pc := 155) dX12_chargeBy_155 3 rfl ?_
              exact ea_iretE (pc := 157) dX12_chargeBy_157 rfl rfl EX EY
            · have EX := EX.trans (if_pos c68)
              have K := K.1 c68
              refine ea_iload (pc := 144) dX12_chargeBy_144 3 rfl ?_
              refine ea_aload_n (pc := 146) dX12_chargeBy_146 rfl 0 rfl ?_
              refine ea_getR (pc := 147) dX12_chargeBy_147 ec_12 (k := 32) (Nat.le_of_ble_eq_true rfl) rfl (Or.inl ew_1377) (hs7.1 0 (by decide)).1 (hs7.1 0 (by decide)).2.1 (hs7.2 0 32 rfl) ?_
              refine ea_iload_n (pc := 150) dX12_chargeBy_150 rfl 2 rfl ?_
              have z67 := K
              refine ea_iald (pc := 151) dX12_chargeBy_151 (hs7.1 27 (by decide)).1 (hs7.1 27 (by decide)).2.1 (ea_vpl (hs7.1 27 (by decide)).2.2 z67) ?_
              refine ea_iadd (pc := 152) dX12_chargeBy_152 ?_
              refine ea_istore (pc := 153) (lv' := [(4, vI (((0 : Int32) + (ea_i (wX12_comesTo b0 (x2 : Int32) ((ea_i (wX12_lineOf b0 (x1 : Int32) (x2 : Int32) h) (b0 + 30) (Int32.toNatClampNeg (((25 : Int32) * x2) + (vX12_lineOf b0 (x1 : Int32) (x2 : Int32) h)))) : Int32) ((ea_i (wX12_lineOf b0 (x1 : Int32) (x2 : Int32) h) (b0 + 31) (Int32.toNatClampNeg (((24 : Int32) * x2) + (vX12_lineOf b0 (x1 : Int32) (x2 : Int32) h)))) : Int32) (wX12_lineOf b0 (x1 : Int32) (x2 : Int32) h)) (b0 + 23) (Int32.toNatClampNeg x2))) + (ea_i (wX12_comesTo b0 (x2 : Int32) ((ea_i (wX12_lineOf b0 (x1 : Int32) (x2 : Int32) h) (b0 + 30) (Int32.toNatClampNeg (((25 : Int32) * x2) + (vX12_lineOf b0 (x1 : Int32) (x2 : Int32) h)))) : Int32) ((ea_i (wX12_lineOf b0 (x1 : Int32) (x2 : Int32) h) (b0 + 31) (Int32.toNatClampNeg (((24 : Int32) * x2) + (vX12_lineOf b0 (x1 : Int32) (x2 : Int32) h)))) : Int32) (wX12_lineOf b0 (x1 : Int32) (x2 : Int32) h)) (b0 + 27) (Int32.toNatClampNeg x2))))]) dX12_chargeBy_153 (Nat.le_of_ble_eq_true rfl) [0] rfl ?_
              refine ea_iload (pc := 155) dX12_chargeBy_155 0 rfl ?_
              exact ea_iretE (pc := 157) dX12_chargeBy_157 rfl rfl EX EY
          · have EX := EX.trans (if_pos c73)
            have K := K.1 c73
            refine ea_iload (pc := 123) dX12_chargeBy_123 3 rfl ?_
            refine ea_aload_n (pc := 125) dX12_chargeBy_125 rfl 0 rfl ?_
            refine ea_getR (pc := 126) dX12_chargeBy_126 ec_12 (k := 31) (Nat.le_of_ble_eq_true rfl) rfl (Or.inl ew_1376) (hs7.1 0 (by decide)).1 (hs7.1 0 (by decide)).2.1 (hs7.2 0 31 rfl) ?_
            refine ea_iload_n (pc := 129) dX12_chargeBy_129 rfl 2 rfl ?_
            obtain ⟨z69, K⟩ := K
            refine ea_iald (pc := 130) dX12_chargeBy_130 (hs7.1 26 (by decide)).1 (hs7.1 26 (by decide)).2.1 (ea_vpl (hs7.1 26 (by decide)).2.2 z69) ?_
            refine ea_iadd (pc := 131) dX12_chargeBy_131 ?_
            refine ea_istore (pc := 132) (lv' := [(0, vR (some (b0 + 0))), (1, vI x1), (2, vI x2), (4, vI (((0 : Int32) + (ea_i (wX12_comesTo b0 (x2 : Int32) ((ea_i (wX12_lineOf b0 (x1 : Int32) (x2 : Int32) h) (b0 + 30) (Int32.toNatClampNeg (((25 : Int32) * x2) + (vX12_lineOf b0 (x1 : Int32) (x2 : Int32) h)))) : Int32) ((ea_i (wX12_lineOf b0 (x1 : Int32) (x2 : Int32) h) (b0 + 31) (Int32.toNatClampNeg (((24 : Int32) * x2) + (vX12_lineOf b0 (x1 : Int32) (x2 : Int32) h)))) : Int32) (wX12_lineOf b0 (x1 : Int32) (x2 : Int32) h)) (b0 + 23) (Int32.toNatClampNeg x2))) + (ea_i (wX12_comesTo b0 (x2 : Int32) ((ea_i (wX12_lineOf b0 (x1 : Int32) (x2 : Int32) h) (b0 + 30) (Int32.toNatClampNeg (((25 : Int32) * x2) + (vX12_lineOf b0 (x1 : Int32) (x2 : Int32) h)))) : Int32) ((ea_i (wX12_lineOf b0 (x1 : Int32) (x2 : Int32) h) (b0 + 31) (Int32.toNatClampNeg (((24 : Int32) * x2) + (vX12_lineOf b0 (x1 : Int32) (x2 : Int32) h)))) : Int32) (wX12_lineOf b0 (x1 : Int32) (x2 : Int32) h)) (b0 + 26) (Int32.toNatClampNeg x2))))]) dX12_chargeBy_132 (Nat.le_of_ble_eq_true rfl) [1, 2, 3, 0] rfl ?_
            refine ea_aload_n (pc := 134) dX12_chargeBy_134 rfl 0 rfl ?_
            refine ea_getR (pc := 135) dX12_chargeBy_135 ec_12 (k := 64) (Nat.le_of_ble_eq_true rfl) rfl (Or.inl ew_1409) (hs7.1 0 (by decide)).1 (hs7.1 0 (by decide)).2.1 (hs7.2 0 64 rfl) ?_
            refine ea_iload_n (pc := 138) dX12_chargeBy_138 rfl 1 rfl ?_
            obtain ⟨z70, K⟩ := K
            refine ea_iald (pc := 139) dX12_chargeBy_139 (hs7.1 38 (by decide)).1 (hs7.1 38 (by decide)).2.1 (ea_vpl (hs7.1 38 (by decide)).2.2 z70) ?_
            refine ea_iconst (pc := 140) dX12_chargeBy_140 (v := 4) rfl ?_
            refine ea_icmp_ne (pc := 141) (tgt := 155) dX12_chargeBy_141 rfl (fun c72 => ?_) (fun c72 => ?_)
            · have EX := EX.trans (if_neg c72)
              refine ea_iload (pc := 155) dX12_chargeBy_155 3 rfl ?_
              exact ea_iretE (pc := 157) dX12_chargeBy_157 rfl rfl EX EY
            · have EX := EX.trans (if_pos c72)
              have K := K.1 c72
              refine ea_iload (pc := 144) dX12_chargeBy_144 3 rfl ?_
              refine ea_aload_n (pc := 146) dX12_chargeBy_146 rfl 0 rfl ?_
              refine ea_getR (pc := 147) dX12_chargeBy_147 ec_12 (k := 32) (Nat.le_of_ble_eq_true rfl) rfl (Or.inl ew_1377) (hs7.1 0 (by decide)).1 (hs7.1 0 (by decide)).2.1 (hs7.2 0 32 rfl) ?_
              refine ea_iload_n (pc := 150) dX12_chargeBy_150 rfl 2 rfl ?_
              have z71 := K
              refine ea_iald (pc := 151) dX12_chargeBy_151 (hs7.1 27 (by decide)).1 (hs7.1 27 (by decide)).2.1 (ea_vpl (hs7.1 27 (by decide)).2.2 z71) ?_
              refine ea_iadd (pc := 152) dX12_chargeBy_152 ?_
              refine ea_istore (pc := 153) (lv' := [(4, vI ((((0 : Int32) + (ea_i (wX12_comesTo b0 (x2 : Int32) ((ea_i (wX12_lineOf b0 (x1 : Int32) (x2 : Int32) h) (b0 + 30) (Int32.toNatClampNeg (((25 : Int32) * x2) + (vX12_lineOf b0 (x1 : Int32) (x2 : Int32) h)))) : Int32) ((ea_i (wX12_lineOf b0 (x1 : Int32) (x2 : Int32) h) (b0 + 31) (Int32.toNatClampNeg (((24 : Int32) * x2) + (vX12_lineOf b0 (x1 : Int32) (x2 : Int32) h)))) : Int32) (wX12_lineOf b0 (x1 : Int32) (x2 : Int32) h)) (b0 + 23) (Int32.toNatClampNeg x2))) + (ea_i (wX12_comesTo b0 (x2 : Int32) ((ea_i (wX12_lineOf b0 (x1 : Int32) (x2 : Int32) h) (b0 + 30) (Int32.toNatClampNeg (((25 : Int32) * x2) + (vX12_lineOf b0 (x1 : Int32) (x2 : Int32) h)))) : Int32) ((ea_i (wX12_lineOf b0 (x1 : Int32) (x2 : Int32) h) (b0 + 31) (Int32.toNatClampNeg (((24 : Int32) * x2) + (vX12_lineOf b0 (x1 : Int32) (x2 : Int32) h)))) : Int32) (wX12_lineOf b0 (x1 : Int32) (x2 : Int32) h)) (b0 + 26) (Int32.toNatClampNeg x2))) + (ea_i (wX12_comesTo b0 (x2 : Int32) ((ea_i (wX12_lineOf b0 (x1 : Int32) (x2 : Int32) h) (b0 + 30) (Int32.toNatClampNeg (((25 : Int32) * x2) + (vX12_lineOf b0 (x1 : Int32) (x2 : Int32) h)))) : Int32) ((ea_i (wX12_lineOf b0 (x1 : Int32) (x2 : Int32) h) (b0 + 31) (Int32.toNatClampNeg (((24 : Int32) * x2) + (vX12_lineOf b0 (x1 : Int32) (x2 : Int32) h)))) : Int32) (wX12_lineOf b0 (x1 : Int32) (x2 : Int32) h)) (b0 + 27) (Int32.toNatClampNeg x2))))]) dX12_chargeBy_153 (Nat.le_of_ble_eq_true rfl) [0] rfl ?_
              refine ea_iload (pc := 155) dX12_chargeBy_155 0 rfl ?_
              exact ea_iretE (pc := 157) dX12_chargeBy_157 rfl rfl EX EY
    · have EX := EX.trans (if_pos c144)
      have EY := EY.trans (if_pos c144)
      have K := K.1 c144
      refine ea_iconst (pc := 23) dX12_chargeBy_23 (v := 0) rfl ?_
      refine ea_goto (pc := 24) (tgt := 54) dX12_chargeBy_24 rfl ?_
      refine ea_istore (pc := 54) (lv' := [(0, vR (some (b0 + 0))), (1, vI x1), (2, vI x2), (4, vI 0)]) dX12_chargeBy_54 (Nat.le_of_ble_eq_true rfl) [1, 2, 3, 0] rfl ?_
      refine ea_iload (pc := 56) dX12_chargeBy_56 3 rfl ?_
      refine ea_if_ge (pc := 58) (tgt := 65) dX12_chargeBy_58 rfl (fun c143 => ?_) (fun c143 => ?_)
      · have EX := EX.trans (if_pos c143)
        have K := K.1 c143
        refine ea_iload (pc := 65) dX12_chargeBy_65 3 rfl ?_
        refine ea_ldcw (pc := 67) dX12_chargeBy_67 ew_2010 ?_
        refine ea_icmp_le (pc := 70) (tgt := 79) dX12_chargeBy_70 rfl (fun c120 => ?_) (fun c120 => ?_)
        · have EX := EX.trans (if_pos c120)
          have K := K.1 c120
          refine ea_iload (pc := 79) dX12_chargeBy_79 3 rfl ?_
          refine ea_istore (pc := 81) (lv' := [(0, vR (some (b0 + 0))), (1, vI x1), (2, vI x2), (4, vI 0)]) dX12_chargeBy_81 (Nat.le_of_ble_eq_true rfl) [1, 2, 3, 0] rfl ?_
          refine ea_aload_n (pc := 83) dX12_chargeBy_83 rfl 0 rfl ?_
          refine ea_getR (pc := 84) dX12_chargeBy_84 ec_12 (k := 70) (Nat.le_of_ble_eq_true rfl) rfl (Or.inl ew_1415) (hs3.1 0 (by decide)).1 (hs3.1 0 (by decide)).2.1 (hs3.2 0 70 rfl) ?_
          refine ea_iload_n (pc := 87) dX12_chargeBy_87 rfl 1 rfl ?_
          obtain ⟨z76, K⟩ := K
          refine ea_iald (pc := 88) dX12_chargeBy_88 (hs3.1 44 (by decide)).1 (hs3.1 44 (by decide)).2.1 (ea_vpl (hs3.1 44 (by decide)).2.2 z76) ?_
          refine ea_sipush (pc := 89) dX12_chargeBy_89 (v := 1440) rfl ?_
          refine ea_irem (pc := 92) dX12_chargeBy_92 (by decide) ?_
          refine ea_aload_n (pc := 93) dX12_chargeBy_93 rfl 0 rfl ?_
          refine ea_getR (pc := 94) dX12_chargeBy_94 ec_12 (k := 29) (Nat.le_of_ble_eq_true rfl) rfl (Or.inl ew_1374) (hs3.1 0 (by decide)).1 (hs3.1 0 (by decide)).2.1 (hs3.2 0 29 rfl) ?_
          refine ea_iload_n (pc := 97) dX12_chargeBy_97 rfl 2 rfl ?_
          obtain ⟨z77, K⟩ := K
          refine ea_iald (pc := 98) dX12_chargeBy_98 (hs3.1 24 (by decide)).1 (hs3.1 24 (by decide)).2.1 (ea_vpl (hs3.1 24 (by decide)).2.2 z77) ?_
          refine ea_icmp_le (pc := 99) (tgt := 113) dX12_chargeBy_99 rfl (fun c97 => ?_) (fun c97 => ?_)
          · have EX := EX.trans (if_pos c97)
            have K := K.1 c97
            refine ea_aload_n (pc := 113) dX12_chargeBy_113 rfl 0 rfl ?_
            refine ea_getR (pc := 114) dX12_chargeBy_114 ec_12 (k := 64) (Nat.le_of_ble_eq_true rfl) rfl (Or.inl ew_1409) (hs3.1 0 (by decide)).1 (hs3.1 0 (by decide)).2.1 (hs3.2 0 64 rfl) ?_
            refine ea_iload_n (pc := 117) dX12_chargeBy_117 rfl 1 rfl ?_
            obtain ⟨z78, K⟩ := K
            refine ea_iald (pc := 118) dX12_chargeBy_118 (hs3.1 38 (by decide)).1 (hs3.1 38 (by decide)).2.1 (ea_vpl (hs3.1 38 (by decide)).2.2 z78) ?_
            refine ea_iconst (pc := 119) dX12_chargeBy_119 (v := 3) rfl ?_
            refine ea_icmp_ne (pc := 120) (tgt := 134) dX12_chargeBy_120 rfl (fun c86 => ?_) (fun c86 => ?_)
            · have EX := EX.trans (if_neg c86)
              have K := K.2 c86
              refine ea_aload_n (pc := 134) dX12_chargeBy_134 rfl 0 rfl ?_
              refine ea_getR (pc := 135) dX12_chargeBy_135 ec_12 (k := 64) (Nat.le_of_ble_eq_true rfl) rfl (Or.inl ew_1409) (hs3.1 0 (by decide)).1 (hs3.1 0 (by decide)).2.1 (hs3.2 0 64 rfl) ?_
              refine ea_iload_n (pc := 138) dX12_chargeBy_138 rfl 1 rfl ?_
              obtain ⟨z79, K⟩ := K
              refine ea_iald (pc := 139) dX12_chargeBy_139 (hs3.1 38 (by decide)).1 (hs3.1 38 (by decide)).2.1 (ea_vpl (hs3.1 38 (by decide)).2.2 z79) ?_
              refine ea_iconst (pc := 140) dX12_chargeBy_140 (v := 4) rfl ?_
              refine ea_icmp_ne (pc := 141) (tgt := 155) dX12_chargeBy_141 rfl (fun c81 => ?_) (fun c81 => ?_)
              · have EX := EX.trans (if_neg c81)
                refine ea_iload (pc := 155) dX12_chargeBy_155 3 rfl ?_
                exact ea_iretE (pc := 157) dX12_chargeBy_157 rfl rfl EX EY
              · have EX := EX.trans (if_pos c81)
                have K := K.1 c81
                refine ea_iload (pc := 144) dX12_chargeBy_144 3 rfl ?_
                refine ea_aload_n (pc := 146) dX12_chargeBy_146 rfl 0 rfl ?_
                refine ea_getR (pc := 147) dX12_chargeBy_147 ec_12 (k := 32) (Nat.le_of_ble_eq_true rfl) rfl (Or.inl ew_1377) (hs3.1 0 (by decide)).1 (hs3.1 0 (by decide)).2.1 (hs3.2 0 32 rfl) ?_
                refine ea_iload_n (pc := 150) dX12_chargeBy_150 rfl 2 rfl ?_
                have z80 := K
                refine ea_iald (pc := 151) dX12_chargeBy_151 (hs3.1 27 (by decide)).1 (hs3.1 27 (by decide)).2.1 (ea_vpl (hs3.1 27 (by decide)).2.2 z80) ?_
                refine ea_iadd (pc := 152) dX12_chargeBy_152 ?_
                refine ea_istore (pc := 153) (lv' := [(4, vI ((0 : Int32) + (ea_i (wX12_lineOf b0 (x1 : Int32) (x2 : Int32) h) (b0 + 27) (Int32.toNatClampNeg x2))))]) dX12_chargeBy_153 (Nat.le_of_ble_eq_true rfl) [0] rfl ?_
                refine ea_iload (pc := 155) dX12_chargeBy_155 0 rfl ?_
                exact ea_iretE (pc := 157) dX12_chargeBy_157 rfl rfl EX EY
            · have EX := EX.trans (if_pos c86)
              have K := K.1 c86
              refine ea_iload (pc := 123) dX12_chargeBy_123 3 rfl ?_
              refine ea_aload_n (pc := 125) dX12_chargeBy_125 rfl 0 rfl ?_
              refine ea_getR (pc := 126) dX12_chargeBy_126 ec_12 (k := 31) (Nat.le_of_ble_eq_true rfl) rfl (Or.inl ew_1376) (hs3.1 0 (by decide)).1 (hs3.1 0 (by decide)).2.1 (hs3.2 0 31 rfl) ?_
              refine ea_iload_n (pc := 129) dX12_chargeBy_129 rfl 2 rfl ?_
              obtain ⟨z82, K⟩ := K
              refine ea_iald (pc := 130) dX12_chargeBy_130 (hs3.1 26 (by decide)).1 (hs3.1 26 (by decide)).2.1 (ea_vpl (hs3.1 26 (by decide)).2.2 z82) ?_
              refine ea_iadd (pc := 131) dX12_chargeBy_131 ?_
              refine ea_istore (pc := 132) (lv' := [(0, vR (some (b0 + 0))), (1, vI x1), (2, vI x2), (4, vI ((0 : Int32) + (ea_i (wX12_lineOf b0 (x1 : Int32) (x2 : Int32) h) (b0 + 26) (Int32.toNatClampNeg x2))))]) dX12_chargeBy_132 (Nat.le_of_ble_eq_true rfl) [1, 2, 3, 0] rfl ?_
              refine ea_aload_n (pc := 134) dX12_chargeBy_134 rfl 0 rfl ?_
              refine ea_getR (pc := 135) dX12_chargeBy_135 ec_12 (k := 64) (Nat.le_of_ble_eq_true rfl) rfl (Or.inl ew_1409) (hs3.1 0 (by decide)).1 (hs3.1 0 (by decide)).2.1 (hs3.2 0 64 rfl) ?_
              refine ea_iload_n (pc := 138) dX12_chargeBy_138 rfl 1 rfl ?_
              obtain ⟨z83, K⟩ := K
              refine ea_iald (pc := 139) dX12_chargeBy_139 (hs3.1 38 (by decide)).1 (hs3.1 38 (by decide)).2.1 (ea_vpl (hs3.1 38 (by decide)).2.2 z83) ?_
              refine ea_iconst (pc := 140) dX12_chargeBy_140 (v := 4) rfl ?_
              refine ea_icmp_ne (pc := 141) (tgt := 155) dX12_chargeBy_141 rfl (fun c85 => ?_) (fun c85 => ?_)
              · have EX := EX.trans (if_neg c85)
                refine ea_iload (pc := 155) dX12_chargeBy_155 3 rfl ?_
                exact ea_iretE (pc := 157) dX12_chargeBy_157 rfl rfl EX EY
              · have EX := EX.trans (if_pos c85)
                have K := K.1 c85
                refine ea_iload (pc := 144) dX12_chargeBy_144 3 rfl ?_
                refine ea_aload_n (pc := 146) dX12_chargeBy_146 rfl 0 rfl ?_
                refine ea_getR (pc := 147) dX12_chargeBy_147 ec_12 (k := 32) (Nat.le_of_ble_eq_true rfl) rfl (Or.inl ew_1377) (hs3.1 0 (by decide)).1 (hs3.1 0 (by decide)).2.1 (hs3.2 0 32 rfl) ?_
                refine ea_iload_n (pc := 150) dX12_chargeBy_150 rfl 2 rfl ?_
                have z84 := K
                refine ea_iald (pc := 151) dX12_chargeBy_151 (hs3.1 27 (by decide)).1 (hs3.1 27 (by decide)).2.1 (ea_vpl (hs3.1 27 (by decide)).2.2 z84) ?_
                refine ea_iadd (pc := 152) dX12_chargeBy_152 ?_
                refine ea_istore (pc := 153) (lv' := [(4, vI (((0 : Int32) + (ea_i (wX12_lineOf b0 (x1 : Int32) (x2 : Int32) h) (b0 + 26) (Int32.toNatClampNeg x2))) + (ea_i (wX12_lineOf b0 (x1 : Int32) (x2 : Int32) h) (b0 + 27) (Int32.toNatClampNeg x2))))]) dX12_chargeBy_153 (Nat.le_of_ble_eq_true rfl) [0] rfl ?_
                refine ea_iload (pc := 155) dX12_chargeBy_155 0 rfl ?_
                exact ea_iretE (pc := 157) dX12_chargeBy_157 rfl rfl EX EY
          · have EX := EX.trans (if_neg c97)
            have K := K.2 c97
            refine ea_iload (pc := 102) dX12_chargeBy_102 3 rfl ?_
            refine ea_aload_n (pc := 104) dX12_chargeBy_104 rfl 0 rfl ?_
            refine ea_getR (pc := 105) dX12_chargeBy_105 ec_12 (k := 28) (Nat.le_of_ble_eq_true rfl) rfl (Or.inl ew_1373) (hs3.1 0 (by decide)).1 (hs3.1 0 (by decide)).2.1 (hs3.2 0 28 rfl) ?_
            refine ea_iload_n (pc := 108) dX12_chargeBy_108 rfl 2 rfl ?_
            obtain ⟨z87, K⟩ := K
            refine ea_iald (pc := 109) dX12_chargeBy_109 (hs3.1 23 (by decide)).1 (hs3.1 23 (by decide)).2.1 (ea_vpl (hs3.1 23 (by decide)).2.2 z87) ?_
            refine ea_iadd (pc := 110) dX12_chargeBy_110 ?_
            refine ea_istore (pc := 111) (lv' := [(0, vR (some (b0 + 0))), (1, vI x1), (2, vI x2), (4, vI ((0 : Int32) + (ea_i (wX12_lineOf b0 (x1 : Int32) (x2 : Int32) h) (b0 + 23) (Int32.toNatClampNeg x2))))]) dX12_chargeBy_111 (Nat.le_of_ble_eq_true rfl) [1, 2, 3, 0] rfl ?_
            refine ea_aload_n (pc := 113) dX12_chargeBy_113 rfl 0 rfl ?_
            refine ea_getR (pc := 114) dX12_chargeBy_114 ec_12 (k := 64) (Nat.le_of_ble_eq_true rfl) rfl (Or.inl ew_1409) (hs3.1 0 (by decide)).1 (hs3.1 0 (by decide)).2.1 (hs3.2 0 64 rfl) ?_
            refine ea_iload_n (pc := 117) dX12_chargeBy_117 rfl 1 rfl ?_
            obtain ⟨z88, K⟩ := K
            refine ea_iald (pc := 118) dX12_chargeBy_118 (hs3.1 38 (by decide)).1 (hs3.1 38 (by decide)).2.1 (ea_vpl (hs3.1 38 (by decide)).2.2 z88) ?_
            refine ea_iconst (pc := 119) dX12_chargeBy_119 (v := 3) rfl ?_
            refine ea_icmp_ne (pc := 120) (tgt := 134) dX12_chargeBy_120 rfl (fun c96 => ?_) (fun c96 => ?_)
            · have EX := EX.trans (if_neg c96)
              have K := K.2 c96
              refine ea_aload_n (pc := 134) dX12_chargeBy_134 rfl 0 rfl ?_
              refine ea_getR (pc := 135) dX12_chargeBy_135 ec_12 (k := 64) (Nat.le_of_ble_eq_true rfl) rfl (Or.inl ew_1409) (hs3.1 0 (by decide)).1 (hs3.1 0 (by decide)).2.1 (hs3.2 0 64 rfl) ?_
              refine ea_iload_n (pc := 138) dX12_chargeBy_138 rfl 1 rfl ?_
              obtain ⟨z89, K⟩ := K
              refine ea_iald (pc := 139) dX12_chargeBy_139 (hs3.1 38 (by decide)).1 (hs3.1 38 (by decide)).2.1 (ea_vpl (hs3.1 38 (by decide)).2.2 z89) ?_
              refine ea_iconst (pc := 140) dX12_chargeBy_140 (v := 4) rfl ?_
              refine ea_icmp_ne (pc := 141) (tgt := 155) dX12_chargeBy_141 rfl (fun c91 => ?_) (fun c91 => ?_)
              · have EX := EX.trans (if_neg c91)
                refine ea_iload (pc := 155) dX12_chargeBy_155 3 rfl ?_
                exact ea_iretE (pc := 157) dX12_chargeBy_157 rfl rfl EX EY
              · have EX := EX.trans (if_pos c91)
                have K := K.1 c91
                refine ea_iload (pc := 144) dX12_chargeBy_144 3 rfl ?_
                refine ea_aload_n (pc := 146) dX12_chargeBy_146 rfl 0 rfl ?_
                refine ea_getR (pc := 147) dX12_chargeBy_147 ec_12 (k := 32) (Nat.le_of_ble_eq_true rfl) rfl (Or.inl ew_1377) (hs3.1 0 (by decide)).1 (hs3.1 0 (by decide)).2.1 (hs3.2 0 32 rfl) ?_
                refine ea_iload_n (pc := 150) dX12_chargeBy_150 rfl 2 rfl ?_
                have z90 := K
                refine ea_iald (pc := 151) dX12_chargeBy_151 (hs3.1 27 (by decide)).1 (hs3.1 27 (by decide)).2.1 (ea_vpl (hs3.1 27 (by decide)).2.2 z90) ?_
                refine ea_iadd (pc := 152) dX12_chargeBy_152 ?_
                refine ea_istore (pc := 153) (lv' := [(4, vI (((0 : Int32) + (ea_i (wX12_lineOf b0 (x1 : Int32) (x2 : Int32) h) (b0 + 23) (Int32.toNatClampNeg x2))) + (ea_i (wX12_lineOf b0 (x1 : Int32) (x2 : Int32) h) (b0 + 27) (Int32.toNatClampNeg x2))))]) dX12_chargeBy_153 (Nat.le_of_ble_eq_true rfl) [0] rfl ?_
                refine ea_iload (pc := 155) dX12_chargeBy_155 0 rfl ?_
                exact ea_iretE (pc := 157) dX12_chargeBy_157 rfl rfl EX EY
            · have EX := EX.trans (if_pos c96)
              have K := K.1 c96
              refine ea_iload (pc := 123) dX12_chargeBy_123 3 rfl ?_
              refine ea_aload_n (pc := 125) dX12_chargeBy_125 rfl 0 rfl ?_
              refine ea_getR (pc := 126) dX12_chargeBy_126 ec_12 (k := 31) (Nat.le_of_ble_eq_true rfl) rfl (Or.inl ew_1376) (hs3.1 0 (by decide)).1 (hs3.1 0 (by decide)).2.1 (hs3.2 0 31 rfl) ?_
              refine ea_iload_n (pc := 129) dX12_chargeBy_129 rfl 2 rfl ?_
              obtain ⟨z92, K⟩ := K
              refine ea_iald (pc := 130) dX12_chargeBy_130 (hs3.1 26 (by decide)).1 (hs3.1 26 (by decide)).2.1 (ea_vpl (hs3.1 26 (by decide)).2.2 z92) ?_
              refine ea_iadd (pc := 131) dX12_chargeBy_131 ?_
              refine ea_istore (pc := 132) (lv' := [(0, vR (some (b0 + 0))), (1, vI x1), (2, vI x2), (4, vI (((0 : Int32) + (ea_i (wX12_lineOf b0 (x1 : Int32) (x2 : Int32) h) (b0 + 23) (Int32.toNatClampNeg x2))) + (ea_i (wX12_lineOf b0 (x1 : Int32) (x2 : Int32) h) (b0 + 26) (Int32.toNatClampNeg x2))))]) dX12_chargeBy_132 (Nat.le_of_ble_eq_true rfl) [1, 2, 3, 0] rfl ?_
              refine ea_aload_n (pc := 134) dX12_chargeBy_134 rfl 0 rfl ?_
              refine ea_getR (pc := 135) dX12_chargeBy_135 ec_12 (k := 64) (Nat.le_of_ble_eq_true rfl) rfl (Or.inl ew_1409) (hs3.1 0 (by decide)).1 (hs3.1 0 (by decide)).2.1 (hs3.2 0 64 rfl) ?_
              refine ea_iload_n (pc := 138) dX12_chargeBy_138 rfl 1 rfl ?_
              obtain ⟨z93, K⟩ := K
              refine ea_iald (pc := 139) dX12_chargeBy_139 (hs3.1 38 (by decide)).1 (hs3.1 38 (by decide)).2.1 (ea_vpl (hs3.1 38 (by decide)).2.2 z93) ?_
              refine ea_iconst (pc := 140) dX12_chargeBy_140 (v := 4) rfl ?_
              refine ea_icmp_ne (pc := 141) (tgt := 155) dX12_chargeBy_141 rfl (fun c95 => ?_) (fun c95 => ?_)
              · have EX := EX.trans (if_neg c95)
                refine ea_iload (pc := 155) dX12_chargeBy_155 3 rfl ?_
                exact ea_iretE (pc := 157) dX12_chargeBy_157 rfl rfl EX EY
              · have EX := EX.trans (if_pos c95)
                have K := K.1 c95
                refine ea_iload (pc := 144) dX12_chargeBy_144 3 rfl ?_
                refine ea_aload_n (pc := 146) dX12_chargeBy_146 rfl 0 rfl ?_
                refine ea_getR (pc := 147) dX12_chargeBy_147 ec_12 (k := 32) (Nat.le_of_ble_eq_true rfl) rfl (Or.inl ew_1377) (hs3.1 0 (by decide)).1 (hs3.1 0 (by decide)).2.1 (hs3.2 0 32 rfl) ?_
                refine ea_iload_n (pc := 150) dX12_chargeBy_150 rfl 2 rfl ?_
                have z94 := K
                refine ea_iald (pc := 151) dX12_chargeBy_151 (hs3.1 27 (by decide)).1 (hs3.1 27 (by decide)).2.1 (ea_vpl (hs3.1 27 (by decide)).2.2 z94) ?_
                refine ea_iadd (pc := 152) dX12_chargeBy_152 ?_
                refine ea_istore (pc := 153) (lv' := [(4, vI ((((0 : Int32) + (ea_i (wX12_lineOf b0 (x1 : Int32) (x2 : Int32) h) (b0 + 23) (Int32.toNatClampNeg x2))) + (ea_i (wX12_lineOf b0 (x1 : Int32) (x2 : Int32) h) (b0 + 26) (Int32.toNatClampNeg x2))) + (ea_i (wX12_lineOf b0 (x1 : Int32) (x2 : Int32) h) (b0 + 27) (Int32.toNatClampNeg x2))))]) dX12_chargeBy_153 (Nat.le_of_ble_eq_true rfl) [0] rfl ?_
                refine ea_iload (pc := 155) dX12_chargeBy_155 0 rfl ?_
                exact ea_iretE (pc := 157) dX12_chargeBy_157 rfl rfl EX EY
        · have EX := EX.trans (if_neg c120)
          have K := K.2 c120
          refine ea_ldcw (pc := 73) dX12_chargeBy_73 ew_2010 ?_
          refine ea_goto (pc := 76) (tgt := 81) dX12_chargeBy_76 rfl ?_
          refine ea_istore (pc := 81) (lv' := [(0, vR (some (b0 + 0))), (1, vI x1), (2, vI x2), (4, vI 99999)]) dX12_chargeBy_81 (Nat.le_of_ble_eq_true rfl) [1, 2, 3, 0] rfl ?_
          refine ea_aload_n (pc := 83) dX12_chargeBy_83 rfl 0 rfl ?_
          refine ea_getR (pc := 84) dX12_chargeBy_84 ec_12 (k := 70) (Nat.le_of_ble_eq_true rfl) rfl (Or.inl ew_1415) (hs3.1 0 (by decide)).1 (hs3.1 0 (by decide)).2.1 (hs3.2 0 70 rfl) ?_
          refine ea_iload_n (pc := 87) dX12_chargeBy_87 rfl 1 rfl ?_
          obtain ⟨z98, K⟩ := K
          refine ea_iald (pc := 88) dX12_chargeBy_88 (hs3.1 44 (by decide)).1 (hs3.1 44 (by decide)).2.1 (ea_vpl (hs3.1 44 (by decide)).2.2 z98) ?_
          refine ea_sipush (pc := 89) dX12_chargeBy_89 (v := 1440) rfl ?_
          refine ea_irem (pc := 92) dX12_chargeBy_92 (by decide) ?_
          refine ea_aload_n (pc := 93) dX12_chargeBy_93 rfl 0 rfl ?_
          refine ea_getR (pc := 94) dX12_chargeBy_94 ec_12 (k := 29) (Nat.le_of_ble_eq_true rfl) rfl (Or.inl ew_1374) (hs3.1 0 (by decide)).1 (hs3.1 0 (by decide)).2.1 (hs3.2 0 29 rfl) ?_
          refine ea_iload_n (pc := 97) dX12_chargeBy_97 rfl 2 rfl ?_
          obtain ⟨z99, K⟩ := K
          refine ea_iald (pc := 98) dX12_chargeBy_98 (hs3.1 24 (by decide)).1 (hs3.1 24 (by decide)).2.1 (ea_vpl (hs3.1 24 (by decide)).2.2 z99) ?_
          refine ea_icmp_le (pc := 99) (tgt := 113) dX12_chargeBy_99 rfl (fun c119 => ?_) (fun c119 => ?_)
          · have EX := EX.trans (if_pos c119)
            have K := K.1 c119
            refine ea_aload_n (pc := 113) dX12_chargeBy_113 rfl 0 rfl ?_
            refine ea_getR (pc := 114) dX12_chargeBy_114 ec_12 (k := 64) (Nat.le_of_ble_eq_true rfl) rfl (Or.inl ew_1409) (hs3.1 0 (by decide)).1 (hs3.1 0 (by decide)).2.1 (hs3.2 0 64 rfl) ?_
            refine ea_iload_n (pc := 117) dX12_chargeBy_117 rfl 1 rfl ?_
            obtain ⟨z100, K⟩ := K
            refine ea_iald (pc := 118) dX12_chargeBy_118 (hs3.1 38 (by decide)).1 (hs3.1 38 (by decide)).2.1 (ea_vpl (hs3.1 38 (by decide)).2.2 z100) ?_
            refine ea_iconst (pc := 119) dX12_chargeBy_119 (v := 3) rfl ?_
            refine ea_icmp_ne (pc := 120) (tgt := 134) dX12_chargeBy_120 rfl (fun c108 => ?_) (fun c108 => ?_)
            · have EX := EX.trans (if_neg c108)
              have K := K.2 c108
              refine ea_aload_n (pc := 134) dX12_chargeBy_134 rfl 0 rfl ?_
              refine ea_getR (pc := 135) dX12_chargeBy_135 ec_12 (k := 64) (Nat.le_of_ble_eq_true rfl) rfl (Or.inl ew_1409) (hs3.1 0 (by decide)).1 (hs3.1 0 (by decide)).2.1 (hs3.2 0 64 rfl) ?_
              refine ea_iload_n (pc := 138) dX12_chargeBy_138 rfl 1 rfl ?_
              obtain ⟨z101, K⟩ := K
              refine ea_iald (pc := 139) dX12_chargeBy_139 (hs3.1 38 (by decide)).1 (hs3.1 38 (by decide)).2.1 (ea_vpl (hs3.1 38 (by decide)).2.2 z101) ?_
              refine ea_iconst (pc := 140) dX12_chargeBy_140 (v := 4) rfl ?_
              refine ea_icmp_ne (pc := 141) (tgt := 155) dX12_chargeBy_141 rfl (fun c103 => ?_) (fun c103 => ?_)
              · have EX := EX.trans (if_neg c103)
                refine ea_iload (pc := 155) dX12_chargeBy_155 3 rfl ?_
                exact ea_iretE (pc := 157) dX12_chargeBy_157 rfl rfl EX EY
              · have EX := EX.trans (if_pos c103)
                have K := K.1 c103
                refine ea_iload (pc := 144) dX12_chargeBy_144 3 rfl ?_
                refine ea_aload_n (pc := 146) dX12_chargeBy_146 rfl 0 rfl ?_
                refine ea_getR (pc := 147) dX12_chargeBy_147 ec_12 (k := 32) (Nat.le_of_ble_eq_true rfl) rfl (Or.inl ew_1377) (hs3.1 0 (by decide)).1 (hs3.1 0 (by decide)).2.1 (hs3.2 0 32 rfl) ?_
                refine ea_iload_n (pc := 150) dX12_chargeBy_150 rfl 2 rfl ?_
                have z102 := K
                refine ea_iald (pc := 151) dX12_chargeBy_151 (hs3.1 27 (by decide)).1 (hs3.1 27 (by decide)).2.1 (ea_vpl (hs3.1 27 (by decide)).2.2 z102) ?_
                refine ea_iadd (pc := 152) dX12_chargeBy_152 ?_
                refine ea_istore (pc := 153) (lv' := [(4, vI ((99999 : Int32) + (ea_i (wX12_lineOf b0 (x1 : Int32) (x2 : Int32) h) (b0 + 27) (Int32.toNatClampNeg x2))))]) dX12_chargeBy_153 (Nat.le_of_ble_eq_true rfl) [0] rfl ?_
                refine ea_iload (pc := 155) dX12_chargeBy_155 0 rfl ?_
                exact ea_iretE (pc := 157) dX12_chargeBy_157 rfl rfl EX EY
            · have EX := EX.trans (if_pos c108)
              have K := K.1 c108
              refine ea_iload (pc := 123) dX12_chargeBy_123 3 rfl ?_
              refine ea_aload_n (pc := 125) dX12_chargeBy_125 rfl 0 rfl ?_
              refine ea_getR (pc := 126) dX12_chargeBy_126 ec_12 (k := 31) (Nat.le_of_ble_eq_true rfl) rfl (Or.inl ew_1376) (hs3.1 0 (by decide)).1 (hs3.1 0 (by decide)).2.1 (hs3.2 0 31 rfl) ?_
              refine ea_iload_n (pc := 129) dX12_chargeBy_129 rfl 2 rfl ?_
              obtain ⟨z104, K⟩ := K
              refine ea_iald (pc := 130) dX12_chargeBy_130 (hs3.1 26 (by decide)).1 (hs3.1 26 (by decide)).2.1 (ea_vpl (hs3.1 26 (by decide)).2.2 z104) ?_
              refine ea_iadd (pc := 131) dX12_chargeBy_131 ?_
              refine ea_istore (pc := 132) (lv' := [(0, vR (some (b0 + 0))), (1, vI x1), (2, vI x2), (4, vI ((99999 : Int32) + (ea_i (wX12_lineOf b0 (x1 : Int32) (x2 : Int32) h) (b0 + 26) (Int32.toNatClampNeg x2))))]) dX12_chargeBy_132 (Nat.le_of_ble_eq_true rfl) [1, 2, 3, 0] rfl ?_
              refine ea_aload_n (pc := 134) dX12_chargeBy_134 rfl 0 rfl ?_
              refine ea_getR (pc := 135) dX12_chargeBy_135 ec_12 (k := 64) (Nat.le_of_ble_eq_true rfl) rfl (Or.inl ew_1409) (hs3.1 0 (by decide)).1 (hs3.1 0 (by decide)).2.1 (hs3.2 0 64 rfl) ?_
              refine ea_iload_n (pc := 138) dX12_chargeBy_138 rfl 1 rfl ?_
              obtain ⟨z105, K⟩ := K
              refine ea_iald (pc := 139) dX12_chargeBy_139 (hs3.1 38 (by decide)).1 (hs3.1 38 (by decide)).2.1 (ea_vpl (hs3.1 38 (by decide)).2.2 z105) ?_
              refine ea_iconst (pc := 140) dX12_chargeBy_140 (v := 4) rfl ?_
              refine ea_icmp_ne (pc := 141) (tgt := 155) dX12_chargeBy_141 rfl (fun c107 => ?_) (fun c107 => ?_)
              · have EX := EX.trans (if_neg c107)
                refine ea_iload (pc := 155) dX12_chargeBy_155 3 rfl ?_
                exact ea_iretE (pc := 157) dX12_chargeBy_157 rfl rfl EX EY
              · have EX := EX.trans (if_pos c107)
                have K := K.1 c107
                refine ea_iload (pc := 144) dX12_chargeBy_144 3 rfl ?_
                refine ea_aload_n (pc := 146) dX12_chargeBy_146 rfl 0 rfl ?_
                refine ea_getR (pc := 147) dX12_chargeBy_147 ec_12 (k := 32) (Nat.le_of_ble_eq_true rfl) rfl (Or.inl ew_1377) (hs3.1 0 (by decide)).1 (hs3.1 0 (by decide)).2.1 (hs3.2 0 32 rfl) ?_
                refine ea_iload_n (pc := 150) dX12_chargeBy_150 rfl 2 rfl ?_
                have z106 := K
                refine ea_iald (pc := 151) dX12_chargeBy_151 (hs3.1 27 (by decide)).1 (hs3.1 27 (by decide)).2.1 (ea_vpl (hs3.1 27 (by decide)).2.2 z106) ?_
                refine ea_iadd (pc := 152) dX12_chargeBy_152 ?_
                refine ea_istore (pc := 153) (lv' := [(4, vI (((99999 : Int32) + (ea_i (wX12_lineOf b0 (x1 : Int32) (x2 : Int32) h) (b0 + 26) (Int32.toNatClampNeg x2))) + (ea_i (wX12_lineOf b0 (x1 : Int32) (x2 : Int32) h) (b0 + 27) (Int32.toNatClampNeg x2))))]) dX12_chargeBy_153 (Nat.le_of_ble_eq_true rfl) [0] rfl ?_
                refine ea_iload (pc := 155) dX12_chargeBy_155 0 rfl ?_
                exact ea_iretE (pc := 157) dX12_chargeBy_157 rfl rfl EX EY
          · have EX := EX.trans (if_neg c119)
            have K := K.2 c119
            refine ea_iload (pc := 102) dX12_chargeBy_102 3 rfl ?_
            refine ea_aload_n (pc := 104) dX12_chargeBy_104 rfl 0 rfl ?_
            refine ea_getR (pc := 105) dX12_chargeBy_105 ec_12 (k := 28) (Nat.le_of_ble_eq_true rfl) rfl (Or.inl ew_1373) (hs3.1 0 (by decide)).1 (hs3.1 0 (by decide)).2.1 (hs3.2 0 28 rfl) ?_
            refine ea_iload_n (pc := 108) dX12_chargeBy_108 rfl 2 rfl ?_
            obtain ⟨z109, K⟩ := K
            refine ea_iald (pc := 109) dX12_chargeBy_109 (hs3.1 23 (by decide)).1 (hs3.1 23 (by decide)).2.1 (ea_vpl (hs3.1 23 (by decide)).2.2 z109) ?_
            refine ea_iadd (pc := 110) dX12_chargeBy_110 ?_
            refine ea_istore (pc := 111) (lv' := [(0, vR (some (b0 + 0))), (1, vI x1), (2, vI x2), (4, vI ((99999 : Int32) + (ea_i (wX12_lineOf b0 (x1 : Int32) (x2 : Int32) h) (b0 + 23) (Int32.toNatClampNeg x2))))]) dX12_chargeBy_111 (Nat.le_of_ble_eq_true rfl) [1, 2, 3, 0] rfl ?_
            refine ea_aload_n (pc := 113) dX12_chargeBy_113 rfl 0 rfl ?_
            refine ea_getR (pc := 114) dX12_chargeBy_114 ec_12 (k := 64) (Nat.le_of_ble_eq_true rfl) rfl (Or.inl ew_1409) (hs3.1 0 (by decide)).1 (hs3.1 0 (by decide)).2.1 (hs3.2 0 64 rfl) ?_
            refine ea_iload_n (pc := 117) dX12_chargeBy_117 rfl 1 rfl ?_
            obtain ⟨z110, K⟩ := K
            refine ea_iald (pc := 118) dX12_chargeBy_118 (hs3.1 38 (by decide)).1 (hs3.1 38 (by decide)).2.1 (ea_vpl (hs3.1 38 (by decide)).2.2 z110) ?_
            refine ea_iconst (pc := 119) dX12_chargeBy_119 (v := 3) rfl ?_
            refine ea_icmp_ne (pc := 120) (tgt := 134) dX12_chargeBy_120 rfl (fun c118 => ?_) (fun c118 => ?_)
            · have EX := EX.trans (if_neg c118)
              have K := K.2 c118
              refine ea_aload_n (pc := 134) dX12_chargeBy_134 rfl 0 rfl ?_
              refine ea_getR (pc := 135) dX12_chargeBy_135 ec_12 (k := 64) (Nat.le_of_ble_eq_true rfl) rfl (Or.inl ew_1409) (hs3.1 0 (by decide)).1 (hs3.1 0 (by decide)).2.1 (hs3.2 0 64 rfl) ?_
              refine ea_iload_n (pc := 138) dX12_chargeBy_138 rfl 1 rfl ?_
              obtain ⟨z111, K⟩ := K
              refine ea_iald (pc := 139) dX12_chargeBy_139 (hs3.1 38 (by decide)).1 (hs3.1 38 (by decide)).2.1 (ea_vpl (hs3.1 38 (by decide)).2.2 z111) ?_
              refine ea_iconst (pc := 140) dX12_chargeBy_140 (v := 4) rfl ?_
              refine ea_icmp_ne (pc := 141) (tgt := 155) dX12_chargeBy_141 rfl (fun c113 => ?_) (fun c113 => ?_)
              · have EX := EX.trans (if_neg c113)
                refine ea_iload (pc := 155) dX12_chargeBy_155 3 rfl ?_
                exact ea_iretE (pc := 157) dX12_chargeBy_157 rfl rfl EX EY
              · have EX := EX.trans (if_pos c113)
                have K := K.1 c113
                refine ea_iload (pc := 144) dX12_chargeBy_144 3 rfl ?_
                refine ea_aload_n (pc := 146) dX12_chargeBy_146 rfl 0 rfl ?_
                refine ea_getR (pc := 147) dX12_chargeBy_147 ec_12 (k := 32) (Nat.le_of_ble_eq_true rfl) rfl (Or.inl ew_1377) (hs3.1 0 (by decide)).1 (hs3.1 0 (by decide)).2.1 (hs3.2 0 32 rfl) ?_
                refine ea_iload_n (pc := 150) dX12_chargeBy_150 rfl 2 rfl ?_
                have z112 := K
                refine ea_iald (pc := 151) dX12_chargeBy_151 (hs3.1 27 (by decide)).1 (hs3.1 27 (by decide)).2.1 (ea_vpl (hs3.1 27 (by decide)).2.2 z112) ?_
                refine ea_iadd (pc := 152) dX12_chargeBy_152 ?_
                refine ea_istore (pc := 153) (lv' := [(4, vI (((99999 : Int32) + (ea_i (wX12_lineOf b0 (x1 : Int32) (x2 : Int32) h) (b0 + 23) (Int32.toNatClampNeg x2))) + (ea_i (wX12_lineOf b0 (x1 : Int32) (x2 : Int32) h) (b0 + 27) (Int32.toNatClampNeg x2))))]) dX12_chargeBy_153 (Nat.le_of_ble_eq_true rfl) [0] rfl ?_
                refine ea_iload (pc := 155) dX12_chargeBy_155 0 rfl ?_
                exact ea_iretE (pc := 157) dX12_chargeBy_157 rfl rfl EX EY
            · have EX := EX.trans (if_pos c118)
              have K := K.1 c118
              refine ea_iload (pc := 123) dX12_chargeBy_123 3 rfl ?_
              refine ea_aload_n (pc := 125) dX12_chargeBy_125 rfl 0 rfl ?_
              refine ea_getR (pc := 126) dX12_chargeBy_126 ec_12 (k := 31) (Nat.le_of_ble_eq_true rfl) rfl (Or.inl ew_1376) (hs3.1 0 (by decide)).1 (hs3.1 0 (by decide)).2.1 (hs3.2 0 31 rfl) ?_
              refine ea_iload_n (pc := 129) dX12_chargeBy_129 rfl 2 rfl ?_
              obtain ⟨z114, K⟩ := K
              refine ea_iald (pc := 130) dX12_chargeBy_130 (hs3.1 26 (by decide)).1 (hs3.1 26 (by decide)).2.1 (ea_vpl (hs3.1 26 (by decide)).2.2 z114) ?_
              refine ea_iadd (pc := 131) dX12_chargeBy_131 ?_
              refine ea_istore (pc := 132) (lv' := [(0, vR (some (b0 + 0))), (1, vI x1), (2, vI x2), (4, vI (((99999 : Int32) + (ea_i (wX12_lineOf b0 (x1 : Int32) (x2 : Int32) h) (b0 + 23) (Int32.toNatClampNeg x2))) + (ea_i (wX12_lineOf b0 (x1 : Int32) (x2 : Int32) h) (b0 + 26) (Int32.toNatClampNeg x2))))]) dX12_chargeBy_132 (Nat.le_of_ble_eq_true rfl) [1, 2, 3, 0] rfl ?_
              refine ea_aload_n (pc := 134) dX12_chargeBy_134 rfl 0 rfl ?_
              refine ea_getR (pc := 135) dX12_chargeBy_135 ec_12 (k := 64) (Nat.le_of_ble_eq_true rfl) rfl (Or.inl ew_1409) (hs3.1 0 (by decide)).1 (hs3.1 0 (by decide)).2.1 (hs3.2 0 64 rfl) ?_
              refine ea_iload_n (pc := 138) dX12_chargeBy_138 rfl 1 rfl ?_
              obtain ⟨z115, K⟩ := K
              refine ea_iald (pc := 139) dX12_chargeBy_139 (hs3.1 38 (by decide)).1 (hs3.1 38 (by decide)).2.1 (ea_vpl (hs3.1 38 (by decide)).2.2 z115) ?_
              refine ea_iconst (pc := 140) dX12_chargeBy_140 (v := 4) rfl ?_
              refine ea_icmp_ne (pc := 141) (tgt := 155) dX12_chargeBy_141 rfl (fun c117 => ?_) (fun c117 => ?_)
              · have EX := EX.trans (if_neg c117)
                refine ea_iload (pc := 155) dX12_chargeBy_155 3 rfl ?_
                exact ea_iretE (pc := 157) dX12_chargeBy_157 rfl rfl EX EY
              · have EX := EX.trans (if_pos c117)
                have K := K.1 c117
                refine ea_iload (pc := 144) dX12_chargeBy_144 3 rfl ?_
                refine ea_aload_n (pc := 146) dX12_chargeBy_146 rfl 0 rfl ?_
                refine ea_getR (pc := 147) dX12_chargeBy_147 ec_12 (k := 32) (Nat.le_of_ble_eq_true rfl) rfl (Or.inl ew_1377) (hs3.1 0 (by decide)).1 (hs3.1 0 (by decide)).2.1 (hs3.2 0 32 rfl) ?_
                refine ea_iload_n (pc := 150) dX12_chargeBy_150 rfl 2 rfl ?_
                have z116 := K
                refine ea_iald (pc := 151) dX12_chargeBy_151 (hs3.1 27 (by decide)).1 (hs3.1 27 (by decide)).2.1 (ea_vpl (hs3.1 27 (by decide)).2.2 z116) ?_
                refine ea_iadd (pc := 152) dX12_chargeBy_152 ?_
                refine ea_istore (pc := 153) (lv' := [(4, vI ((((99999 : Int32) + (ea_i (wX12_lineOf b0 (x1 : Int32) (x2 : Int32) h) (b0 + 23) (Int32.toNatClampNeg x2))) + (ea_i (wX12_lineOf b0 (x1 : Int32) (x2 : Int32) h) (b0 + 26) (Int32.toNatClampNeg x2))) + (ea_i (wX12_lineOf b0 (x1 : Int32) (x2 : Int32) h) (b0 + 27) (Int32.toNatClampNeg x2))))]) dX12_chargeBy_153 (Nat.le_of_ble_eq_true rfl) [0] rfl ?_
                refine ea_iload (pc := 155) dX12_chargeBy_155 0 rfl ?_
                exact ea_iretE (pc := 157) dX12_chargeBy_157 rfl rfl EX EY
      · have EX := EX.trans (if_neg c143)
        have K := K.2 c143
        refine ea_iconst (pc := 61) dX12_chargeBy_61 (v := 0) rfl ?_
        refine ea_goto (pc := 62) (tgt := 81) dX12_chargeBy_62 rfl ?_
        refine ea_istore (pc := 81) (lv' := [(0, vR (some (b0 + 0))), (1, vI x1), (2, vI x2), (4, vI 0)]) dX12_chargeBy_81 (Nat.le_of_ble_eq_true rfl) [1, 2, 3, 0] rfl ?_
        refine ea_aload_n (pc := 83) dX12_chargeBy_83 rfl 0 rfl ?_
        refine ea_getR (pc := 84) dX12_chargeBy_84 ec_12 (k := 70) (Nat.le_of_ble_eq_true rfl) rfl (Or.inl ew_1415) (hs3.1 0 (by decide)).1 (hs3.1 0 (by decide)).2.1 (hs3.2 0 70 rfl) ?_
        refine ea_iload_n (pc := 87) dX12_chargeBy_87 rfl 1 rfl ?_
        obtain ⟨z121, K⟩ := K
        refine ea_iald (pc := 88) dX12_chargeBy_88 (hs3.1 44 (by decide)).1 (hs3.1 44 (by decide)).2.1 (ea_vpl (hs3.1 44 (by decide)).2.2 z121) ?_
        refine ea_sipush (pc := 89) dX12_chargeBy_89 (v := 1440) rfl ?_
        refine ea_irem (pc := 92) dX12_chargeBy_92 (by decide) ?_
        refine ea_aload_n (pc := 93) dX12_chargeBy_93 rfl 0 rfl ?_
        refine ea_getR (pc := 94) dX12_chargeBy_94 ec_12 (k := 29) (Nat.le_of_ble_eq_true rfl) rfl (Or.inl ew_1374) (hs3.1 0 (by decide)).1 (hs3.1 0 (by decide)).2.1 (hs3.2 0 29 rfl) ?_
        refine ea_iload_n (pc := 97) dX12_chargeBy_97 rfl 2 rfl ?_
        obtain ⟨z122, K⟩ := K
        refine ea_iald (pc := 98) dX12_chargeBy_98 (hs3.1 24 (by decide)).1 (hs3.1 24 (by decide)).2.1 (ea_vpl (hs3.1 24 (by decide)).2.2 z122) ?_
        refine ea_icmp_le (pc := 99) (tgt := 113) dX12_chargeBy_99 rfl (fun c142 => ?_) (fun c142 => ?_)
        · have EX := EX.trans (if_pos c142)
          have K := K.1 c142
          refine ea_aload_n (pc := 113) dX12_chargeBy_113 rfl 0 rfl ?_
          refine ea_getR (pc := 114) dX12_chargeBy_114 ec_12 (k := 64) (Nat.le_of_ble_eq_true rfl) rfl (Or.inl ew_1409) (hs3.1 0 (by decide)).1 (hs3.1 0 (by decide)).2.1 (hs3.2 0 64 rfl) ?_
          refine ea_iload_n (pc := 117) dX12_chargeBy_117 rfl 1 rfl ?_
          obtain ⟨z123, K⟩ := K
          refine ea_iald (pc := 118) dX12_chargeBy_118 (hs3.1 38 (by decide)).1 (hs3.1 38 (by decide)).2.1 (ea_vpl (hs3.1 38 (by decide)).2.2 z123) ?_
          refine ea_iconst (pc := 119) dX12_chargeBy_119 (v := 3) rfl ?_
          refine ea_icmp_ne (pc := 120) (tgt := 134) dX12_chargeBy_120 rfl (fun c131 => ?_) (fun c131 => ?_)
          · have EX := EX.trans (if_neg c131)
            have K := K.2 c131
            refine ea_aload_n (pc := 134) dX12_chargeBy_134 rfl 0 rfl ?_
            refine ea_getR (pc := 135) dX12_chargeBy_135 ec_12 (k := 64) (Nat.le_of_ble_eq_true rfl) rfl (Or.inl ew_1409) (hs3.1 0 (by decide)).1 (hs3.1 0 (by decide)).2.1 (hs3.2 0 64 rfl) ?_
            refine ea_iload_n (pc := 138) dX12_chargeBy_138 rfl 1 rfl ?_
            obtain ⟨z124, K⟩ := K
            refine ea_iald (pc := 139) dX12_chargeBy_139 (hs3.1 38 (by decide)).1 (hs3.1 38 (by decide)).2.1 (ea_vpl (hs3.1 38 (by decide)).2.2 z124) ?_
            refine ea_iconst (pc := 140) dX12_chargeBy_140 (v := 4) rfl ?_
            refine ea_icmp_ne (pc := 141) (tgt := 155) dX12_chargeBy_141 rfl (fun c126 => ?_) (fun c126 => ?_)
            · have EX := EX.trans (if_neg c126)
              refine ea_iload (pc := 155) dX12_chargeBy_155 3 rfl ?_
              exact ea_iretE (pc := 157) dX12_chargeBy_157 rfl rfl EX EY
            · have EX := EX.trans (if_pos c126)
              have K := K.1 c126
              refine ea_iload (pc := 144) dX12_chargeBy_144 3 rfl ?_
              refine ea_aload_n (pc := 146) dX12_chargeBy_146 rfl 0 rfl ?_
              refine ea_getR (pc := 147) dX12_chargeBy_147 ec_12 (k := 32) (Nat.le_of_ble_eq_true rfl) rfl (Or.inl ew_1377) (hs3.1 0 (by decide)).1 (hs3.1 0 (by decide)).2.1 (hs3.2 0 32 rfl) ?_
              refine ea_iload_n (pc := 150) dX12_chargeBy_150 rfl 2 rfl ?_
              have z125 := K
              refine ea_iald (pc := 151) dX12_chargeBy_151 (hs3.1 27 (by decide)).1 (hs3.1 27 (by decide)).2.1 (ea_vpl (hs3.1 27 (by decide)).2.2 z125) ?_
              refine ea_iadd (pc := 152) dX12_chargeBy_152 ?_
              refine ea_istore (pc := 153) (lv' := [(4, vI ((0 : Int32) + (ea_i (wX12_lineOf b0 (x1 : Int32) (x2 : Int32) h) (b0 + 27) (Int32.toNatClampNeg x2))))]) dX12_chargeBy_153 (Nat.le_of_ble_eq_true rfl) [0] rfl ?_
              refine ea_iload (pc := 155) dX12_chargeBy_155 0 rfl ?_
              exact ea_iretE (pc := 157) dX12_chargeBy_157 rfl rfl EX EY
          · have EX := EX.trans (if_pos c131)
            have K := K.1 c131
            refine ea_iload (pc := 123) dX12_chargeBy_123 3 rfl ?_
            refine ea_aload_n (pc := 125) dX12_chargeBy_125 rfl 0 rfl ?_
            refine ea_getR (pc := 126) dX12_chargeBy_126 ec_12 (k := 31) (Nat.le_of_ble_eq_true rfl) rfl (Or.inl ew_1376) (hs3.1 0 (by decide)).1 (hs3.1 0 (by decide)).2.1 (hs3.2 0 31 rfl) ?_
            refine ea_iload_n (pc := 129) dX12_chargeBy_129 rfl 2 rfl ?_
            obtain ⟨z127, K⟩ := K
            refine ea_iald (pc := 130) dX12_chargeBy_130 (hs3.1 26 (by decide)).1 (hs3.1 26 (by decide)).2.1 (ea_vpl (hs3.1 26 (by decide)).2.2 z127) ?_
            refine ea_iadd (pc := 131) dX12_chargeBy_131 ?_
            refine ea_istore (pc := 132) (lv' := [(0, vR (some (b0 + 0))), (1, vI x1), (2, vI x2), (4, vI ((0 : Int32) + (ea_i (wX12_lineOf b0 (x1 : Int32) (x2 : Int32) h) (b0 + 26) (Int32.toNatClampNeg x2))))]) dX12_chargeBy_132 (Nat.le_of_ble_eq_true rfl) [1, 2, 3, 0] rfl ?_
            refine ea_aload_n (pc := 134) dX12_chargeBy_134 rfl 0 rfl ?_
            refine ea_getR (pc := 135) dX12_chargeBy_135 ec_12 (k := 64) (Nat.le_of_ble_eq_true rfl) rfl (Or.inl ew_1409) (hs3.1 0 (by decide)).1 (hs3.1 0 (by decide)).2.1 (hs3.2 0 64 rfl) ?_
            refine ea_iload_n (pc := 138) dX12_chargeBy_138 rfl 1 rfl ?_
            obtain ⟨z128, K⟩ := K
            refine ea_iald (pc := 139) dX12_chargeBy_139 (hs3.1 38 (by decide)).1 (hs3.1 38 (by decide)).2.1 (ea_vpl (hs3.1 38 (by decide)).2.2 z128) ?_
            refine ea_iconst (pc := 140) dX12_chargeBy_140 (v := 4) rfl ?_
            refine ea_icmp_ne (pc := 141) (tgt := 155) dX12_chargeBy_141 rfl (fun c130 => ?_) (fun c130 => ?_)
            · have EX := EX.trans (if_neg c130)
              refine ea_iload (pc := 155) dX12_chargeBy_155 3 rfl ?_
              exact ea_iretE (pc := 157) dX12_chargeBy_157 rfl rfl EX EY
            · have EX := EX.trans (if_pos c130)
              have K := K.1 c130
              refine ea_iload (pc := 144) dX12_chargeBy_144 3 rfl ?_
              refine ea_aload_n (pc := 146) dX12_chargeBy_146 rfl 0 rfl ?_
              refine ea_getR (pc := 147) dX12_chargeBy_147 ec_12 (k := 32) (Nat.le_of_ble_eq_true rfl) rfl (Or.inl ew_1377) (hs3.1 0 (by decide)).1 (hs3.1 0 (by decide)).2.1 (hs3.2 0 32 rfl) ?_
              refine ea_iload_n (pc := 150) dX12_chargeBy_150 rfl 2 rfl ?_
              have z129 := K
              refine ea_iald (pc := 151) dX12_chargeBy_151 (hs3.1 27 (by decide)).1 (hs3.1 27 (by decide)).2.1 (ea_vpl (hs3.1 27 (by decide)).2.2 z129) ?_
              refine ea_iadd (pc := 152) dX12_chargeBy_152 ?_
              refine ea_istore (pc := 153) (lv' := [(4, vI (((0 : Int32) + (ea_i (wX12_lineOf b0 (x1 : Int32) (x2 : Int32) h) (b0 + 26) (Int32.toNatClampNeg x2))) + (ea_i (wX12_lineOf b0 (x1 : Int32) (x2 : Int32) h) (b0 + 27) (Int32.toNatClampNeg x2))))]) dX12_chargeBy_153 (Nat.le_of_ble_eq_true rfl) [0] rfl ?_
              refine ea_iload (pc := 155) dX12_chargeBy_155 0 rfl ?_
              exact ea_iretE (pc := 157) dX12_chargeBy_157 rfl rfl EX EY
        · have EX := EX.trans (if_neg c142)
          have K := K.2 c142
          refine ea_iload (pc := 102) dX12_chargeBy_102 3 rfl ?_
          refine ea_aload_n (pc := 104) dX12_chargeBy_104 rfl 0 rfl ?_
          refine ea_getR (pc := 105) dX12_chargeBy_105 ec_12 (k := 28) (Nat.le_of_ble_eq_true rfl) rfl (Or.inl ew_1373) (hs3.1 0 (by decide)).1 (hs3.1 0 (by decide)).2.1 (hs3.2 0 28 rfl) ?_
          refine ea_iload_n (pc := 108) dX12_chargeBy_108 rfl 2 rfl ?_
          obtain ⟨z132, K⟩ := K
          refine ea_iald (pc := 109) dX12_chargeBy_109 (hs3.1 23 (by decide)).1 (hs3.1 23 (by decide)).2.1 (ea_vpl (hs3.1 23 (by decide)).2.2 z132) ?_
          refine ea_iadd (pc := 110) dX12_chargeBy_110 ?_
          refine ea_istore (pc := 111) (lv' := [(0, vR (some (b0 + 0))), (1, vI x1), (2, vI x2), (4, vI ((0 : Int32) + (ea_i (wX12_lineOf b0 (x1 : Int32) (x2 : Int32) h) (b0 + 23) (Int32.toNatClampNeg x2))))]) dX12_chargeBy_111 (Nat.le_of_ble_eq_true rfl) [1, 2, 3, 0] rfl ?_
          refine ea_aload_n (pc := 113) dX12_chargeBy_113 rfl 0 rfl ?_
          refine ea_getR (pc := 114) dX12_chargeBy_114 ec_12 (k := 64) (Nat.le_of_ble_eq_true rfl) rfl (Or.inl ew_1409) (hs3.1 0 (by decide)).1 (hs3.1 0 (by decide)).2.1 (hs3.2 0 64 rfl) ?_
          refine ea_iload_n (pc := 117) dX12_chargeBy_117 rfl 1 rfl ?_
          obtain ⟨z133, K⟩ := K
          refine ea_iald (pc := 118) dX12_chargeBy_118 (hs3.1 38 (by decide)).1 (hs3.1 38 (by decide)).2.1 (ea_vpl (hs3.1 38 (by decide)).2.2 z133) ?_
          refine ea_iconst (pc := 119) dX12_chargeBy_119 (v := 3) rfl ?_
          refine ea_icmp_ne (pc := 120) (tgt := 134) dX12_chargeBy_120 rfl (fun c141 => ?_) (fun c141 => ?_)
          · have EX := EX.trans (if_neg c141)
            have K := K.2 c141
            refine ea_aload_n (pc := 134) dX12_chargeBy_134 rfl 0 rfl ?_
            refine ea_getR (pc := 135) dX12_chargeBy_135 ec_12 (k := 64) (Nat.le_of_ble_eq_true rfl) rfl (Or.inl ew_1409) (hs3.1 0 (by decide)).1 (hs3.1 0 (by decide)).2.1 (hs3.2 0 64 rfl) ?_
            refine ea_iload_n (pc := 138) dX12_chargeBy_138 rfl 1 rfl ?_
            obtain ⟨z134, K⟩ := K
            refine ea_iald (pc := 139) dX12_chargeBy_139 (hs3.1 38 (by decide)).1 (hs3.1 38 (by decide)).2.1 (ea_vpl (hs3.1 38 (by decide)).2.2 z134) ?_
            refine ea_iconst (pc := 140) dX12_chargeBy_140 (v := 4) rfl ?_
            refine ea_icmp_ne (pc := 141) (tgt := 155) dX12_chargeBy_141 rfl (fun c136 => ?_) (fun c136 => ?_)
            · have EX := EX.trans (if_neg c136)
              refine ea_iload (pc := 155) dX12_chargeBy_155 3 rfl ?_
              exact ea_iretE (pc := 157) dX12_chargeBy_157 rfl rfl EX EY
            · have EX := EX.trans (if_pos c136)
              have K := K.1 c136
              refine ea_iload (pc := 144) dX12_chargeBy_144 3 rfl ?_
              refine ea_aload_n (pc := 146) dX12_chargeBy_146 rfl 0 rfl ?_
              refine ea_getR (pc := 147) dX12_chargeBy_147 ec_12 (k := 32) (Nat.le_of_ble_eq_true rfl) rfl (Or.inl ew_1377) (hs3.1 0 (by decide)).1 (hs3.1 0 (by decide)).2.1 (hs3.2 0 32 rfl) ?_
              refine ea_iload_n (pc := 150) dX12_chargeBy_150 rfl 2 rfl ?_
              have z135 := K
              refine ea_iald (pc := 151) dX12_chargeBy_151 (hs3.1 27 (by decide)).1 (hs3.1 27 (by decide)).2.1 (ea_vpl (hs3.1 27 (by decide)).2.2 z135) ?_
              refine ea_iadd (pc := 152) dX12_chargeBy_152 ?_
              refine ea_istore (pc := 153) (lv' := [(4, vI (((0 : Int32) + (ea_i (wX12_lineOf b0 (x1 : Int32) (x2 : Int32) h) (b0 + 23) (Int32.toNatClampNeg x2))) + (ea_i (wX12_lineOf b0 (x1 : Int32) (x2 : Int32) h) (b0 + 27) (Int32.toNatClampNeg x2))))]) dX12_chargeBy_153 (Nat.le_of_ble_eq_true rfl) [0] rfl ?_
              refine ea_iload (pc := 155) dX12_chargeBy_155 0 rfl ?_
              exact ea_iretE (pc := 157) dX12_chargeBy_157 rfl rfl EX EY
          · have EX := EX.trans (if_pos c141)
            have K := K.1 c141
            refine ea_iload (pc := 123) dX12_chargeBy_123 3 rfl ?_
            refine ea_aload_n (pc := 125) dX12_chargeBy_125 rfl 0 rfl ?_
            refine ea_getR (pc := 126) dX12_chargeBy_126 ec_12 (k := 31) (Nat.le_of_ble_eq_true rfl) rfl (Or.inl ew_1376) (hs3.1 0 (by decide)).1 (hs3.1 0 (by decide)).2.1 (hs3.2 0 31 rfl) ?_
            refine ea_iload_n (pc := 129) dX12_chargeBy_129 rfl 2 rfl ?_
            obtain ⟨z137, K⟩ := K
            refine ea_iald (pc := 130) dX12_chargeBy_130 (hs3.1 26 (by decide)).1 (hs3.1 26 (by decide)).2.1 (ea_vpl (hs3.1 26 (by decide)).2.2 z137) ?_
            refine ea_iadd (pc := 131) dX12_chargeBy_131 ?_
            refine ea_istore (pc := 132) (lv' := [(0, vR (some (b0 + 0))), (1, vI x1), (2, vI x2), (4, vI (((0 : Int32) + (ea_i (wX12_lineOf b0 (x1 : Int32) (x2 : Int32) h) (b0 + 23) (Int32.toNatClampNeg x2))) + (ea_i (wX12_lineOf b0 (x1 : Int32) (x2 : Int32) h) (b0 + 26) (Int32.toNatClampNeg x2))))]) dX12_chargeBy_132 (Nat.le_of_ble_eq_true rfl) [1, 2, 3, 0] rfl ?_
            refine ea_aload_n (pc := 134) dX12_chargeBy_134 rfl 0 rfl ?_
            refine ea_getR (pc := 135) dX12_chargeBy_135 ec_12 (k := 64) (Nat.le_of_ble_eq_true rfl) rfl (Or.inl ew_1409) (hs3.1 0 (by decide)).1 (hs3.1 0 (by decide)).2.1 (hs3.2 0 64 rfl) ?_
            refine ea_iload_n (pc := 138) dX12_chargeBy_138 rfl 1 rfl ?_
            obtain ⟨z138, K⟩ := K
            refine ea_iald (pc := 139) dX12_chargeBy_139 (hs3.1 38 (by decide)).1 (hs3.1 38 (by decide)).2.1 (ea_vpl (hs3.1 38 (by decide)).2.2 z138) ?_
            refine ea_iconst (pc := 140) dX12_chargeBy_140 (v := 4) rfl ?_
            refine ea_icmp_ne (pc := 141) (tgt := 155) dX12_chargeBy_141 rfl (fun c140 => ?_) (fun c140 => ?_)
            · have EX := EX.trans (if_neg c140)
              refine ea_iload (pc := 155) dX12_chargeBy_155 3 rfl ?_
              exact ea_iretE (pc := 157) dX12_chargeBy_157 rfl rfl EX EY
            · have EX := EX.trans (if_pos c140)
              have K := K.1 c140
              refine ea_iload (pc := 144) dX12_chargeBy_144 3 rfl ?_
              refine ea_aload_n (pc := 146) dX12_chargeBy_146 rfl 0 rfl ?_
              refine ea_getR (pc := 147) dX12_chargeBy_147 ec_12 (k := 32) (Nat.le_of_ble_eq_true rfl) rfl (Or.inl ew_1377) (hs3.1 0 (by decide)).1 (hs3.1 0 (by decide)).2.1 (hs3.2 0 32 rfl) ?_
              refine ea_iload_n (pc := 150) dX12_chargeBy_150 rfl 2 rfl ?_
              have z139 := K
              refine ea_iald (pc := 151) dX12_chargeBy_151 (hs3.1 27 (by decide)).1 (hs3.1 27 (by decide)).2.1 (ea_vpl (hs3.1 27 (by decide)).2.2 z139) ?_
              refine ea_iadd (pc := 152) dX12_chargeBy_152 ?_
              refine ea_istore (pc := 153) (lv' := [(4, vI ((((0 : Int32) + (ea_i (wX12_lineOf b0 (x1 : Int32) (x2 : Int32) h) (b0 + 23) (Int32.toNatClampNeg x2))) + (ea_i (wX12_lineOf b0 (x1 : Int32) (x2 : Int32) h) (b0 + 26) (Int32.toNatClampNeg x2))) + (ea_i (wX12_lineOf b0 (x1 : Int32) (x2 : Int32) h) (b0 + 27) (Int32.toNatClampNeg x2))))]) dX12_chargeBy_153 (Nat.le_of_ble_eq_true rfl) [0] rfl ?_
              refine ea_iload (pc := 155) dX12_chargeBy_155 0 rfl ?_
              exact ea_iretE (pc := 157) dX12_chargeBy_157 rfl rfl EX EY
  · have EX := EX.trans (if_neg c145)
    have EY := EY.trans (if_neg c145)
    refine ea_iconst (pc := 9) dX12_chargeBy_9 (v := 0) rfl ?_
    exact ea_iretE (pc := 10) dX12_chargeBy_10 rfl rfl EX EY
