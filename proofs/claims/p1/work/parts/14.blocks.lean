/-! blocks -/
theorem dX11_account_0 : decode cX11_account 0 = .ok (.aload_n 0, 1) := by decide +kernel
theorem dX11_account_1 : decode cX11_account 1 = .ok (.getfield 12, 3) := by decide +kernel
theorem dX11_account_4 : decode cX11_account 4 = .ok (.iload_n 1, 1) := by decide +kernel
theorem dX11_account_5 : decode cX11_account 5 = .ok (.invokevirtual 81, 3) := by decide +kernel
theorem dX11_account_8 : decode cX11_account 8 = .ok (.ifCond .eq 19, 3) := by decide +kernel
theorem dX11_account_11 : decode cX11_account 11 = .ok (.aload_n 0, 1) := by decide +kernel
theorem dX11_account_12 : decode cX11_account 12 = .ok (.getfield 12, 3) := by decide +kernel
theorem dX11_account_15 : decode cX11_account 15 = .ok (.iload_n 2, 1) := by decide +kernel
theorem dX11_account_16 : decode cX11_account 16 = .ok (.invokevirtual 81, 3) := by decide +kernel
theorem dX11_account_19 : decode cX11_account 19 = .ok (.ifCond .eq 8, 3) := by decide +kernel
theorem dX11_account_22 : decode cX11_account 22 = .ok (.iload_n 1, 1) := by decide +kernel
theorem dX11_account_23 : decode cX11_account 23 = .ok (.iload_n 2, 1) := by decide +kernel
theorem dX11_account_24 : decode cX11_account 24 = .ok (.if_icmp .ne 5, 3) := by decide +kernel
theorem dX11_account_27 : decode cX11_account 27 = .ok (.iconst (-1), 1) := by decide +kernel
theorem dX11_account_28 : decode cX11_account 28 = .ok (.ireturn, 1) := by decide +kernel
theorem dX11_account_29 : decode cX11_account 29 = .ok (.iload_n 3, 1) := by decide +kernel
theorem dX11_account_30 : decode cX11_account 30 = .ok (.tableswitch 49 0 2 #[26, 34, 42], 26) := by decide +kernel
theorem dX11_account_56 : decode cX11_account 56 = .ok (.aload_n 0, 1) := by decide +kernel
theorem dX11_account_57 : decode cX11_account 57 = .ok (.iload_n 1, 1) := by decide +kernel
theorem dX11_account_58 : decode cX11_account 58 = .ok (.iload_n 2, 1) := by decide +kernel
theorem dX11_account_59 : decode cX11_account 59 = .ok (.iconst 0, 1) := by decide +kernel
theorem dX11_account_60 : decode cX11_account 60 = .ok (.invokevirtual 359, 3) := by decide +kernel
theorem dX11_account_63 : decode cX11_account 63 = .ok (.ireturn, 1) := by decide +kernel
theorem dX11_account_64 : decode cX11_account 64 = .ok (.aload_n 0, 1) := by decide +kernel
theorem dX11_account_65 : decode cX11_account 65 = .ok (.iload_n 1, 1) := by decide +kernel
theorem dX11_account_66 : decode cX11_account 66 = .ok (.iload_n 2, 1) := by decide +kernel
theorem dX11_account_67 : decode cX11_account 67 = .ok (.iconst 1, 1) := by decide +kernel
theorem dX11_account_68 : decode cX11_account 68 = .ok (.invokevirtual 359, 3) := by decide +kernel
theorem dX11_account_71 : decode cX11_account 71 = .ok (.ireturn, 1) := by decide +kernel
theorem dX11_account_72 : decode cX11_account 72 = .ok (.aload_n 0, 1) := by decide +kernel
theorem dX11_account_73 : decode cX11_account 73 = .ok (.iload_n 1, 1) := by decide +kernel
theorem dX11_account_74 : decode cX11_account 74 = .ok (.iload_n 2, 1) := by decide +kernel
theorem dX11_account_75 : decode cX11_account 75 = .ok (.invokevirtual 363, 3) := by decide +kernel
theorem dX11_account_78 : decode cX11_account 78 = .ok (.ireturn, 1) := by decide +kernel
theorem dX11_account_79 : decode cX11_account 79 = .ok (.iload_n 3, 1) := by decide +kernel
theorem dX11_account_80 : decode cX11_account 80 = .ok (.bipush 10, 2) := by decide +kernel
theorem dX11_account_82 : decode cX11_account 82 = .ok (.if_icmp .ge 7, 3) := by decide +kernel
theorem dX11_account_85 : decode cX11_account 85 = .ok (.iconst (-1), 1) := by decide +kernel
theorem dX11_account_86 : decode cX11_account 86 = .ok (.goto 13, 3) := by decide +kernel
theorem dX11_account_89 : decode cX11_account 89 = .ok (.aload_n 0, 1) := by decide +kernel
theorem dX11_account_90 : decode cX11_account 90 = .ok (.iload_n 1, 1) := by decide +kernel
theorem dX11_account_91 : decode cX11_account 91 = .ok (.iload_n 2, 1) := by decide +kernel
theorem dX11_account_92 : decode cX11_account 92 = .ok (.iload_n 3, 1) := by decide +kernel
theorem dX11_account_93 : decode cX11_account 93 = .ok (.bipush 10, 2) := by decide +kernel
theorem dX11_account_95 : decode cX11_account 95 = .ok (.isub, 1) := by decide +kernel
theorem dX11_account_96 : decode cX11_account 96 = .ok (.invokevirtual 366, 3) := by decide +kernel
theorem dX11_account_99 : decode cX11_account 99 = .ok (.ireturn, 1) := by decide +kernel
theorem bX11_account_0 {d : Nat} {h0 hE h : ea_H} {rv : Option ea_V} {r0 : Option Nat} {x1 : Int32} {x2 : Int32} {x3 : Int32} (H : ∃ a3, r0 = some a3 ∧ a3 < ea_n h ∧ ea_c h a3 = 11 ∧ ∃ a11, (ea_r h a3 0) = some a11 ∧ a11 < ea_n h ∧ ea_c h a11 = 6 ∧ ∃ (d5 : Nat) (xc13 : Int32) (h6 : ea_H), ea_Met mX6_has d5 [vR (some a11), vI x1] h (some (vI xc13)) h6 ∧ d5 + 1 ≤ d ∧ (xc13 = (0 : Int32) → rv = some (vI (-1)) ∧ hE = h6) ∧ (¬ xc13 = (0 : Int32) → a3 < ea_n h6 ∧ ea_c h6 a3 = 11 ∧ ∃ a22, (ea_r h6 a3 0) = some a22 ∧ a22 < ea_n h6 ∧ ea_c h6 a22 = 6 ∧ ∃ (d16 : Nat) (xc24 : Int32) (h17 : ea_H), ea_Met mX6_has d16 [vR (some a22), vI x2] h6 (some (vI xc24)) h17 ∧ d16 + 1 ≤ d ∧ (xc24 = (0 : Int32) → rv = some (vI (-1)) ∧ hE = h17) ∧ (¬ xc24 = (0 : Int32) → (¬ x1 = x2 → (Int32.toInt x3 = 0 → a3 < ea_n h17 ∧ ea_c h17 a3 = 11 ∧ ∃ (d25 : Nat) (xc31 : Int32) (h26 : ea_H), ea_Met mX11_owedBetween d25 [vR (some a3), vI x1, vI x2, vI 0] h17 (some (vI xc31)) h26 ∧ d25 + 1 ≤ d ∧ rv = some (vI xc31) ∧ hE = h26) ∧ (Int32.toInt x3 = 1 → a3 < ea_n h17 ∧ ea_c h17 a3 = 11 ∧ ∃ (d32 : Nat) (xc38 : Int32) (h33 : ea_H), ea_Met mX11_owedBetween d32 [vR (some a3), vI x1, vI x2, vI 1] h17 (some (vI xc38)) h33 ∧ d32 + 1 ≤ d ∧ rv = some (vI xc38) ∧ hE = h33) ∧ (Int32.toInt x3 = 2 → a3 < ea_n h17 ∧ ea_c h17 a3 = 11 ∧ ∃ (d39 : Nat) (xc45 : Int32) (h40 : ea_H), ea_Met mX11_differing d39 [vR (some a3), vI x1, vI x2] h17 (some (vI xc45)) h40 ∧ d39 + 1 ≤ d ∧ rv = some (vI xc45) ∧ hE = h40) ∧ (Int32.toInt x3 < 0 ∨ 2 < Int32.toInt x3 → ((10 : Int32) ≤ x3 → a3 < ea_n h17 ∧ ea_c h17 a3 = 11 ∧ ∃ (d46 : Nat) (xc52 : Int32) (h47 : ea_H), ea_Met mX11_differingLetter d46 [vR (some a3), vI x1, vI x2, vI (x3 - (10 : Int32))] h17 (some (vI xc52)) h47 ∧ d46 + 1 ≤ d ∧ rv = some (vI xc52) ∧ hE = h47) ∧ (¬ (10 : Int32) ≤ x3 → rv = some (vI (-1)) ∧ hE = h17))) ∧ (x1 = x2 → rv = some (vI (-1)) ∧ hE = h17)))) : ea_W mX11_account d h0 rv hE 0 [(0, vR r0), (1, vI x1), (2, vI x2), (3, vI x3)] [] h := by
  refine ea_aload_n (pc := 0) dX11_account_0 rfl 0 rfl ?_
  obtain ⟨a3, e4, f1, g2, H⟩ := H
  refine ea_deref0 e4 ?_
  refine ea_getR (pc := 1) dX11_account_1 ec_11 (k := 0) (Nat.le_of_ble_eq_true rfl) rfl (Or.inl ew_437) f1 g2 rfl ?_
  refine ea_iload_n (pc := 4) dX11_account_4 rfl 1 rfl ?_
  obtain ⟨a11, e12, f9, g10, H⟩ := H
  refine ea_deref1 e12 ?_
  obtain ⟨d5, xc13, h6, m7, q8, H⟩ := H
  refine ea_callV (pc := 5) (As := [vI x1]) (st := []) dX11_account_5 kX6_has m7 q8 rfl (Nat.le_of_ble_eq_true rfl) ew_494 ew_495 ew_496 (ci := 6) rfl (by decide) f9 g10 ?_
  refine ea_if_eq (pc := 8) (tgt := 27) dX11_account_8 rfl (fun c56 => ?_) (fun c56 => ?_)
  · have H := H.1 c56
    refine ea_iconst (pc := 27) dX11_account_27 (v := (-1)) rfl ?_
    obtain ⟨rfl, rfl⟩ := H
    exact ea_ireturn (pc := 28) dX11_account_28 rfl rfl
  · have H := H.2 c56
    refine ea_aload_n (pc := 11) dX11_account_11 rfl 0 rfl ?_
    obtain ⟨f14, g15, H⟩ := H
    refine ea_deref0 e4 ?_
    refine ea_getR (pc := 12) dX11_account_12 ec_11 (k := 0) (Nat.le_of_ble_eq_true rfl) rfl (Or.inl ew_437) f14 g15 rfl ?_
    refine ea_iload_n (pc := 15) dX11_account_15 rfl 2 rfl ?_
    obtain ⟨a22, e23, f20, g21, H⟩ := H
    refine ea_deref1 e23 ?_
    obtain ⟨d16, xc24, h17, m18, q19, H⟩ := H
    refine ea_callV (pc := 16) (As := [vI x2]) (st := []) dX11_account_16 kX6_has m18 q19 rfl (Nat.le_of_ble_eq_true rfl) ew_494 ew_495 ew_496 (ci := 6) rfl (by decide) f20 g21 ?_
    refine ea_if_eq (pc := 19) (tgt := 27) dX11_account_19 rfl (fun c55 => ?_) (fun c55 => ?_)
    · have H := H.1 c55
      refine ea_iconst (pc := 27) dX11_account_27 (v := (-1)) rfl ?_
      obtain ⟨rfl, rfl⟩ := H
      exact ea_ireturn (pc := 28) dX11_account_28 rfl rfl
    · have H := H.2 c55
      refine ea_iload_n (pc := 22) dX11_account_22 rfl 1 rfl ?_
      refine ea_iload_n (pc := 23) dX11_account_23 rfl 2 rfl ?_
      refine ea_icmp_ne (pc := 24) (tgt := 29) dX11_account_24 rfl (fun c54 => ?_) (fun c54 => ?_)
      · have H := H.1 c54
        refine ea_iload_n (pc := 29) dX11_account_29 rfl 3 rfl ?_
        by_cases qc1 : Int32.toInt x3 = 0
        · have H := H.1 qc1
          refine ea_tswIn (pc := 30) (tgt := 56) dX11_account_30 (by omega) (by omega) (by rw [qc1]; rfl) rfl ?_
          refine ea_aload_n (pc := 56) dX11_account_56 rfl 0 rfl ?_
          refine ea_iload_n (pc := 57) dX11_account_57 rfl 1 rfl ?_
          refine ea_iload_n (pc := 58) dX11_account_58 rfl 2 rfl ?_
          refine ea_iconst (pc := 59) dX11_account_59 (v := 0) rfl ?_
          obtain ⟨f29, g30, H⟩ := H
          refine ea_deref3 e4 ?_
          obtain ⟨d25, xc31, h26, m27, q28, H⟩ := H
          refine ea_callV (pc := 60) (As := [vI x1, vI x2, vI 0]) (st := []) dX11_account_60 kX11_owedBetween m27 q28 rfl (Nat.le_of_ble_eq_true rfl) ew_1162 ew_1164 ew_38 (ci := 11) rfl (by decide) f29 g30 ?_
          obtain ⟨rfl, rfl⟩ := H
          exact ea_ireturn (pc := 63) dX11_account_63 rfl rfl
        by_cases qc2 : Int32.toInt x3 = 1
        · have H := H.2.1 qc2
          refine ea_tswIn (pc := 30) (tgt := 64) dX11_account_30 (by omega) (by omega) (by rw [qc2]; rfl) rfl ?_
          refine ea_aload_n (pc := 64) dX11_account_64 rfl 0 rfl ?_
          refine ea_iload_n (pc := 65) dX11_account_65 rfl 1 rfl ?_
          refine ea_iload_n (pc := 66) dX11_account_66 rfl 2 rfl ?_
          refine ea_iconst (pc := 67) dX11_account_67 (v := 1) rfl ?_
          obtain ⟨f36, g37, H⟩ := H
          refine ea_deref3 e4 ?_
          obtain ⟨d32, xc38, h33, m34, q35, H⟩ := H
          refine ea_callV (pc := 68) (As := [vI x1, vI x2, vI 1]) (st := []) dX11_account_68 kX11_owedBetween m34 q35 rfl (Nat.le_of_ble_eq_true rfl) ew_1162 ew_1164 ew_38 (ci := 11) rfl (by decide) f36 g37 ?_
          obtain ⟨rfl, rfl⟩ := H
          exact ea_ireturn (pc := 71) dX11_account_71 rfl rfl
        by_cases qc3 : Int32.toInt x3 = 2
        · have H := H.2.2.1 qc3
          refine ea_tswIn (pc := 30) (tgt := 72) dX11_account_30 (by omega) (by omega) (by rw [qc3]; rfl) rfl ?_
          refine ea_aload_n (pc := 72) dX11_account_72 rfl 0 rfl ?_
          refine ea_iload_n (pc := 73) dX11_account_73 rfl 1 rfl ?_
          refine ea_iload_n (pc := 74) dX11_account_74 rfl 2 rfl ?_
          obtain ⟨f43, g44, H⟩ := H
          refine ea_deref2 e4 ?_
          obtain ⟨d39, xc45, h40, m41, q42, H⟩ := H
          refine ea_callV (pc := 75) (As := [vI x1, vI x2]) (st := []) dX11_account_75 kX11_differing m41 q42 rfl (Nat.le_of_ble_eq_true rfl) ew_1170 ew_1172 ew_40 (ci := 11) rfl (by decide) f43 g44 ?_
          obtain ⟨rfl, rfl⟩ := H
          exact ea_ireturn (pc := 78) dX11_account_78 rfl rfl
        have qd : Int32.toInt x3 < 0 ∨ 2 < Int32.toInt x3 := by omega
        have H := H.2.2.2 qd
        refine ea_tswOut (pc := 30) (tgt := 79) dX11_account_30 qd rfl ?_
        refine ea_iload_n (pc := 79) dX11_account_79 rfl 3 rfl ?_
        refine ea_bipush (pc := 80) dX11_account_80 (v := 10) rfl ?_
        refine ea_icmp_ge (pc := 82) (tgt := 89) dX11_account_82 rfl (fun c53 => ?_) (fun c53 => ?_)
        · have H := H.1 c53
          refine ea_aload_n (pc := 89) dX11_account_89 rfl 0 rfl ?_
          refine ea_iload_n (pc := 90) dX11_account_90 rfl 1 rfl ?_
          refine ea_iload_n (pc := 91) dX11_account_91 rfl 2 rfl ?_
          refine ea_iload_n (pc := 92) dX11_account_92 rfl 3 rfl ?_
          refine ea_bipush (pc := 93) dX11_account_93 (v := 10) rfl ?_
          refine ea_isub (pc := 95) dX11_account_95 ?_
          obtain ⟨f50, g51, H⟩ := H
          refine ea_deref3 e4 ?_
          obtain ⟨d46, xc52, h47, m48, q49, H⟩ := H
          refine ea_callV (pc := 96) (As := [vI x1, vI x2, vI (x3 - (10 : Int32))]) (st := []) dX11_account_96 kX11_differingLetter m48 q49 rfl (Nat.le_of_ble_eq_true rfl) ew_1178 ew_1180 ew_42 (ci := 11) rfl (by decide) f50 g51 ?_
          obtain ⟨rfl, rfl⟩ := H
          exact ea_ireturn (pc := 99) dX11_account_99 rfl rfl
        · have H := H.2 c53
          refine ea_iconst (pc := 85) dX11_account_85 (v := (-1)) rfl ?_
          refine ea_goto (pc := 86) (tgt := 99) dX11_account_86 rfl ?_
          obtain ⟨rfl, rfl⟩ := H
          exact ea_ireturn (pc := 99) dX11_account_99 rfl rfl
      · have H := H.2 c54
        refine ea_iconst (pc := 27) dX11_account_27 (v := (-1)) rfl ?_
        obtain ⟨rfl, rfl⟩ := H
        exact ea_ireturn (pc := 28) dX11_account_28 rfl rfl
theorem dX11_nobody_0 : decode cX11_nobody 0 = .ok (.aload_n 0, 1) := by decide +kernel
theorem dX11_nobody_1 : decode cX11_nobody 1 = .ok (.iload_n 1, 1) := by decide +kernel
theorem dX11_nobody_2 : decode cX11_nobody 2 = .ok (.invokevirtual 251, 3) := by decide +kernel
theorem dX11_nobody_5 : decode cX11_nobody 5 = .ok (.astore_n 2, 1) := by decide +kernel
theorem dX11_nobody_6 : decode cX11_nobody 6 = .ok (.aload_n 2, 1) := by decide +kernel
theorem dX11_nobody_7 : decode cX11_nobody 7 = .ok (.ifnull 23, 3) := by decide +kernel
theorem dX11_nobody_10 : decode cX11_nobody 10 = .ok (.aload_n 2, 1) := by decide +kernel
theorem dX11_nobody_11 : decode cX11_nobody 11 = .ok (.getfield 369, 3) := by decide +kernel
theorem dX11_nobody_14 : decode cX11_nobody 14 = .ok (.ifCond .ne 16, 3) := by decide +kernel
theorem dX11_nobody_17 : decode cX11_nobody 17 = .ok (.aload_n 0, 1) := by decide +kernel
theorem dX11_nobody_18 : decode cX11_nobody 18 = .ok (.getfield 57, 3) := by decide +kernel
theorem dX11_nobody_21 : decode cX11_nobody 21 = .ok (.getfield 255, 3) := by decide +kernel
theorem dX11_nobody_24 : decode cX11_nobody 24 = .ok (.iload_n 1, 1) := by decide +kernel
theorem dX11_nobody_25 : decode cX11_nobody 25 = .ok (.iaload, 1) := by decide +kernel
theorem dX11_nobody_26 : decode cX11_nobody 26 = .ok (.iconst 1, 1) := by decide +kernel
theorem dX11_nobody_27 : decode cX11_nobody 27 = .ok (.if_icmp .le 5, 3) := by decide +kernel
theorem dX11_nobody_30 : decode cX11_nobody 30 = .ok (.iconst 0, 1) := by decide +kernel
theorem dX11_nobody_31 : decode cX11_nobody 31 = .ok (.ireturn, 1) := by decide +kernel
theorem dX11_nobody_32 : decode cX11_nobody 32 = .ok (.aload_n 2, 1) := by decide +kernel
theorem dX11_nobody_33 : decode cX11_nobody 33 = .ok (.iconst 1, 1) := by decide +kernel
theorem dX11_nobody_34 : decode cX11_nobody 34 = .ok (.putfield 369, 3) := by decide +kernel
theorem dX11_nobody_37 : decode cX11_nobody 37 = .ok (.aload_n 0, 1) := by decide +kernel
theorem dX11_nobody_38 : decode cX11_nobody 38 = .ok (.iconst 0, 1) := by decide +kernel
theorem dX11_nobody_39 : decode cX11_nobody 39 = .ok (.putfield 96, 3) := by decide +kernel
theorem dX11_nobody_42 : decode cX11_nobody 42 = .ok (.iconst 1, 1) := by decide +kernel
theorem dX11_nobody_43 : decode cX11_nobody 43 = .ok (.ireturn, 1) := by decide +kernel
theorem bX11_nobody_0 {d : Nat} {h0 hE h : ea_H} {rv : Option ea_V} {r0 : Option Nat} {x1 : Int32} (H : ∃ a7, r0 = some a7 ∧ a7 < ea_n h ∧ ea_c h a7 = 11 ∧ ∃ (d1 : Nat) (rc9 : Option Nat) (h2 : ea_H), ea_Met mX11_letterOf d1 [vR (some a7), vI x1] h (some (vR rc9)) h2 ∧ d1 + 1 ≤ d ∧ (rc9 = none → rv = some (vI 0) ∧ hE = h2) ∧ (∀ a10, rc9 = some a10 → a10 < ea_n h2 ∧ ea_c h2 a10 = 4 ∧ (¬ (ea_i h2 a10 15) = (0 : Int32) → rv = some (vI 0) ∧ hE = h2) ∧ ((ea_i h2 a10 15) = (0 : Int32) → a7 < ea_n h2 ∧ ea_c h2 a7 = 11 ∧ ∃ a18, (ea_r h2 a7 6) = some a18 ∧ a18 < ea_n h2 ∧ ea_c h2 a18 = 1 ∧ ∃ a22, (ea_r h2 a18 1) = some a22 ∧ a22 < ea_n h2 ∧ ea_c h2 a22 = 20 ∧ vp_in x1 (ea_l h2 a22) ∧ ((ea_i h2 a22 (Int32.toNatClampNeg x1)) ≤ (1 : Int32) → a10 < ea_n h2 ∧ ea_c h2 a10 = 4 ∧ ∀ h27, h27 = ea_wi h2 a10 15 1 → a7 < ea_n h27 ∧ ea_c h27 a7 = 11 ∧ ∀ h31, h31 = ea_wi h27 a7 12 0 → rv = some (vI 1) ∧ hE = h31) ∧ (¬ (ea_i h2 a22 (Int32.toNatClampNeg x1)) ≤ (1 : Int32) → rv = some (vI 0) ∧ hE = h2)))) : ea_W mX11_nobody d h0 rv hE 0 [(0, vR r0), (1, vI x1)] [] h := by
  refine ea_aload_n (pc := 0) dX11_nobody_0 rfl 0 rfl ?_
  refine ea_iload_n (pc := 1) dX11_nobody_1 rfl 1 rfl ?_
  obtain ⟨a7, e8, f5, g6, H⟩ := H
  refine ea_deref1 e8 ?_
  obtain ⟨d1, rc9, h2, m3, q4, H⟩ := H
  refine ea_callV (pc := 2) (As := [vI x1]) (st := []) dX11_nobody_2 kX11_letterOf m3 q4 rfl (Nat.le_of_ble_eq_true rfl) ew_1076 ew_1078 ew_37 (ci := 11) rfl (by decide) f5 g6 ?_
  refine ea_astore_n (pc := 5) (lv' := [(0, vR r0), (1, vI x1), (2, vR rc9)]) dX11_nobody_5 rfl (Nat.le_of_ble_eq_true rfl) [1, 2, 0] rfl ?_
  refine ea_aload_n (pc := 6) dX11_nobody_6 rfl 2 rfl ?_
  refine ea_ifnull (pc := 7) (tgt := 30) dX11_nobody_7 rfl (fun e11 => ?_) (fun a10 e11 => ?_)
  · have H := H.1 e11
    refine ea_iconst (pc := 30) dX11_nobody_30 (v := 0) rfl ?_
    obtain ⟨rfl, rfl⟩ := H
    exact ea_ireturn (pc := 31) dX11_nobody_31 rfl (ea_bn (Or.inl rfl))
  · have H := H.2 a10 e11
    refine ea_aload_n (pc := 10) dX11_nobody_10 rfl 2 rfl ?_
    obtain ⟨f12, g13, H⟩ := H
    refine ea_deref0 e11 ?_
    refine ea_getI (pc := 11) dX11_nobody_11 ec_4 (k := 15) (Nat.le_of_ble_eq_true rfl) rfl (Or.inl ew_973) f12 g13 ?_
    refine ea_if_ne (pc := 14) (tgt := 30) dX11_nobody_14 rfl (fun c34 => ?_) (fun c34 => ?_)
    · have H := H.1 c34
      refine ea_iconst (pc := 30) dX11_nobody_30 (v := 0) rfl ?_
      obtain ⟨rfl, rfl⟩ := H
      exact ea_ireturn (pc := 31) dX11_nobody_31 rfl (ea_bn (Or.inl rfl))
    · have H := H.2 c34
      refine ea_aload_n (pc := 17) dX11_nobody_17 rfl 0 rfl ?_
      obtain ⟨f14, g15, H⟩ := H
      refine ea_deref0 e8 ?_
      refine ea_getR (pc := 18) dX11_nobody_18 ec_11 (k := 6) (Nat.le_of_ble_eq_true rfl) rfl (Or.inl ew_443) f14 g15 rfl ?_
      obtain ⟨a18, e19, f16, g17, H⟩ := H
      refine ea_deref0 e19 ?_
      refine ea_getR (pc := 21) dX11_nobody_21 ec_1 (k := 1) (Nat.le_of_ble_eq_true rfl) rfl (Or.inl ew_362) f16 g17 rfl ?_
      refine ea_iload_n (pc := 24) dX11_nobody_24 rfl 1 rfl ?_
      obtain ⟨a22, e23, f20, g21, H⟩ := H
      refine ea_deref1 e23 ?_
      obtain ⟨z24, H⟩ := H
      refine ea_iald (pc := 25) dX11_nobody_25 f20 g21 z24 ?_
      refine ea_iconst (pc := 26) dX11_nobody_26 (v := 1) rfl ?_
      refine ea_icmp_le (pc := 27) (tgt := 32) dX11_nobody_27 rfl (fun c33 => ?_) (fun c33 => ?_)
      · have H := H.1 c33
        refine ea_aload_n (pc := 32) dX11_nobody_32 rfl 2 rfl ?_
        refine ea_iconst (pc := 33) dX11_nobody_33 (v := 1) rfl ?_
        obtain ⟨f25, g26, H⟩ := H
        refine ea_deref1 e11 ?_
        refine ea_putI (pc := 34) dX11_nobody_34 ec_4 (k := 15) (Nat.le_of_ble_eq_true rfl) rfl (Or.inl ⟨rfl, Or.inl ew_973⟩) (ea_bn (Or.inr rfl)) (ea_bf (Or.inr rfl)) f25 g26 ?_
        obtain ⟨h27, E28⟩ : ∃ z, z = ea_wi h2 a10 15 1 := ⟨_, rfl⟩
        have H := H h27 E28
        refine ea_nm E28 ?_
        refine ea_aload_n (pc := 37) dX11_nobody_37 rfl 0 rfl ?_
        refine ea_iconst (pc := 38) dX11_nobody_38 (v := 0) rfl ?_
        obtain ⟨f29, g30, H⟩ := H
        refine ea_deref1 e8 ?_
        refine ea_putI (pc := 39) dX11_nobody_39 ec_11 (k := 12) (Nat.le_of_ble_eq_true rfl) rfl (Or.inl ⟨rfl, Or.inl ew_449⟩) (ea_bn (Or.inl rfl)) (ea_bf (Or.inl rfl)) f29 g30 ?_
        obtain ⟨h31, E32⟩ : ∃ z, z = ea_wi h27 a7 12 0 := ⟨_, rfl⟩
        have H := H h31 E32
        refine ea_nm E32 ?_
        refine ea_iconst (pc := 42) dX11_nobody_42 (v := 1) rfl ?_
        obtain ⟨rfl, rfl⟩ := H
        exact ea_ireturn (pc := 43) dX11_nobody_43 rfl (ea_bn (Or.inr rfl))
      · have H := H.2 c33
        refine ea_iconst (pc := 30) dX11_nobody_30 (v := 0) rfl ?_
        obtain ⟨rfl, rfl⟩ := H
        exact ea_ireturn (pc := 31) dX11_nobody_31 rfl (ea_bn (Or.inl rfl))
theorem dX11_place_0 : decode cX11_place 0 = .ok (.aload_n 0, 1) := by decide +kernel
theorem dX11_place_1 : decode cX11_place 1 = .ok (.iload_n 1, 1) := by decide +kernel
theorem dX11_place_2 : decode cX11_place 2 = .ok (.invokevirtual 251, 3) := by decide +kernel
theorem dX11_place_5 : decode cX11_place 5 = .ok (.astore 4, 2) := by decide +kernel
theorem dX11_place_7 : decode cX11_place 7 = .ok (.aload 4, 2) := by decide +kernel
theorem dX11_place_9 : decode cX11_place 9 = .ok (.ifnull 36, 3) := by decide +kernel
theorem dX11_place_12 : decode cX11_place 12 = .ok (.aload_n 0, 1) := by decide +kernel
theorem dX11_place_13 : decode cX11_place 13 = .ok (.getfield 57, 3) := by decide +kernel
theorem dX11_place_16 : decode cX11_place 16 = .ok (.getfield 255, 3) := by decide +kernel
theorem dX11_place_19 : decode cX11_place 19 = .ok (.iload_n 1, 1) := by decide +kernel
theorem dX11_place_20 : decode cX11_place 20 = .ok (.iaload, 1) := by decide +kernel
theorem dX11_place_21 : decode cX11_place 21 = .ok (.iconst 3, 1) := by decide +kernel
theorem dX11_place_22 : decode cX11_place 22 = .ok (.if_icmp .ne 23, 3) := by decide +kernel
theorem dX11_place_25 : decode cX11_place 25 = .ok (.aload_n 0, 1) := by decide +kernel
theorem dX11_place_26 : decode cX11_place 26 = .ok (.getfield 12, 3) := by decide +kernel
theorem dX11_place_29 : decode cX11_place 29 = .ok (.iload_n 2, 1) := by decide +kernel
theorem dX11_place_30 : decode cX11_place 30 = .ok (.invokevirtual 81, 3) := by decide +kernel
theorem dX11_place_33 : decode cX11_place 33 = .ok (.ifCond .eq 12, 3) := by decide +kernel
theorem dX11_place_36 : decode cX11_place 36 = .ok (.iload_n 2, 1) := by decide +kernel
theorem dX11_place_37 : decode cX11_place 37 = .ok (.aload 4, 2) := by decide +kernel
theorem dX11_place_39 : decode cX11_place 39 = .ok (.getfield 264, 3) := by decide +kernel
theorem dX11_place_42 : decode cX11_place 42 = .ok (.if_icmp .ne 5, 3) := by decide +kernel
theorem dX11_place_45 : decode cX11_place 45 = .ok (.iconst 0, 1) := by decide +kernel
theorem dX11_place_46 : decode cX11_place 46 = .ok (.ireturn, 1) := by decide +kernel
theorem dX11_place_47 : decode cX11_place 47 = .ok (.iload_n 3, 1) := by decide +kernel
theorem dX11_place_48 : decode cX11_place 48 = .ok (.iconst 1, 1) := by decide +kernel
theorem dX11_place_49 : decode cX11_place 49 = .ok (.if_icmp .lt 9, 3) := by decide +kernel
theorem dX11_place_52 : decode cX11_place 52 = .ok (.iload_n 3, 1) := by decide +kernel
theorem dX11_place_53 : decode cX11_place 53 = .ok (.bipush 99, 2) := by decide +kernel
theorem dX11_place_55 : decode cX11_place 55 = .ok (.if_icmp .le 5, 3) := by decide +kernel
theorem dX11_place_58 : decode cX11_place 58 = .ok (.iconst 0, 1) := by decide +kernel
theorem dX11_place_59 : decode cX11_place 59 = .ok (.ireturn, 1) := by decide +kernel
theorem dX11_place_60 : decode cX11_place 60 = .ok (.aload 4, 2) := by decide +kernel
theorem dX11_place_62 : decode cX11_place 62 = .ok (.iload_n 2, 1) := by decide +kernel
theorem dX11_place_63 : decode cX11_place 63 = .ok (.iload_n 3, 1) := by decide +kernel
theorem dX11_place_64 : decode cX11_place 64 = .ok (.invokevirtual 372, 3) := by decide +kernel
theorem dX11_place_67 : decode cX11_place 67 = .ok (.ireturn, 1) := by decide +kernel
theorem bX11_place_0 {d : Nat} {h0 hE h : ea_H} {rv : Option ea_V} {r0 : Option Nat} {x1 : Int32} {x2 : Int32} {x3 : Int32} (H : ∃ a7, r0 = some a7 ∧ a7 < ea_n h ∧ ea_c h a7 = 11 ∧ ∃ (d1 : Nat) (rc9 : Option Nat) (h2 : ea_H), ea_Met mX11_letterOf d1 [vR (some a7), vI x1] h (some (vR rc9)) h2 ∧ d1 + 1 ≤ d ∧ (rc9 = none → rv = some (vI 0) ∧ hE = h2) ∧ (∀ a10, rc9 = some a10 → a7 < ea_n h2 ∧ ea_c h2 a7 = 11 ∧ ∃ a16, (ea_r h2 a7 6) = some a16 ∧ a16 < ea_n h2 ∧ ea_c h2 a16 = 1 ∧ ∃ a20, (ea_r h2 a16 1) = some a20 ∧ a20 < ea_n h2 ∧ ea_c h2 a20 = 20 ∧ vp_in x1 (ea_l h2 a20) ∧ (¬ (ea_i h2 a20 (Int32.toNatClampNeg x1)) = (3 : Int32) → rv = some (vI 0) ∧ hE = h2) ∧ ((ea_i h2 a20 (Int32.toNatClampNeg x1)) = (3 : Int32) → a7 < ea_n h2 ∧ ea_c h2 a7 = 11 ∧ ∃ a31, (ea_r h2 a7 0) = some a31 ∧ a31 < ea_n h2 ∧ ea_c h2 a31 = 6 ∧ ∃ (d25 : Nat) (xc33 : Int32) (h26 : ea_H), ea_Met mX6_has d25 [vR (some a31), vI x2] h2 (some (vI xc33)) h26 ∧ d25 + 1 ≤ d ∧ (xc33 = (0 : Int32) → rv = some (vI 0) ∧ hE = h26) ∧ (¬ xc33 = (0 : Int32) → a10 < ea_n h26 ∧ ea_c h26 a10 = 4 ∧ (¬ x2 = (ea_i h26 a10 2) → (x3 < (1 : Int32) → rv = some (vI 0) ∧ hE = h26) ∧ (¬ x3 < (1 : Int32) → (x3 ≤ (99 : Int32) → a10 < ea_n h26 ∧ ea_c h26 a10 = 4 ∧ ∃ (d36 : Nat) (xc42 : Int32) (h37 : ea_H), ea_Met mX4_tell d36 [vR (some a10), vI x2, vI x3] h26 (some (vI xc42)) h37 ∧ d36 + 1 ≤ d ∧ (xc42 = 0 ∨ xc42 = 1) ∧ rv = some (vI xc42) ∧ hE = h37) ∧ (¬ x3 ≤ (99 : Int32) → rv = some (vI 0) ∧ hE = h26))) ∧ (x2 = (ea_i h26 a10 2) → rv = some (vI 0) ∧ hE = h26))))) : ea_W mX11_place d h0 rv hE 0 [(0, vR r0), (1, vI x1), (2, vI x2), (3, vI x3)] [] h := by
  refine ea_aload_n (pc := 0) dX11_place_0 rfl 0 rfl ?_
  refine ea_iload_n (pc := 1) dX11_place_1 rfl 1 rfl ?_
  obtain ⟨a7, e8, f5, g6, H⟩ := H
  refine ea_deref1 e8 ?_
  obtain ⟨d1, rc9, h2, m3, q4, H⟩ := H
  refine ea_callV (pc := 2) (As := [vI x1]) (st := []) dX11_place_2 kX11_letterOf m3 q4 rfl (Nat.le_of_ble_eq_true rfl) ew_1076 ew_1078 ew_37 (ci := 11) rfl (by decide) f5 g6 ?_
  refine ea_astore (pc := 5) (lv' := [(0, vR r0), (1, vI x1), (2, vI x2), (3, vI x3), (4, vR rc9)]) dX11_place_5 (Nat.le_of_ble_eq_true rfl) [1, 2, 3, 4, 0] rfl ?_
  refine ea_aload (pc := 7) dX11_place_7 4 rfl ?_
  refine ea_ifnull (pc := 9) (tgt := 45) dX11_place_9 rfl (fun e11 => ?_) (fun a10 e11 => ?_)
  · have H := H.1 e11
    refine ea_iconst (pc := 45) dX11_place_45 (v := 0) rfl ?_
    obtain ⟨rfl, rfl⟩ := H
    exact ea_ireturn (pc := 46) dX11_place_46 rfl (ea_bn (Or.inl rfl))
  · have H := H.2 a10 e11
    refine ea_aload_n (pc := 12) dX11_place_12 rfl 0 rfl ?_
    obtain ⟨f12, g13, H⟩ := H
    refine ea_deref0 e8 ?_
    refine ea_getR (pc := 13) dX11_place_13 ec_11 (k := 6) (Nat.le_of_ble_eq_true rfl) rfl (Or.inl ew_443) f12 g13 rfl ?_
    obtain ⟨a16, e17, f14, g15, H⟩ := H
    refine ea_deref0 e17 ?_
    refine ea_getR (pc := 16) dX11_place_16 ec_1 (k := 1) (Nat.le_of_ble_eq_true rfl) rfl (Or.inl ew_362) f14 g15 rfl ?_
    refine ea_iload_n (pc := 19) dX11_place_19 rfl 1 rfl ?_
    obtain ⟨a20, e21, f18, g19, H⟩ := H
    refine ea_deref1 e21 ?_
    obtain ⟨z22, H⟩ := H
    refine ea_iald (pc := 20) dX11_place_20 f18 g19 z22 ?_
    refine ea_iconst (pc := 21) dX11_place_21 (v := 3) rfl ?_
    refine ea_icmp_ne (pc := 22) (tgt := 45) dX11_place_22 rfl (fun c48 => ?_) (fun c48 => ?_)
    · have H := H.1 c48
      refine ea_iconst (pc := 45) dX11_place_45 (v := 0) rfl ?_
      obtain ⟨rfl, rfl⟩ := H
      exact ea_ireturn (pc := 46) dX11_place_46 rfl (ea_bn (Or.inl rfl))
    · have H := H.2 c48
      refine ea_aload_n (pc := 25) dX11_place_25 rfl 0 rfl ?_
      obtain ⟨f23, g24, H⟩ := H
      refine ea_deref0 e8 ?_
      refine ea_getR (pc := 26) dX11_place_26 ec_11 (k := 0) (Nat.le_of_ble_eq_true rfl) rfl (Or.inl ew_437) f23 g24 rfl ?_
      refine ea_iload_n (pc := 29) dX11_place_29 rfl 2 rfl ?_
      obtain ⟨a31, e32, f29, g30, H⟩ := H
      refine ea_deref1 e32 ?_
      obtain ⟨d25, xc33, h26, m27, q28, H⟩ := H
      refine ea_callV (pc := 30) (As := [vI x2]) (st := []) dX11_place_30 kX6_has m27 q28 rfl (Nat.le_of_ble_eq_true rfl) ew_494 ew_495 ew_496 (ci := 6) rfl (by decide) f29 g30 ?_
      refine ea_if_eq (pc := 33) (tgt := 45) dX11_place_33 rfl (fun c47 => ?_) (fun c47 => ?_)
      · have H := H.1 c47
        refine ea_iconst (pc := 45) dX11_place_45 (v := 0) rfl ?_
        obtain ⟨rfl, rfl⟩ := H
        exact ea_ireturn (pc := 46) dX11_place_46 rfl (ea_bn (Or.inl rfl))
      · have H := H.2 c47
        refine ea_iload_n (pc := 36) dX11_place_36 rfl 2 rfl ?_
        refine ea_aload (pc := 37) dX11_place_37 4 rfl ?_
        obtain ⟨f34, g35, H⟩ := H
        refine ea_deref0 e11 ?_
        refine ea_getI (pc := 39) dX11_place_39 ec_4 (k := 2) (Nat.le_of_ble_eq_true rfl) rfl (Or.inl ew_940) f34 g35 ?_
        refine ea_icmp_ne (pc := 42) (tgt := 47) dX11_place_42 rfl (fun c46 => ?_) (fun c46 => ?_)
        · have H := H.1 c46
          refine ea_iload_n (pc := 47) dX11_place_47 rfl 3 rfl ?_
          refine ea_iconst (pc := 48) dX11_place_48 (v := 1) rfl ?_
          refine ea_icmp_lt (pc := 49) (tgt := 58) dX11_place_49 rfl (fun c45 => ?_) (fun c45 => ?_)
          · have H := H.1 c45
            refine ea_iconst (pc := 58) dX11_place_58 (v := 0) rfl ?_
            obtain ⟨rfl, rfl⟩ := H
            exact ea_ireturn (pc := 59) dX11_place_59 rfl (ea_bn (Or.inl rfl))
          · have H := H.2 c45
            refine ea_iload_n (pc := 52) dX11_place_52 rfl 3 rfl ?_
            refine ea_bipush (pc := 53) dX11_place_53 (v := 99) rfl ?_
            refine ea_icmp_le (pc := 55) (tgt := 60) dX11_place_55 rfl (fun c44 => ?_) (fun c44 => ?_)
            · have H := H.1 c44
              refine ea_aload (pc := 60) dX11_place_60 4 rfl ?_
              refine ea_iload_n (pc := 62) dX11_place_62 rfl 2 rfl ?_
              refine ea_iload_n (pc := 63) dX11_place_63 rfl 3 rfl ?_
              obtain ⟨f40, g41, H⟩ := H
              refine ea_deref2 e11 ?_
              obtain ⟨d36, xc42, h37, m38, q39, H⟩ := H
              refine ea_callV (pc := 64) (As := [vI x2, vI x3]) (st := []) dX11_place_64 kX4_tell m38 q39 rfl (Nat.le_of_ble_eq_true rfl) ew_1190 ew_1191 ew_1192 (ci := 4) rfl (by decide) f40 g41 ?_
              obtain ⟨z43, rfl, rfl⟩ := H
              exact ea_ireturn (pc := 67) dX11_place_67 rfl (ea_bn z43)
            · have H := H.2 c44
              refine ea_iconst (pc := 58) dX11_place_58 (v := 0) rfl ?_
              obtain ⟨rfl, rfl⟩ := H
              exact ea_ireturn (pc := 59) dX11_place_59 rfl (ea_bn (Or.inl rfl))
        · have H := H.2 c46
          refine ea_iconst (pc := 45) dX11_place_45 (v := 0) rfl ?_
          obtain ⟨rfl, rfl⟩ := H
          exact ea_ireturn (pc := 46) dX11_place_46 rfl (ea_bn (Or.inl rfl))
theorem dX11_order_0 : decode cX11_order 0 = .ok (.aload_n 0, 1) := by decide +kernel
theorem dX11_order_1 : decode cX11_order 1 = .ok (.iload_n 1, 1) := by decide +kernel
theorem dX11_order_2 : decode cX11_order 2 = .ok (.invokevirtual 251, 3) := by decide +kernel
theorem dX11_order_5 : decode cX11_order 5 = .ok (.astore_n 3, 1) := by decide +kernel
theorem dX11_order_6 : decode cX11_order 6 = .ok (.aload_n 3, 1) := by decide +kernel
theorem dX11_order_7 : decode cX11_order 7 = .ok (.ifnonnull 7, 3) := by decide +kernel
theorem dX11_order_10 : decode cX11_order 10 = .ok (.ldc2_w 375, 3) := by decide +kernel
theorem dX11_order_13 : decode cX11_order 13 = .ok (.lreturn, 1) := by decide +kernel
theorem dX11_order_14 : decode cX11_order 14 = .ok (.iload_n 2, 1) := by decide +kernel
theorem dX11_order_15 : decode cX11_order 15 = .ok (.ifCond .ne 9, 3) := by decide +kernel
theorem dX11_order_18 : decode cX11_order 18 = .ok (.aload_n 3, 1) := by decide +kernel
theorem dX11_order_19 : decode cX11_order 19 = .ok (.getfield 377, 3) := by decide +kernel
theorem dX11_order_22 : decode cX11_order 22 = .ok (.i2l, 1) := by decide +kernel
theorem dX11_order_23 : decode cX11_order 23 = .ok (.lreturn, 1) := by decide +kernel
theorem dX11_order_24 : decode cX11_order 24 = .ok (.iload_n 2, 1) := by decide +kernel
theorem dX11_order_25 : decode cX11_order 25 = .ok (.iconst 1, 1) := by decide +kernel
theorem dX11_order_26 : decode cX11_order 26 = .ok (.if_icmp .eq 8, 3) := by decide +kernel
theorem dX11_order_29 : decode cX11_order 29 = .ok (.iload_n 2, 1) := by decide +kernel
theorem dX11_order_30 : decode cX11_order 30 = .ok (.iconst 2, 1) := by decide +kernel
theorem dX11_order_31 : decode cX11_order 31 = .ok (.if_icmp .ne 31, 3) := by decide +kernel
theorem dX11_order_34 : decode cX11_order 34 = .ok (.aload_n 3, 1) := by decide +kernel
theorem dX11_order_35 : decode cX11_order 35 = .ok (.getfield 377, 3) := by decide +kernel
theorem dX11_order_38 : decode cX11_order 38 = .ok (.ifCond .ne 9, 3) := by decide +kernel
theorem dX11_order_41 : decode cX11_order 41 = .ok (.ldc2_w 375, 3) := by decide +kernel
theorem dX11_order_44 : decode cX11_order 44 = .ok (.goto 17, 3) := by decide +kernel
theorem dX11_order_47 : decode cX11_order 47 = .ok (.aload_n 3, 1) := by decide +kernel
theorem dX11_order_48 : decode cX11_order 48 = .ok (.iload_n 2, 1) := by decide +kernel
theorem dX11_order_49 : decode cX11_order 49 = .ok (.iconst 1, 1) := by decide +kernel
theorem dX11_order_50 : decode cX11_order 50 = .ok (.if_icmp .ne 7, 3) := by decide +kernel
theorem dX11_order_53 : decode cX11_order 53 = .ok (.iconst 1, 1) := by decide +kernel
theorem dX11_order_54 : decode cX11_order 54 = .ok (.goto 4, 3) := by decide +kernel
theorem dX11_order_57 : decode cX11_order 57 = .ok (.iconst 0, 1) := by decide +kernel
theorem dX11_order_58 : decode cX11_order 58 = .ok (.invokevirtual 380, 3) := by decide +kernel
theorem dX11_order_61 : decode cX11_order 61 = .ok (.lreturn, 1) := by decide +kernel
theorem dX11_order_62 : decode cX11_order 62 = .ok (.iload_n 2, 1) := by decide +kernel
theorem dX11_order_63 : decode cX11_order 63 = .ok (.bipush 10, 2) := by decide +kernel
theorem dX11_order_65 : decode cX11_order 65 = .ok (.if_icmp .lt 24, 3) := by decide +kernel
theorem dX11_order_68 : decode cX11_order 68 = .ok (.iload_n 2, 1) := by decide +kernel
theorem dX11_order_69 : decode cX11_order 69 = .ok (.bipush 10, 2) := by decide +kernel
theorem dX11_order_71 : decode cX11_order 71 = .ok (.aload_n 3, 1) := by decide +kernel
theorem dX11_order_72 : decode cX11_order 72 = .ok (.getfield 377, 3) := by decide +kernel
theorem dX11_order_75 : decode cX11_order 75 = .ok (.iadd, 1) := by decide +kernel
theorem dX11_order_76 : decode cX11_order 76 = .ok (.if_icmp .ge 13, 3) := by decide +kernel
theorem dX11_order_79 : decode cX11_order 79 = .ok (.aload_n 3, 1) := by decide +kernel
theorem dX11_order_80 : decode cX11_order 80 = .ok (.iload_n 2, 1) := by decide +kernel
theorem dX11_order_81 : decode cX11_order 81 = .ok (.bipush 10, 2) := by decide +kernel
theorem dX11_order_83 : decode cX11_order 83 = .ok (.isub, 1) := by decide +kernel
theorem dX11_order_84 : decode cX11_order 84 = .ok (.invokevirtual 384, 3) := by decide +kernel
theorem dX11_order_87 : decode cX11_order 87 = .ok (.i2l, 1) := by decide +kernel
theorem dX11_order_88 : decode cX11_order 88 = .ok (.lreturn, 1) := by decide +kernel
theorem dX11_order_89 : decode cX11_order 89 = .ok (.iload_n 2, 1) := by decide +kernel
theorem dX11_order_90 : decode cX11_order 90 = .ok (.bipush 20, 2) := by decide +kernel
theorem dX11_order_92 : decode cX11_order 92 = .ok (.if_icmp .lt 24, 3) := by decide +kernel
theorem dX11_order_95 : decode cX11_order 95 = .ok (.iload_n 2, 1) := by decide +kernel
theorem dX11_order_96 : decode cX11_order 96 = .ok (.bipush 20, 2) := by decide +kernel
theorem dX11_order_98 : decode cX11_order 98 = .ok (.aload_n 3, 1) := by decide +kernel
theorem dX11_order_99 : decode cX11_order 99 = .ok (.getfield 377, 3) := by decide +kernel
theorem dX11_order_102 : decode cX11_order 102 = .ok (.iadd, 1) := by decide +kernel
theorem dX11_order_103 : decode cX11_order 103 = .ok (.if_icmp .ge 13, 3) := by decide +kernel
theorem dX11_order_106 : decode cX11_order 106 = .ok (.aload_n 3, 1) := by decide +kernel
theorem dX11_order_107 : decode cX11_order 107 = .ok (.iload_n 2, 1) := by decide +kernel
theorem dX11_order_108 : decode cX11_order 108 = .ok (.bipush 20, 2) := by decide +kernel
theorem dX11_order_110 : decode cX11_order 110 = .ok (.isub, 1) := by decide +kernel
theorem dX11_order_111 : decode cX11_order 111 = .ok (.invokevirtual 387, 3) := by decide +kernel
theorem dX11_order_114 : decode cX11_order 114 = .ok (.i2l, 1) := by decide +kernel
theorem dX11_order_115 : decode cX11_order 115 = .ok (.lreturn, 1) := by decide +kernel
theorem dX11_order_116 : decode cX11_order 116 = .ok (.ldc2_w 375, 3) := by decide +kernel
theorem dX11_order_119 : decode cX11_order 119 = .ok (.lreturn, 1) := by decide +kernel
theorem bX11_order_0 {d : Nat} {h0 hE h : ea_H} {rv : Option ea_V} {r0 : Option Nat} {x1 : Int32} {x2 : Int32} (H : ∃ a7, r0 = some a7 ∧ a7 < ea_n h ∧ ea_c h a7 = 11 ∧ ∃ (d1 : Nat) (rc9 : Option Nat) (h2 : ea_H), ea_Met mX11_letterOf d1 [vR (some a7), vI x1] h (some (vR rc9)) h2 ∧ d1 + 1 ≤ d ∧ (∀ a10, rc9 = some a10 → (¬ x2 = (0 : Int32) → (x2 = (1 : Int32) → ea_W mX11_order d h0 rv hE 34 [(2, vI x2), (3, vR rc9)] [] h2) ∧ (¬ x2 = (1 : Int32) → (¬ x2 = (2 : Int32) → (x2 < (10 : Int32) → ea_W mX11_order d h0 rv hE 89 [(2, vI x2), (3, vR rc9)] [] h2) ∧ (¬ x2 < (10 : Int32) → a10 < ea_n h2 ∧ ea_c h2 a10 = 4 ∧ (((10 : Int32) + (ea_i h2 a10 18)) ≤ x2 → ea_W mX11_order d h0 rv hE 89 [(2, vI x2), (3, vR rc9)] [] h2) ∧ (¬ ((10 : Int32) + (ea_i h2 a10 18)) ≤ x2 → a10 < ea_n h2 ∧ ea_c h2 a10 = 4 ∧ ∃ (d14 : Nat) (xc20 : Int32) (h15 : ea_H), ea_Met mX4_placeTown d14 [vR (some a10), vI (x2 - (10 : Int32))] h2 (some (vI xc20)) h15 ∧ d14 + 1 ≤ d ∧ rv = some (vJ (Int32.toInt64 xc20)) ∧ hE = h15))) ∧ (x2 = (2 : Int32) → ea_W mX11_order d h0 rv hE 34 [(2, vI x2), (3, vR rc9)] [] h2))) ∧ (x2 = (0 : Int32) → a10 < ea_n h2 ∧ ea_c h2 a10 = 4 ∧ rv = some (vJ (Int32.toInt64 (ea_i h2 a10 18))) ∧ hE = h2)) ∧ (rc9 = none → rv = some (vJ (-1)) ∧ hE = h2)) : ea_W mX11_order d h0 rv hE 0 [(0, vR r0), (1, vI x1), (2, vI x2)] [] h := by
  refine ea_aload_n (pc := 0) dX11_order_0 rfl 0 rfl ?_
  refine ea_iload_n (pc := 1) dX11_order_1 rfl 1 rfl ?_
  obtain ⟨a7, e8, f5, g6, H⟩ := H
  refine ea_deref1 e8 ?_
  obtain ⟨d1, rc9, h2, m3, q4, H⟩ := H
  refine ea_callV (pc := 2) (As := [vI x1]) (st := []) dX11_order_2 kX11_letterOf m3 q4 rfl (Nat.le_of_ble_eq_true rfl) ew_1076 ew_1078 ew_37 (ci := 11) rfl (by decide) f5 g6 ?_
  refine ea_astore_n (pc := 5) (lv' := [(2, vI x2), (3, vR rc9)]) dX11_order_5 rfl (Nat.le_of_ble_eq_true rfl) [3, 0] rfl ?_
  refine ea_aload_n (pc := 6) dX11_order_6 rfl 1 rfl ?_
  refine ea_ifnonnull (pc := 7) (tgt := 14) dX11_order_7 rfl (fun a10 e11 => ?_) (fun e11 => ?_)
  · have H := H.1 a10 e11
    refine ea_iload_n (pc := 14) dX11_order_14 rfl 0 rfl ?_
    refine ea_if_ne (pc := 15) (tgt := 24) dX11_order_15 rfl (fun c27 => ?_) (fun c27 => ?_)
    · have H := H.1 c27
      refine ea_iload_n (pc := 24) dX11_order_24 rfl 0 rfl ?_
      refine ea_iconst (pc := 25) dX11_order_25 (v := 1) rfl ?_
      refine ea_icmp_eq (pc := 26) (tgt := 34) dX11_order_26 rfl (fun c24 => ?_) (fun c24 => ?_)
      · have H := H.1 c24
        exact H
      · have H := H.2 c24
        refine ea_iload_n (pc := 29) dX11_order_29 rfl 0 rfl ?_
        refine ea_iconst (pc := 30) dX11_order_30 (v := 2) rfl ?_
        refine ea_icmp_ne (pc := 31) (tgt := 62) dX11_order_31 rfl (fun c23 => ?_) (fun c23 => ?_)
        · have H := H.1 c23
          refine ea_iload_n (pc := 62) dX11_order_62 rfl 0 rfl ?_
          refine ea_bipush (pc := 63) dX11_order_63 (v := 10) rfl ?_
          refine ea_icmp_lt (pc := 65) (tgt := 89) dX11_order_65 rfl (fun c22 => ?_) (fun c22 => ?_)
          · have H := H.1 c22
            exact H
          · have H := H.2 c22
            refine ea_iload_n (pc := 68) dX11_order_68 rfl 0 rfl ?_
            refine ea_bipush (pc := 69) dX11_order_69 (v := 10) rfl ?_
            refine ea_aload_n (pc := 71) dX11_order_71 rfl 1 rfl ?_
            obtain ⟨f12, g13, H⟩ := H
            refine ea_deref0 e11 ?_
            refine ea_getI (pc := 72) dX11_order_72 ec_4 (k := 18) (Nat.le_of_ble_eq_true rfl) rfl (Or.inl ew_978) f12 g13 ?_
            refine ea_iadd (pc := 75) dX11_order_75 ?_
            refine ea_icmp_ge (pc := 76) (tgt := 89) dX11_order_76 rfl (fun c21 => ?_) (fun c21 => ?_)
            · have H := H.1 c21
              exact H
            · have H := H.2 c21
              refine ea_aload_n (pc := 79) dX11_order_79 rfl 1 rfl ?_
              refine ea_iload_n (pc := 80) dX11_order_80 rfl 0 rfl ?_
              refine ea_bipush (pc := 81) dX11_order_81 (v := 10) rfl ?_
              refine ea_isub (pc := 83) dX11_order_83 ?_
              obtain ⟨f18, g19, H⟩ := H
              refine ea_deref1 e11 ?_
              obtain ⟨d14, xc20, h15, m16, q17, H⟩ := H
              refine ea_callV (pc := 84) (As := [vI (x2 - (10 : Int32))]) (st := []) dX11_order_84 kX4_placeTown m16 q17 rfl (Nat.le_of_ble_eq_true rfl) ew_1217 ew_1199 ew_1200 (ci := 4) rfl (by decide) f18 g19 ?_
              refine ea_i2l (pc := 87) dX11_order_87 ?_
              obtain ⟨rfl, rfl⟩ := H
              exact ea_lreturn (pc := 88) dX11_order_88 rfl
        · have H := H.2 c23
          exact H
    · have H := H.2 c27
      refine ea_aload_n (pc := 18) dX11_order_18 rfl 1 rfl ?_
      obtain ⟨f25, g26, H⟩ := H
      refine ea_deref0 e11 ?_
      refine ea_getI (pc := 19) dX11_order_19 ec_4 (k := 18) (Nat.le_of_ble_eq_true rfl) rfl (Or.inl ew_978) f25 g26 ?_
      refine ea_i2l (pc := 22) dX11_order_22 ?_
      obtain ⟨rfl, rfl⟩ := H
      exact ea_lreturn (pc := 23) dX11_order_23 rfl
  · have H := H.2 e11
    refine ea_ldc2 (pc := 10) dX11_order_10 ew_1206 ?_
    obtain ⟨rfl, rfl⟩ := H
    exact ea_lreturn (pc := 13) dX11_order_13 rfl
theorem bX11_order_34 {d : Nat} {h0 hE h : ea_H} {rv : Option ea_V} {x2 : Int32} {r3 : Option Nat} (H : ∃ a3, r3 = some a3 ∧ a3 < ea_n h ∧ ea_c h a3 = 4 ∧ (¬ (ea_i h a3 18) = (0 : Int32) → (¬ x2 = (1 : Int32) → a3 < ea_n h ∧ ea_c h a3 = 4 ∧ ∃ (d5 : Nat) (yc11 : Int64) (h6 : ea_H), ea_Met mX4_foundByAll d5 [vR (some a3), vI 0] h (some (vJ yc11)) h6 ∧ d5 + 1 ≤ d ∧ rv = some (vJ yc11) ∧ hE = h6) ∧ (x2 = (1 : Int32) → a3 < ea_n h ∧ ea_c h a3 = 4 ∧ ∃ (d12 : Nat) (yc18 : Int64) (h13 : ea_H), ea_Met mX4_foundByAll d12 [vR (some a3), vI 1] h (some (vJ yc18)) h13 ∧ d12 + 1 ≤ d ∧ rv = some (vJ yc18) ∧ hE = h13)) ∧ ((ea_i h a3 18) = (0 : Int32) → rv = some (vJ (-1)) ∧ hE = h)) : ea_W mX11_order d h0 rv hE 34 [(2, vI x2), (3, vR r3)] [] h := by
  refine ea_aload_n (pc := 34) dX11_order_34 rfl 1 rfl ?_
  obtain ⟨a3, e4, f1, g2, H⟩ := H
  refine ea_deref0 e4 ?_
  refine ea_getI (pc := 35) dX11_order_35 ec_4 (k := 18) (Nat.le_of_ble_eq_true rfl) rfl (Or.inl ew_978) f1 g2 ?_
  refine ea_if_ne (pc := 38) (tgt := 47) dX11_order_38 rfl (fun c20 => ?_) (fun c20 => ?_)
  · have H := H.1 c20
    refine ea_aload_n (pc := 47) dX11_order_47 rfl 1 rfl ?_
    refine ea_iload_n (pc := 48) dX11_order_48 rfl 0 rfl ?_
    refine ea_iconst (pc := 49) dX11_order_49 (v := 1) rfl ?_
    refine ea_icmp_ne (pc := 50) (tgt := 57) dX11_order_50 rfl (fun c19 => ?_) (fun c19 => ?_)
    · have H := H.1 c19
      refine ea_iconst (pc := 57) dX11_order_57 (v := 0) rfl ?_
      obtain ⟨f9, g10, H⟩ := H
      refine ea_deref1 e4 ?_
      obtain ⟨d5, yc11, h6, m7, q8, H⟩ := H
      refine ea_callV (pc := 58) (As := [vI 0]) (st := []) dX11_order_58 kX4_foundByAll m7 q8 rfl (Nat.le_of_ble_eq_true rfl) ew_1207 ew_1208 ew_1209 (ci := 4) rfl (by decide) f9 g10 ?_
      obtain ⟨rfl, rfl⟩ := H
      exact ea_lreturn (pc := 61) dX11_order_61 rfl
    · have H := H.2 c19
      refine ea_iconst (pc := 53) dX11_order_53 (v := 1) rfl ?_
      refine ea_goto (pc := 54) (tgt := 58) dX11_order_54 rfl ?_
      obtain ⟨f16, g17, H⟩ := H
      refine ea_deref1 e4 ?_
      obtain ⟨d12, yc18, h13, m14, q15, H⟩ := H
      refine ea_callV (pc := 58) (As := [vI 1]) (st := []) dX11_order_58 kX4_foundByAll m14 q15 rfl (Nat.le_of_ble_eq_true rfl) ew_1207 ew_1208 ew_1209 (ci := 4) rfl (by decide) f16 g17 ?_
      obtain ⟨rfl, rfl⟩ := H
      exact ea_lreturn (pc := 61) dX11_order_61 rfl
  · have H := H.2 c20
    refine ea_ldc2 (pc := 41) dX11_order_41 ew_1206 ?_
    refine ea_goto (pc := 44) (tgt := 61) dX11_order_44 rfl ?_
    obtain ⟨rfl, rfl⟩ := H
    exact ea_lreturn (pc := 61) dX11_order_61 rfl
theorem bX11_order_89 {d : Nat} {h0 hE h : ea_H} {rv : Option ea_V} {x2 : Int32} {r3 : Option Nat} (H : (x2 < (20 : Int32) → rv = some (vJ (-1)) ∧ hE = h) ∧ (¬ x2 < (20 : Int32) → ∃ a3, r3 = some a3 ∧ a3 < ea_n h ∧ ea_c h a3 = 4 ∧ (((20 : Int32) + (ea_i h a3 18)) ≤ x2 → rv = some (vJ (-1)) ∧ hE = h) ∧ (¬ ((20 : Int32) + (ea_i h a3 18)) ≤ x2 → a3 < ea_n h ∧ ea_c h a3 = 4 ∧ ∃ (d5 : Nat) (xc11 : Int32) (h6 : ea_H), ea_Met mX4_placeChance d5 [vR (some a3), vI (x2 - (20 : Int32))] h (some (vI xc11)) h6 ∧ d5 + 1 ≤ d ∧ rv = some (vJ (Int32.toInt64 xc11)) ∧ hE = h6))) : ea_W mX11_order d h0 rv hE 89 [(2, vI x2), (3, vR r3)] [] h := by
  refine ea_iload_n (pc := 89) dX11_order_89 rfl 0 rfl ?_
  refine ea_bipush (pc := 90) dX11_order_90 (v := 20) rfl ?_
  refine ea_icmp_lt (pc := 92) (tgt := 116) dX11_order_92 rfl (fun c13 => ?_) (fun c13 => ?_)
  · have H := H.1 c13
    refine ea_ldc2 (pc := 116) dX11_order_116 ew_1206 ?_
    obtain ⟨rfl, rfl⟩ := H
    exact ea_lreturn (pc := 119) dX11_order_119 rfl
  · have H := H.2 c13
    refine ea_iload_n (pc := 95) dX11_order_95 rfl 0 rfl ?_
    refine ea_bipush (pc := 96) dX11_order_96 (v := 20) rfl ?_
    refine ea_aload_n (pc := 98) dX11_order_98 rfl 1 rfl ?_
    obtain ⟨a3, e4, f1, g2, H⟩ := H
    refine ea_deref0 e4 ?_
    refine ea_getI (pc := 99) dX11_order_99 ec_4 (k := 18) (Nat.le_of_ble_eq_true rfl) rfl (Or.inl ew_978) f1 g2 ?_
    refine ea_iadd (pc := 102) dX11_order_102 ?_
    refine ea_icmp_ge (pc := 103) (tgt := 116) dX11_order_103 rfl (fun c12 => ?_) (fun c12 => ?_)
    · have H := H.1 c12
      refine ea_ldc2 (pc := 116) dX11_order_116 ew_1206 ?_
      obtain ⟨rfl, rfl⟩ := H
      exact ea_lreturn (pc := 119) dX11_order_119 rfl
    · have H := H.2 c12
      refine ea_aload_n (pc := 106) dX11_order_106 rfl 1 rfl ?_
      refine ea_iload_n (pc := 107) dX11_order_107 rfl 0 rfl ?_
      refine ea_bipush (pc := 108) dX11_order_108 (v := 20) rfl ?_
      refine ea_isub (pc := 110) dX11_order_110 ?_
      obtain ⟨f9, g10, H⟩ := H
      refine ea_deref1 e4 ?_
      obtain ⟨d5, xc11, h6, m7, q8, H⟩ := H
      refine ea_callV (pc := 111) (As := [vI (x2 - (20 : Int32))]) (st := []) dX11_order_111 kX4_placeChance m7 q8 rfl (Nat.le_of_ble_eq_true rfl) ew_1218 ew_1213 ew_1214 (ci := 4) rfl (by decide) f9 g10 ?_
      refine ea_i2l (pc := 114) dX11_order_114 ?_
      obtain ⟨rfl, rfl⟩ := H
      exact ea_lreturn (pc := 115) dX11_order_115 rfl
theorem dX11_found_0 : decode cX11_found 0 = .ok (.aload_n 0, 1) := by decide +kernel
theorem dX11_found_1 : decode cX11_found 1 = .ok (.iload_n 1, 1) := by decide +kernel
theorem dX11_found_2 : decode cX11_found 2 = .ok (.invokevirtual 251, 3) := by decide +kernel
theorem dX11_found_5 : decode cX11_found 5 = .ok (.astore_n 3, 1) := by decide +kernel
theorem dX11_found_6 : decode cX11_found 6 = .ok (.aload_n 3, 1) := by decide +kernel
theorem dX11_found_7 : decode cX11_found 7 = .ok (.ifnull 25, 3) := by decide +kernel
theorem dX11_found_10 : decode cX11_found 10 = .ok (.aload_n 0, 1) := by decide +kernel
theorem dX11_found_11 : decode cX11_found 11 = .ok (.getfield 57, 3) := by decide +kernel
theorem dX11_found_14 : decode cX11_found 14 = .ok (.getfield 255, 3) := by decide +kernel
theorem dX11_found_17 : decode cX11_found 17 = .ok (.iload_n 1, 1) := by decide +kernel
theorem dX11_found_18 : decode cX11_found 18 = .ok (.iaload, 1) := by decide +kernel
theorem dX11_found_19 : decode cX11_found 19 = .ok (.iconst 3, 1) := by decide +kernel
theorem dX11_found_20 : decode cX11_found 20 = .ok (.if_icmp .ne 12, 3) := by decide +kernel
theorem dX11_found_23 : decode cX11_found 23 = .ok (.aload_n 3, 1) := by decide +kernel
theorem dX11_found_24 : decode cX11_found 24 = .ok (.iload_n 2, 1) := by decide +kernel
theorem dX11_found_25 : decode cX11_found 25 = .ok (.invokevirtual 390, 3) := by decide +kernel
theorem dX11_found_28 : decode cX11_found 28 = .ok (.iconst (-1), 1) := by decide +kernel
theorem dX11_found_29 : decode cX11_found 29 = .ok (.if_icmp .ne 5, 3) := by decide +kernel
theorem dX11_found_32 : decode cX11_found 32 = .ok (.iconst 0, 1) := by decide +kernel
theorem dX11_found_33 : decode cX11_found 33 = .ok (.ireturn, 1) := by decide +kernel
theorem dX11_found_34 : decode cX11_found 34 = .ok (.aload_n 0, 1) := by decide +kernel
theorem dX11_found_35 : decode cX11_found 35 = .ok (.getfield 57, 3) := by decide +kernel
theorem dX11_found_38 : decode cX11_found 38 = .ok (.iload_n 1, 1) := by decide +kernel
theorem dX11_found_39 : decode cX11_found 39 = .ok (.aload_n 0, 1) := by decide +kernel
theorem dX11_found_40 : decode cX11_found 40 = .ok (.getfield 100, 3) := by decide +kernel
theorem dX11_found_43 : decode cX11_found 43 = .ok (.iconst 5, 1) := by decide +kernel
theorem dX11_found_44 : decode cX11_found 44 = .ok (.iload_n 2, 1) := by decide +kernel
theorem dX11_found_45 : decode cX11_found 45 = .ok (.invokevirtual 393, 3) := by decide +kernel
theorem dX11_found_48 : decode cX11_found 48 = .ok (.aload_n 0, 1) := by decide +kernel
theorem dX11_found_49 : decode cX11_found 49 = .ok (.iconst 0, 1) := by decide +kernel
theorem dX11_found_50 : decode cX11_found 50 = .ok (.putfield 96, 3) := by decide +kernel
theorem dX11_found_53 : decode cX11_found 53 = .ok (.iconst 1, 1) := by decide +kernel
theorem dX11_found_54 : decode cX11_found 54 = .ok (.ireturn, 1) := by decide +kernel
theorem bX11_found_0 {d : Nat} {h0 hE h : ea_H} {rv : Option ea_V} {r0 : Option Nat} {x1 : Int32} {x2 : Int32} (H : ∃ a7, r0 = some a7 ∧ a7 < ea_n h ∧ ea_c h a7 = 11 ∧ ∃ (d1 : Nat) (rc9 : Option Nat) (h2 : ea_H), ea_Met mX11_letterOf d1 [vR (some a7), vI x1] h (some (vR rc9)) h2 ∧ d1 + 1 ≤ d ∧ (rc9 = none → rv = some (vI 0) ∧ hE = h2) ∧ (∀ a10, rc9 = some a10 → a7 < ea_n h2 ∧ ea_c h2 a7 = 11 ∧ ∃ a16, (ea_r h2 a7 6) = some a16 ∧ a16 < ea_n h2 ∧ ea_c h2 a16 = 1 ∧ ∃ a20, (ea_r h2 a16 1) = some a20 ∧ a20 < ea_n h2 ∧ ea_c h2 a20 = 20 ∧ vp_in x1 (ea_l h2 a20) ∧ (¬ (ea_i h2 a20 (Int32.toNatClampNeg x1)) = (3 : Int32) → rv = some (vI 0) ∧ hE = h2) ∧ ((ea_i h2 a20 (Int32.toNatClampNeg x1)) = (3 : Int32) → a10 < ea_n h2 ∧ ea_c h2 a10 = 4 ∧ ∃ (d23 : Nat) (xc29 : Int32) (h24 : ea_H), ea_Met mX4_placeOf d23 [vR (some a10), vI x2] h2 (some (vI xc29)) h24 ∧ d23 + 1 ≤ d ∧ (¬ xc29 = ((-1) : Int32) → a7 < ea_n h24 ∧ ea_c h24 a7 = 11 ∧ a7 < ea_n h24 ∧ ea_c h24 a7 = 11 ∧ ∃ a40, (ea_r h24 a7 6) = some a40 ∧ a40 < ea_n h24 ∧ ea_c h24 a40 = 1 ∧ ∃ (d34 : Nat) (h35 : ea_H), ea_Met mX1_move d34 [vR (some a40), vI x1, vI (ea_i h24 a7 11), vI 5, vI x2] h24 none h35 ∧ d34 + 1 ≤ d ∧ a7 < ea_n h35 ∧ ea_c h35 a7 = 11 ∧ ∀ h44, h44 = ea_wi h35 a7 12 0 → rv = some (vI 1) ∧ hE = h44) ∧ (xc29 = ((-1) : Int32) → rv = some (vI 0) ∧ hE = h24)))) : ea_W mX11_found d h0 rv hE 0 [(0, vR r0), (1, vI x1), (2, vI x2)] [] h := by
  refine ea_aload_n (pc := 0) dX11_found_0 rfl 0 rfl ?_
  refine ea_iload_n (pc := 1) dX11_found_1 rfl 1 rfl ?_
  obtain ⟨a7, e8, f5, g6, H⟩ := H
  refine ea_deref1 e8 ?_
  obtain ⟨d1, rc9, h2, m3, q4, H⟩ := H
  refine ea_callV (pc := 2) (As := [vI x1]) (st := []) dX11_found_2 kX11_letterOf m3 q4 rfl (Nat.le_of_ble_eq_true rfl) ew_1076 ew_1078 ew_37 (ci := 11) rfl (by decide) f5 g6 ?_
  refine ea_astore_n (pc := 5) (lv' := [(0, vR r0), (1, vI x1), (2, vI x2), (3, vR rc9)]) dX11_found_5 rfl (Nat.le_of_ble_eq_true rfl) [1, 2, 3, 0] rfl ?_
  refine ea_aload_n (pc := 6) dX11_found_6 rfl 3 rfl ?_
  refine ea_ifnull (pc := 7) (tgt := 32) dX11_found_7 rfl (fun e11 => ?_) (fun a10 e11 => ?_)
  · have H := H.1 e11
    refine ea_iconst (pc := 32) dX11_found_32 (v := 0) rfl ?_
    obtain ⟨rfl, rfl⟩ := H
    exact ea_ireturn (pc := 33) dX11_found_33 rfl (ea_bn (Or.inl rfl))
  · have H := H.2 a10 e11
    refine ea_aload_n (pc := 10) dX11_found_10 rfl 0 rfl ?_
    obtain ⟨f12, g13, H⟩ := H
    refine ea_deref0 e8 ?_
    refine ea_getR (pc := 11) dX11_found_11 ec_11 (k := 6) (Nat.le_of_ble_eq_true rfl) rfl (Or.inl ew_443) f12 g13 rfl ?_
    obtain ⟨a16, e17, f14, g15, H⟩ := H
    refine ea_deref0 e17 ?_
    refine ea_getR (pc := 14) dX11_found_14 ec_1 (k := 1) (Nat.le_of_ble_eq_true rfl) rfl (Or.inl ew_362) f14 g15 rfl ?_
    refine ea_iload_n (pc := 17) dX11_found_17 rfl 1 rfl ?_
    obtain ⟨a20, e21, f18, g19, H⟩ := H
    refine ea_deref1 e21 ?_
    obtain ⟨z22, H⟩ := H
    refine ea_iald (pc := 18) dX11_found_18 f18 g19 z22 ?_
    refine ea_iconst (pc := 19) dX11_found_19 (v := 3) rfl ?_
    refine ea_icmp_ne (pc := 20) (tgt := 32) dX11_found_20 rfl (fun c47 => ?_) (fun c47 => ?_)
    · have H := H.1 c47
      refine ea_iconst (pc := 32) dX11_found_32 (v := 0) rfl ?_
      obtain ⟨rfl, rfl⟩ := H
      exact ea_ireturn (pc := 33) dX11_found_33 rfl (ea_bn (Or.inl rfl))
    · have H := H.2 c47
      refine ea_aload_n (pc := 23) dX11_found_23 rfl 3 rfl ?_
      refine ea_iload_n (pc := 24) dX11_found_24 rfl 2 rfl ?_
      obtain ⟨f27, g28, H⟩ := H
      refine ea_deref1 e11 ?_
      obtain ⟨d23, xc29, h24, m25, q26, H⟩ := H
      refine ea_callV (pc := 25) (As := [vI x2]) (st := []) dX11_found_25 kX4_placeOf m25 q26 rfl (Nat.le_of_ble_eq_true rfl) ew_1223 ew_1195 ew_1196 (ci := 4) rfl (by decide) f27 g28 ?_
      refine ea_iconst (pc := 28) dX11_found_28 (v := (-1)) rfl ?_
      refine ea_icmp_ne (pc := 29) (tgt := 34) dX11_found_29 rfl (fun c46 => ?_) (fun c46 => ?_)
      · have H := H.1 c46
        refine ea_aload_n (pc := 34) dX11_found_34 rfl 0 rfl ?_
        obtain ⟨f30, g31, H⟩ := H
        refine ea_deref0 e8 ?_
        refine ea_getR (pc := 35) dX11_found_35 ec_11 (k := 6) (Nat.le_of_ble_eq_true rfl) rfl (Or.inl ew_443) f30 g31 rfl ?_
        refine ea_iload_n (pc := 38) dX11_found_38 rfl 1 rfl ?_
        refine ea_aload_n (pc := 39) dX11_found_39 rfl 0 rfl ?_
        obtain ⟨f32, g33, H⟩ := H
        refine ea_deref0 e8 ?_
        refine ea_getI (pc := 40) dX11_found_40 ec_11 (k := 11) (Nat.le_of_ble_eq_true rfl) rfl (Or.inl ew_448) f32 g33 ?_
        refine ea_iconst (pc := 43) dX11_found_43 (v := 5) rfl ?_
        refine ea_iload_n (pc := 44) dX11_found_44 rfl 2 rfl ?_
        obtain ⟨a40, e41, f38, g39, H⟩ := H
        refine ea_deref4 e41 ?_
        obtain ⟨d34, h35, m36, q37, H⟩ := H
        refine ea_callV (pc := 45) (As := [vI x1, vI (ea_i h24 a7 11), vI 5, vI x2]) (st := []) dX11_found_45 kX1_move m36 q37 rfl (Nat.le_of_ble_eq_true rfl) ew_1224 ew_646 ew_647 (ci := 1) rfl (by decide) f38 g39 ?_
        refine ea_aload_n (pc := 48) dX11_found_48 rfl 0 rfl ?_
        refine ea_iconst (pc := 49) dX11_found_49 (v := 0) rfl ?_
        obtain ⟨f42, g43, H⟩ := H
        refine ea_deref1 e8 ?_
        refine ea_putI (pc := 50) dX11_found_50 ec_11 (k := 12) (Nat.le_of_ble_eq_true rfl) rfl (Or.inl ⟨rfl, Or.inl ew_449⟩) (ea_bn (Or.inl rfl)) (ea_bf (Or.inl rfl)) f42 g43 ?_
        obtain ⟨h44, E45⟩ : ∃ z, z = ea_wi h35 a7 12 0 := ⟨_, rfl⟩
        have H := H h44 E45
        refine ea_nm E45 ?_
        refine ea_iconst (pc := 53) dX11_found_53 (v := 1) rfl ?_
        obtain ⟨rfl, rfl⟩ := H
        exact ea_ireturn (pc := 54) dX11_found_54 rfl (ea_bn (Or.inr rfl))
      · have H := H.2 c46
        refine ea_iconst (pc := 32) dX11_found_32 (v := 0) rfl ?_
        obtain ⟨rfl, rfl⟩ := H
        exact ea_ireturn (pc := 33) dX11_found_33 rfl (ea_bn (Or.inl rfl))
theorem dX11_rob_0 : decode cX11_rob 0 = .ok (.aload_n 0, 1) := by decide +kernel
theorem dX11_rob_1 : decode cX11_rob 1 = .ok (.getfield 19, 3) := by decide +kernel
theorem dX11_rob_4 : decode cX11_rob 4 = .ok (.iload_n 1, 1) := by decide +kernel
theorem dX11_rob_5 : decode cX11_rob 5 = .ok (.iload_n 2, 1) := by decide +kernel
theorem dX11_rob_6 : decode cX11_rob 6 = .ok (.invokevirtual 135, 3) := by decide +kernel
theorem dX11_rob_9 : decode cX11_rob 9 = .ok (.ifCond .eq 21, 3) := by decide +kernel
theorem dX11_rob_12 : decode cX11_rob 12 = .ok (.aload_n 0, 1) := by decide +kernel
theorem dX11_rob_13 : decode cX11_rob 13 = .ok (.getfield 397, 3) := by decide +kernel
theorem dX11_rob_16 : decode cX11_rob 16 = .ok (.bipush 20, 2) := by decide +kernel
theorem dX11_rob_18 : decode cX11_rob 18 = .ok (.if_icmp .ge 12, 3) := by decide +kernel
theorem dX11_rob_21 : decode cX11_rob 21 = .ok (.aload_n 0, 1) := by decide +kernel
theorem dX11_rob_22 : decode cX11_rob 22 = .ok (.iload_n 1, 1) := by decide +kernel
theorem dX11_rob_23 : decode cX11_rob 23 = .ok (.iload_n 2, 1) := by decide +kernel
theorem dX11_rob_24 : decode cX11_rob 24 = .ok (.invokevirtual 400, 3) := by decide +kernel
theorem dX11_rob_27 : decode cX11_rob 27 = .ok (.ifCond .ne 5, 3) := by decide +kernel
theorem dX11_rob_30 : decode cX11_rob 30 = .ok (.iconst (-1), 1) := by decide +kernel
theorem dX11_rob_31 : decode cX11_rob 31 = .ok (.ireturn, 1) := by decide +kernel
theorem dX11_rob_32 : decode cX11_rob 32 = .ok (.bipush 10, 2) := by decide +kernel
theorem dX11_rob_34 : decode cX11_rob 34 = .ok (.iload_n 2, 1) := by decide +kernel
theorem dX11_rob_35 : decode cX11_rob 35 = .ok (.imul, 1) := by decide +kernel
theorem dX11_rob_36 : decode cX11_rob 36 = .ok (.iload_n 1, 1) := by decide +kernel
theorem dX11_rob_37 : decode cX11_rob 37 = .ok (.iadd, 1) := by decide +kernel
theorem dX11_rob_38 : decode cX11_rob 38 = .ok (.istore_n 3, 1) := by decide +kernel
theorem dX11_rob_39 : decode cX11_rob 39 = .ok (.new 70, 3) := by decide +kernel
theorem dX11_rob_42 : decode cX11_rob 42 = .ok (.dup, 1) := by decide +kernel
theorem dX11_rob_43 : decode cX11_rob 43 = .ok (.iload_n 3, 1) := by decide +kernel
theorem dX11_rob_44 : decode cX11_rob 44 = .ok (.aload_n 0, 1) := by decide +kernel
theorem dX11_rob_45 : decode cX11_rob 45 = .ok (.getfield 100, 3) := by decide +kernel
theorem dX11_rob_48 : decode cX11_rob 48 = .ok (.aload_n 0, 1) := by decide +kernel
theorem dX11_rob_49 : decode cX11_rob 49 = .ok (.getfield 57, 3) := by decide +kernel
theorem dX11_rob_52 : decode cX11_rob 52 = .ok (.iload_n 3, 1) := by decide +kernel
theorem dX11_rob_53 : decode cX11_rob 53 = .ok (.iconst 1, 1) := by decide +kernel
theorem dX11_rob_54 : decode cX11_rob 54 = .ok (.invokevirtual 349, 3) := by decide +kernel
theorem dX11_rob_57 : decode cX11_rob 57 = .ok (.invokespecial 403, 3) := by decide +kernel
theorem dX11_rob_60 : decode cX11_rob 60 = .ok (.astore 4, 2) := by decide +kernel
theorem dX11_rob_62 : decode cX11_rob 62 = .ok (.iconst 0, 1) := by decide +kernel
theorem dX11_rob_63 : decode cX11_rob 63 = .ok (.istore 5, 2) := by decide +kernel
theorem dX11_rob_65 : decode cX11_rob 65 = .ok (.iload 5, 2) := by decide +kernel
theorem dX11_rob_67 : decode cX11_rob 67 = .ok (.aload_n 0, 1) := by decide +kernel
theorem dX11_rob_68 : decode cX11_rob 68 = .ok (.getfield 57, 3) := by decide +kernel
theorem dX11_rob_71 : decode cX11_rob 71 = .ok (.getfield 154, 3) := by decide +kernel
theorem dX11_rob_74 : decode cX11_rob 74 = .ok (.if_icmp .ge 67, 3) := by decide +kernel
theorem dX11_rob_77 : decode cX11_rob 77 = .ok (.aload_n 0, 1) := by decide +kernel
theorem dX11_rob_78 : decode cX11_rob 78 = .ok (.getfield 57, 3) := by decide +kernel
theorem dX11_rob_81 : decode cX11_rob 81 = .ok (.iload 5, 2) := by decide +kernel
theorem dX11_rob_83 : decode cX11_rob 83 = .ok (.iload_n 3, 1) := by decide +kernel
theorem dX11_rob_84 : decode cX11_rob 84 = .ok (.invokevirtual 405, 3) := by decide +kernel
theorem dX11_rob_87 : decode cX11_rob 87 = .ok (.ifCond .eq 48, 3) := by decide +kernel
theorem dX11_rob_90 : decode cX11_rob 90 = .ok (.aload_n 0, 1) := by decide +kernel
theorem dX11_rob_91 : decode cX11_rob 91 = .ok (.getfield 57, 3) := by decide +kernel
theorem dX11_rob_94 : decode cX11_rob 94 = .ok (.getfield 279, 3) := by decide +kernel
theorem dX11_rob_97 : decode cX11_rob 97 = .ok (.iload 5, 2) := by decide +kernel
theorem dX11_rob_99 : decode cX11_rob 99 = .ok (.baload, 1) := by decide +kernel
theorem dX11_rob_100 : decode cX11_rob 100 = .ok (.ifCond .eq 35, 3) := by decide +kernel
theorem dX11_rob_103 : decode cX11_rob 103 = .ok (.aload 4, 2) := by decide +kernel
theorem dX11_rob_105 : decode cX11_rob 105 = .ok (.iload 5, 2) := by decide +kernel
theorem dX11_rob_107 : decode cX11_rob 107 = .ok (.aload_n 0, 1) := by decide +kernel
theorem dX11_rob_108 : decode cX11_rob 108 = .ok (.getfield 48, 3) := by decide +kernel
theorem dX11_rob_111 : decode cX11_rob 111 = .ok (.iload 5, 2) := by decide +kernel
theorem dX11_rob_113 : decode cX11_rob 113 = .ok (.aaload, 1) := by decide +kernel
theorem dX11_rob_114 : decode cX11_rob 114 = .ok (.invokevirtual 297, 3) := by decide +kernel
theorem dX11_rob_117 : decode cX11_rob 117 = .ok (.invokevirtual 408, 3) := by decide +kernel
theorem dX11_rob_120 : decode cX11_rob 120 = .ok (.aload_n 0, 1) := by decide +kernel
theorem dX11_rob_121 : decode cX11_rob 121 = .ok (.getfield 57, 3) := by decide +kernel
theorem dX11_rob_124 : decode cX11_rob 124 = .ok (.iload 5, 2) := by decide +kernel
theorem dX11_rob_126 : decode cX11_rob 126 = .ok (.aload_n 0, 1) := by decide +kernel
theorem dX11_rob_127 : decode cX11_rob 127 = .ok (.getfield 100, 3) := by decide +kernel
theorem dX11_rob_130 : decode cX11_rob 130 = .ok (.iconst 4, 1) := by decide +kernel
theorem dX11_rob_131 : decode cX11_rob 131 = .ok (.iload_n 3, 1) := by decide +kernel
theorem dX11_rob_132 : decode cX11_rob 132 = .ok (.invokevirtual 393, 3) := by decide +kernel
theorem dX11_rob_135 : decode cX11_rob 135 = .ok (.iinc 5 1, 3) := by decide +kernel
theorem dX11_rob_138 : decode cX11_rob 138 = .ok (.goto (-73), 3) := by decide +kernel
theorem dX11_rob_141 : decode cX11_rob 141 = .ok (.aload_n 0, 1) := by decide +kernel
theorem dX11_rob_142 : decode cX11_rob 142 = .ok (.getfield 72, 3) := by decide +kernel
theorem dX11_rob_145 : decode cX11_rob 145 = .ok (.aload_n 0, 1) := by decide +kernel
theorem dX11_rob_146 : decode cX11_rob 146 = .ok (.getfield 397, 3) := by decide +kernel
theorem dX11_rob_149 : decode cX11_rob 149 = .ok (.aload 4, 2) := by decide +kernel
theorem dX11_rob_151 : decode cX11_rob 151 = .ok (.aastore, 1) := by decide +kernel
theorem dX11_rob_152 : decode cX11_rob 152 = .ok (.aload_n 0, 1) := by decide +kernel
theorem dX11_rob_153 : decode cX11_rob 153 = .ok (.dup, 1) := by decide +kernel
theorem dX11_rob_154 : decode cX11_rob 154 = .ok (.getfield 397, 3) := by decide +kernel
theorem dX11_rob_157 : decode cX11_rob 157 = .ok (.iconst 1, 1) := by decide +kernel
theorem dX11_rob_158 : decode cX11_rob 158 = .ok (.iadd, 1) := by decide +kernel
theorem dX11_rob_159 : decode cX11_rob 159 = .ok (.putfield 397, 3) := by decide +kernel
theorem dX11_rob_162 : decode cX11_rob 162 = .ok (.aload_n 0, 1) := by decide +kernel
theorem dX11_rob_163 : decode cX11_rob 163 = .ok (.iconst 0, 1) := by decide +kernel
theorem dX11_rob_164 : decode cX11_rob 164 = .ok (.putfield 96, 3) := by decide +kernel
theorem dX11_rob_167 : decode cX11_rob 167 = .ok (.aload_n 0, 1) := by decide +kernel
theorem dX11_rob_168 : decode cX11_rob 168 = .ok (.getfield 397, 3) := by decide +kernel
theorem dX11_rob_171 : decode cX11_rob 171 = .ok (.iconst 1, 1) := by decide +kernel
theorem dX11_rob_172 : decode cX11_rob 172 = .ok (.isub, 1) := by decide +kernel
theorem dX11_rob_173 : decode cX11_rob 173 = .ok (.ireturn, 1) := by decide +kernel
theorem bX11_rob_0 {d : Nat} {h0 hE h : ea_H} {rv : Option ea_V} {r0 : Option Nat} {x1 : Int32} {x2 : Int32} (H : ∃ a3, r0 = some a3 ∧ a3 < ea_n h ∧ ea_c h a3 = 11 ∧ ∃ a11, (ea_r h a3 1) = some a11 ∧ a11 < ea_n h ∧ ea_c h a11 = 9 ∧ ∃ (d5 : Nat) (xc13 : Int32) (h6 : ea_H), ea_Met mX9_hasRun d5 [vR (some a11), vI x1, vI x2] h (some (vI xc13)) h6 ∧ d5 + 1 ≤ d ∧ (xc13 = (0 : Int32) → rv = some (vI (-1)) ∧ hE = h6) ∧ (¬ xc13 = (0 : Int32) → a3 < ea_n h6 ∧ ea_c h6 a3 = 11 ∧ ((20 : Int32) ≤ (ea_i h6 a3 10) → rv = some (vI (-1)) ∧ hE = h6) ∧ (¬ (20 : Int32) ≤ (ea_i h6 a3 10) → a3 < ea_n h6 ∧ ea_c h6 a3 = 11 ∧ ∃ (d16 : Nat) (xc22 : Int32) (h17 : ea_H), ea_Met mX11_isUnderWay d16 [vR (some a3), vI x1, vI x2] h6 (some (vI xc22)) h17 ∧ d16 + 1 ≤ d ∧ (¬ xc22 = (0 : Int32) → ∀ h23, h23 = ea_new h17 7 0 5 → a3 < ea_n h23 ∧ ea_c h23 a3 = 11 ∧ a3 < ea_n h23 ∧ ea_c h23 a3 = 11 ∧ ∃ a35, (ea_r h23 a3 6) = some a35 ∧ a35 < ea_n h23 ∧ ea_c h23 a35 = 1 ∧ ∃ (d29 : Nat) (xc37 : Int32) (h30 : ea_H), ea_Met mX1_aboardOf d29 [vR (some a35), vI (((10 : Int32) * x2) + x1), vI 1] h23 (some (vI xc37)) h30 ∧ d29 + 1 ≤ d ∧ ∃ (d38 : Nat) (h39 : ea_H), ea_Met mX7_init d38 [vR (some (ea_n h17)), vI (((10 : Int32) * x2) + x1), vI (ea_i h23 a3 11), vI xc37] h30 none h39 ∧ d38 + 1 ≤ d ∧ ea_W mX11_rob d h0 rv hE 65 [(0, vR r0), (3, vI (((10 : Int32) * x2) + x1)), (4, vR (some (ea_n h17))), (5, vI 0)] [] h39) ∧ (xc22 = (0 : Int32) → rv = some (vI (-1)) ∧ hE = h17)))) : ea_W mX11_rob d h0 rv hE 0 [(0, vR r0), (1, vI x1), (2, vI x2)] [] h := by
  refine ea_aload_n (pc := 0) dX11_rob_0 rfl 0 rfl ?_
  obtain ⟨a3, e4, f1, g2, H⟩ := H
  refine ea_deref0 e4 ?_
  refine ea_getR (pc := 1) dX11_rob_1 ec_11 (k := 1) (Nat.le_of_ble_eq_true rfl) rfl (Or.inl ew_438) f1 g2 rfl ?_
  refine ea_iload_n (pc := 4) dX11_rob_4 rfl 1 rfl ?_
  refine ea_iload_n (pc := 5) dX11_rob_5 rfl 2 rfl ?_
  obtain ⟨a11, e12, f9, g10, H⟩ := H
  refine ea_deref2 e12 ?_
  obtain ⟨d5, xc13, h6, m7, q8, H⟩ := H
  refine ea_callV (pc := 6) (As := [vI x1, vI x2]) (st := []) dX11_rob_6 kX9_hasRun m7 q8 rfl (Nat.le_of_ble_eq_true rfl) ew_542 ew_543 ew_544 (ci := 9) rfl (by decide) f9 g10 ?_
  refine ea_if_eq (pc := 9) (tgt := 30) dX11_rob_9 rfl (fun c44 => ?_) (fun c44 => ?_)
  · have H := H.1 c44
    refine ea_iconst (pc := 30) dX11_rob_30 (v := (-1)) rfl ?_
    obtain ⟨rfl, rfl⟩ := H
    exact ea_ireturn (pc := 31) dX11_rob_31 rfl rfl
  · have H := H.2 c44
    refine ea_aload_n (pc := 12) dX11_rob_12 rfl 0 rfl ?_
    obtain ⟨f14, g15, H⟩ := H
    refine ea_deref0 e4 ?_
    refine ea_getI (pc := 13) dX11_rob_13 ec_11 (k := 10) (Nat.le_of_ble_eq_true rfl) rfl (Or.inl ew_447) f14 g15 ?_
    refine ea_bipush (pc := 16) dX11_rob_16 (v := 20) rfl ?_
    refine ea_icmp_ge (pc := 18) (tgt := 30) dX11_rob_18 rfl (fun c43 => ?_) (fun c43 => ?_)
    · have H := H.1 c43
      refine ea_iconst (pc := 30) dX11_rob_30 (v := (-1)) rfl ?_
      obtain ⟨rfl, rfl⟩ := H
      exact ea_ireturn (pc := 31) dX11_rob_31 rfl rfl
    · have H := H.2 c43
      refine ea_aload_n (pc := 21) dX11_rob_21 rfl 0 rfl ?_
      refine ea_iload_n (pc := 22) dX11_rob_22 rfl 1 rfl ?_
      refine ea_iload_n (pc := 23) dX11_rob_23 rfl 2 rfl ?_
      obtain ⟨f20, g21, H⟩ := H
      refine ea_deref2 e4 ?_
      obtain ⟨d16, xc22, h17, m18, q19, H⟩ := H
      refine ea_callV (pc := 24) (As := [vI x1, vI x2]) (st := []) dX11_rob_24 kX11_isUnderWay m18 q19 rfl (Nat.le_of_ble_eq_true rfl) ew_1229 ew_1231 ew_43 (ci := 11) rfl (by decide) f20 g21 ?_
      refine ea_if_ne (pc := 27) (tgt := 32) dX11_rob_27 rfl (fun c42 => ?_) (fun c42 => ?_)
      · have H := H.1 c42
        refine ea_bipush (pc := 32) dX11_rob_32 (v := 10) rfl ?_
        refine ea_iload_n (pc := 34) dX11_rob_34 rfl 2 rfl ?_
        refine ea_imul (pc := 35) dX11_rob_35 ?_
        refine ea_iload_n (pc := 36) dX11_rob_36 rfl 1 rfl ?_
        refine ea_iadd (pc := 37) dX11_rob_37 ?_
        refine ea_istore_n (pc := 38) (lv' := [(0, vR r0), (3, vI (((10 : Int32) * x2) + x1))]) dX11_rob_38 rfl (Nat.le_of_ble_eq_true rfl) [1, 0] rfl ?_
        refine ea_newO (pc := 39) dX11_rob_39 ec_7 ew_417 ew_1233 ew_127 ?_
        obtain ⟨h23, E24⟩ : ∃ z, z = ea_new h17 7 0 5 := ⟨_, rfl⟩
        have H := H h23 E24
        refine ea_nm E24 ?_
        refine ea_dup (pc := 42) dX11_rob_42 rfl ?_
        refine ea_iload_n (pc := 43) dX11_rob_43 rfl 1 rfl ?_
        refine ea_aload_n (pc := 44) dX11_rob_44 rfl 0 rfl ?_
        obtain ⟨f25, g26, H⟩ := H
        refine ea_deref0 e4 ?_
        refine ea_getI (pc := 45) dX11_rob_45 ec_11 (k := 11) (Nat.le_of_ble_eq_true rfl) rfl (Or.inl ew_448) f25 g26 ?_
        refine ea_aload_n (pc := 48) dX11_rob_48 rfl 0 rfl ?_
        obtain ⟨f27, g28, H⟩ := H
        refine ea_deref0 e4 ?_
        refine ea_getR (pc := 49) dX11_rob_49 ec_11 (k := 6) (Nat.le_of_ble_eq_true rfl) rfl (Or.inl ew_443) f27 g28 rfl ?_
        refine ea_iload_n (pc := 52) dX11_rob_52 rfl 1 rfl ?_
        refine ea_iconst (pc := 53) dX11_rob_53 (v := 1) rfl ?_
        obtain ⟨a35, e36, f33, g34, H⟩ := H
        refine ea_deref2 e36 ?_
        obtain ⟨d29, xc37, h30, m31, q32, H⟩ := H
        refine ea_callV (pc := 54) (As := [vI (((10 : Int32) * x2) + x1), vI 1]) (st := [vI (ea_i h23 a3 11), vI (((10 : Int32) * x2) + x1), vR (some (ea_n h17)), vR (some (ea_n h17))]) dX11_rob_54 kX1_aboardOf m31 q32 rfl (Nat.le_of_ble_eq_true rfl) ew_1149 ew_1150 ew_1151 (ci := 1) rfl (by decide) f33 g34 ?_
        obtain ⟨d38, h39, m40, q41, H⟩ := H
        refine ea_callI (pc := 57) (As := [vI (((10 : Int32) * x2) + x1), vI (ea_i h23 a3 11), vI xc37]) (st := [vR (some (ea_n h17))]) dX11_rob_57 kX7_init m40 q41 rfl (Nat.le_of_ble_eq_true rfl) ew_1234 ew_1235 rfl rfl ?_
        refine ea_astore (pc := 60) (lv' := [(0, vR r0), (3, vI (((10 : Int32) * x2) + x1)), (4, vR (some (ea_n h17)))]) dX11_rob_60 (Nat.le_of_ble_eq_true rfl) [1, 2, 0] rfl ?_
        refine ea_iconst (pc := 62) dX11_rob_62 (v := 0) rfl ?_
        refine ea_istore (pc := 63) (lv' := [(0, vR r0), (3, vI (((10 : Int32) * x2) + x1)), (4, vR (some (ea_n h17))), (5, vI 0)]) dX11_rob_63 (Nat.le_of_ble_eq_true rfl) [1, 2, 3, 0] rfl ?_
        exact H
      · have H := H.2 c42
        refine ea_iconst (pc := 30) dX11_rob_30 (v := (-1)) rfl ?_
        obtain ⟨rfl, rfl⟩ := H
        exact ea_ireturn (pc := 31) dX11_rob_31 rfl rfl
theorem bX11_rob_65 {d : Nat} {h0 hE h : ea_H} {rv : Option ea_V} {r0 : Option Nat} {x3 : Int32} {r4 : Option Nat} {x5 : Int32} (H : ∃ a3, r0 = some a3 ∧ a3 < ea_n h ∧ ea_c h a3 = 11 ∧ ∃ a7, (ea_r h a3 6) = some a7 ∧ a7 < ea_n h ∧ ea_c h a7 = 1 ∧ ((ea_i h a7 0) ≤ x5 → a3 < ea_n h ∧ ea_c h a3 = 11 ∧ a3 < ea_n h ∧ ea_c h a3 = 11 ∧ ∃ a15, (ea_r h a3 9) = some a15 ∧ a15 < ea_n h ∧ ea_c h a15 = 25 ∧ vp_in (ea_i h a3 10) (ea_l h a15) ∧ ∃ a22, r4 = some a22 ∧ a22 < ea_n h ∧ ea_c h a22 = 7 ∧ ∀ h18, h18 = ea_wr h a15 (Int32.toNatClampNeg (ea_i h a3 10)) (some a22) → a3 < ea_n h18 ∧ ea_c h18 a3 = 11 ∧ a3 < ea_n h18 ∧ ea_c h18 a3 = 11 ∧ ∀ h28, h28 = ea_wi h18 a3 10 ((ea_i h18 a3 10) + (1 : Int32)) → a3 < ea_n h28 ∧ ea_c h28 a3 = 11 ∧ ∀ h32, h32 = ea_wi h28 a3 12 0 → a3 < ea_n h32 ∧ ea_c h32 a3 = 11 ∧ rv = some (vI ((ea_i h32 a3 10) - (1 : Int32))) ∧ hE = h32) ∧ (¬ (ea_i h a7 0) ≤ x5 → a3 < ea_n h ∧ ea_c h a3 = 11 ∧ a7 < ea_n h ∧ ea_c h a7 = 1 ∧ ∃ (d38 : Nat) (xc44 : Int32) (h39 : ea_H), ea_Met mX1_isAboard d38 [vR (some a7), vI x5, vI x3] h (some (vI xc44)) h39 ∧ d38 + 1 ≤ d ∧ (xc44 = (0 : Int32) → ea_W mX11_rob d h0 rv hE 65 [(0, vR r0), (3, vI x3), (4, vR r4), (5, vI (x5 + 1))] [] h39) ∧ (¬ xc44 = (0 : Int32) → a3 < ea_n h39 ∧ ea_c h39 a3 = 11 ∧ ∃ a49, (ea_r h39 a3 6) = some a49 ∧ a49 < ea_n h39 ∧ ea_c h39 a49 = 1 ∧ ∃ a53, (ea_r h39 a49 5) = some a53 ∧ a53 < ea_n h39 ∧ ea_c h39 a53 = 21 ∧ vp_in x5 (ea_l h39 a53) ∧ ((ea_i h39 a53 (Int32.toNatClampNeg x5)) = (0 : Int32) → ea_W mX11_rob d h0 rv hE 65 [(0, vR r0), (3, vI x3), (4, vR r4), (5, vI (x5 + 1))] [] h39) ∧ (¬ (ea_i h39 a53 (Int32.toNatClampNeg x5)) = (0 : Int32) → a3 < ea_n h39 ∧ ea_c h39 a3 = 11 ∧ ∃ a60, (ea_r h39 a3 5) = some a60 ∧ a60 < ea_n h39 ∧ ea_c h39 a60 = 23 ∧ vp_in x5 (ea_l h39 a60) ∧ ∃ a69, (ea_r h39 a60 (Int32.toNatClampNeg x5)) = some a69 ∧ a69 < ea_n h39 ∧ ea_c h39 a69 = 4 ∧ ∃ (d63 : Nat) (xc71 : Int32) (h64 : ea_H), ea_Met mX4_owed d63 [vR (some a69)] h39 (some (vI xc71)) h64 ∧ d63 + 1 ≤ d ∧ ∃ a78, r4 = some a78 ∧ a78 < ea_n h64 ∧ ea_c h64 a78 = 7 ∧ ∃ (d72 : Nat) (h73 : ea_H), ea_Met mX7_take d72 [vR (some a78), vI x5, vI xc71] h64 none h73 ∧ d72 + 1 ≤ d ∧ a3 < ea_n h73 ∧ ea_c h73 a3 = 11 ∧ a3 < ea_n h73 ∧ ea_c h73 a3 = 11 ∧ ∃ a90, (ea_r h73 a3 6) = some a90 ∧ a90 < ea_n h73 ∧ ea_c h73 a90 = 1 ∧ ∃ (d84 : Nat) (h85 : ea_H), ea_Met mX1_move d84 [vR (some a90), vI x5, vI (ea_i h73 a3 11), vI 4, vI x3] h73 none h85 ∧ d84 + 1 ≤ d ∧ ea_W mX11_rob d h0 rv hE 65 [(0, vR r0), (3, vI x3), (4, vR r4), (5, vI (x5 + 1))] [] h85)))) : ea_W mX11_rob d h0 rv hE 65 [(0, vR r0), (3, vI x3), (4, vR r4), (5, vI x5)] [] h := by
  refine ea_iload (pc := 65) dX11_rob_65 3 rfl ?_
  refine ea_aload_n (pc := 67) dX11_rob_67 rfl 0 rfl ?_
  obtain ⟨a3, e4, f1, g2, H⟩ := H
  refine ea_deref0 e4 ?_
  refine ea_getR (pc := 68) dX11_rob_68 ec_11 (k := 6) (Nat.le_of_ble_eq_true rfl) rfl (Or.inl ew_443) f1 g2 rfl ?_
  obtain ⟨a7, e8, f5, g6, H⟩ := H
  refine ea_deref0 e8 ?_
  refine ea_getI (pc := 71) dX11_rob_71 ec_1 (k := 0) (Nat.le_of_ble_eq_true rfl) rfl (Or.inl ew_360) f5 g6 ?_
  refine ea_icmp_ge (pc := 74) (tgt := 141) dX11_rob_74 rfl (fun c94 => ?_) (fun c94 => ?_)
  · have H := H.1 c94
    refine ea_aload_n (pc := 141) dX11_rob_141 rfl 0 rfl ?_
    obtain ⟨f9, g10, H⟩ := H
    refine ea_deref0 e4 ?_
    refine ea_getR (pc := 142) dX11_rob_142 ec_11 (k := 9) (Nat.le_of_ble_eq_true rfl) rfl (Or.inl ew_446) f9 g10 rfl ?_
    refine ea_aload_n (pc := 145) dX11_rob_145 rfl 0 rfl ?_
    obtain ⟨f11, g12, H⟩ := H
    refine ea_deref0 e4 ?_
    refine ea_getI (pc := 146) dX11_rob_146 ec_11 (k := 10) (Nat.le_of_ble_eq_true rfl) rfl (Or.inl ew_447) f11 g12 ?_
    refine ea_aload (pc := 149) dX11_rob_149 2 rfl ?_
    obtain ⟨a15, e16, f13, g14, H⟩ := H
    refine ea_deref2 e16 ?_
    obtain ⟨z17, H⟩ := H
    obtain ⟨a22, e23, f20, g21, H⟩ := H
    refine ea_deref0 e23 ?_
    refine ea_aast25 (pc := 151) dX11_rob_151 f13 g14 z17 f20 g21 ?_
    obtain ⟨h18, E19⟩ : ∃ z, z = ea_wr h a15 (Int32.toNatClampNeg (ea_i h a3 10)) (some a22) := ⟨_, rfl⟩
    have H := H h18 E19
    refine ea_nm E19 ?_
    refine ea_aload_n (pc := 152) dX11_rob_152 rfl 0 rfl ?_
    refine ea_dup (pc := 153) dX11_rob_153 rfl ?_
    obtain ⟨f24, g25, H⟩ := H
    refine ea_deref0 e4 ?_
    refine ea_getI (pc := 154) dX11_rob_154 ec_11 (k := 10) (Nat.le_of_ble_eq_true rfl) rfl (Or.inl ew_447) f24 g25 ?_
    refine ea_iconst (pc := 157) dX11_rob_157 (v := 1) rfl ?_
    refine ea_iadd (pc := 158) dX11_rob_158 ?_
    obtain ⟨f26, g27, H⟩ := H
    refine ea_deref1 e4 ?_
    refine ea_putI (pc := 159) dX11_rob_159 ec_11 (k := 10) (Nat.le_of_ble_eq_true rfl) rfl (Or.inl ⟨rfl, Or.inl ew_447⟩) rfl rfl f26 g27 ?_
    obtain ⟨h28, E29⟩ : ∃ z, z = ea_wi h18 a3 10 ((ea_i h18 a3 10) + (1 : Int32)) := ⟨_, rfl⟩
    have H := H h28 E29
    refine ea_nm E29 ?_
    refine ea_aload_n (pc := 162) dX11_rob_162 rfl 0 rfl ?_
    refine ea_iconst (pc := 163) dX11_rob_163 (v := 0) rfl ?_
    obtain ⟨f30, g31, H⟩ := H
    refine ea_deref1 e4 ?_
    refine ea_putI (pc := 164) dX11_rob_164 ec_11 (k := 12) (Nat.le_of_ble_eq_true rfl) rfl (Or.inl ⟨rfl, Or.inl ew_449⟩) (ea_bn (Or.inl rfl)) (ea_bf (Or.inl rfl)) f30 g31 ?_
    obtain ⟨h32, E33⟩ : ∃ z, z = ea_wi h28 a3 12 0 := ⟨_, rfl⟩
    have H := H h32 E33
    refine ea_nm E33 ?_
    refine ea_aload_n (pc := 167) dX11_rob_167 rfl 0 rfl ?_
    obtain ⟨f34, g35, H⟩ := H
    refine ea_deref0 e4 ?_
    refine ea_getI (pc := 168) dX11_rob_168 ec_11 (k := 10) (Nat.le_of_ble_eq_true rfl) rfl (Or.inl ew_447) f34 g35 ?_
    refine ea_iconst (pc := 171) dX11_rob_171 (v := 1) rfl ?_
    refine ea_isub (pc := 172) dX11_rob_172 ?_
    obtain ⟨rfl, rfl⟩ := H
    exact ea_ireturn (pc := 173) dX11_rob_173 rfl rfl
  · have H := H.2 c94
    refine ea_aload_n (pc := 77) dX11_rob_77 rfl 0 rfl ?_
    obtain ⟨f36, g37, H⟩ := H
    refine ea_deref0 e4 ?_
    refine ea_getR (pc := 78) dX11_rob_78 ec_11 (k := 6) (Nat.le_of_ble_eq_true rfl) rfl (Or.inl ew_443) f36 g37 rfl ?_
    refine ea_iload (pc := 81) dX11_rob_81 3 rfl ?_
    refine ea_iload_n (pc := 83) dX11_rob_83 rfl 1 rfl ?_
    obtain ⟨f42, g43, H⟩ := H
    refine ea_deref2 e8 ?_
    obtain ⟨d38, xc44, h39, m40, q41, H⟩ := H
    refine ea_callV (pc := 84) (As := [vI x5, vI x3]) (st := []) dX11_rob_84 kX1_isAboard m40 q41 rfl (Nat.le_of_ble_eq_true rfl) ew_1259 ew_705 ew_706 (ci := 1) rfl (by decide) f42 g43 ?_
    refine ea_if_eq (pc := 87) (tgt := 135) dX11_rob_87 rfl (fun c93 => ?_) (fun c93 => ?_)
    · have H := H.1 c93
      refine ea_iinc (pc := 135) (v := 1) (lv' := [(0, vR r0), (3, vI x3), (4, vR r4), (5, vI (x5 + 1))]) dX11_rob_135 3 rfl rfl (Nat.le_of_ble_eq_true rfl) [1, 2, 3, 0] rfl ?_
      refine ea_goto (pc := 138) (tgt := 65) dX11_rob_138 rfl ?_
      exact H
    · have H := H.2 c93
      refine ea_aload_n (pc := 90) dX11_rob_90 rfl 0 rfl ?_
      obtain ⟨f45, g46, H⟩ := H
      refine ea_deref0 e4 ?_
      refine ea_getR (pc := 91) dX11_rob_91 ec_11 (k := 6) (Nat.le_of_ble_eq_true rfl) rfl (Or.inl ew_443) f45 g46 rfl ?_
      obtain ⟨a49, e50, f47, g48, H⟩ := H
      refine ea_deref0 e50 ?_
      refine ea_getR (pc := 94) dX11_rob_94 ec_1 (k := 5) (Nat.le_of_ble_eq_true rfl) rfl (Or.inl ew_370) f47 g48 rfl ?_
      refine ea_iload (pc := 97) dX11_rob_97 3 rfl ?_
      obtain ⟨a53, e54, f51, g52, H⟩ := H
      refine ea_deref1 e54 ?_
      obtain ⟨z55, H⟩ := H
      refine ea_zald (pc := 99) dX11_rob_99 f51 g52 z55 ?_
      refine ea_if_eq (pc := 100) (tgt := 135) dX11_rob_100 rfl (fun c92 => ?_) (fun c92 => ?_)
      · have H := H.1 c92
        refine ea_iinc (pc := 135) (v := 1) (lv' := [(0, vR r0), (3, vI x3), (4, vR r4), (5, vI (x5 + 1))]) dX11_rob_135 3 rfl rfl (Nat.le_of_ble_eq_true rfl) [1, 2, 3, 0] rfl ?_
        refine ea_goto (pc := 138) (tgt := 65) dX11_rob_138 rfl ?_
        exact H
      · have H := H.2 c92
        refine ea_aload (pc := 103) dX11_rob_103 2 rfl ?_
        refine ea_iload (pc := 105) dX11_rob_105 3 rfl ?_
        refine ea_aload_n (pc := 107) dX11_rob_107 rfl 0 rfl ?_
        obtain ⟨f56, g57, H⟩ := H
        refine ea_deref0 e4 ?_
        refine ea_getR (pc := 108) dX11_rob_108 ec_11 (k := 5) (Nat.le_of_ble_eq_true rfl) rfl (Or.inl ew_442) f56 g57 rfl ?_
        refine ea_iload (pc := 111) dX11_rob_111 3 rfl ?_
        obtain ⟨a60, e61, f58, g59, H⟩ := H
        refine ea_deref1 e61 ?_
        obtain ⟨z62, H⟩ := H
        refine ea_aald23 (pc := 113) dX11_rob_113 f58 g59 z62 rfl ?_
        obtain ⟨a69, e70, f67, g68, H⟩ := H
        refine ea_deref0 e70 ?_
        obtain ⟨d63, xc71, h64, m65, q66, H⟩ := H
        refine ea_callV (pc := 114) (As := []) (st := [vI x5, vR r4]) dX11_rob_114 kX4_owed m65 q66 rfl (Nat.le_of_ble_eq_true rfl) ew_1084 ew_1085 ew_1086 (ci := 4) rfl (by decide) f67 g68 ?_
        obtain ⟨a78, e79, f76, g77, H⟩ := H
        refine ea_deref2 e79 ?_
        obtain ⟨d72, h73, m74, q75, H⟩ := H
        refine ea_callV (pc := 117) (As := [vI x5, vI xc71]) (st := []) dX11_rob_117 kX7_take m74 q75 rfl (Nat.le_of_ble_eq_true rfl) ew_1260 ew_1261 ew_1262 (ci := 7) rfl (by decide) f76 g77 ?_
        refine ea_aload_n (pc := 120) dX11_rob_120 rfl 0 rfl ?_
        obtain ⟨f80, g81, H⟩ := H
        refine ea_deref0 e4 ?_
        refine ea_getR (pc := 121) dX11_rob_121 ec_11 (k := 6) (Nat.le_of_ble_eq_true rfl) rfl (Or.inl ew_443) f80 g81 rfl ?_
        refine ea_iload (pc := 124) dX11_rob_124 3 rfl ?_
        refine ea_aload_n (pc := 126) dX11_rob_126 rfl 0 rfl ?_
        obtain ⟨f82, g83, H⟩ := H
        refine ea_deref0 e4 ?_
        refine ea_getI (pc := 127) dX11_rob_127 ec_11 (k := 11) (Nat.le_of_ble_eq_true rfl) rfl (Or.inl ew_448) f82 g83 ?_
        refine ea_iconst (pc := 130) dX11_rob_130 (v := 4) rfl ?_
        refine ea_iload_n (pc := 131) dX11_rob_131 rfl 1 rfl ?_
        obtain ⟨a90, e91, f88, g89, H⟩ := H
        refine ea_deref4 e91 ?_
        obtain ⟨d84, h85, m86, q87, H⟩ := H
        refine ea_callV (pc := 132) (As := [vI x5, vI (ea_i h73 a3 11), vI 4, vI x3]) (st := []) dX11_rob_132 kX1_move m86 q87 rfl (Nat.le_of_ble_eq_true rfl) ew_1224 ew_646 ew_647 (ci := 1) rfl (by decide) f88 g89 ?_
        refine ea_iinc (pc := 135) (v := 1) (lv' := [(0, vR r0), (3, vI x3), (4, vR r4), (5, vI (x5 + 1))]) dX11_rob_135 3 rfl rfl (Nat.le_of_ble_eq_true rfl) [1, 2, 3, 0] rfl ?_
        refine ea_goto (pc := 138) (tgt := 65) dX11_rob_138 rfl ?_
        exact H
theorem dX11_robbery_0 : decode cX11_robbery 0 = .ok (.iload_n 1, 1) := by decide +kernel
theorem dX11_robbery_1 : decode cX11_robbery 1 = .ok (.ifCond .lt 11, 3) := by decide +kernel
theorem dX11_robbery_4 : decode cX11_robbery 4 = .ok (.iload_n 1, 1) := by decide +kernel
theorem dX11_robbery_5 : decode cX11_robbery 5 = .ok (.aload_n 0, 1) := by decide +kernel
theorem dX11_robbery_6 : decode cX11_robbery 6 = .ok (.getfield 397, 3) := by decide +kernel
theorem dX11_robbery_9 : decode cX11_robbery 9 = .ok (.if_icmp .lt 5, 3) := by decide +kernel
theorem dX11_robbery_12 : decode cX11_robbery 12 = .ok (.iconst (-1), 1) := by decide +kernel
theorem dX11_robbery_13 : decode cX11_robbery 13 = .ok (.ireturn, 1) := by decide +kernel
theorem dX11_robbery_14 : decode cX11_robbery 14 = .ok (.aload_n 0, 1) := by decide +kernel
theorem dX11_robbery_15 : decode cX11_robbery 15 = .ok (.getfield 72, 3) := by decide +kernel
theorem dX11_robbery_18 : decode cX11_robbery 18 = .ok (.iload_n 1, 1) := by decide +kernel
theorem dX11_robbery_19 : decode cX11_robbery 19 = .ok (.aaload, 1) := by decide +kernel
theorem dX11_robbery_20 : decode cX11_robbery 20 = .ok (.astore_n 3, 1) := by decide +kernel
theorem dX11_robbery_21 : decode cX11_robbery 21 = .ok (.iload_n 2, 1) := by decide +kernel
theorem dX11_robbery_22 : decode cX11_robbery 22 = .ok (.tableswitch 50 0 3 #[30, 35, 40, 45], 30) := by decide +kernel
theorem dX11_robbery_52 : decode cX11_robbery 52 = .ok (.aload_n 3, 1) := by decide +kernel
theorem dX11_robbery_53 : decode cX11_robbery 53 = .ok (.getfield 410, 3) := by decide +kernel
theorem dX11_robbery_56 : decode cX11_robbery 56 = .ok (.ireturn, 1) := by decide +kernel
theorem dX11_robbery_57 : decode cX11_robbery 57 = .ok (.aload_n 3, 1) := by decide +kernel
theorem dX11_robbery_58 : decode cX11_robbery 58 = .ok (.getfield 413, 3) := by decide +kernel
theorem dX11_robbery_61 : decode cX11_robbery 61 = .ok (.ireturn, 1) := by decide +kernel
theorem dX11_robbery_62 : decode cX11_robbery 62 = .ok (.aload_n 3, 1) := by decide +kernel
theorem dX11_robbery_63 : decode cX11_robbery 63 = .ok (.getfield 414, 3) := by decide +kernel
theorem dX11_robbery_66 : decode cX11_robbery 66 = .ok (.ireturn, 1) := by decide +kernel
theorem dX11_robbery_67 : decode cX11_robbery 67 = .ok (.aload_n 3, 1) := by decide +kernel
theorem dX11_robbery_68 : decode cX11_robbery 68 = .ok (.getfield 415, 3) := by decide +kernel
theorem dX11_robbery_71 : decode cX11_robbery 71 = .ok (.ireturn, 1) := by decide +kernel
theorem dX11_robbery_72 : decode cX11_robbery 72 = .ok (.iload_n 2, 1) := by decide +kernel
theorem dX11_robbery_73 : decode cX11_robbery 73 = .ok (.bipush 10, 2) := by decide +kernel
theorem dX11_robbery_75 : decode cX11_robbery 75 = .ok (.if_icmp .ge 7, 3) := by decide +kernel
theorem dX11_robbery_78 : decode cX11_robbery 78 = .ok (.iconst (-1), 1) := by decide +kernel
theorem dX11_robbery_79 : decode cX11_robbery 79 = .ok (.goto 11, 3) := by decide +kernel
theorem dX11_robbery_82 : decode cX11_robbery 82 = .ok (.aload_n 3, 1) := by decide +kernel
theorem dX11_robbery_83 : decode cX11_robbery 83 = .ok (.iload_n 2, 1) := by decide +kernel
theorem dX11_robbery_84 : decode cX11_robbery 84 = .ok (.bipush 10, 2) := by decide +kernel
theorem dX11_robbery_86 : decode cX11_robbery 86 = .ok (.isub, 1) := by decide +kernel
theorem dX11_robbery_87 : decode cX11_robbery 87 = .ok (.invokevirtual 417, 3) := by decide +kernel
theorem dX11_robbery_90 : decode cX11_robbery 90 = .ok (.ireturn, 1) := by decide +kernel
theorem bX11_robbery_0 {d : Nat} {h0 hE h : ea_H} {rv : Option ea_V} {r0 : Option Nat} {x1 : Int32} {x2 : Int32} (H : (x1 < (0 : Int32) → rv = some (vI (-1)) ∧ hE = h) ∧ (¬ x1 < (0 : Int32) → ∃ a3, r0 = some a3 ∧ a3 < ea_n h ∧ ea_c h a3 = 11 ∧ (x1 < (ea_i h a3 10) → a3 < ea_n h ∧ ea_c h a3 = 11 ∧ ∃ a9, (ea_r h a3 9) = some a9 ∧ a9 < ea_n h ∧ ea_c h a9 = 25 ∧ vp_in x1 (ea_l h a9) ∧ (Int32.toInt x2 = 0 → ∃ a14, (ea_r h a9 (Int32.toNatClampNeg x1)) = some a14 ∧ a14 < ea_n h ∧ ea_c h a14 = 7 ∧ rv = some (vI (ea_i h a14 0)) ∧ hE = h) ∧ (Int32.toInt x2 = 1 → ∃ a18, (ea_r h a9 (Int32.toNatClampNeg x1)) = some a18 ∧ a18 < ea_n h ∧ ea_c h a18 = 7 ∧ rv = some (vI (ea_i h a18 1)) ∧ hE = h) ∧ (Int32.toInt x2 = 2 → ∃ a22, (ea_r h a9 (Int32.toNatClampNeg x1)) = some a22 ∧ a22 < ea_n h ∧ ea_c h a22 = 7 ∧ rv = some (vI (ea_i h a22 2)) ∧ hE = h) ∧ (Int32.toInt x2 = 3 → ∃ a26, (ea_r h a9 (Int32.toNatClampNeg x1)) = some a26 ∧ a26 < ea_n h ∧ ea_c h a26 = 7 ∧ rv = some (vI (ea_i h a26 3)) ∧ hE = h) ∧ (Int32.toInt x2 < 0 ∨ 3 < Int32.toInt x2 → ((10 : Int32) ≤ x2 → ∃ a34, (ea_r h a9 (Int32.toNatClampNeg x1)) = some a34 ∧ a34 < ea_n h ∧ ea_c h a34 = 7 ∧ ∃ (d28 : Nat) (xc36 : Int32) (h29 : ea_H), ea_Met mX7_letterAt d28 [vR (some a34), vI (x2 - (10 : Int32))] h (some (vI xc36)) h29 ∧ d28 + 1 ≤ d ∧ rv = some (vI xc36) ∧ hE = h29) ∧ (¬ (10 : Int32) ≤ x2 → rv = some (vI (-1)) ∧ hE = h))) ∧ (¬ x1 < (ea_i h a3 10) → rv = some (vI (-1)) ∧ hE = h))) : ea_W mX11_robbery d h0 rv hE 0 [(0, vR r0), (1, vI x1), (2, vI x2)] [] h := by
  refine ea_iload_n (pc := 0) dX11_robbery_0 rfl 1 rfl ?_
  refine ea_if_lt (pc := 1) (tgt := 12) dX11_robbery_1 rfl (fun c39 => ?_) (fun c39 => ?_)
  · have H := H.1 c39
    refine ea_iconst (pc := 12) dX11_robbery_12 (v := (-1)) rfl ?_
    obtain ⟨rfl, rfl⟩ := H
    exact ea_ireturn (pc := 13) dX11_robbery_13 rfl rfl
  · have H := H.2 c39
    refine ea_iload_n (pc := 4) dX11_robbery_4 rfl 1 rfl ?_
    refine ea_aload_n (pc := 5) dX11_robbery_5 rfl 0 rfl ?_
    obtain ⟨a3, e4, f1, g2, H⟩ := H
    refine ea_deref0 e4 ?_
    refine ea_getI (pc := 6) dX11_robbery_6 ec_11 (k := 10) (Nat.le_of_ble_eq_true rfl) rfl (Or.inl ew_447) f1 g2 ?_
    refine ea_icmp_lt (pc := 9) (tgt := 14) dX11_robbery_9 rfl (fun c38 => ?_) (fun c38 => ?_)
    · have H := H.1 c38
      refine ea_aload_n (pc := 14) dX11_robbery_14 rfl 0 rfl ?_
      obtain ⟨f5, g6, H⟩ := H
      refine ea_deref0 e4 ?_
      refine ea_getR (pc := 15) dX11_robbery_15 ec_11 (k := 9) (Nat.le_of_ble_eq_true rfl) rfl (Or.inl ew_446) f5 g6 rfl ?_
      refine ea_iload_n (pc := 18) dX11_robbery_18 rfl 1 rfl ?_
      obtain ⟨a9, e10, f7, g8, H⟩ := H
      refine ea_deref1 e10 ?_
      obtain ⟨z11, H⟩ := H
      refine ea_aald25 (pc := 19) dX11_robbery_19 f7 g8 z11 rfl ?_
      refine ea_astore_n (pc := 20) (lv' := [(2, vI x2), (3, vR (ea_r h a9 (Int32.toNatClampNeg x1)))]) dX11_robbery_20 rfl (Nat.le_of_ble_eq_true rfl) [3, 0] rfl ?_
      refine ea_iload_n (pc := 21) dX11_robbery_21 rfl 0 rfl ?_
      by_cases qc1 : Int32.toInt x2 = 0
      · have H := H.1 qc1
        refine ea_tswIn (pc := 22) (tgt := 52) dX11_robbery_22 (by omega) (by omega) (by rw [qc1]; rfl) rfl ?_
        refine ea_aload_n (pc := 52) dX11_robbery_52 rfl 1 rfl ?_
        obtain ⟨a14, e15, f12, g13, H⟩ := H
        refine ea_deref0 e15 ?_
        refine ea_getI (pc := 53) dX11_robbery_53 ec_7 (k := 0) (Nat.le_of_ble_eq_true rfl) rfl (Or.inl ew_1240) f12 g13 ?_
        obtain ⟨rfl, rfl⟩ := H
        exact ea_ireturn (pc := 56) dX11_robbery_56 rfl rfl
      by_cases qc2 : Int32.toInt x2 = 1
      · have H := H.2.1 qc2
        refine ea_tswIn (pc := 22) (tgt := 57) dX11_robbery_22 (by omega) (by omega) (by rw [qc2]; rfl) rfl ?_
        refine ea_aload_n (pc := 57) dX11_robbery_57 rfl 1 rfl ?_
        obtain ⟨a18, e19, f16, g17, H⟩ := H
        refine ea_deref0 e19 ?_
        refine ea_getI (pc := 58) dX11_robbery_58 ec_7 (k := 1) (Nat.le_of_ble_eq_true rfl) rfl (Or.inl ew_1242) f16 g17 ?_
        obtain ⟨rfl, rfl⟩ := H
        exact ea_ireturn (pc := 61) dX11_robbery_61 rfl rfl
      by_cases qc3 : Int32.toInt x2 = 2
      · have H := H.2.2.1 qc3
        refine ea_tswIn (pc := 22) (tgt := 62) dX11_robbery_22 (by omega) (by omega) (by rw [qc3]; rfl) rfl ?_
        refine ea_aload_n (pc := 62) dX11_robbery_62 rfl 1 rfl ?_
        obtain ⟨a22, e23, f20, g21, H⟩ := H
        refine ea_deref0 e23 ?_
        refine ea_getI (pc := 63) dX11_robbery_63 ec_7 (k := 2) (Nat.le_of_ble_eq_true rfl) rfl (Or.inl ew_1244) f20 g21 ?_
        obtain ⟨rfl, rfl⟩ := H
        exact ea_ireturn (pc := 66) dX11_robbery_66 rfl rfl
      by_cases qc4 : Int32.toInt x2 = 3
      · have H := H.2.2.2.1 qc4
        refine ea_tswIn (pc := 22) (tgt := 67) dX11_robbery_22 (by omega) (by omega) (by rw [qc4]; rfl) rfl ?_
        refine ea_aload_n (pc := 67) dX11_robbery_67 rfl 1 rfl ?_
        obtain ⟨a26, e27, f24, g25, H⟩ := H
        refine ea_deref0 e27 ?_
        refine ea_getI (pc := 68) dX11_robbery_68 ec_7 (k := 3) (Nat.le_of_ble_eq_true rfl) rfl (Or.inl ew_1246) f24 g25 ?_
        obtain ⟨rfl, rfl⟩ := H
        exact ea_ireturn (pc := 71) dX11_robbery_71 rfl rfl
      have qd : Int32.toInt x2 < 0 ∨ 3 < Int32.toInt x2 := by omega
      have H := H.2.2.2.2 qd
      refine ea_tswOut (pc := 22) (tgt := 72) dX11_robbery_22 qd rfl ?_
      refine ea_iload_n (pc := 72) dX11_robbery_72 rfl 0 rfl ?_
      refine ea_bipush (pc := 73) dX11_robbery_73 (v := 10) rfl ?_
      refine ea_icmp_ge (pc := 75) (tgt := 82) dX11_robbery_75 rfl (fun c37 => ?_) (fun c37 => ?_)
      · have H := H.1 c37
        refine ea_aload_n (pc := 82) dX11_robbery_82 rfl 1 rfl ?_
        refine ea_iload_n (pc := 83) dX11_robbery_83 rfl 0 rfl ?_
        refine ea_bipush (pc := 84) dX11_robbery_84 (v := 10) rfl ?_
        refine ea_isub (pc := 86) dX11_robbery_86 ?_
        obtain ⟨a34, e35, f32, g33, H⟩ := H
        refine ea_deref1 e35 ?_
        obtain ⟨d28, xc36, h29, m30, q31, H⟩ := H
        refine ea_callV (pc := 87) (As := [vI (x2 - (10 : Int32))]) (st := []) dX11_robbery_87 kX7_letterAt m30 q31 rfl (Nat.le_of_ble_eq_true rfl) ew_1268 ew_1269 ew_1270 (ci := 7) rfl (by decide) f32 g33 ?_
        obtain ⟨rfl, rfl⟩ := H
        exact ea_ireturn (pc := 90) dX11_robbery_90 rfl rfl
      · have H := H.2 c37
        refine ea_iconst (pc := 78) dX11_robbery_78 (v := (-1)) rfl ?_
        refine ea_goto (pc := 79) (tgt := 90) dX11_robbery_79 rfl ?_
        obtain ⟨rfl, rfl⟩ := H
        exact ea_ireturn (pc := 90) dX11_robbery_90 rfl rfl
    · have H := H.2 c38
      refine ea_iconst (pc := 12) dX11_robbery_12 (v := (-1)) rfl ?_
      obtain ⟨rfl, rfl⟩ := H
      exact ea_ireturn (pc := 13) dX11_robbery_13 rfl rfl
theorem dX11_set_0 : decode cX11_set 0 = .ok (.aload_n 0, 1) := by decide +kernel
theorem dX11_set_1 : decode cX11_set 1 = .ok (.getfield 19, 3) := by decide +kernel
theorem dX11_set_4 : decode cX11_set 4 = .ok (.iload_n 1, 1) := by decide +kernel
theorem dX11_set_5 : decode cX11_set 5 = .ok (.invokevirtual 103, 3) := by decide +kernel
theorem dX11_set_8 : decode cX11_set 8 = .ok (.ifCond .ne 5, 3) := by decide +kernel
theorem dX11_set_11 : decode cX11_set 11 = .ok (.iconst 0, 1) := by decide +kernel
theorem dX11_set_12 : decode cX11_set 12 = .ok (.ireturn, 1) := by decide +kernel
theorem dX11_set_13 : decode cX11_set 13 = .ok (.aload_n 0, 1) := by decide +kernel
theorem dX11_set_14 : decode cX11_set 14 = .ok (.getfield 66, 3) := by decide +kernel
theorem dX11_set_17 : decode cX11_set 17 = .ok (.iload_n 1, 1) := by decide +kernel
theorem dX11_set_18 : decode cX11_set 18 = .ok (.aaload, 1) := by decide +kernel
theorem dX11_set_19 : decode cX11_set 19 = .ok (.aload_n 0, 1) := by decide +kernel
theorem dX11_set_20 : decode cX11_set 20 = .ok (.getfield 100, 3) := by decide +kernel
theorem dX11_set_23 : decode cX11_set 23 = .ok (.putfield 420, 3) := by decide +kernel
theorem dX11_set_26 : decode cX11_set 26 = .ok (.iconst 1, 1) := by decide +kernel
theorem dX11_set_27 : decode cX11_set 27 = .ok (.ireturn, 1) := by decide +kernel
theorem bX11_set_0 {d : Nat} {h0 hE h : ea_H} {rv : Option ea_V} {r0 : Option Nat} {x1 : Int32} (H : ∃ a3, r0 = some a3 ∧ a3 < ea_n h ∧ ea_c h a3 = 11 ∧ ∃ a11, (ea_r h a3 1) = some a11 ∧ a11 < ea_n h ∧ ea_c h a11 = 9 ∧ ∃ (d5 : Nat) (xc13 : Int32) (h6 : ea_H), ea_Met mX9_has d5 [vR (some a11), vI x1] h (some (vI xc13)) h6 ∧ d5 + 1 ≤ d ∧ (¬ xc13 = (0 : Int32) → a3 < ea_n h6 ∧ ea_c h6 a3 = 11 ∧ ∃ a18, (ea_r h6 a3 8) = some a18 ∧ a18 < ea_n h6 ∧ ea_c h6 a18 = 24 ∧ vp_in x1 (ea_l h6 a18) ∧ a3 < ea_n h6 ∧ ea_c h6 a3 = 11 ∧ ∃ a25, (ea_r h6 a18 (Int32.toNatClampNeg x1)) = some a25 ∧ a25 < ea_n h6 ∧ ea_c h6 a25 = 2 ∧ ∀ h27, h27 = ea_wi h6 a25 0 (ea_i h6 a3 11) → rv = some (vI 1) ∧ hE = h27) ∧ (xc13 = (0 : Int32) → rv = some (vI 0) ∧ hE = h6)) : ea_W mX11_set d h0 rv hE 0 [(0, vR r0), (1, vI x1)] [] h := by
  refine ea_aload_n (pc := 0) dX11_set_0 rfl 0 rfl ?_
  obtain ⟨a3, e4, f1, g2, H⟩ := H
  refine ea_deref0 e4 ?_
  refine ea_getR (pc := 1) dX11_set_1 ec_11 (k := 1) (Nat.le_of_ble_eq_true rfl) rfl (Or.inl ew_438) f1 g2 rfl ?_
  refine ea_iload_n (pc := 4) dX11_set_4 rfl 1 rfl ?_
  obtain ⟨a11, e12, f9, g10, H⟩ := H
  refine ea_deref1 e12 ?_
  obtain ⟨d5, xc13, h6, m7, q8, H⟩ := H
  refine ea_callV (pc := 5) (As := [vI x1]) (st := []) dX11_set_5 kX9_has m7 q8 rfl (Nat.le_of_ble_eq_true rfl) ew_518 ew_519 ew_520 (ci := 9) rfl (by decide) f9 g10 ?_
  refine ea_if_ne (pc := 8) (tgt := 13) dX11_set_8 rfl (fun c29 => ?_) (fun c29 => ?_)
  · have H := H.1 c29
    refine ea_aload_n (pc := 13) dX11_set_13 rfl 0 rfl ?_
    obtain ⟨f14, g15, H⟩ := H
    refine ea_deref0 e4 ?_
    refine ea_getR (pc := 14) dX11_set_14 ec_11 (k := 8) (Nat.le_of_ble_eq_true rfl) rfl (Or.inl ew_445) f14 g15 rfl ?_
    refine ea_iload_n (pc := 17) dX11_set_17 rfl 1 rfl ?_
    obtain ⟨a18, e19, f16, g17, H⟩ := H
    refine ea_deref1 e19 ?_
    obtain ⟨z20, H⟩ := H
    refine ea_aald24 (pc := 18) dX11_set_18 f16 g17 z20 rfl ?_
    refine ea_aload_n (pc := 19) dX11_set_19 rfl 0 rfl ?_
    obtain ⟨f21, g22, H⟩ := H
    refine ea_deref0 e4 ?_
    refine ea_getI (pc := 20) dX11_set_20 ec_11 (k := 11) (Nat.le_of_ble_eq_true rfl) rfl (Or.inl ew_448) f21 g22 ?_
    obtain ⟨a25, e26, f23, g24, H⟩ := H
    refine ea_deref1 e26 ?_
    refine ea_putI (pc := 23) dX11_set_23 ec_2 (k := 0) (Nat.le_of_ble_eq_true rfl) rfl (Or.inl ⟨rfl, Or.inl ew_425⟩) rfl rfl f23 g24 ?_
    obtain ⟨h27, E28⟩ : ∃ z, z = ea_wi h6 a25 0 (ea_i h6 a3 11) := ⟨_, rfl⟩
    have H := H h27 E28
    refine ea_nm E28 ?_
    refine ea_iconst (pc := 26) dX11_set_26 (v := 1) rfl ?_
    obtain ⟨rfl, rfl⟩ := H
    exact ea_ireturn (pc := 27) dX11_set_27 rfl (ea_bn (Or.inr rfl))
  · have H := H.2 c29
    refine ea_iconst (pc := 11) dX11_set_11 (v := 0) rfl ?_
    obtain ⟨rfl, rfl⟩ := H
    exact ea_ireturn (pc := 12) dX11_set_12 rfl (ea_bn (Or.inl rfl))
theorem dX11_seen_0 : decode cX11_seen 0 = .ok (.aload_n 0, 1) := by decide +kernel
theorem dX11_seen_1 : decode cX11_seen 1 = .ok (.getfield 19, 3) := by decide +kernel
theorem dX11_seen_4 : decode cX11_seen 4 = .ok (.iload_n 1, 1) := by decide +kernel
theorem dX11_seen_5 : decode cX11_seen 5 = .ok (.invokevirtual 103, 3) := by decide +kernel
theorem dX11_seen_8 : decode cX11_seen 8 = .ok (.ifCond .eq 14, 3) := by decide +kernel
theorem dX11_seen_11 : decode cX11_seen 11 = .ok (.iload_n 2, 1) := by decide +kernel
theorem dX11_seen_12 : decode cX11_seen 12 = .ok (.ifCond .lt 10, 3) := by decide +kernel
theorem dX11_seen_15 : decode cX11_seen 15 = .ok (.iload_n 2, 1) := by decide +kernel
theorem dX11_seen_16 : decode cX11_seen 16 = .ok (.sipush 10079, 3) := by decide +kernel
theorem dX11_seen_19 : decode cX11_seen 19 = .ok (.if_icmp .le 5, 3) := by decide +kernel
theorem dX11_seen_22 : decode cX11_seen 22 = .ok (.iconst 0, 1) := by decide +kernel
theorem dX11_seen_23 : decode cX11_seen 23 = .ok (.ireturn, 1) := by decide +kernel
theorem dX11_seen_24 : decode cX11_seen 24 = .ok (.aload_n 0, 1) := by decide +kernel
theorem dX11_seen_25 : decode cX11_seen 25 = .ok (.getfield 66, 3) := by decide +kernel
theorem dX11_seen_28 : decode cX11_seen 28 = .ok (.iload_n 1, 1) := by decide +kernel
theorem dX11_seen_29 : decode cX11_seen 29 = .ok (.aaload, 1) := by decide +kernel
theorem dX11_seen_30 : decode cX11_seen 30 = .ok (.aload_n 0, 1) := by decide +kernel
theorem dX11_seen_31 : decode cX11_seen 31 = .ok (.getfield 100, 3) := by decide +kernel
theorem dX11_seen_34 : decode cX11_seen 34 = .ok (.iload_n 2, 1) := by decide +kernel
theorem dX11_seen_35 : decode cX11_seen 35 = .ok (.invokevirtual 423, 3) := by decide +kernel
theorem dX11_seen_38 : decode cX11_seen 38 = .ok (.ireturn, 1) := by decide +kernel
theorem bX11_seen_0 {d : Nat} {h0 hE h : ea_H} {rv : Option ea_V} {r0 : Option Nat} {x1 : Int32} {x2 : Int32} (H : ∃ a3, r0 = some a3 ∧ a3 < ea_n h ∧ ea_c h a3 = 11 ∧ ∃ a11, (ea_r h a3 1) = some a11 ∧ a11 < ea_n h ∧ ea_c h a11 = 9 ∧ ∃ (d5 : Nat) (xc13 : Int32) (h6 : ea_H), ea_Met mX9_has d5 [vR (some a11), vI x1] h (some (vI xc13)) h6 ∧ d5 + 1 ≤ d ∧ (xc13 = (0 : Int32) → rv = some (vI 0) ∧ hE = h6) ∧ (¬ xc13 = (0 : Int32) → (x2 < (0 : Int32) → rv = some (vI 0) ∧ hE = h6) ∧ (¬ x2 < (0 : Int32) → (x2 ≤ (10079 : Int32) → a3 < ea_n h6 ∧ ea_c h6 a3 = 11 ∧ ∃ a18, (ea_r h6 a3 8) = some a18 ∧ a18 < ea_n h6 ∧ ea_c h6 a18 = 24 ∧ vp_in x1 (ea_l h6 a18) ∧ a3 < ea_n h6 ∧ ea_c h6 a3 = 11 ∧ ∃ a29, (ea_r h6 a18 (Int32.toNatClampNeg x1)) = some a29 ∧ a29 < ea_n h6 ∧ ea_c h6 a29 = 2 ∧ ∃ (d23 : Nat) (xc31 : Int32) (h24 : ea_H), ea_Met mX2_learn d23 [vR (some a29), vI (ea_i h6 a3 11), vI x2] h6 (some (vI xc31)) h24 ∧ d23 + 1 ≤ d ∧ (xc31 = 0 ∨ xc31 = 1) ∧ rv = some (vI xc31) ∧ hE = h24) ∧ (¬ x2 ≤ (10079 : Int32) → rv = some (vI 0) ∧ hE = h6)))) : ea_W mX11_seen d h0 rv hE 0 [(0, vR r0), (1, vI x1), (2, vI x2)] [] h := by
  refine ea_aload_n (pc := 0) dX11_seen_0 rfl 0 rfl ?_
  obtain ⟨a3, e4, f1, g2, H⟩ := H
  refine ea_deref0 e4 ?_
  refine ea_getR (pc := 1) dX11_seen_1 ec_11 (k := 1) (Nat.le_of_ble_eq_true rfl) rfl (Or.inl ew_438) f1 g2 rfl ?_
  refine ea_iload_n (pc := 4) dX11_seen_4 rfl 1 rfl ?_
  obtain ⟨a11, e12, f9, g10, H⟩ := H
  refine ea_deref1 e12 ?_
  obtain ⟨d5, xc13, h6, m7, q8, H⟩ := H
  refine ea_callV (pc := 5) (As := [vI x1]) (st := []) dX11_seen_5 kX9_has m7 q8 rfl (Nat.le_of_ble_eq_true rfl) ew_518 ew_519 ew_520 (ci := 9) rfl (by decide) f9 g10 ?_
  refine ea_if_eq (pc := 8) (tgt := 22) dX11_seen_8 rfl (fun c35 => ?_) (fun c35 => ?_)
  · have H := H.1 c35
    refine ea_iconst (pc := 22) dX11_seen_22 (v := 0) rfl ?_
    obtain ⟨rfl, rfl⟩ := H
    exact ea_ireturn (pc := 23) dX11_seen_23 rfl (ea_bn (Or.inl rfl))
  · have H := H.2 c35
    refine ea_iload_n (pc := 11) dX11_seen_11 rfl 2 rfl ?_
    refine ea_if_lt (pc := 12) (tgt := 22) dX11_seen_12 rfl (fun c34 => ?_) (fun c34 => ?_)
    · have H := H.1 c34
      refine ea_iconst (pc := 22) dX11_seen_22 (v := 0) rfl ?_
      obtain ⟨rfl, rfl⟩ := H
      exact ea_ireturn (pc := 23) dX11_seen_23 rfl (ea_bn (Or.inl rfl))
    · have H := H.2 c34
      refine ea_iload_n (pc := 15) dX11_seen_15 rfl 2 rfl ?_
      refine ea_sipush (pc := 16) dX11_seen_16 (v := 10079) rfl ?_
      refine ea_icmp_le (pc := 19) (tgt := 24) dX11_seen_19 rfl (fun c33 => ?_) (fun c33 => ?_)
      · have H := H.1 c33
        refine ea_aload_n (pc := 24) dX11_seen_24 rfl 0 rfl ?_
        obtain ⟨f14, g15, H⟩ := H
        refine ea_deref0 e4 ?_
        refine ea_getR (pc := 25) dX11_seen_25 ec_11 (k := 8) (Nat.le_of_ble_eq_true rfl) rfl (Or.inl ew_445) f14 g15 rfl ?_
        refine ea_iload_n (pc := 28) dX11_seen_28 rfl 1 rfl ?_
        obtain ⟨a18, e19, f16, g17, H⟩ := H
        refine ea_deref1 e19 ?_
        obtain ⟨z20, H⟩ := H
        refine ea_aald24 (pc := 29) dX11_seen_29 f16 g17 z20 rfl ?_
        refine ea_aload_n (pc := 30) dX11_seen_30 rfl 0 rfl ?_
        obtain ⟨f21, g22, H⟩ := H
        refine ea_deref0 e4 ?_
        refine ea_getI (pc := 31) dX11_seen_31 ec_11 (k := 11) (Nat.le_of_ble_eq_true rfl) rfl (Or.inl ew_448) f21 g22 ?_
        refine ea_iload_n (pc := 34) dX11_seen_34 rfl 2 rfl ?_
        obtain ⟨a29, e30, f27, g28, H⟩ := H
        refine ea_deref2 e30 ?_
        obtain ⟨d23, xc31, h24, m25, q26, H⟩ := H
        refine ea_callV (pc := 35) (As := [vI (ea_i h6 a3 11), vI x2]) (st := []) dX11_seen_35 kX2_learn m25 q26 rfl (Nat.le_of_ble_eq_true rfl) ew_1280 ew_1281 ew_1282 (ci := 2) rfl (by decide) f27 g28 ?_
        obtain ⟨z32, rfl, rfl⟩ := H
        exact ea_ireturn (pc := 38) dX11_seen_38 rfl (ea_bn z32)
      · have H := H.2 c33
        refine ea_iconst (pc := 22) dX11_seen_22 (v := 0) rfl ?_
        obtain ⟨rfl, rfl⟩ := H
        exact ea_ireturn (pc := 23) dX11_seen_23 rfl (ea_bn (Or.inl rfl))
theorem dX11_clock_0 : decode cX11_clock 0 = .ok (.aload_n 0, 1) := by decide +kernel
theorem dX11_clock_1 : decode cX11_clock 1 = .ok (.getfield 19, 3) := by decide +kernel
theorem dX11_clock_4 : decode cX11_clock 4 = .ok (.iload_n 1, 1) := by decide +kernel
theorem dX11_clock_5 : decode cX11_clock 5 = .ok (.invokevirtual 103, 3) := by decide +kernel
theorem dX11_clock_8 : decode cX11_clock 8 = .ok (.ifCond .ne 7, 3) := by decide +kernel
theorem dX11_clock_11 : decode cX11_clock 11 = .ok (.sipush (-1000), 3) := by decide +kernel
theorem dX11_clock_14 : decode cX11_clock 14 = .ok (.ireturn, 1) := by decide +kernel
theorem dX11_clock_15 : decode cX11_clock 15 = .ok (.iload_n 2, 1) := by decide +kernel
theorem dX11_clock_16 : decode cX11_clock 16 = .ok (.tableswitch 58 0 2 #[28, 38, 48], 28) := by decide +kernel
theorem dX11_clock_44 : decode cX11_clock 44 = .ok (.aload_n 0, 1) := by decide +kernel
theorem dX11_clock_45 : decode cX11_clock 45 = .ok (.getfield 66, 3) := by decide +kernel
theorem dX11_clock_48 : decode cX11_clock 48 = .ok (.iload_n 1, 1) := by decide +kernel
theorem dX11_clock_49 : decode cX11_clock 49 = .ok (.aaload, 1) := by decide +kernel
theorem dX11_clock_50 : decode cX11_clock 50 = .ok (.getfield 426, 3) := by decide +kernel
theorem dX11_clock_53 : decode cX11_clock 53 = .ok (.ireturn, 1) := by decide +kernel
theorem dX11_clock_54 : decode cX11_clock 54 = .ok (.aload_n 0, 1) := by decide +kernel
theorem dX11_clock_55 : decode cX11_clock 55 = .ok (.getfield 66, 3) := by decide +kernel
theorem dX11_clock_58 : decode cX11_clock 58 = .ok (.iload_n 1, 1) := by decide +kernel
theorem dX11_clock_59 : decode cX11_clock 59 = .ok (.aaload, 1) := by decide +kernel
theorem dX11_clock_60 : decode cX11_clock 60 = .ok (.getfield 429, 3) := by decide +kernel
theorem dX11_clock_63 : decode cX11_clock 63 = .ok (.ireturn, 1) := by decide +kernel
theorem dX11_clock_64 : decode cX11_clock 64 = .ok (.aload_n 0, 1) := by decide +kernel
theorem dX11_clock_65 : decode cX11_clock 65 = .ok (.getfield 66, 3) := by decide +kernel
theorem dX11_clock_68 : decode cX11_clock 68 = .ok (.iload_n 1, 1) := by decide +kernel
theorem dX11_clock_69 : decode cX11_clock 69 = .ok (.aaload, 1) := by decide +kernel
theorem dX11_clock_70 : decode cX11_clock 70 = .ok (.getfield 420, 3) := by decide +kernel
theorem dX11_clock_73 : decode cX11_clock 73 = .ok (.ireturn, 1) := by decide +kernel
theorem dX11_clock_74 : decode cX11_clock 74 = .ok (.sipush (-1000), 3) := by decide +kernel
theorem dX11_clock_77 : decode cX11_clock 77 = .ok (.ireturn, 1) := by decide +kernel
theorem bX11_clock_0 {d : Nat} {h0 hE h : ea_H} {rv : Option ea_V} {r0 : Option Nat} {x1 : Int32} {x2 : Int32} (H : ∃ a3, r0 = some a3 ∧ a3 < ea_n h ∧ ea_c h a3 = 11 ∧ ∃ a11, (ea_r h a3 1) = some a11 ∧ a11 < ea_n h ∧ ea_c h a11 = 9 ∧ ∃ (d5 : Nat) (xc13 : Int32) (h6 : ea_H), ea_Met mX9_has d5 [vR (some a11), vI x1] h (some (vI xc13)) h6 ∧ d5 + 1 ≤ d ∧ (¬ xc13 = (0 : Int32) → (Int32.toInt x2 = 0 → a3 < ea_n h6 ∧ ea_c h6 a3 = 11 ∧ ∃ a18, (ea_r h6 a3 8) = some a18 ∧ a18 < ea_n h6 ∧ ea_c h6 a18 = 24 ∧ vp_in x1 (ea_l h6 a18) ∧ ∃ a23, (ea_r h6 a18 (Int32.toNatClampNeg x1)) = some a23 ∧ a23 < ea_n h6 ∧ ea_c h6 a23 = 2 ∧ rv = some (vI (ea_i h6 a23 1)) ∧ hE = h6) ∧ (Int32.toInt x2 = 1 → a3 < ea_n h6 ∧ ea_c h6 a3 = 11 ∧ ∃ a29, (ea_r h6 a3 8) = some a29 ∧ a29 < ea_n h6 ∧ ea_c h6 a29 = 24 ∧ vp_in x1 (ea_l h6 a29) ∧ ∃ a34, (ea_r h6 a29 (Int32.toNatClampNeg x1)) = some a34 ∧ a34 < ea_n h6 ∧ ea_c h6 a34 = 2 ∧ rv = some (vI (ea_i h6 a34 2)) ∧ hE = h6) ∧ (Int32.toInt x2 = 2 → a3 < ea_n h6 ∧ ea_c h6 a3 = 11 ∧ ∃ a40, (ea_r h6 a3 8) = some a40 ∧ a40 < ea_n h6 ∧ ea_c h6 a40 = 24 ∧ vp_in x1 (ea_l h6 a40) ∧ ∃ a45, (ea_r h6 a40 (Int32.toNatClampNeg x1)) = some a45 ∧ a45 < ea_n h6 ∧ ea_c h6 a45 = 2 ∧ rv = some (vI (ea_i h6 a45 0)) ∧ hE = h6) ∧ (Int32.toInt x2 < 0 ∨ 2 < Int32.toInt x2 → rv = some (vI (-1000)) ∧ hE = h6)) ∧ (xc13 = (0 : Int32) → rv = some (vI (-1000)) ∧ hE = h6)) : ea_W mX11_clock d h0 rv hE 0 [(0, vR r0), (1, vI x1), (2, vI x2)] [] h := by
  refine ea_aload_n (pc := 0) dX11_clock_0 rfl 0 rfl ?_
  obtain ⟨a3, e4, f1, g2, H⟩ := H
  refine ea_deref0 e4 ?_
  refine ea_getR (pc := 1) dX11_clock_1 ec_11 (k := 1) (Nat.le_of_ble_eq_true rfl) rfl (Or.inl ew_438) f1 g2 rfl ?_
  refine ea_iload_n (pc := 4) dX11_clock_4 rfl 1 rfl ?_
  obtain ⟨a11, e12, f9, g10, H⟩ := H
  refine ea_deref1 e12 ?_
  obtain ⟨d5, xc13, h6, m7, q8, H⟩ := H
  refine ea_callV (pc := 5) (As := [vI x1]) (st := []) dX11_clock_5 kX9_has m7 q8 rfl (Nat.le_of_ble_eq_true rfl) ew_518 ew_519 ew_520 (ci := 9) rfl (by decide) f9 g10 ?_
  refine ea_if_ne (pc := 8) (tgt := 15) dX11_clock_8 rfl (fun c47 => ?_) (fun c47 => ?_)
  · have H := H.1 c47
    refine ea_iload_n (pc := 15) dX11_clock_15 rfl 2 rfl ?_
    by_cases qc1 : Int32.toInt x2 = 0
    · have H := H.1 qc1
      refine ea_tswIn (pc := 16) (tgt := 44) dX11_clock_16 (by omega) (by omega) (by rw [qc1]; rfl) rfl ?_
      refine ea_aload_n (pc := 44) dX11_clock_44 rfl 0 rfl ?_
      obtain ⟨f14, g15, H⟩ := H
      refine ea_deref0 e4 ?_
      refine ea_getR (pc := 45) dX11_clock_45 ec_11 (k := 8) (Nat.le_of_ble_eq_true rfl) rfl (Or.inl ew_445) f14 g15 rfl ?_
      refine ea_iload_n (pc := 48) dX11_clock_48 rfl 1 rfl ?_
      obtain ⟨a18, e19, f16, g17, H⟩ := H
      refine ea_deref1 e19 ?_
      obtain ⟨z20, H⟩ := H
      refine ea_aald24 (pc := 49) dX11_clock_49 f16 g17 z20 rfl ?_
      obtain ⟨a23, e24, f21, g22, H⟩ := H
      refine ea_deref0 e24 ?_
      refine ea_getI (pc := 50) dX11_clock_50 ec_2 (k := 1) (Nat.le_of_ble_eq_true rfl) rfl (Or.inl ew_427) f21 g22 ?_
      obtain ⟨rfl, rfl⟩ := H
      exact ea_ireturn (pc := 53) dX11_clock_53 rfl rfl
    by_cases qc2 : Int32.toInt x2 = 1
    · have H := H.2.1 qc2
      refine ea_tswIn (pc := 16) (tgt := 54) dX11_clock_16 (by omega) (by omega) (by rw [qc2]; rfl) rfl ?_
      refine ea_aload_n (pc := 54) dX11_clock_54 rfl 0 rfl ?_
      obtain ⟨f25, g26, H⟩ := H
      refine ea_deref0 e4 ?_
      refine ea_getR (pc := 55) dX11_clock_55 ec_11 (k := 8) (Nat.le_of_ble_eq_true rfl) rfl (Or.inl ew_445) f25 g26 rfl ?_
      refine ea_iload_n (pc := 58) dX11_clock_58 rfl 1 rfl ?_
      obtain ⟨a29, e30, f27, g28, H⟩ := H
      refine ea_deref1 e30 ?_
      obtain ⟨z31, H⟩ := H
      refine ea_aald24 (pc := 59) dX11_clock_59 f27 g28 z31 rfl ?_
      obtain ⟨a34, e35, f32, g33, H⟩ := H
      refine ea_deref0 e35 ?_
      refine ea_getI (pc := 60) dX11_clock_60 ec_2 (k := 2) (Nat.le_of_ble_eq_true rfl) rfl (Or.inl ew_429) f32 g33 ?_
      obtain ⟨rfl, rfl⟩ := H
      exact ea_ireturn (pc := 63) dX11_clock_63 rfl rfl
    by_cases qc3 : Int32.toInt x2 = 2
    · have H := H.2.2.1 qc3
      refine ea_tswIn (pc := 16) (tgt := 64) dX11_clock_16 (by omega) (by omega) (by rw [qc3]; rfl) rfl ?_
      refine ea_aload_n (pc := 64) dX11_clock_64 rfl 0 rfl ?_
      obtain ⟨f36, g37, H⟩ := H
      refine ea_deref0 e4 ?_
      refine ea_getR (pc := 65) dX11_clock_65 ec_11 (k := 8) (Nat.le_of_ble_eq_true rfl) rfl (Or.inl ew_445) f36 g37 rfl ?_
      refine ea_iload_n (pc := 68) dX11_clock_68 rfl 1 rfl ?_
      obtain ⟨a40, e41, f38, g39, H⟩ := H
      refine ea_deref1 e41 ?_
      obtain ⟨z42, H⟩ := H
      refine ea_aald24 (pc := 69) dX11_clock_69 f38 g39 z42 rfl ?_
      obtain ⟨a45, e46, f43, g44, H⟩ := H
      refine ea_deref0 e46 ?_
      refine ea_getI (pc := 70) dX11_clock_70 ec_2 (k := 0) (Nat.le_of_ble_eq_true rfl) rfl (Or.inl ew_425) f43 g44 ?_
      obtain ⟨rfl, rfl⟩ := H
      exact ea_ireturn (pc := 73) dX11_clock_73 rfl rfl
    have qd : Int32.toInt x2 < 0 ∨ 2 < Int32.toInt x2 := by omega
    have H := H.2.2.2 qd
    refine ea_tswOut (pc := 16) (tgt := 74) dX11_clock_16 qd rfl ?_
    refine ea_sipush (pc := 74) dX11_clock_74 (v := (-1000)) rfl ?_
    obtain ⟨rfl, rfl⟩ := H
    exact ea_ireturn (pc := 77) dX11_clock_77 rfl rfl
  · have H := H.2 c47
    refine ea_sipush (pc := 11) dX11_clock_11 (v := (-1000)) rfl ?_
    obtain ⟨rfl, rfl⟩ := H
    exact ea_ireturn (pc := 14) dX11_clock_14 rfl rfl
theorem dX11_trueMinute_0 : decode cX11_trueMinute 0 = .ok (.aload_n 0, 1) := by decide +kernel
theorem dX11_trueMinute_1 : decode cX11_trueMinute 1 = .ok (.getfield 19, 3) := by decide +kernel
theorem dX11_trueMinute_4 : decode cX11_trueMinute 4 = .ok (.iload_n 1, 1) := by decide +kernel
theorem dX11_trueMinute_5 : decode cX11_trueMinute 5 = .ok (.invokevirtual 103, 3) := by decide +kernel
theorem dX11_trueMinute_8 : decode cX11_trueMinute 8 = .ok (.ifCond .eq 14, 3) := by decide +kernel
theorem dX11_trueMinute_11 : decode cX11_trueMinute 11 = .ok (.iload_n 2, 1) := by decide +kernel
theorem dX11_trueMinute_12 : decode cX11_trueMinute 12 = .ok (.ifCond .lt 10, 3) := by decide +kernel
theorem dX11_trueMinute_15 : decode cX11_trueMinute 15 = .ok (.iload_n 2, 1) := by decide +kernel
theorem dX11_trueMinute_16 : decode cX11_trueMinute 16 = .ok (.sipush 10079, 3) := by decide +kernel
theorem dX11_trueMinute_19 : decode cX11_trueMinute 19 = .ok (.if_icmp .le 5, 3) := by decide +kernel
theorem dX11_trueMinute_22 : decode cX11_trueMinute 22 = .ok (.iconst (-1), 1) := by decide +kernel
theorem dX11_trueMinute_23 : decode cX11_trueMinute 23 = .ok (.ireturn, 1) := by decide +kernel
theorem dX11_trueMinute_24 : decode cX11_trueMinute 24 = .ok (.iload_n 3, 1) := by decide +kernel
theorem dX11_trueMinute_25 : decode cX11_trueMinute 25 = .ok (.lookupswitch 49 #[(0, 27), (1, 38)], 27) := by decide +kernel
theorem dX11_trueMinute_52 : decode cX11_trueMinute 52 = .ok (.aload_n 0, 1) := by decide +kernel
theorem dX11_trueMinute_53 : decode cX11_trueMinute 53 = .ok (.getfield 66, 3) := by decide +kernel
theorem dX11_trueMinute_56 : decode cX11_trueMinute 56 = .ok (.iload_n 1, 1) := by decide +kernel
theorem dX11_trueMinute_57 : decode cX11_trueMinute 57 = .ok (.aaload, 1) := by decide +kernel
theorem dX11_trueMinute_58 : decode cX11_trueMinute 58 = .ok (.iload_n 2, 1) := by decide +kernel
theorem dX11_trueMinute_59 : decode cX11_trueMinute 59 = .ok (.invokevirtual 432, 3) := by decide +kernel
theorem dX11_trueMinute_62 : decode cX11_trueMinute 62 = .ok (.ireturn, 1) := by decide +kernel
theorem dX11_trueMinute_63 : decode cX11_trueMinute 63 = .ok (.aload_n 0, 1) := by decide +kernel
theorem dX11_trueMinute_64 : decode cX11_trueMinute 64 = .ok (.getfield 66, 3) := by decide +kernel
theorem dX11_trueMinute_67 : decode cX11_trueMinute 67 = .ok (.iload_n 1, 1) := by decide +kernel
theorem dX11_trueMinute_68 : decode cX11_trueMinute 68 = .ok (.aaload, 1) := by decide +kernel
theorem dX11_trueMinute_69 : decode cX11_trueMinute 69 = .ok (.iload_n 2, 1) := by decide +kernel
theorem dX11_trueMinute_70 : decode cX11_trueMinute 70 = .ok (.invokevirtual 435, 3) := by decide +kernel
theorem dX11_trueMinute_73 : decode cX11_trueMinute 73 = .ok (.ireturn, 1) := by decide +kernel
theorem dX11_trueMinute_74 : decode cX11_trueMinute 74 = .ok (.iconst (-1), 1) := by decide +kernel
theorem dX11_trueMinute_75 : decode cX11_trueMinute 75 = .ok (.ireturn, 1) := by decide +kernel
theorem bX11_trueMinute_0 {d : Nat} {h0 hE h : ea_H} {rv : Option ea_V} {r0 : Option Nat} {x1 : Int32} {x2 : Int32} {x3 : Int32} (H : ∃ a3, r0 = some a3 ∧ a3 < ea_n h ∧ ea_c h a3 = 11 ∧ ∃ a11, (ea_r h a3 1) = some a11 ∧ a11 < ea_n h ∧ ea_c h a11 = 9 ∧ ∃ (d5 : Nat) (xc13 : Int32) (h6 : ea_H), ea_Met mX9_has d5 [vR (some a11), vI x1] h (some (vI xc13)) h6 ∧ d5 + 1 ≤ d ∧ (xc13 = (0 : Int32) → rv = some (vI (-1)) ∧ hE = h6) ∧ (¬ xc13 = (0 : Int32) → (x2 < (0 : Int32) → rv = some (vI (-1)) ∧ hE = h6) ∧ (¬ x2 < (0 : Int32) → (x2 ≤ (10079 : Int32) → False) ∧ (¬ x2 ≤ (10079 : Int32) → rv = some (vI (-1)) ∧ hE = h6)))) : ea_W mX11_trueMinute d h0 rv hE 0 [(0, vR r0), (1, vI x1), (2, vI x2), (3, vI x3)] [] h := by
  refine ea_aload_n (pc := 0) dX11_trueMinute_0 rfl 0 rfl ?_
  obtain ⟨a3, e4, f1, g2, H⟩ := H
  refine ea_deref0 e4 ?_
  refine ea_getR (pc := 1) dX11_trueMinute_1 ec_11 (k := 1) (Nat.le_of_ble_eq_true rfl) rfl (Or.inl ew_438) f1 g2 rfl ?_
  refine ea_iload_n (pc := 4) dX11_trueMinute_4 rfl 1 rfl ?_
  obtain ⟨a11, e12, f9, g10, H⟩ := H
  refine ea_deref1 e12 ?_
  obtain ⟨d5, xc13, h6, m7, q8, H⟩ := H
  refine ea_callV (pc := 5) (As := [vI x1]) (st := []) dX11_trueMinute_5 kX9_has m7 q8 rfl (Nat.le_of_ble_eq_true rfl) ew_518 ew_519 ew_520 (ci := 9) rfl (by decide) f9 g10 ?_
  refine ea_if_eq (pc := 8) (tgt := 22) dX11_trueMinute_8 rfl (fun c16 => ?_) (fun c16 => ?_)
  · have H := H.1 c16
    refine ea_iconst (pc := 22) dX11_trueMinute_22 (v := (-1)) rfl ?_
    obtain ⟨rfl, rfl⟩ := H
    exact ea_ireturn (pc := 23) dX11_trueMinute_23 rfl rfl
  · have H := H.2 c16
    refine ea_iload_n (pc := 11) dX11_trueMinute_11 rfl 2 rfl ?_
    refine ea_if_lt (pc := 12) (tgt := 22) dX11_trueMinute_12 rfl (fun c15 => ?_) (fun c15 => ?_)
    · have H := H.1 c15
      refine ea_iconst (pc := 22) dX11_trueMinute_22 (v := (-1)) rfl ?_
      obtain ⟨rfl, rfl⟩ := H
      exact ea_ireturn (pc := 23) dX11_trueMinute_23 rfl rfl
    · have H := H.2 c15
      refine ea_iload_n (pc := 15) dX11_trueMinute_15 rfl 2 rfl ?_
      refine ea_sipush (pc := 16) dX11_trueMinute_16 (v := 10079) rfl ?_
      refine ea_icmp_le (pc := 19) (tgt := 24) dX11_trueMinute_19 rfl (fun c14 => ?_) (fun c14 => ?_)
      · have H := H.1 c14
        refine ea_iload_n (pc := 24) dX11_trueMinute_24 rfl 3 rfl ?_
        exact H.elim
      · have H := H.2 c14
        refine ea_iconst (pc := 22) dX11_trueMinute_22 (v := (-1)) rfl ?_
        obtain ⟨rfl, rfl⟩ := H
        exact ea_ireturn (pc := 23) dX11_trueMinute_23 rfl rfl
theorem dX11_tried_0 : decode cX11_tried 0 = .ok (.aload_n 0, 1) := by decide +kernel
theorem dX11_tried_1 : decode cX11_tried 1 = .ok (.getfield 42, 3) := by decide +kernel
theorem dX11_tried_4 : decode cX11_tried 4 = .ok (.iload_n 1, 1) := by decide +kernel
theorem dX11_tried_5 : decode cX11_tried 5 = .ok (.invokevirtual 192, 3) := by decide +kernel
theorem dX11_tried_8 : decode cX11_tried 8 = .ok (.astore_n 2, 1) := by decide +kernel
theorem dX11_tried_9 : decode cX11_tried 9 = .ok (.aload_n 2, 1) := by decide +kernel
theorem dX11_tried_10 : decode cX11_tried 10 = .ok (.ifnonnull 7, 3) := by decide +kernel
theorem dX11_tried_13 : decode cX11_tried 13 = .ok (.ldc2_w 375, 3) := by decide +kernel
theorem dX11_tried_16 : decode cX11_tried 16 = .ok (.lreturn, 1) := by decide +kernel
theorem dX11_tried_17 : decode cX11_tried 17 = .ok (.lconst 0, 1) := by decide +kernel
theorem dX11_tried_18 : decode cX11_tried 18 = .ok (.lstore_n 3, 1) := by decide +kernel
theorem dX11_tried_19 : decode cX11_tried 19 = .ok (.iconst 0, 1) := by decide +kernel
theorem dX11_tried_20 : decode cX11_tried 20 = .ok (.istore 5, 2) := by decide +kernel
theorem dX11_tried_22 : decode cX11_tried 22 = .ok (.iload 5, 2) := by decide +kernel
theorem dX11_tried_24 : decode cX11_tried 24 = .ok (.aload_n 0, 1) := by decide +kernel
theorem dX11_tried_25 : decode cX11_tried 25 = .ok (.getfield 57, 3) := by decide +kernel
theorem dX11_tried_28 : decode cX11_tried 28 = .ok (.getfield 154, 3) := by decide +kernel
theorem dX11_tried_31 : decode cX11_tried 31 = .ok (.if_icmp .ge 28, 3) := by decide +kernel
theorem dX11_tried_34 : decode cX11_tried 34 = .ok (.lload_n 3, 1) := by decide +kernel
theorem dX11_tried_35 : decode cX11_tried 35 = .ok (.aload_n 0, 1) := by decide +kernel
theorem dX11_tried_36 : decode cX11_tried 36 = .ok (.getfield 42, 3) := by decide +kernel
theorem dX11_tried_39 : decode cX11_tried 39 = .ok (.aload_n 2, 1) := by decide +kernel
theorem dX11_tried_40 : decode cX11_tried 40 = .ok (.aload_n 0, 1) := by decide +kernel
theorem dX11_tried_41 : decode cX11_tried 41 = .ok (.getfield 48, 3) := by decide +kernel
theorem dX11_tried_44 : decode cX11_tried 44 = .ok (.iload 5, 2) := by decide +kernel
theorem dX11_tried_46 : decode cX11_tried 46 = .ok (.aaload, 1) := by decide +kernel
theorem dX11_tried_47 : decode cX11_tried 47 = .ok (.invokevirtual 438, 3) := by decide +kernel
theorem dX11_tried_50 : decode cX11_tried 50 = .ok (.i2l, 1) := by decide +kernel
theorem dX11_tried_51 : decode cX11_tried 51 = .ok (.ladd, 1) := by decide +kernel
theorem dX11_tried_52 : decode cX11_tried 52 = .ok (.lstore_n 3, 1) := by decide +kernel
theorem dX11_tried_53 : decode cX11_tried 53 = .ok (.iinc 5 1, 3) := by decide +kernel
theorem dX11_tried_56 : decode cX11_tried 56 = .ok (.goto (-34), 3) := by decide +kernel
theorem dX11_tried_59 : decode cX11_tried 59 = .ok (.lload_n 3, 1) := by decide +kernel
theorem dX11_tried_60 : decode cX11_tried 60 = .ok (.lreturn, 1) := by decide +kernel
theorem bX11_tried_0 {d : Nat} {h0 hE h : ea_H} {rv : Option ea_V} {r0 : Option Nat} {x1 : Int32} (H : ∃ a3, r0 = some a3 ∧ a3 < ea_n h ∧ ea_c h a3 = 11 ∧ ∃ a11, (ea_r h a3 4) = some a11 ∧ a11 < ea_n h ∧ ea_c h a11 = 8 ∧ ∃ (d5 : Nat) (rc13 : Option Nat) (h6 : ea_H), ea_Met mX8_actOf d5 [vR (some a11), vI x1] h (some (vR rc13)) h6 ∧ d5 + 1 ≤ d ∧ (∀ a14, rc13 = some a14 → ea_W mX11_tried d h0 rv hE 22 [(0, vR r0), (2, vR rc13), (3, vJ 0), (5, vI 0)] [] h6) ∧ (rc13 = none → rv = some (vJ (-1)) ∧ hE = h6)) : ea_W mX11_tried d h0 rv hE 0 [(0, vR r0), (1, vI x1)] [] h := by
  refine ea_aload_n (pc := 0) dX11_tried_0 rfl 0 rfl ?_
  obtain ⟨a3, e4, f1, g2, H⟩ := H
  refine ea_deref0 e4 ?_
  refine ea_getR (pc := 1) dX11_tried_1 ec_11 (k := 4) (Nat.le_of_ble_eq_true rfl) rfl (Or.inl ew_441) f1 g2 rfl ?_
  refine ea_iload_n (pc := 4) dX11_tried_4 rfl 1 rfl ?_
  obtain ⟨a11, e12, f9, g10, H⟩ := H
  refine ea_deref1 e12 ?_
  obtain ⟨d5, rc13, h6, m7, q8, H⟩ := H
  refine ea_callV (pc := 5) (As := [vI x1]) (st := []) dX11_tried_5 kX8_actOf m7 q8 rfl (Nat.le_of_ble_eq_true rfl) ew_920 ew_921 ew_922 (ci := 8) rfl (by decide) f9 g10 ?_
  refine ea_astore_n (pc := 8) (lv' := [(0, vR r0), (2, vR rc13)]) dX11_tried_8 rfl (Nat.le_of_ble_eq_true rfl) [1, 0] rfl ?_
  refine ea_aload_n (pc := 9) dX11_tried_9 rfl 1 rfl ?_
  refine ea_ifnonnull (pc := 10) (tgt := 17) dX11_tried_10 rfl (fun a14 e15 => ?_) (fun e15 => ?_)
  · have H := H.1 a14 e15
    refine ea_lconst (pc := 17) dX11_tried_17 (v := 0) rfl ?_
    refine ea_lstore_n (pc := 18) (lv' := [(0, vR r0), (2, vR rc13), (3, vJ 0)]) dX11_tried_18 rfl (Nat.le_of_ble_eq_true rfl) [1, 2, 0] rfl ?_
    refine ea_iconst (pc := 19) dX11_tried_19 (v := 0) rfl ?_
    refine ea_istore (pc := 20) (lv' := [(0, vR r0), (2, vR rc13), (3, vJ 0), (5, vI 0)]) dX11_tried_20 (Nat.le_of_ble_eq_true rfl) [1, 2, 3, 0] rfl ?_
    exact H
  · have H := H.2 e15
    refine ea_ldc2 (pc := 13) dX11_tried_13 ew_1206 ?_
    obtain ⟨rfl, rfl⟩ := H
    exact ea_lreturn (pc := 16) dX11_tried_16 rfl
theorem bX11_tried_22 {d : Nat} {h0 hE h : ea_H} {rv : Option ea_V} {r0 : Option Nat} {r2 : Option Nat} {y3 : Int64} {x5 : Int32} (H : ∃ a3, r0 = some a3 ∧ a3 < ea_n h ∧ ea_c h a3 = 11 ∧ ∃ a7, (ea_r h a3 6) = some a7 ∧ a7 < ea_n h ∧ ea_c h a7 = 1 ∧ ((ea_i h a7 0) ≤ x5 → rv = some (vJ y3) ∧ hE = h) ∧ (¬ (ea_i h a7 0) ≤ x5 → a3 < ea_n h ∧ ea_c h a3 = 11 ∧ a3 < ea_n h ∧ ea_c h a3 = 11 ∧ ∃ a15, (ea_r h a3 5) = some a15 ∧ a15 < ea_n h ∧ ea_c h a15 = 23 ∧ vp_in x5 (ea_l h a15) ∧ ∃ a24, (ea_r h a3 4) = some a24 ∧ a24 < ea_n h ∧ ea_c h a24 = 8 ∧ ∃ (d18 : Nat) (xc26 : Int32) (h19 : ea_H), ea_Met mX8_chargeBy d18 [vR (some a24), vR r2, vR (ea_r h a15 (Int32.toNatClampNeg x5))] h (some (vI xc26)) h19 ∧ d18 + 1 ≤ d ∧ ea_W mX11_tried d h0 rv hE 22 [(0, vR r0), (2, vR r2), (3, vJ (y3 + (Int32.toInt64 xc26))), (5, vI (x5 + 1))] [] h19)) : ea_W mX11_tried d h0 rv hE 22 [(0, vR r0), (2, vR r2), (3, vJ y3), (5, vI x5)] [] h := by
  refine ea_iload (pc := 22) dX11_tried_22 3 rfl ?_
  refine ea_aload_n (pc := 24) dX11_tried_24 rfl 0 rfl ?_
  obtain ⟨a3, e4, f1, g2, H⟩ := H
  refine ea_deref0 e4 ?_
  refine ea_getR (pc := 25) dX11_tried_25 ec_11 (k := 6) (Nat.le_of_ble_eq_true rfl) rfl (Or.inl ew_443) f1 g2 rfl ?_
  obtain ⟨a7, e8, f5, g6, H⟩ := H
  refine ea_deref0 e8 ?_
  refine ea_getI (pc := 28) dX11_tried_28 ec_1 (k := 0) (Nat.le_of_ble_eq_true rfl) rfl (Or.inl ew_360) f5 g6 ?_
  refine ea_icmp_ge (pc := 31) (tgt := 59) dX11_tried_31 rfl (fun c27 => ?_) (fun c27 => ?_)
  · have H := H.1 c27
    refine ea_lload_n (pc := 59) dX11_tried_59 rfl 2 rfl ?_
    obtain ⟨rfl, rfl⟩ := H
    exact ea_lreturn (pc := 60) dX11_tried_60 rfl
  · have H := H.2 c27
    refine ea_lload_n (pc := 34) dX11_tried_34 rfl 2 rfl ?_
    refine ea_aload_n (pc := 35) dX11_tried_35 rfl 0 rfl ?_
    obtain ⟨f9, g10, H⟩ := H
    refine ea_deref0 e4 ?_
    refine ea_getR (pc := 36) dX11_tried_36 ec_11 (k := 4) (Nat.le_of_ble_eq_true rfl) rfl (Or.inl ew_441) f9 g10 rfl ?_
    refine ea_aload_n (pc := 39) dX11_tried_39 rfl 1 rfl ?_
    refine ea_aload_n (pc := 40) dX11_tried_40 rfl 0 rfl ?_
    obtain ⟨f11, g12, H⟩ := H
    refine ea_deref0 e4 ?_
    refine ea_getR (pc := 41) dX11_tried_41 ec_11 (k := 5) (Nat.le_of_ble_eq_true rfl) rfl (Or.inl ew_442) f11 g12 rfl ?_
    refine ea_iload (pc := 44) dX11_tried_44 3 rfl ?_
    obtain ⟨a15, e16, f13, g14, H⟩ := H
    refine ea_deref1 e16 ?_
    obtain ⟨z17, H⟩ := H
    refine ea_aald23 (pc := 46) dX11_tried_46 f13 g14 z17 rfl ?_
    obtain ⟨a24, e25, f22, g23, H⟩ := H
    refine ea_deref2 e25 ?_
    obtain ⟨d18, xc26, h19, m20, q21, H⟩ := H
    refine ea_callV (pc := 47) (As := [vR r2, vR (ea_r h a15 (Int32.toNatClampNeg x5))]) (st := [vJ y3]) dX11_tried_47 kX8_chargeBy m20 q21 rfl (Nat.le_of_ble_eq_true rfl) ew_1311 ew_1047 ew_1048 (ci := 8) rfl (by decide) f22 g23 ?_
    refine ea_i2l (pc := 50) dX11_tried_50 ?_
    refine ea_ladd (pc := 51) dX11_tried_51 ?_
    refine ea_lstore_n (pc := 52) (lv' := [(0, vR r0), (2, vR r2), (3, vJ (y3 + (Int32.toInt64 xc26))), (5, vI x5)]) dX11_tried_52 rfl (Nat.le_of_ble_eq_true rfl) [1, 2, 0, 3] rfl ?_
    refine ea_iinc (pc := 53) (v := 1) (lv' := [(0, vR r0), (2, vR r2), (3, vJ (y3 + (Int32.toInt64 xc26))), (5, vI (x5 + 1))]) dX11_tried_53 3 rfl rfl (Nat.le_of_ble_eq_true rfl) [1, 2, 3, 0] rfl ?_
    refine ea_goto (pc := 56) (tgt := 22) dX11_tried_56 rfl ?_
    exact H
theorem dX11_whatIf_0 : decode cX11_whatIf 0 = .ok (.iload_n 1, 1) := by decide +kernel
theorem dX11_whatIf_1 : decode cX11_whatIf 1 = .ok (.iconst (-1), 1) := by decide +kernel
theorem dX11_whatIf_2 : decode cX11_whatIf 2 = .ok (.if_icmp .ne 8, 3) := by decide +kernel
theorem dX11_whatIf_5 : decode cX11_whatIf 5 = .ok (.aload_n 0, 1) := by decide +kernel
theorem dX11_whatIf_6 : decode cX11_whatIf 6 = .ok (.invokevirtual 442, 3) := by decide +kernel
theorem dX11_whatIf_9 : decode cX11_whatIf 9 = .ok (.ireturn, 1) := by decide +kernel
theorem dX11_whatIf_10 : decode cX11_whatIf 10 = .ok (.aload_n 0, 1) := by decide +kernel
theorem dX11_whatIf_11 : decode cX11_whatIf 11 = .ok (.iload_n 1, 1) := by decide +kernel
theorem dX11_whatIf_12 : decode cX11_whatIf 12 = .ok (.iload_n 2, 1) := by decide +kernel
theorem dX11_whatIf_13 : decode cX11_whatIf 13 = .ok (.iload_n 3, 1) := by decide +kernel
theorem dX11_whatIf_14 : decode cX11_whatIf 14 = .ok (.invokevirtual 128, 3) := by decide +kernel
theorem dX11_whatIf_17 : decode cX11_whatIf 17 = .ok (.ifCond .ne 5, 3) := by decide +kernel
theorem dX11_whatIf_20 : decode cX11_whatIf 20 = .ok (.iconst (-1), 1) := by decide +kernel
theorem dX11_whatIf_21 : decode cX11_whatIf 21 = .ok (.ireturn, 1) := by decide +kernel
theorem dX11_whatIf_22 : decode cX11_whatIf 22 = .ok (.bipush 10, 2) := by decide +kernel
theorem dX11_whatIf_24 : decode cX11_whatIf 24 = .ok (.iload_n 2, 1) := by decide +kernel
theorem dX11_whatIf_25 : decode cX11_whatIf 25 = .ok (.imul, 1) := by decide +kernel
theorem dX11_whatIf_26 : decode cX11_whatIf 26 = .ok (.iload_n 1, 1) := by decide +kernel
theorem dX11_whatIf_27 : decode cX11_whatIf 27 = .ok (.iadd, 1) := by decide +kernel
theorem dX11_whatIf_28 : decode cX11_whatIf 28 = .ok (.istore 4, 2) := by decide +kernel
theorem dX11_whatIf_30 : decode cX11_whatIf 30 = .ok (.aload_n 0, 1) := by decide +kernel
theorem dX11_whatIf_31 : decode cX11_whatIf 31 = .ok (.getfield 19, 3) := by decide +kernel
theorem dX11_whatIf_34 : decode cX11_whatIf 34 = .ok (.getfield 132, 3) := by decide +kernel
theorem dX11_whatIf_37 : decode cX11_whatIf 37 = .ok (.iload 4, 2) := by decide +kernel
theorem dX11_whatIf_39 : decode cX11_whatIf 39 = .ok (.iaload, 1) := by decide +kernel
theorem dX11_whatIf_40 : decode cX11_whatIf 40 = .ok (.istore 5, 2) := by decide +kernel
theorem dX11_whatIf_42 : decode cX11_whatIf 42 = .ok (.aload_n 0, 1) := by decide +kernel
theorem dX11_whatIf_43 : decode cX11_whatIf 43 = .ok (.getfield 19, 3) := by decide +kernel
theorem dX11_whatIf_46 : decode cX11_whatIf 46 = .ok (.getfield 132, 3) := by decide +kernel
theorem dX11_whatIf_49 : decode cX11_whatIf 49 = .ok (.iload 4, 2) := by decide +kernel
theorem dX11_whatIf_51 : decode cX11_whatIf 51 = .ok (.iload_n 3, 1) := by decide +kernel
theorem dX11_whatIf_52 : decode cX11_whatIf 52 = .ok (.iastore, 1) := by decide +kernel
theorem dX11_whatIf_53 : decode cX11_whatIf 53 = .ok (.aload_n 0, 1) := by decide +kernel
theorem dX11_whatIf_54 : decode cX11_whatIf 54 = .ok (.getfield 28, 3) := by decide +kernel
theorem dX11_whatIf_57 : decode cX11_whatIf 57 = .ok (.iconst 0, 1) := by decide +kernel
theorem dX11_whatIf_58 : decode cX11_whatIf 58 = .ok (.putfield 445, 3) := by decide +kernel
theorem dX11_whatIf_61 : decode cX11_whatIf 61 = .ok (.aload_n 0, 1) := by decide +kernel
theorem dX11_whatIf_62 : decode cX11_whatIf 62 = .ok (.invokevirtual 442, 3) := by decide +kernel
theorem dX11_whatIf_65 : decode cX11_whatIf 65 = .ok (.istore 6, 2) := by decide +kernel
theorem dX11_whatIf_67 : decode cX11_whatIf 67 = .ok (.aload_n 0, 1) := by decide +kernel
theorem dX11_whatIf_68 : decode cX11_whatIf 68 = .ok (.getfield 19, 3) := by decide +kernel
theorem dX11_whatIf_71 : decode cX11_whatIf 71 = .ok (.getfield 132, 3) := by decide +kernel
theorem dX11_whatIf_74 : decode cX11_whatIf 74 = .ok (.iload 4, 2) := by decide +kernel
theorem dX11_whatIf_76 : decode cX11_whatIf 76 = .ok (.iload 5, 2) := by decide +kernel
theorem dX11_whatIf_78 : decode cX11_whatIf 78 = .ok (.iastore, 1) := by decide +kernel
theorem dX11_whatIf_79 : decode cX11_whatIf 79 = .ok (.aload_n 0, 1) := by decide +kernel
theorem dX11_whatIf_80 : decode cX11_whatIf 80 = .ok (.getfield 28, 3) := by decide +kernel
theorem dX11_whatIf_83 : decode cX11_whatIf 83 = .ok (.iconst 0, 1) := by decide +kernel
theorem dX11_whatIf_84 : decode cX11_whatIf 84 = .ok (.putfield 445, 3) := by decide +kernel
theorem dX11_whatIf_87 : decode cX11_whatIf 87 = .ok (.iload 6, 2) := by decide +kernel
theorem dX11_whatIf_89 : decode cX11_whatIf 89 = .ok (.ireturn, 1) := by decide +kernel
theorem bX11_whatIf_0 {d : Nat} {h0 hE h : ea_H} {rv : Option ea_V} {r0 : Option Nat} {x1 : Int32} {x2 : Int32} {x3 : Int32} (H : (¬ x1 = ((-1) : Int32) → ∃ a7, r0 = some a7 ∧ a7 < ea_n h ∧ ea_c h a7 = 11 ∧ ∃ (d1 : Nat) (xc9 : Int32) (h2 : ea_H), ea_Met mX11_mayBeTold d1 [vR (some a7), vI x1, vI x2, vI x3] h (some (vI xc9)) h2 ∧ d1 + 1 ≤ d ∧ (¬ xc9 = (0 : Int32) → a7 < ea_n h2 ∧ ea_c h2 a7 = 11 ∧ ∃ a14, (ea_r h2 a7 1) = some a14 ∧ a14 < ea_n h2 ∧ ea_c h2 a14 = 9 ∧ ∃ a18, (ea_r h2 a14 6) = some a18 ∧ a18 < ea_n h2 ∧ ea_c h2 a18 = 20 ∧ vp_in (((10 : Int32) * x2) + x1) (ea_l h2 a18) ∧ a7 < ea_n h2 ∧ ea_c h2 a7 = 11 ∧ a14 < ea_n h2 ∧ ea_c h2 a14 = 9 ∧ a18 < ea_n h2 ∧ ea_c h2 a18 = 20 ∧ vp_in (((10 : Int32) * x2) + x1) (ea_l h2 a18) ∧ ∀ h28, h28 = ea_wi h2 a18 (Int32.toNatClampNeg (((10 : Int32) * x2) + x1)) x3 → a7 < ea_n h28 ∧ ea_c h28 a7 = 11 ∧ ∃ a34, (ea_r h28 a7 2) = some a34 ∧ a34 < ea_n h28 ∧ ea_c h28 a34 = 10 ∧ ∀ h36, h36 = ea_wi h28 a34 0 0 → a7 < ea_n h36 ∧ ea_c h36 a7 = 11 ∧ ∃ (d38 : Nat) (xc44 : Int32) (h39 : ea_H), ea_Met mX11_outcome d38 [vR (some a7)] h36 (some (vI xc44)) h39 ∧ d38 + 1 ≤ d ∧ a7 < ea_n h39 ∧ ea_c h39 a7 = 11 ∧ ∃ a49, (ea_r h39 a7 1) = some a49 ∧ a49 < ea_n h39 ∧ ea_c h39 a49 = 9 ∧ ∃ a53, (ea_r h39 a49 6) = some a53 ∧ a53 < ea_n h39 ∧ ea_c h39 a53 = 20 ∧ vp_in (((10 : Int32) * x2) + x1) (ea_l h39 a53) ∧ ∀ h56, h56 = ea_wi h39 a53 (Int32.toNatClampNeg (((10 : Int32) * x2) + x1)) (ea_i h2 a18 (Int32.toNatClampNeg (((10 : Int32) * x2) + x1))) → a7 < ea_n h56 ∧ ea_c h56 a7 = 11 ∧ ∃ a62, (ea_r h56 a7 2) = some a62 ∧ a62 < ea_n h56 ∧ ea_c h56 a62 = 10 ∧ ∀ h64, h64 = ea_wi h56 a62 0 0 → rv = some (vI xc44) ∧ hE = h64) ∧ (xc9 = (0 : Int32) → rv = some (vI (-1)) ∧ hE = h2)) ∧ (x1 = ((-1) : Int32) → ∃ a73, r0 = some a73 ∧ a73 < ea_n h ∧ ea_c h a73 = 11 ∧ ∃ (d67 : Nat) (xc75 : Int32) (h68 : ea_H), ea_Met mX11_outcome d67 [vR (some a73)] h (some (vI xc75)) h68 ∧ d67 + 1 ≤ d ∧ rv = some (vI xc75) ∧ hE = h68)) : ea_W mX11_whatIf d h0 rv hE 0 [(0, vR r0), (1, vI x1), (2, vI x2), (3, vI x3)] [] h := by
  refine ea_iload_n (pc := 0) dX11_whatIf_0 rfl 1 rfl ?_
  refine ea_iconst (pc := 1) dX11_whatIf_1 (v := (-1)) rfl ?_
  refine ea_icmp_ne (pc := 2) (tgt := 10) dX11_whatIf_2 rfl (fun c76 => ?_) (fun c76 => ?_)
  · have H := H.1 c76
    refine ea_aload_n (pc := 10) dX11_whatIf_10 rfl 0 rfl ?_
    refine ea_iload_n (pc := 11) dX11_whatIf_11 rfl 1 rfl ?_
    refine ea_iload_n (pc := 12) dX11_whatIf_12 rfl 2 rfl ?_
    refine ea_iload_n (pc := 13) dX11_whatIf_13 rfl 3 rfl ?_
    obtain ⟨a7, e8, f5, g6, H⟩ := H
    refine ea_deref3 e8 ?_
    obtain ⟨d1, xc9, h2, m3, q4, H⟩ := H
    refine ea_callV (pc := 14) (As := [vI x1, vI x2, vI x3]) (st := []) dX11_whatIf_14 kX11_mayBeTold m3 q4 rfl (Nat.le_of_ble_eq_true rfl) ew_538 ew_540 ew_2 (ci := 11) rfl (by decide) f5 g6 ?_
    refine ea_if_ne (pc := 17) (tgt := 22) dX11_whatIf_17 rfl (fun c66 => ?_) (fun c66 => ?_)
    · have H := H.1 c66
      refine ea_bipush (pc := 22) dX11_whatIf_22 (v := 10) rfl ?_
      refine ea_iload_n (pc := 24) dX11_whatIf_24 rfl 2 rfl ?_
      refine ea_imul (pc := 25) dX11_whatIf_25 ?_
      refine ea_iload_n (pc := 26) dX11_whatIf_26 rfl 1 rfl ?_
      refine ea_iadd (pc := 27) dX11_whatIf_27 ?_
      refine ea_istore (pc := 28) (lv' := [(0, vR r0), (3, vI x3), (4, vI (((10 : Int32) * x2) + x1))]) dX11_whatIf_28 (Nat.le_of_ble_eq_true rfl) [1, 4, 0] rfl ?_
      refine ea_aload_n (pc := 30) dX11_whatIf_30 rfl 0 rfl ?_
      obtain ⟨f10, g11, H⟩ := H
      refine ea_deref0 e8 ?_
      refine ea_getR (pc := 31) dX11_whatIf_31 ec_11 (k := 1) (Nat.le_of_ble_eq_true rfl) rfl (Or.inl ew_438) f10 g11 rfl ?_
      obtain ⟨a14, e15, f12, g13, H⟩ := H
      refine ea_deref0 e15 ?_
      refine ea_getR (pc := 34) dX11_whatIf_34 ec_9 (k := 6) (Nat.le_of_ble_eq_true rfl) rfl (Or.inl ew_197) f12 g13 rfl ?_
      refine ea_iload (pc := 37) dX11_whatIf_37 2 rfl ?_
      obtain ⟨a18, e19, f16, g17, H⟩ := H
      refine ea_deref1 e19 ?_
      obtain ⟨z20, H⟩ := H
      refine ea_iald (pc := 39) dX11_whatIf_39 f16 g17 z20 ?_
      refine ea_istore (pc := 40) (lv' := [(0, vR r0), (3, vI x3), (4, vI (((10 : Int32) * x2) + x1)), (5, vI (ea_i h2 a18 (Int32.toNatClampNeg (((10 : Int32) * x2) + x1))))]) dX11_whatIf_40 (Nat.le_of_ble_eq_true rfl) [1, 2, 3, 0] rfl ?_
      refine ea_aload_n (pc := 42) dX11_whatIf_42 rfl 0 rfl ?_
      obtain ⟨f21, g22, H⟩ := H
      refine ea_deref0 e8 ?_
      refine ea_getR (pc := 43) dX11_whatIf_43 ec_11 (k := 1) (Nat.le_of_ble_eq_true rfl) rfl (Or.inl ew_438) f21 g22 rfl ?_
      obtain ⟨f23, g24, H⟩ := H
      refine ea_deref0 e15 ?_
      refine ea_getR (pc := 46) dX11_whatIf_46 ec_9 (k := 6) (Nat.le_of_ble_eq_true rfl) rfl (Or.inl ew_197) f23 g24 rfl ?_
      refine ea_iload (pc := 49) dX11_whatIf_49 2 rfl ?_
      refine ea_iload_n (pc := 51) dX11_whatIf_51 rfl 1 rfl ?_
      obtain ⟨f25, g26, H⟩ := H
      refine ea_deref2 e19 ?_
      obtain ⟨z27, H⟩ := H
      refine ea_iast (pc := 52) dX11_whatIf_52 f25 g26 z27 ?_
      obtain ⟨h28, E29⟩ : ∃ z, z = ea_wi h2 a18 (Int32.toNatClampNeg (((10 : Int32) * x2) + x1)) x3 := ⟨_, rfl⟩
      have H := H h28 E29
      refine ea_nm E29 ?_
      refine ea_aload_n (pc := 53) dX11_whatIf_53 rfl 0 rfl ?_
      obtain ⟨f30, g31, H⟩ := H
      refine ea_deref0 e8 ?_
      refine ea_getR (pc := 54) dX11_whatIf_54 ec_11 (k := 2) (Nat.le_of_ble_eq_true rfl) rfl (Or.inl ew_439) f30 g31 rfl ?_
      refine ea_iconst (pc := 57) dX11_whatIf_57 (v := 0) rfl ?_
      obtain ⟨a34, e35, f32, g33, H⟩ := H
      refine ea_deref1 e35 ?_
      refine ea_putI (pc := 58) dX11_whatIf_58 ec_10 (k := 0) (Nat.le_of_ble_eq_true rfl) rfl (Or.inl ⟨rfl, Or.inl ew_226⟩) (ea_bn (Or.inl rfl)) (ea_bf (Or.inl rfl)) f32 g33 ?_
      obtain ⟨h36, E37⟩ : ∃ z, z = ea_wi h28 a34 0 0 := ⟨_, rfl⟩
      have H := H h36 E37
      refine ea_nm E37 ?_
      refine ea_aload_n (pc := 61) dX11_whatIf_61 rfl 0 rfl ?_
      obtain ⟨f42, g43, H⟩ := H
      refine ea_deref0 e8 ?_
      obtain ⟨d38, xc44, h39, m40, q41, H⟩ := H
      refine ea_callV (pc := 62) (As := []) (st := []) dX11_whatIf_62 kX11_outcome m40 q41 rfl (Nat.le_of_ble_eq_true rfl) ew_1316 ew_1318 ew_45 (ci := 11) rfl (by decide) f42 g43 ?_
      refine ea_istore (pc := 65) (lv' := [(0, vR r0), (4, vI (((10 : Int32) * x2) + x1)), (5, vI (ea_i h2 a18 (Int32.toNatClampNeg (((10 : Int32) * x2) + x1)))), (6, vI xc44)]) dX11_whatIf_65 (Nat.le_of_ble_eq_true rfl) [1, 3, 4, 0] rfl ?_
      refine ea_aload_n (pc := 67) dX11_whatIf_67 rfl 0 rfl ?_
      obtain ⟨f45, g46, H⟩ := H
      refine ea_deref0 e8 ?_
      refine ea_getR (pc := 68) dX11_whatIf_68 ec_11 (k := 1) (Nat.le_of_ble_eq_true rfl) rfl (Or.inl ew_438) f45 g46 rfl ?_
      obtain ⟨a49, e50, f47, g48, H⟩ := H
      refine ea_deref0 e50 ?_
      refine ea_getR (pc := 71) dX11_whatIf_71 ec_9 (k := 6) (Nat.le_of_ble_eq_true rfl) rfl (Or.inl ew_197) f47 g48 rfl ?_
      refine ea_iload (pc := 74) dX11_whatIf_74 1 rfl ?_
      refine ea_iload (pc := 76) dX11_whatIf_76 2 rfl ?_
      obtain ⟨a53, e54, f51, g52, H⟩ := H
      refine ea_deref2 e54 ?_
      obtain ⟨z55, H⟩ := H
      refine ea_iast (pc := 78) dX11_whatIf_78 f51 g52 z55 ?_
      obtain ⟨h56, E57⟩ : ∃ z, z = ea_wi h39 a53 (Int32.toNatClampNeg (((10 : Int32) * x2) + x1)) (ea_i h2 a18 (Int32.toNatClampNeg (((10 : Int32) * x2) + x1))) := ⟨_, rfl⟩
      have H := H h56 E57
      refine ea_nm E57 ?_
      refine ea_aload_n (pc := 79) dX11_whatIf_79 rfl 0 rfl ?_
      obtain ⟨f58, g59, H⟩ := H
      refine ea_deref0 e8 ?_
      refine ea_getR (pc := 80) dX11_whatIf_80 ec_11 (k := 2) (Nat.le_of_ble_eq_true rfl) rfl (Or.inl ew_439) f58 g59 rfl ?_
      refine ea_iconst (pc := 83) dX11_whatIf_83 (v := 0) rfl ?_
      obtain ⟨a62, e63, f60, g61, H⟩ := H
      refine ea_deref1 e63 ?_
      refine ea_putI (pc := 84) dX11_whatIf_84 ec_10 (k := 0) (Nat.le_of_ble_eq_true rfl) rfl (Or.inl ⟨rfl, Or.inl ew_226⟩) (ea_bn (Or.inl rfl)) (ea_bf (Or.inl rfl)) f60 g61 ?_
      obtain ⟨h64, E65⟩ : ∃ z, z = ea_wi h56 a62 0 0 := ⟨_, rfl⟩
      have H := H h64 E65
      refine ea_nm E65 ?_
      refine ea_iload (pc := 87) dX11_whatIf_87 3 rfl ?_
      obtain ⟨rfl, rfl⟩ := H
      exact ea_ireturn (pc := 89) dX11_whatIf_89 rfl rfl
    · have H := H.2 c66
      refine ea_iconst (pc := 20) dX11_whatIf_20 (v := (-1)) rfl ?_
      obtain ⟨rfl, rfl⟩ := H
      exact ea_ireturn (pc := 21) dX11_whatIf_21 rfl rfl
  · have H := H.2 c76
    refine ea_aload_n (pc := 5) dX11_whatIf_5 rfl 0 rfl ?_
    obtain ⟨a73, e74, f71, g72, H⟩ := H
    refine ea_deref0 e74 ?_
    obtain ⟨d67, xc75, h68, m69, q70, H⟩ := H
    refine ea_callV (pc := 6) (As := []) (st := []) dX11_whatIf_6 kX11_outcome m69 q70 rfl (Nat.le_of_ble_eq_true rfl) ew_1316 ew_1318 ew_45 (ci := 11) rfl (by decide) f71 g72 ?_
    obtain ⟨rfl, rfl⟩ := H
    exact ea_ireturn (pc := 9) dX11_whatIf_9 rfl rfl
theorem dX11_seats_0 : decode cX11_seats 0 = .ok (.aload_n 0, 1) := by decide +kernel
theorem dX11_seats_1 : decode cX11_seats 1 = .ok (.getfield 19, 3) := by decide +kernel
theorem dX11_seats_4 : decode cX11_seats 4 = .ok (.getfield 93, 3) := by decide +kernel
theorem dX11_seats_7 : decode cX11_seats 7 = .ok (.ifCond .eq 13, 3) := by decide +kernel
theorem dX11_seats_10 : decode cX11_seats 10 = .ok (.aload_n 0, 1) := by decide +kernel
theorem dX11_seats_11 : decode cX11_seats 11 = .ok (.getfield 35, 3) := by decide +kernel
theorem dX11_seats_14 : decode cX11_seats 14 = .ok (.getfield 155, 3) := by decide +kernel
theorem dX11_seats_17 : decode cX11_seats 17 = .ok (.ifCond .ne 5, 3) := by decide +kernel
theorem dX11_seats_20 : decode cX11_seats 20 = .ok (.iconst (-1), 1) := by decide +kernel
theorem dX11_seats_21 : decode cX11_seats 21 = .ok (.ireturn, 1) := by decide +kernel
theorem dX11_seats_22 : decode cX11_seats 22 = .ok (.iload_n 1, 1) := by decide +kernel
theorem dX11_seats_23 : decode cX11_seats 23 = .ok (.ifCond .eq 28, 3) := by decide +kernel
theorem dX11_seats_26 : decode cX11_seats 26 = .ok (.iload_n 1, 1) := by decide +kernel
theorem dX11_seats_27 : decode cX11_seats 27 = .ok (.bipush 10, 2) := by decide +kernel
theorem dX11_seats_29 : decode cX11_seats 29 = .ok (.if_icmp .eq 22, 3) := by decide +kernel
theorem dX11_seats_32 : decode cX11_seats 32 = .ok (.iload_n 1, 1) := by decide +kernel
theorem dX11_seats_33 : decode cX11_seats 33 = .ok (.bipush 11, 2) := by decide +kernel
theorem dX11_seats_35 : decode cX11_seats 35 = .ok (.if_icmp .ne 14, 3) := by decide +kernel
theorem dX11_seats_38 : decode cX11_seats 38 = .ok (.aload_n 0, 1) := by decide +kernel
theorem dX11_seats_39 : decode cX11_seats 39 = .ok (.getfield 35, 3) := by decide +kernel
theorem dX11_seats_42 : decode cX11_seats 42 = .ok (.getfield 155, 3) := by decide +kernel
theorem dX11_seats_45 : decode cX11_seats 45 = .ok (.iconst 2, 1) := by decide +kernel
theorem dX11_seats_46 : decode cX11_seats 46 = .ok (.if_icmp .ge 5, 3) := by decide +kernel
theorem dX11_seats_49 : decode cX11_seats 49 = .ok (.iconst (-1), 1) := by decide +kernel
theorem dX11_seats_50 : decode cX11_seats 50 = .ok (.ireturn, 1) := by decide +kernel
theorem dX11_seats_51 : decode cX11_seats 51 = .ok (.aload_n 0, 1) := by decide +kernel
theorem dX11_seats_52 : decode cX11_seats 52 = .ok (.getfield 96, 3) := by decide +kernel
theorem dX11_seats_55 : decode cX11_seats 55 = .ok (.ifCond .ne 7, 3) := by decide +kernel
theorem dX11_seats_58 : decode cX11_seats 58 = .ok (.aload_n 0, 1) := by decide +kernel
theorem dX11_seats_59 : decode cX11_seats 59 = .ok (.invokevirtual 448, 3) := by decide +kernel
theorem dX11_seats_62 : decode cX11_seats 62 = .ok (.iload_n 1, 1) := by decide +kernel
theorem dX11_seats_63 : decode cX11_seats 63 = .ok (.ifCond .ne 8, 3) := by decide +kernel
theorem dX11_seats_66 : decode cX11_seats 66 = .ok (.aload_n 0, 1) := by decide +kernel
theorem dX11_seats_67 : decode cX11_seats 67 = .ok (.getfield 451, 3) := by decide +kernel
theorem dX11_seats_70 : decode cX11_seats 70 = .ok (.ireturn, 1) := by decide +kernel
theorem dX11_seats_71 : decode cX11_seats 71 = .ok (.iload_n 1, 1) := by decide +kernel
theorem dX11_seats_72 : decode cX11_seats 72 = .ok (.bipush 10, 2) := by decide +kernel
theorem dX11_seats_74 : decode cX11_seats 74 = .ok (.if_icmp .ne 10, 3) := by decide +kernel
theorem dX11_seats_77 : decode cX11_seats 77 = .ok (.aload_n 0, 1) := by decide +kernel
theorem dX11_seats_78 : decode cX11_seats 78 = .ok (.getfield 454, 3) := by decide +kernel
theorem dX11_seats_81 : decode cX11_seats 81 = .ok (.goto 7, 3) := by decide +kernel
theorem dX11_seats_84 : decode cX11_seats 84 = .ok (.aload_n 0, 1) := by decide +kernel
theorem dX11_seats_85 : decode cX11_seats 85 = .ok (.getfield 457, 3) := by decide +kernel
theorem dX11_seats_88 : decode cX11_seats 88 = .ok (.ireturn, 1) := by decide +kernel
theorem bX11_seats_0 {d : Nat} {h0 hE h : ea_H} {rv : Option ea_V} {r0 : Option Nat} {x1 : Int32} (H : ∃ a3, r0 = some a3 ∧ a3 < ea_n h ∧ ea_c h a3 = 11 ∧ ∃ a7, (ea_r h a3 1) = some a7 ∧ a7 < ea_n h ∧ ea_c h a7 = 9 ∧ ((ea_i h a7 0) = (0 : Int32) → rv = some (vI (-1)) ∧ hE = h) ∧ (¬ (ea_i h a7 0) = (0 : Int32) → a3 < ea_n h ∧ ea_c h a3 = 11 ∧ ∃ a13, (ea_r h a3 3) = some a13 ∧ a13 < ea_n h ∧ ea_c h a13 = 3 ∧ (¬ (ea_i h a13 0) = (0 : Int32) → (x1 = (0 : Int32) → ea_W mX11_seats d h0 rv hE 51 [(0, vR r0), (1, vI x1)] [] h) ∧ (¬ x1 = (0 : Int32) → (x1 = (10 : Int32) → ea_W mX11_seats d h0 rv hE 51 [(0, vR r0), (1, vI x1)] [] h) ∧ (¬ x1 = (10 : Int32) → (¬ x1 = (11 : Int32) → rv = some (vI (-1)) ∧ hE = h) ∧ (x1 = (11 : Int32) → a3 < ea_n h ∧ ea_c h a3 = 11 ∧ a13 < ea_n h ∧ ea_c h a13 = 3 ∧ ((2 : Int32) ≤ (ea_i h a13 0) → ea_W mX11_seats d h0 rv hE 51 [(0, vR r0), (1, vI x1)] [] h) ∧ (¬ (2 : Int32) ≤ (ea_i h a13 0) → rv = some (vI (-1)) ∧ hE = h))))) ∧ ((ea_i h a13 0) = (0 : Int32) → rv = some (vI (-1)) ∧ hE = h))) : ea_W mX11_seats d h0 rv hE 0 [(0, vR r0), (1, vI x1)] [] h := by
  refine ea_aload_n (pc := 0) dX11_seats_0 rfl 0 rfl ?_
  obtain ⟨a3, e4, f1, g2, H⟩ := H
  refine ea_deref0 e4 ?_
  refine ea_getR (pc := 1) dX11_seats_1 ec_11 (k := 1) (Nat.le_of_ble_eq_true rfl) rfl (Or.inl ew_438) f1 g2 rfl ?_
  obtain ⟨a7, e8, f5, g6, H⟩ := H
  refine ea_deref0 e8 ?_
  refine ea_getI (pc := 4) dX11_seats_4 ec_9 (k := 0) (Nat.le_of_ble_eq_true rfl) rfl (Or.inl ew_178) f5 g6 ?_
  refine ea_if_eq (pc := 7) (tgt := 20) dX11_seats_7 rfl (fun c24 => ?_) (fun c24 => ?_)
  · have H := H.1 c24
    refine ea_iconst (pc := 20) dX11_seats_20 (v := (-1)) rfl ?_
    obtain ⟨rfl, rfl⟩ := H
    exact ea_ireturn (pc := 21) dX11_seats_21 rfl rfl
  · have H := H.2 c24
    refine ea_aload_n (pc := 10) dX11_seats_10 rfl 0 rfl ?_
    obtain ⟨f9, g10, H⟩ := H
    refine ea_deref0 e4 ?_
    refine ea_getR (pc := 11) dX11_seats_11 ec_11 (k := 3) (Nat.le_of_ble_eq_true rfl) rfl (Or.inl ew_440) f9 g10 rfl ?_
    obtain ⟨a13, e14, f11, g12, H⟩ := H
    refine ea_deref0 e14 ?_
    refine ea_getI (pc := 14) dX11_seats_14 ec_3 (k := 0) (Nat.le_of_ble_eq_true rfl) rfl (Or.inl ew_262) f11 g12 ?_
    refine ea_if_ne (pc := 17) (tgt := 22) dX11_seats_17 rfl (fun c23 => ?_) (fun c23 => ?_)
    · have H := H.1 c23
      refine ea_iload_n (pc := 22) dX11_seats_22 rfl 1 rfl ?_
      refine ea_if_eq (pc := 23) (tgt := 51) dX11_seats_23 rfl (fun c22 => ?_) (fun c22 => ?_)
      · have H := H.1 c22
        exact H
      · have H := H.2 c22
        refine ea_iload_n (pc := 26) dX11_seats_26 rfl 1 rfl ?_
        refine ea_bipush (pc := 27) dX11_seats_27 (v := 10) rfl ?_
        refine ea_icmp_eq (pc := 29) (tgt := 51) dX11_seats_29 rfl (fun c21 => ?_) (fun c21 => ?_)
        · have H := H.1 c21
          exact H
        · have H := H.2 c21
          refine ea_iload_n (pc := 32) dX11_seats_32 rfl 1 rfl ?_
          refine ea_bipush (pc := 33) dX11_seats_33 (v := 11) rfl ?_
          refine ea_icmp_ne (pc := 35) (tgt := 49) dX11_seats_35 rfl (fun c20 => ?_) (fun c20 => ?_)
          · have H := H.1 c20
            refine ea_iconst (pc := 49) dX11_seats_49 (v := (-1)) rfl ?_
            obtain ⟨rfl, rfl⟩ := H
            exact ea_ireturn (pc := 50) dX11_seats_50 rfl rfl
          · have H := H.2 c20
            refine ea_aload_n (pc := 38) dX11_seats_38 rfl 0 rfl ?_
            obtain ⟨f15, g16, H⟩ := H
            refine ea_deref0 e4 ?_
            refine ea_getR (pc := 39) dX11_seats_39 ec_11 (k := 3) (Nat.le_of_ble_eq_true rfl) rfl (Or.inl ew_440) f15 g16 rfl ?_
            obtain ⟨f17, g18, H⟩ := H
            refine ea_deref0 e14 ?_
            refine ea_getI (pc := 42) dX11_seats_42 ec_3 (k := 0) (Nat.le_of_ble_eq_true rfl) rfl (Or.inl ew_262) f17 g18 ?_
            refine ea_iconst (pc := 45) dX11_seats_45 (v := 2) rfl ?_
            refine ea_icmp_ge (pc := 46) (tgt := 51) dX11_seats_46 rfl (fun c19 => ?_) (fun c19 => ?_)
            · have H := H.1 c19
              exact H
            · have H := H.2 c19
              refine ea_iconst (pc := 49) dX11_seats_49 (v := (-1)) rfl ?_
              obtain ⟨rfl, rfl⟩ := H
              exact ea_ireturn (pc := 50) dX11_seats_50 rfl rfl
    · have H := H.2 c23
      refine ea_iconst (pc := 20) dX11_seats_20 (v := (-1)) rfl ?_
      obtain ⟨rfl, rfl⟩ := H
      exact ea_ireturn (pc := 21) dX11_seats_21 rfl rfl
theorem bX11_seats_51 {d : Nat} {h0 hE h : ea_H} {rv : Option ea_V} {r0 : Option Nat} {x1 : Int32} (H : ∃ a3, r0 = some a3 ∧ a3 < ea_n h ∧ ea_c h a3 = 11 ∧ (¬ (ea_i h a3 12) = (0 : Int32) → ea_W mX11_seats d h0 rv hE 62 [(0, vR r0), (1, vI x1)] [] h) ∧ ((ea_i h a3 12) = (0 : Int32) → a3 < ea_n h ∧ ea_c h a3 = 11 ∧ ∃ (d5 : Nat) (h6 : ea_H), ea_Met mX11_seekSeats d5 [vR (some a3)] h none h6 ∧ d5 + 1 ≤ d ∧ ea_W mX11_seats d h0 rv hE 62 [(0, vR r0), (1, vI x1)] [] h6)) : ea_W mX11_seats d h0 rv hE 51 [(0, vR r0), (1, vI x1)] [] h := by
  refine ea_aload_n (pc := 51) dX11_seats_51 rfl 0 rfl ?_
  obtain ⟨a3, e4, f1, g2, H⟩ := H
  refine ea_deref0 e4 ?_
  refine ea_getI (pc := 52) dX11_seats_52 ec_11 (k := 12) (Nat.le_of_ble_eq_true rfl) rfl (Or.inl ew_449) f1 g2 ?_
  refine ea_if_ne (pc := 55) (tgt := 62) dX11_seats_55 rfl (fun c11 => ?_) (fun c11 => ?_)
  · have H := H.1 c11
    exact H
  · have H := H.2 c11
    refine ea_aload_n (pc := 58) dX11_seats_58 rfl 0 rfl ?_
    obtain ⟨f9, g10, H⟩ := H
    refine ea_deref0 e4 ?_
    obtain ⟨d5, h6, m7, q8, H⟩ := H
    refine ea_callV (pc := 59) (As := []) (st := []) dX11_seats_59 kX11_seekSeats m7 q8 rfl (Nat.le_of_ble_eq_true rfl) ew_1333 ew_1335 ew_46 (ci := 11) rfl (by decide) f9 g10 ?_
    exact H
theorem bX11_seats_62 {d : Nat} {h0 hE h : ea_H} {rv : Option ea_V} {r0 : Option Nat} {x1 : Int32} (H : (¬ x1 = (0 : Int32) → (¬ x1 = (10 : Int32) → ∃ a3, r0 = some a3 ∧ a3 < ea_n h ∧ ea_c h a3 = 11 ∧ rv = some (vI (ea_i h a3 15)) ∧ hE = h) ∧ (x1 = (10 : Int32) → ∃ a7, r0 = some a7 ∧ a7 < ea_n h ∧ ea_c h a7 = 11 ∧ rv = some (vI (ea_i h a7 14)) ∧ hE = h)) ∧ (x1 = (0 : Int32) → ∃ a12, r0 = some a12 ∧ a12 < ea_n h ∧ ea_c h a12 = 11 ∧ rv = some (vI (ea_i h a12 13)) ∧ hE = h)) : ea_W mX11_seats d h0 rv hE 62 [(0, vR r0), (1, vI x1)] [] h := by
  refine ea_iload_n (pc := 62) dX11_seats_62 rfl 1 rfl ?_
  refine ea_if_ne (pc := 63) (tgt := 71) dX11_seats_63 rfl (fun c14 => ?_) (fun c14 => ?_)
  · have H := H.1 c14
    refine ea_iload_n (pc := 71) dX11_seats_71 rfl 1 rfl ?_
    refine ea_bipush (pc := 72) dX11_seats_72 (v := 10) rfl ?_
    refine ea_icmp_ne (pc := 74) (tgt := 84) dX11_seats_74 rfl (fun c9 => ?_) (fun c9 => ?_)
    · have H := H.1 c9
      refine ea_aload_n (pc := 84) dX11_seats_84 rfl 0 rfl ?_
      obtain ⟨a3, e4, f1, g2, H⟩ := H
      refine ea_deref0 e4 ?_
      refine ea_getI (pc := 85) dX11_seats_85 ec_11 (k := 15) (Nat.le_of_ble_eq_true rfl) rfl (Or.inl ew_452) f1 g2 ?_
      obtain ⟨rfl, rfl⟩ := H
      exact ea_ireturn (pc := 88) dX11_seats_88 rfl rfl
    · have H := H.2 c9
      refine ea_aload_n (pc := 77) dX11_seats_77 rfl 0 rfl ?_
      obtain ⟨a7, e8, f5, g6, H⟩ := H
      refine ea_deref0 e8 ?_
      refine ea_getI (pc := 78) dX11_seats_78 ec_11 (k := 14) (Nat.le_of_ble_eq_true rfl) rfl (Or.inl ew_451) f5 g6 ?_
      refine ea_goto (pc := 81) (tgt := 88) dX11_seats_81 rfl ?_
      obtain ⟨rfl, rfl⟩ := H
      exact ea_ireturn (pc := 88) dX11_seats_88 rfl rfl
  · have H := H.2 c14
    refine ea_aload_n (pc := 66) dX11_seats_66 rfl 0 rfl ?_
    obtain ⟨a12, e13, f10, g11, H⟩ := H
    refine ea_deref0 e13 ?_
    refine ea_getI (pc := 67) dX11_seats_67 ec_11 (k := 13) (Nat.le_of_ble_eq_true rfl) rfl (Or.inl ew_450) f10 g11 ?_
    obtain ⟨rfl, rfl⟩ := H
    exact ea_ireturn (pc := 70) dX11_seats_70 rfl rfl
theorem dX11_tableChanged_0 : decode cX11_tableChanged 0 = .ok (.aload_n 0, 1) := by decide +kernel
theorem dX11_tableChanged_1 : decode cX11_tableChanged 1 = .ok (.getfield 28, 3) := by decide +kernel
theorem dX11_tableChanged_4 : decode cX11_tableChanged 4 = .ok (.iconst 0, 1) := by decide +kernel
theorem dX11_tableChanged_5 : decode cX11_tableChanged 5 = .ok (.putfield 445, 3) := by decide +kernel
theorem dX11_tableChanged_8 : decode cX11_tableChanged 8 = .ok (.aload_n 0, 1) := by decide +kernel
theorem dX11_tableChanged_9 : decode cX11_tableChanged 9 = .ok (.iconst 0, 1) := by decide +kernel
theorem dX11_tableChanged_10 : decode cX11_tableChanged 10 = .ok (.putfield 96, 3) := by decide +kernel
theorem dX11_tableChanged_13 : decode cX11_tableChanged 13 = .ok (.return_, 1) := by decide +kernel
theorem bX11_tableChanged_0 {d : Nat} {h0 hE h : ea_H} {rv : Option ea_V} {r0 : Option Nat} (H : ∃ a3, r0 = some a3 ∧ a3 < ea_n h ∧ ea_c h a3 = 11 ∧ ∃ a7, (ea_r h a3 2) = some a7 ∧ a7 < ea_n h ∧ ea_c h a7 = 10 ∧ ∀ h9, h9 = ea_wi h a7 0 0 → a3 < ea_n h9 ∧ ea_c h9 a3 = 11 ∧ ∀ h13, h13 = ea_wi h9 a3 12 0 → rv = none ∧ hE = h13) : ea_W mX11_tableChanged d h0 rv hE 0 [(0, vR r0)] [] h := by
  refine ea_aload_n (pc := 0) dX11_tableChanged_0 rfl 0 rfl ?_
  obtain ⟨a3, e4, f1, g2, H⟩ := H
  refine ea_deref0 e4 ?_
  refine ea_getR (pc := 1) dX11_tableChanged_1 ec_11 (k := 2) (Nat.le_of_ble_eq_true rfl) rfl (Or.inl ew_439) f1 g2 rfl ?_
  refine ea_iconst (pc := 4) dX11_tableChanged_4 (v := 0) rfl ?_
  obtain ⟨a7, e8, f5, g6, H⟩ := H
  refine ea_deref1 e8 ?_
  refine ea_putI (pc := 5) dX11_tableChanged_5 ec_10 (k := 0) (Nat.le_of_ble_eq_true rfl) rfl (Or.inl ⟨rfl, Or.inl ew_226⟩) (ea_bn (Or.inl rfl)) (ea_bf (Or.inl rfl)) f5 g6 ?_
  obtain ⟨h9, E10⟩ : ∃ z, z = ea_wi h a7 0 0 := ⟨_, rfl⟩
  have H := H h9 E10
  refine ea_nm E10 ?_
  refine ea_aload_n (pc := 8) dX11_tableChanged_8 rfl 0 rfl ?_
  refine ea_iconst (pc := 9) dX11_tableChanged_9 (v := 0) rfl ?_
  obtain ⟨f11, g12, H⟩ := H
  refine ea_deref1 e4 ?_
  refine ea_putI (pc := 10) dX11_tableChanged_10 ec_11 (k := 12) (Nat.le_of_ble_eq_true rfl) rfl (Or.inl ⟨rfl, Or.inl ew_449⟩) (ea_bn (Or.inl rfl)) (ea_bf (Or.inl rfl)) f11 g12 ?_
  obtain ⟨h13, E14⟩ : ∃ z, z = ea_wi h9 a3 12 0 := ⟨_, rfl⟩
  have H := H h13 E14
  refine ea_nm E14 ?_
  obtain ⟨rfl, rfl⟩ := H
  exact ea_return (pc := 13) dX11_tableChanged_13 rfl
theorem dX11_mayBeTold_0 : decode cX11_mayBeTold 0 = .ok (.aload_n 0, 1) := by decide +kernel
theorem dX11_mayBeTold_1 : decode cX11_mayBeTold 1 = .ok (.getfield 19, 3) := by decide +kernel
theorem dX11_mayBeTold_4 : decode cX11_mayBeTold 4 = .ok (.iload_n 1, 1) := by decide +kernel
theorem dX11_mayBeTold_5 : decode cX11_mayBeTold 5 = .ok (.iload_n 2, 1) := by decide +kernel
theorem dX11_mayBeTold_6 : decode cX11_mayBeTold 6 = .ok (.invokevirtual 135, 3) := by decide +kernel
theorem dX11_mayBeTold_9 : decode cX11_mayBeTold 9 = .ok (.ifCond .eq 55, 3) := by decide +kernel
theorem dX11_mayBeTold_12 : decode cX11_mayBeTold 12 = .ok (.iload_n 3, 1) := by decide +kernel
theorem dX11_mayBeTold_13 : decode cX11_mayBeTold 13 = .ok (.ifCond .lt 51, 3) := by decide +kernel
theorem dX11_mayBeTold_16 : decode cX11_mayBeTold 16 = .ok (.iload_n 3, 1) := by decide +kernel
theorem dX11_mayBeTold_17 : decode cX11_mayBeTold 17 = .ok (.sipush 300, 3) := by decide +kernel
theorem dX11_mayBeTold_20 : decode cX11_mayBeTold 20 = .ok (.if_icmp .gt 44, 3) := by decide +kernel
theorem dX11_mayBeTold_23 : decode cX11_mayBeTold 23 = .ok (.aload_n 0, 1) := by decide +kernel
theorem dX11_mayBeTold_24 : decode cX11_mayBeTold 24 = .ok (.getfield 19, 3) := by decide +kernel
theorem dX11_mayBeTold_27 : decode cX11_mayBeTold 27 = .ok (.getfield 111, 3) := by decide +kernel
theorem dX11_mayBeTold_30 : decode cX11_mayBeTold 30 = .ok (.iload_n 1, 1) := by decide +kernel
theorem dX11_mayBeTold_31 : decode cX11_mayBeTold 31 = .ok (.iaload, 1) := by decide +kernel
theorem dX11_mayBeTold_32 : decode cX11_mayBeTold 32 = .ok (.ifCond .le 32, 3) := by decide +kernel
theorem dX11_mayBeTold_35 : decode cX11_mayBeTold 35 = .ok (.sipush 1440, 3) := by decide +kernel
theorem dX11_mayBeTold_38 : decode cX11_mayBeTold 38 = .ok (.iload_n 2, 1) := by decide +kernel
theorem dX11_mayBeTold_39 : decode cX11_mayBeTold 39 = .ok (.imul, 1) := by decide +kernel
theorem dX11_mayBeTold_40 : decode cX11_mayBeTold 40 = .ok (.aload_n 0, 1) := by decide +kernel
theorem dX11_mayBeTold_41 : decode cX11_mayBeTold 41 = .ok (.getfield 19, 3) := by decide +kernel
theorem dX11_mayBeTold_44 : decode cX11_mayBeTold 44 = .ok (.getfield 121, 3) := by decide +kernel
theorem dX11_mayBeTold_47 : decode cX11_mayBeTold 47 = .ok (.bipush 8, 2) := by decide +kernel
theorem dX11_mayBeTold_49 : decode cX11_mayBeTold 49 = .ok (.iload_n 1, 1) := by decide +kernel
theorem dX11_mayBeTold_50 : decode cX11_mayBeTold 50 = .ok (.imul, 1) := by decide +kernel
theorem dX11_mayBeTold_51 : decode cX11_mayBeTold 51 = .ok (.iaload, 1) := by decide +kernel
theorem dX11_mayBeTold_52 : decode cX11_mayBeTold 52 = .ok (.iadd, 1) := by decide +kernel
theorem dX11_mayBeTold_53 : decode cX11_mayBeTold 53 = .ok (.aload_n 0, 1) := by decide +kernel
theorem dX11_mayBeTold_54 : decode cX11_mayBeTold 54 = .ok (.getfield 100, 3) := by decide +kernel
theorem dX11_mayBeTold_57 : decode cX11_mayBeTold 57 = .ok (.if_icmp .le 7, 3) := by decide +kernel
theorem dX11_mayBeTold_60 : decode cX11_mayBeTold 60 = .ok (.iconst 1, 1) := by decide +kernel
theorem dX11_mayBeTold_61 : decode cX11_mayBeTold 61 = .ok (.goto 4, 3) := by decide +kernel
theorem dX11_mayBeTold_64 : decode cX11_mayBeTold 64 = .ok (.iconst 0, 1) := by decide +kernel
theorem dX11_mayBeTold_65 : decode cX11_mayBeTold 65 = .ok (.ireturn, 1) := by decide +kernel
theorem bX11_mayBeTold_0 {d : Nat} {h0 hE h : ea_H} {rv : Option ea_V} {r0 : Option Nat} {x1 : Int32} {x2 : Int32} {x3 : Int32} (H : ∃ a3, r0 = some a3 ∧ a3 < ea_n h ∧ ea_c h a3 = 11 ∧ ∃ a11, (ea_r h a3 1) = some a11 ∧ a11 < ea_n h ∧ ea_c h a11 = 9 ∧ ∃ (d5 : Nat) (xc13 : Int32) (h6 : ea_H), ea_Met mX9_hasRun d5 [vR (some a11), vI x1, vI x2] h (some (vI xc13)) h6 ∧ d5 + 1 ≤ d ∧ (xc13 = (0 : Int32) → rv = some (vI 0) ∧ hE = h6) ∧ (¬ xc13 = (0 : Int32) → (x3 < (0 : Int32) → rv = some (vI 0) ∧ hE = h6) ∧ (¬ x3 < (0 : Int32) → ((300 : Int32) < x3 → rv = some (vI 0) ∧ hE = h6) ∧ (¬ (300 : Int32) < x3 → a3 < ea_n h6 ∧ ea_c h6 a3 = 11 ∧ ∃ a18, (ea_r h6 a3 1) = some a18 ∧ a18 < ea_n h6 ∧ ea_c h6 a18 = 9 ∧ ∃ a22, (ea_r h6 a18 1) = some a22 ∧ a22 < ea_n h6 ∧ ea_c h6 a22 = 20 ∧ vp_in x1 (ea_l h6 a22) ∧ ((ea_i h6 a22 (Int32.toNatClampNeg x1)) ≤ (0 : Int32) → rv = some (vI 0) ∧ hE = h6) ∧ (¬ (ea_i h6 a22 (Int32.toNatClampNeg x1)) ≤ (0 : Int32) → a3 < ea_n h6 ∧ ea_c h6 a3 = 11 ∧ a18 < ea_n h6 ∧ ea_c h6 a18 = 9 ∧ ∃ a31, (ea_r h6 a18 4) = some a31 ∧ a31 < ea_n h6 ∧ ea_c h6 a31 = 20 ∧ vp_in ((8 : Int32) * x1) (ea_l h6 a31) ∧ a3 < ea_n h6 ∧ ea_c h6 a3 = 11 ∧ ((((1440 : Int32) * x2) + (ea_i h6 a31 (Int32.toNatClampNeg ((8 : Int32) * x1)))) ≤ (ea_i h6 a3 11) → rv = some (vI 0) ∧ hE = h6) ∧ (¬ (((1440 : Int32) * x2) + (ea_i h6 a31 (Int32.toNatClampNeg ((8 : Int32) * x1)))) ≤ (ea_i h6 a3 11) → rv = some (vI 1) ∧ hE = h6)))))) : ea_W mX11_mayBeTold d h0 rv hE 0 [(0, vR r0), (1, vI x1), (2, vI x2), (3, vI x3)] [] h := by
  refine ea_aload_n (pc := 0) dX11_mayBeTold_0 rfl 0 rfl ?_
  obtain ⟨a3, e4, f1, g2, H⟩ := H
  refine ea_deref0 e4 ?_
  refine ea_getR (pc := 1) dX11_mayBeTold_1 ec_11 (k := 1) (Nat.le_of_ble_eq_true rfl) rfl (Or.inl ew_438) f1 g2 rfl ?_
  refine ea_iload_n (pc := 4) dX11_mayBeTold_4 rfl 1 rfl ?_
  refine ea_iload_n (pc := 5) dX11_mayBeTold_5 rfl 2 rfl ?_
  obtain ⟨a11, e12, f9, g10, H⟩ := H
  refine ea_deref2 e12 ?_
  obtain ⟨d5, xc13, h6, m7, q8, H⟩ := H
  refine ea_callV (pc := 6) (As := [vI x1, vI x2]) (st := []) dX11_mayBeTold_6 kX9_hasRun m7 q8 rfl (Nat.le_of_ble_eq_true rfl) ew_542 ew_543 ew_544 (ci := 9) rfl (by decide) f9 g10 ?_
  refine ea_if_eq (pc := 9) (tgt := 64) dX11_mayBeTold_9 rfl (fun c40 => ?_) (fun c40 => ?_)
  · have H := H.1 c40
    refine ea_iconst (pc := 64) dX11_mayBeTold_64 (v := 0) rfl ?_
    obtain ⟨rfl, rfl⟩ := H
    exact ea_ireturn (pc := 65) dX11_mayBeTold_65 rfl (ea_bn (Or.inl rfl))
  · have H := H.2 c40
    refine ea_iload_n (pc := 12) dX11_mayBeTold_12 rfl 3 rfl ?_
    refine ea_if_lt (pc := 13) (tgt := 64) dX11_mayBeTold_13 rfl (fun c39 => ?_) (fun c39 => ?_)
    · have H := H.1 c39
      refine ea_iconst (pc := 64) dX11_mayBeTold_64 (v := 0) rfl ?_
      obtain ⟨rfl, rfl⟩ := H
      exact ea_ireturn (pc := 65) dX11_mayBeTold_65 rfl (ea_bn (Or.inl rfl))
    · have H := H.2 c39
      refine ea_iload_n (pc := 16) dX11_mayBeTold_16 rfl 3 rfl ?_
      refine ea_sipush (pc := 17) dX11_mayBeTold_17 (v := 300) rfl ?_
      refine ea_icmp_gt (pc := 20) (tgt := 64) dX11_mayBeTold_20 rfl (fun c38 => ?_) (fun c38 => ?_)
      · have H := H.1 c38
        refine ea_iconst (pc := 64) dX11_mayBeTold_64 (v := 0) rfl ?_
        obtain ⟨rfl, rfl⟩ := H
        exact ea_ireturn (pc := 65) dX11_mayBeTold_65 rfl (ea_bn (Or.inl rfl))
      · have H := H.2 c38
        refine ea_aload_n (pc := 23) dX11_mayBeTold_23 rfl 0 rfl ?_
        obtain ⟨f14, g15, H⟩ := H
        refine ea_deref0 e4 ?_
        refine ea_getR (pc := 24) dX11_mayBeTold_24 ec_11 (k := 1) (Nat.le_of_ble_eq_true rfl) rfl (Or.inl ew_438) f14 g15 rfl ?_
        obtain ⟨a18, e19, f16, g17, H⟩ := H
        refine ea_deref0 e19 ?_
        refine ea_getR (pc := 27) dX11_mayBeTold_27 ec_9 (k := 1) (Nat.le_of_ble_eq_true rfl) rfl (Or.inl ew_181) f16 g17 rfl ?_
        refine ea_iload_n (pc := 30) dX11_mayBeTold_30 rfl 1 rfl ?_
        obtain ⟨a22, e23, f20, g21, H⟩ := H
        refine ea_deref1 e23 ?_
        obtain ⟨z24, H⟩ := H
        refine ea_iald (pc := 31) dX11_mayBeTold_31 f20 g21 z24 ?_
        refine ea_if_le (pc := 32) (tgt := 64) dX11_mayBeTold_32 rfl (fun c37 => ?_) (fun c37 => ?_)
        · have H := H.1 c37
          refine ea_iconst (pc := 64) dX11_mayBeTold_64 (v := 0) rfl ?_
          obtain ⟨rfl, rfl⟩ := H
          exact ea_ireturn (pc := 65) dX11_mayBeTold_65 rfl (ea_bn (Or.inl rfl))
        · have H := H.2 c37
          refine ea_sipush (pc := 35) dX11_mayBeTold_35 (v := 1440) rfl ?_
          refine ea_iload_n (pc := 38) dX11_mayBeTold_38 rfl 2 rfl ?_
          refine ea_imul (pc := 39) dX11_mayBeTold_39 ?_
          refine ea_aload_n (pc := 40) dX11_mayBeTold_40 rfl 0 rfl ?_
          obtain ⟨f25, g26, H⟩ := H
          refine ea_deref0 e4 ?_
          refine ea_getR (pc := 41) dX11_mayBeTold_41 ec_11 (k := 1) (Nat.le_of_ble_eq_true rfl) rfl (Or.inl ew_438) f25 g26 rfl ?_
          obtain ⟨f27, g28, H⟩ := H
          refine ea_deref0 e19 ?_
          refine ea_getR (pc := 44) dX11_mayBeTold_44 ec_9 (k := 4) (Nat.le_of_ble_eq_true rfl) rfl (Or.inl ew_192) f27 g28 rfl ?_
          refine ea_bipush (pc := 47) dX11_mayBeTold_47 (v := 8) rfl ?_
          refine ea_iload_n (pc := 49) dX11_mayBeTold_49 rfl 1 rfl ?_
          refine ea_imul (pc := 50) dX11_mayBeTold_50 ?_
          obtain ⟨a31, e32, f29, g30, H⟩ := H
          refine ea_deref1 e32 ?_
          obtain ⟨z33, H⟩ := H
          refine ea_iald (pc := 51) dX11_mayBeTold_51 f29 g30 z33 ?_
          refine ea_iadd (pc := 52) dX11_mayBeTold_52 ?_
          refine ea_aload_n (pc := 53) dX11_mayBeTold_53 rfl 0 rfl ?_
          obtain ⟨f34, g35, H⟩ := H
          refine ea_deref0 e4 ?_
          refine ea_getI (pc := 54) dX11_mayBeTold_54 ec_11 (k := 11) (Nat.le_of_ble_eq_true rfl) rfl (Or.inl ew_448) f34 g35 ?_
          refine ea_icmp_le (pc := 57) (tgt := 64) dX11_mayBeTold_57 rfl (fun c36 => ?_) (fun c36 => ?_)
          · have H := H.1 c36
            refine ea_iconst (pc := 64) dX11_mayBeTold_64 (v := 0) rfl ?_
            obtain ⟨rfl, rfl⟩ := H
            exact ea_ireturn (pc := 65) dX11_mayBeTold_65 rfl (ea_bn (Or.inl rfl))
          · have H := H.2 c36
            refine ea_iconst (pc := 60) dX11_mayBeTold_60 (v := 1) rfl ?_
            refine ea_goto (pc := 61) (tgt := 65) dX11_mayBeTold_61 rfl ?_
            obtain ⟨rfl, rfl⟩ := H
            exact ea_ireturn (pc := 65) dX11_mayBeTold_65 rfl (ea_bn (Or.inr rfl))
theorem dX11_letterOf_0 : decode cX11_letterOf 0 = .ok (.iload_n 1, 1) := by decide +kernel
theorem dX11_letterOf_1 : decode cX11_letterOf 1 = .ok (.ifCond .lt 23, 3) := by decide +kernel
theorem dX11_letterOf_4 : decode cX11_letterOf 4 = .ok (.iload_n 1, 1) := by decide +kernel
theorem dX11_letterOf_5 : decode cX11_letterOf 5 = .ok (.aload_n 0, 1) := by decide +kernel
theorem dX11_letterOf_6 : decode cX11_letterOf 6 = .ok (.getfield 57, 3) := by decide +kernel
theorem dX11_letterOf_9 : decode cX11_letterOf 9 = .ok (.getfield 154, 3) := by decide +kernel
theorem dX11_letterOf_12 : decode cX11_letterOf 12 = .ok (.if_icmp .ge 12, 3) := by decide +kernel
theorem dX11_letterOf_15 : decode cX11_letterOf 15 = .ok (.aload_n 0, 1) := by decide +kernel
theorem dX11_letterOf_16 : decode cX11_letterOf 16 = .ok (.getfield 48, 3) := by decide +kernel
theorem dX11_letterOf_19 : decode cX11_letterOf 19 = .ok (.iload_n 1, 1) := by decide +kernel
theorem dX11_letterOf_20 : decode cX11_letterOf 20 = .ok (.aaload, 1) := by decide +kernel
theorem dX11_letterOf_21 : decode cX11_letterOf 21 = .ok (.goto 4, 3) := by decide +kernel
theorem dX11_letterOf_24 : decode cX11_letterOf 24 = .ok (.aconst_null, 1) := by decide +kernel
theorem dX11_letterOf_25 : decode cX11_letterOf 25 = .ok (.areturn, 1) := by decide +kernel
theorem bX11_letterOf_0 {d : Nat} {h0 hE h : ea_H} {rv : Option ea_V} {r0 : Option Nat} {x1 : Int32} (H : (x1 < (0 : Int32) → rv = some (vR none) ∧ hE = h) ∧ (¬ x1 < (0 : Int32) → ∃ a3, r0 = some a3 ∧ a3 < ea_n h ∧ ea_c h a3 = 11 ∧ ∃ a7, (ea_r h a3 6) = some a7 ∧ a7 < ea_n h ∧ ea_c h a7 = 1 ∧ ((ea_i h a7 0) ≤ x1 → rv = some (vR none) ∧ hE = h) ∧ (¬ (ea_i h a7 0) ≤ x1 → a3 < ea_n h ∧ ea_c h a3 = 11 ∧ ∃ a13, (ea_r h a3 5) = some a13 ∧ a13 < ea_n h ∧ ea_c h a13 = 23 ∧ vp_in x1 (ea_l h a13) ∧ rv = some (vR (ea_r h a13 (Int32.toNatClampNeg x1))) ∧ hE = h))) : ea_W mX11_letterOf d h0 rv hE 0 [(0, vR r0), (1, vI x1)] [] h := by
  refine ea_iload_n (pc := 0) dX11_letterOf_0 rfl 1 rfl ?_
  refine ea_if_lt (pc := 1) (tgt := 24) dX11_letterOf_1 rfl (fun c17 => ?_) (fun c17 => ?_)
  · have H := H.1 c17
    refine ea_null (pc := 24) dX11_letterOf_24 ?_
    obtain ⟨rfl, rfl⟩ := H
    exact ea_areturn (pc := 25) dX11_letterOf_25 rfl (Or.inl ⟨_, rfl⟩)
  · have H := H.2 c17
    refine ea_iload_n (pc := 4) dX11_letterOf_4 rfl 1 rfl ?_
    refine ea_aload_n (pc := 5) dX11_letterOf_5 rfl 0 rfl ?_
    obtain ⟨a3, e4, f1, g2, H⟩ := H
    refine ea_deref0 e4 ?_
    refine ea_getR (pc := 6) dX11_letterOf_6 ec_11 (k := 6) (Nat.le_of_ble_eq_true rfl) rfl (Or.inl ew_443) f1 g2 rfl ?_
    obtain ⟨a7, e8, f5, g6, H⟩ := H
    refine ea_deref0 e8 ?_
    refine ea_getI (pc := 9) dX11_letterOf_9 ec_1 (k := 0) (Nat.le_of_ble_eq_true rfl) rfl (Or.inl ew_360) f5 g6 ?_
    refine ea_icmp_ge (pc := 12) (tgt := 24) dX11_letterOf_12 rfl (fun c16 => ?_) (fun c16 => ?_)
    · have H := H.1 c16
      refine ea_null (pc := 24) dX11_letterOf_24 ?_
      obtain ⟨rfl, rfl⟩ := H
      exact ea_areturn (pc := 25) dX11_letterOf_25 rfl (Or.inl ⟨_, rfl⟩)
    · have H := H.2 c16
      refine ea_aload_n (pc := 15) dX11_letterOf_15 rfl 0 rfl ?_
      obtain ⟨f9, g10, H⟩ := H
      refine ea_deref0 e4 ?_
      refine ea_getR (pc := 16) dX11_letterOf_16 ec_11 (k := 5) (Nat.le_of_ble_eq_true rfl) rfl (Or.inl ew_442) f9 g10 rfl ?_
      refine ea_iload_n (pc := 19) dX11_letterOf_19 rfl 1 rfl ?_
      obtain ⟨a13, e14, f11, g12, H⟩ := H
      refine ea_deref1 e14 ?_
      obtain ⟨z15, H⟩ := H
      refine ea_aald23 (pc := 20) dX11_letterOf_20 f11 g12 z15 rfl ?_
      refine ea_goto (pc := 21) (tgt := 25) dX11_letterOf_21 rfl ?_
      obtain ⟨rfl, rfl⟩ := H
      exact ea_areturn (pc := 25) dX11_letterOf_25 rfl (Or.inl ⟨_, rfl⟩)
theorem dX11_franksAhead_0 : decode cX11_franksAhead 0 = .ok (.iconst 0, 1) := by decide +kernel
theorem dX11_franksAhead_1 : decode cX11_franksAhead 1 = .ok (.istore_n 2, 1) := by decide +kernel
theorem dX11_franksAhead_2 : decode cX11_franksAhead 2 = .ok (.iconst 0, 1) := by decide +kernel
theorem dX11_franksAhead_3 : decode cX11_franksAhead 3 = .ok (.istore_n 3, 1) := by decide +kernel
theorem dX11_franksAhead_4 : decode cX11_franksAhead 4 = .ok (.iload_n 3, 1) := by decide +kernel
theorem dX11_franksAhead_5 : decode cX11_franksAhead 5 = .ok (.aload_n 0, 1) := by decide +kernel
theorem dX11_franksAhead_6 : decode cX11_franksAhead 6 = .ok (.getfield 57, 3) := by decide +kernel
theorem dX11_franksAhead_9 : decode cX11_franksAhead 9 = .ok (.getfield 154, 3) := by decide +kernel
theorem dX11_franksAhead_12 : decode cX11_franksAhead 12 = .ok (.if_icmp .ge 53, 3) := by decide +kernel
theorem dX11_franksAhead_15 : decode cX11_franksAhead 15 = .ok (.aload_n 0, 1) := by decide +kernel
theorem dX11_franksAhead_16 : decode cX11_franksAhead 16 = .ok (.getfield 48, 3) := by decide +kernel
theorem dX11_franksAhead_19 : decode cX11_franksAhead 19 = .ok (.iload_n 3, 1) := by decide +kernel
theorem dX11_franksAhead_20 : decode cX11_franksAhead 20 = .ok (.aaload, 1) := by decide +kernel
theorem dX11_franksAhead_21 : decode cX11_franksAhead 21 = .ok (.astore 4, 2) := by decide +kernel
theorem dX11_franksAhead_23 : decode cX11_franksAhead 23 = .ok (.aload 4, 2) := by decide +kernel
theorem dX11_franksAhead_25 : decode cX11_franksAhead 25 = .ok (.getfield 258, 3) := by decide +kernel
theorem dX11_franksAhead_28 : decode cX11_franksAhead 28 = .ok (.iconst 2, 1) := by decide +kernel
theorem dX11_franksAhead_29 : decode cX11_franksAhead 29 = .ok (.if_icmp .ne 30, 3) := by decide +kernel
theorem dX11_franksAhead_32 : decode cX11_franksAhead 32 = .ok (.aload 4, 2) := by decide +kernel
theorem dX11_franksAhead_34 : decode cX11_franksAhead 34 = .ok (.getfield 273, 3) := by decide +kernel
theorem dX11_franksAhead_37 : decode cX11_franksAhead 37 = .ok (.aload_n 1, 1) := by decide +kernel
theorem dX11_franksAhead_38 : decode cX11_franksAhead 38 = .ok (.getfield 273, 3) := by decide +kernel
theorem dX11_franksAhead_41 : decode cX11_franksAhead 41 = .ok (.if_icmp .ne 18, 3) := by decide +kernel
theorem dX11_franksAhead_44 : decode cX11_franksAhead 44 = .ok (.aload 4, 2) := by decide +kernel
theorem dX11_franksAhead_46 : decode cX11_franksAhead 46 = .ok (.invokevirtual 460, 3) := by decide +kernel
theorem dX11_franksAhead_49 : decode cX11_franksAhead 49 = .ok (.aload_n 1, 1) := by decide +kernel
theorem dX11_franksAhead_50 : decode cX11_franksAhead 50 = .ok (.invokevirtual 460, 3) := by decide +kernel
theorem dX11_franksAhead_53 : decode cX11_franksAhead 53 = .ok (.if_icmp .ne 6, 3) := by decide +kernel
theorem dX11_franksAhead_56 : decode cX11_franksAhead 56 = .ok (.iinc 2 1, 3) := by decide +kernel
theorem dX11_franksAhead_59 : decode cX11_franksAhead 59 = .ok (.iinc 3 1, 3) := by decide +kernel
theorem dX11_franksAhead_62 : decode cX11_franksAhead 62 = .ok (.goto (-58), 3) := by decide +kernel
theorem dX11_franksAhead_65 : decode cX11_franksAhead 65 = .ok (.iload_n 2, 1) := by decide +kernel
theorem dX11_franksAhead_66 : decode cX11_franksAhead 66 = .ok (.ireturn, 1) := by decide +kernel
theorem bX11_franksAhead_0 {d : Nat} {h0 hE h : ea_H} {rv : Option ea_V} {r0 : Option Nat} {r1 : Option Nat} (H : ea_W mX11_franksAhead d h0 rv hE 4 [(0, vR r0), (1, vR r1), (2, vI 0), (3, vI 0)] [] h) : ea_W mX11_franksAhead d h0 rv hE 0 [(0, vR r0), (1, vR r1)] [] h := by
  refine ea_iconst (pc := 0) dX11_franksAhead_0 (v := 0) rfl ?_
  refine ea_istore_n (pc := 1) (lv' := [(0, vR r0), (1, vR r1), (2, vI 0)]) dX11_franksAhead_1 rfl (Nat.le_of_ble_eq_true rfl) [1, 2, 0] rfl ?_
  refine ea_iconst (pc := 2) dX11_franksAhead_2 (v := 0) rfl ?_
  refine ea_istore_n (pc := 3) (lv' := [(0, vR r0), (1, vR r1), (2, vI 0), (3, vI 0)]) dX11_franksAhead_3 rfl (Nat.le_of_ble_eq_true rfl) [1, 2, 3, 0] rfl ?_
  exact H
theorem bX11_franksAhead_4 {d : Nat} {h0 hE h : ea_H} {rv : Option ea_V} {r0 : Option Nat} {r1 : Option Nat} {x2 : Int32} {x3 : Int32} (H : ∃ a3, r0 = some a3 ∧ a3 < ea_n h ∧ ea_c h a3 = 11 ∧ ∃ a7, (ea_r h a3 6) = some a7 ∧ a7 < ea_n h ∧ ea_c h a7 = 1 ∧ ((ea_i h a7 0) ≤ x3 → rv = some (vI x2) ∧ hE = h) ∧ (¬ (ea_i h a7 0) ≤ x3 → a3 < ea_n h ∧ ea_c h a3 = 11 ∧ ∃ a13, (ea_r h a3 5) = some a13 ∧ a13 < ea_n h ∧ ea_c h a13 = 23 ∧ vp_in x3 (ea_l h a13) ∧ ∃ a18, (ea_r h a13 (Int32.toNatClampNeg x3)) = some a18 ∧ a18 < ea_n h ∧ ea_c h a18 = 4 ∧ (¬ (ea_i h a18 0) = (2 : Int32) → ea_W mX11_franksAhead d h0 rv hE 4 [(0, vR r0), (1, vR r1), (2, vI x2), (3, vI (x3 + 1))] [] h) ∧ ((ea_i h a18 0) = (2 : Int32) → a18 < ea_n h ∧ ea_c h a18 = 4 ∧ ∃ a24, r1 = some a24 ∧ a24 < ea_n h ∧ ea_c h a24 = 4 ∧ (¬ (ea_i h a18 5) = (ea_i h a24 5) → ea_W mX11_franksAhead d h0 rv hE 4 [(0, vR r0), (1, vR r1), (2, vI x2), (3, vI (x3 + 1))] [] h) ∧ ((ea_i h a18 5) = (ea_i h a24 5) → a18 < ea_n h ∧ ea_c h a18 = 4 ∧ ∃ (d26 : Nat) (xc32 : Int32) (h27 : ea_H), ea_Met mX4_dayOf d26 [vR (some a18)] h (some (vI xc32)) h27 ∧ d26 + 1 ≤ d ∧ a24 < ea_n h27 ∧ ea_c h27 a24 = 4 ∧ ∃ (d33 : Nat) (xc39 : Int32) (h34 : ea_H), ea_Met mX4_dayOf d33 [vR (some a24)] h27 (some (vI xc39)) h34 ∧ d33 + 1 ≤ d ∧ (¬ xc32 = xc39 → ea_W mX11_franksAhead d h0 rv hE 4 [(0, vR r0), (1, vR r1), (2, vI x2), (3, vI (x3 + 1))] [] h34) ∧ (xc32 = xc39 → ea_W mX11_franksAhead d h0 rv hE 4 [(0, vR r0), (1, vR r1), (2, vI (x2 + 1)), (3, vI (x3 + 1))] [] h34))))) : ea_W mX11_franksAhead d h0 rv hE 4 [(0, vR r0), (1, vR r1), (2, vI x2), (3, vI x3)] [] h := by
  refine ea_iload_n (pc := 4) dX11_franksAhead_4 rfl 3 rfl ?_
  refine ea_aload_n (pc := 5) dX11_franksAhead_5 rfl 0 rfl ?_
  obtain ⟨a3, e4, f1, g2, H⟩ := H
  refine ea_deref0 e4 ?_
  refine ea_getR (pc := 6) dX11_franksAhead_6 ec_11 (k := 6) (Nat.le_of_ble_eq_true rfl) rfl (Or.inl ew_443) f1 g2 rfl ?_
  obtain ⟨a7, e8, f5, g6, H⟩ := H
  refine ea_deref0 e8 ?_
  refine ea_getI (pc := 9) dX11_franksAhead_9 ec_1 (k := 0) (Nat.le_of_ble_eq_true rfl) rfl (Or.inl ew_360) f5 g6 ?_
  refine ea_icmp_ge (pc := 12) (tgt := 65) dX11_franksAhead_12 rfl (fun c43 => ?_) (fun c43 => ?_)
  · have H := H.1 c43
    refine ea_iload_n (pc := 65) dX11_franksAhead_65 rfl 2 rfl ?_
    obtain ⟨rfl, rfl⟩ := H
    exact ea_ireturn (pc := 66) dX11_franksAhead_66 rfl rfl
  · have H := H.2 c43
    refine ea_aload_n (pc := 15) dX11_franksAhead_15 rfl 0 rfl ?_
    obtain ⟨f9, g10, H⟩ := H
    refine ea_deref0 e4 ?_
    refine ea_getR (pc := 16) dX11_franksAhead_16 ec_11 (k := 5) (Nat.le_of_ble_eq_true rfl) rfl (Or.inl ew_442) f9 g10 rfl ?_
    refine ea_iload_n (pc := 19) dX11_franksAhead_19 rfl 3 rfl ?_
    obtain ⟨a13, e14, f11, g12, H⟩ := H
    refine ea_deref1 e14 ?_
    obtain ⟨z15, H⟩ := H
    refine ea_aald23 (pc := 20) dX11_franksAhead_20 f11 g12 z15 rfl ?_
    refine ea_astore (pc := 21) (lv' := [(0, vR r0), (1, vR r1), (2, vI x2), (3, vI x3), (4, vR (ea_r h a13 (Int32.toNatClampNeg x3)))]) dX11_franksAhead_21 (Nat.le_of_ble_eq_true rfl) [1, 2, 3, 4, 0] rfl ?_
    refine ea_aload (pc := 23) dX11_franksAhead_23 4 rfl ?_
    obtain ⟨a18, e19, f16, g17, H⟩ := H
    refine ea_deref0 e19 ?_
    refine ea_getI (pc := 25) dX11_franksAhead_25 ec_4 (k := 0) (Nat.le_of_ble_eq_true rfl) rfl (Or.inl ew_935) f16 g17 ?_
    refine ea_iconst (pc := 28) dX11_franksAhead_28 (v := 2) rfl ?_
    refine ea_icmp_ne (pc := 29) (tgt := 59) dX11_franksAhead_29 rfl (fun c42 => ?_) (fun c42 => ?_)
    · have H := H.1 c42
      refine ea_iinc (pc := 59) (v := 1) (lv' := [(0, vR r0), (1, vR r1), (2, vI x2), (3, vI (x3 + 1))]) dX11_franksAhead_59 3 rfl rfl (Nat.le_of_ble_eq_true rfl) [1, 2, 3, 0] rfl ?_
      refine ea_goto (pc := 62) (tgt := 4) dX11_franksAhead_62 rfl ?_
      exact H
    · have H := H.2 c42
      refine ea_aload (pc := 32) dX11_franksAhead_32 4 rfl ?_
      obtain ⟨f20, g21, H⟩ := H
      refine ea_deref0 e19 ?_
      refine ea_getI (pc := 34) dX11_franksAhead_34 ec_4 (k := 5) (Nat.le_of_ble_eq_true rfl) rfl (Or.inl ew_948) f20 g21 ?_
      refine ea_aload_n (pc := 37) dX11_franksAhead_37 rfl 1 rfl ?_
      obtain ⟨a24, e25, f22, g23, H⟩ := H
      refine ea_deref0 e25 ?_
      refine ea_getI (pc := 38) dX11_franksAhead_38 ec_4 (k := 5) (Nat.le_of_ble_eq_true rfl) rfl (Or.inl ew_948) f22 g23 ?_
      refine ea_icmp_ne (pc := 41) (tgt := 59) dX11_franksAhead_41 rfl (fun c41 => ?_) (fun c41 => ?_)
      · have H := H.1 c41
        refine ea_iinc (pc := 59) (v := 1) (lv' := [(0, vR r0), (1, vR r1), (2, vI x2), (3, vI (x3 + 1))]) dX11_franksAhead_59 3 rfl rfl (Nat.le_of_ble_eq_true rfl) [1, 2, 3, 0] rfl ?_
        refine ea_goto (pc := 62) (tgt := 4) dX11_franksAhead_62 rfl ?_
        exact H
      · have H := H.2 c41
        refine ea_aload (pc := 44) dX11_franksAhead_44 4 rfl ?_
        obtain ⟨f30, g31, H⟩ := H
        refine ea_deref0 e19 ?_
        obtain ⟨d26, xc32, h27, m28, q29, H⟩ := H
        refine ea_callV (pc := 46) (As := []) (st := []) dX11_franksAhead_46 kX4_dayOf m28 q29 rfl (Nat.le_of_ble_eq_true rfl) ew_1032 ew_1033 ew_1034 (ci := 4) rfl (by decide) f30 g31 ?_
        refine ea_aload_n (pc := 49) dX11_franksAhead_49 rfl 1 rfl ?_
        obtain ⟨f37, g38, H⟩ := H
        refine ea_deref0 e25 ?_
        obtain ⟨d33, xc39, h34, m35, q36, H⟩ := H
        refine ea_callV (pc := 50) (As := []) (st := [vI xc32]) dX11_franksAhead_50 kX4_dayOf m35 q36 rfl (Nat.le_of_ble_eq_true rfl) ew_1032 ew_1033 ew_1034 (ci := 4) rfl (by decide) f37 g38 ?_
        refine ea_icmp_ne (pc := 53) (tgt := 59) dX11_franksAhead_53 rfl (fun c40 => ?_) (fun c40 => ?_)
        · have H := H.1 c40
          refine ea_iinc (pc := 59) (v := 1) (lv' := [(0, vR r0), (1, vR r1), (2, vI x2), (3, vI (x3 + 1))]) dX11_franksAhead_59 3 rfl rfl (Nat.le_of_ble_eq_true rfl) [1, 2, 3, 0] rfl ?_
          refine ea_goto (pc := 62) (tgt := 4) dX11_franksAhead_62 rfl ?_
          exact H
        · have H := H.2 c40
          refine ea_iinc (pc := 56) (v := 1) (lv' := [(0, vR r0), (1, vR r1), (2, vI (x2 + 1)), (3, vI x3)]) dX11_franksAhead_56 2 rfl rfl (Nat.le_of_ble_eq_true rfl) [1, 2, 0, 3] rfl ?_
          refine ea_iinc (pc := 59) (v := 1) (lv' := [(0, vR r0), (1, vR r1), (2, vI (x2 + 1)), (3, vI (x3 + 1))]) dX11_franksAhead_59 3 rfl rfl (Nat.le_of_ble_eq_true rfl) [1, 2, 3, 0] rfl ?_
          refine ea_goto (pc := 62) (tgt := 4) dX11_franksAhead_62 rfl ?_
          exact H
theorem dX11_isBetween_0 : decode cX11_isBetween 0 = .ok (.aload_n 0, 1) := by decide +kernel
theorem dX11_isBetween_1 : decode cX11_isBetween 1 = .ok (.getfield 48, 3) := by decide +kernel
theorem dX11_isBetween_4 : decode cX11_isBetween 4 = .ok (.iload_n 1, 1) := by decide +kernel
theorem dX11_isBetween_5 : decode cX11_isBetween 5 = .ok (.aaload, 1) := by decide +kernel
theorem dX11_isBetween_6 : decode cX11_isBetween 6 = .ok (.getfield 261, 3) := by decide +kernel
theorem dX11_isBetween_9 : decode cX11_isBetween 9 = .ok (.iload_n 2, 1) := by decide +kernel
theorem dX11_isBetween_10 : decode cX11_isBetween 10 = .ok (.if_icmp .ne 20, 3) := by decide +kernel
theorem dX11_isBetween_13 : decode cX11_isBetween 13 = .ok (.aload_n 0, 1) := by decide +kernel
theorem dX11_isBetween_14 : decode cX11_isBetween 14 = .ok (.getfield 48, 3) := by decide +kernel
theorem dX11_isBetween_17 : decode cX11_isBetween 17 = .ok (.iload_n 1, 1) := by decide +kernel
theorem dX11_isBetween_18 : decode cX11_isBetween 18 = .ok (.aaload, 1) := by decide +kernel
theorem dX11_isBetween_19 : decode cX11_isBetween 19 = .ok (.getfield 264, 3) := by decide +kernel
theorem dX11_isBetween_22 : decode cX11_isBetween 22 = .ok (.iload_n 3, 1) := by decide +kernel
theorem dX11_isBetween_23 : decode cX11_isBetween 23 = .ok (.if_icmp .ne 7, 3) := by decide +kernel
theorem dX11_isBetween_26 : decode cX11_isBetween 26 = .ok (.iconst 1, 1) := by decide +kernel
theorem dX11_isBetween_27 : decode cX11_isBetween 27 = .ok (.goto 4, 3) := by decide +kernel
theorem dX11_isBetween_30 : decode cX11_isBetween 30 = .ok (.iconst 0, 1) := by decide +kernel
theorem dX11_isBetween_31 : decode cX11_isBetween 31 = .ok (.ireturn, 1) := by decide +kernel
theorem bX11_isBetween_0 {d : Nat} {h0 hE h : ea_H} {rv : Option ea_V} {r0 : Option Nat} {x1 : Int32} {x2 : Int32} {x3 : Int32} (H : ∃ a3, r0 = some a3 ∧ a3 < ea_n h ∧ ea_c h a3 = 11 ∧ ∃ a7, (ea_r h a3 5) = some a7 ∧ a7 < ea_n h ∧ ea_c h a7 = 23 ∧ vp_in x1 (ea_l h a7) ∧ ∃ a12, (ea_r h a7 (Int32.toNatClampNeg x1)) = some a12 ∧ a12 < ea_n h ∧ ea_c h a12 = 4 ∧ (¬ (ea_i h a12 1) = x2 → rv = some (vI 0) ∧ hE = h) ∧ ((ea_i h a12 1) = x2 → a3 < ea_n h ∧ ea_c h a3 = 11 ∧ a7 < ea_n h ∧ ea_c h a7 = 23 ∧ vp_in x1 (ea_l h a7) ∧ a12 < ea_n h ∧ ea_c h a12 = 4 ∧ (¬ (ea_i h a12 2) = x3 → rv = some (vI 0) ∧ hE = h) ∧ ((ea_i h a12 2) = x3 → rv = some (vI 1) ∧ hE = h))) : ea_W mX11_isBetween d h0 rv hE 0 [(0, vR r0), (1, vI x1), (2, vI x2), (3, vI x3)] [] h := by
  refine ea_aload_n (pc := 0) dX11_isBetween_0 rfl 0 rfl ?_
  obtain ⟨a3, e4, f1, g2, H⟩ := H
  refine ea_deref0 e4 ?_
  refine ea_getR (pc := 1) dX11_isBetween_1 ec_11 (k := 5) (Nat.le_of_ble_eq_true rfl) rfl (Or.inl ew_442) f1 g2 rfl ?_
  refine ea_iload_n (pc := 4) dX11_isBetween_4 rfl 1 rfl ?_
  obtain ⟨a7, e8, f5, g6, H⟩ := H
  refine ea_deref1 e8 ?_
  obtain ⟨z9, H⟩ := H
  refine ea_aald23 (pc := 5) dX11_isBetween_5 f5 g6 z9 rfl ?_
  obtain ⟨a12, e13, f10, g11, H⟩ := H
  refine ea_deref0 e13 ?_
  refine ea_getI (pc := 6) dX11_isBetween_6 ec_4 (k := 1) (Nat.le_of_ble_eq_true rfl) rfl (Or.inl ew_937) f10 g11 ?_
  refine ea_iload_n (pc := 9) dX11_isBetween_9 rfl 2 rfl ?_
  refine ea_icmp_ne (pc := 10) (tgt := 30) dX11_isBetween_10 rfl (fun c22 => ?_) (fun c22 => ?_)
  · have H := H.1 c22
    refine ea_iconst (pc := 30) dX11_isBetween_30 (v := 0) rfl ?_
    obtain ⟨rfl, rfl⟩ := H
    exact ea_ireturn (pc := 31) dX11_isBetween_31 rfl (ea_bn (Or.inl rfl))
  · have H := H.2 c22
    refine ea_aload_n (pc := 13) dX11_isBetween_13 rfl 0 rfl ?_
    obtain ⟨f14, g15, H⟩ := H
    refine ea_deref0 e4 ?_
    refine ea_getR (pc := 14) dX11_isBetween_14 ec_11 (k := 5) (Nat.le_of_ble_eq_true rfl) rfl (Or.inl ew_442) f14 g15 rfl ?_
    refine ea_iload_n (pc := 17) dX11_isBetween_17 rfl 1 rfl ?_
    obtain ⟨f16, g17, H⟩ := H
    refine ea_deref1 e8 ?_
    obtain ⟨z18, H⟩ := H
    refine ea_aald23 (pc := 18) dX11_isBetween_18 f16 g17 z18 rfl ?_
    obtain ⟨f19, g20, H⟩ := H
    refine ea_deref0 e13 ?_
    refine ea_getI (pc := 19) dX11_isBetween_19 ec_4 (k := 2) (Nat.le_of_ble_eq_true rfl) rfl (Or.inl ew_940) f19 g20 ?_
    refine ea_iload_n (pc := 22) dX11_isBetween_22 rfl 3 rfl ?_
    refine ea_icmp_ne (pc := 23) (tgt := 30) dX11_isBetween_23 rfl (fun c21 => ?_) (fun c21 => ?_)
    · have H := H.1 c21
      refine ea_iconst (pc := 30) dX11_isBetween_30 (v := 0) rfl ?_
      obtain ⟨rfl, rfl⟩ := H
      exact ea_ireturn (pc := 31) dX11_isBetween_31 rfl (ea_bn (Or.inl rfl))
    · have H := H.2 c21
      refine ea_iconst (pc := 26) dX11_isBetween_26 (v := 1) rfl ?_
      refine ea_goto (pc := 27) (tgt := 31) dX11_isBetween_27 rfl ?_
      obtain ⟨rfl, rfl⟩ := H
      exact ea_ireturn (pc := 31) dX11_isBetween_31 rfl (ea_bn (Or.inr rfl))
theorem dX11_owedBetween_0 : decode cX11_owedBetween 0 = .ok (.iconst 0, 1) := by decide +kernel
theorem dX11_owedBetween_1 : decode cX11_owedBetween 1 = .ok (.istore 4, 2) := by decide +kernel
theorem dX11_owedBetween_3 : decode cX11_owedBetween 3 = .ok (.iconst 0, 1) := by decide +kernel
theorem dX11_owedBetween_4 : decode cX11_owedBetween 4 = .ok (.istore 5, 2) := by decide +kernel
theorem dX11_owedBetween_6 : decode cX11_owedBetween 6 = .ok (.iload 5, 2) := by decide +kernel
theorem dX11_owedBetween_8 : decode cX11_owedBetween 8 = .ok (.aload_n 0, 1) := by decide +kernel
theorem dX11_owedBetween_9 : decode cX11_owedBetween 9 = .ok (.getfield 57, 3) := by decide +kernel
theorem dX11_owedBetween_12 : decode cX11_owedBetween 12 = .ok (.getfield 154, 3) := by decide +kernel
theorem dX11_owedBetween_15 : decode cX11_owedBetween 15 = .ok (.if_icmp .ge 53, 3) := by decide +kernel
theorem dX11_owedBetween_18 : decode cX11_owedBetween 18 = .ok (.aload_n 0, 1) := by decide +kernel
theorem dX11_owedBetween_19 : decode cX11_owedBetween 19 = .ok (.iload 5, 2) := by decide +kernel
theorem dX11_owedBetween_21 : decode cX11_owedBetween 21 = .ok (.iload_n 1, 1) := by decide +kernel
theorem dX11_owedBetween_22 : decode cX11_owedBetween 22 = .ok (.iload_n 2, 1) := by decide +kernel
theorem dX11_owedBetween_23 : decode cX11_owedBetween 23 = .ok (.invokevirtual 462, 3) := by decide +kernel
theorem dX11_owedBetween_26 : decode cX11_owedBetween 26 = .ok (.ifCond .eq 36, 3) := by decide +kernel
theorem dX11_owedBetween_29 : decode cX11_owedBetween 29 = .ok (.iload_n 3, 1) := by decide +kernel
theorem dX11_owedBetween_30 : decode cX11_owedBetween 30 = .ok (.ifCond .eq 17, 3) := by decide +kernel
theorem dX11_owedBetween_33 : decode cX11_owedBetween 33 = .ok (.aload_n 0, 1) := by decide +kernel
theorem dX11_owedBetween_34 : decode cX11_owedBetween 34 = .ok (.getfield 57, 3) := by decide +kernel
theorem dX11_owedBetween_37 : decode cX11_owedBetween 37 = .ok (.getfield 255, 3) := by decide +kernel
theorem dX11_owedBetween_40 : decode cX11_owedBetween 40 = .ok (.iload 5, 2) := by decide +kernel
theorem dX11_owedBetween_42 : decode cX11_owedBetween 42 = .ok (.iaload, 1) := by decide +kernel
theorem dX11_owedBetween_43 : decode cX11_owedBetween 43 = .ok (.iconst 2, 1) := by decide +kernel
theorem dX11_owedBetween_44 : decode cX11_owedBetween 44 = .ok (.if_icmp .ne 18, 3) := by decide +kernel
theorem dX11_owedBetween_47 : decode cX11_owedBetween 47 = .ok (.iload 4, 2) := by decide +kernel
theorem dX11_owedBetween_49 : decode cX11_owedBetween 49 = .ok (.aload_n 0, 1) := by decide +kernel
theorem dX11_owedBetween_50 : decode cX11_owedBetween 50 = .ok (.getfield 48, 3) := by decide +kernel
theorem dX11_owedBetween_53 : decode cX11_owedBetween 53 = .ok (.iload 5, 2) := by decide +kernel
theorem dX11_owedBetween_55 : decode cX11_owedBetween 55 = .ok (.aaload, 1) := by decide +kernel
theorem dX11_owedBetween_56 : decode cX11_owedBetween 56 = .ok (.invokevirtual 297, 3) := by decide +kernel
theorem dX11_owedBetween_59 : decode cX11_owedBetween 59 = .ok (.iadd, 1) := by decide +kernel
theorem dX11_owedBetween_60 : decode cX11_owedBetween 60 = .ok (.istore 4, 2) := by decide +kernel
theorem dX11_owedBetween_62 : decode cX11_owedBetween 62 = .ok (.iinc 5 1, 3) := by decide +kernel
theorem dX11_owedBetween_65 : decode cX11_owedBetween 65 = .ok (.goto (-59), 3) := by decide +kernel
theorem dX11_owedBetween_68 : decode cX11_owedBetween 68 = .ok (.iload 4, 2) := by decide +kernel
theorem dX11_owedBetween_70 : decode cX11_owedBetween 70 = .ok (.ireturn, 1) := by decide +kernel
theorem bX11_owedBetween_0 {d : Nat} {h0 hE h : ea_H} {rv : Option ea_V} {r0 : Option Nat} {x1 : Int32} {x2 : Int32} {x3 : Int32} (H : ea_W mX11_owedBetween d h0 rv hE 6 [(0, vR r0), (1, vI x1), (2, vI x2), (3, vI x3), (4, vI 0), (5, vI 0)] [] h) : ea_W mX11_owedBetween d h0 rv hE 0 [(0, vR r0), (1, vI x1), (2, vI x2), (3, vI x3)] [] h := by
  refine ea_iconst (pc := 0) dX11_owedBetween_0 (v := 0) rfl ?_
  refine ea_istore (pc := 1) (lv' := [(0, vR r0), (1, vI x1), (2, vI x2), (3, vI x3), (4, vI 0)]) dX11_owedBetween_1 (Nat.le_of_ble_eq_true rfl) [1, 2, 3, 4, 0] rfl ?_
  refine ea_iconst (pc := 3) dX11_owedBetween_3 (v := 0) rfl ?_
  refine ea_istore (pc := 4) (lv' := [(0, vR r0), (1, vI x1), (2, vI x2), (3, vI x3), (4, vI 0), (5, vI 0)]) dX11_owedBetween_4 (Nat.le_of_ble_eq_true rfl) [1, 2, 3, 4, 5, 0] rfl ?_
  exact H
theorem bX11_owedBetween_6 {d : Nat} {h0 hE h : ea_H} {rv : Option ea_V} {r0 : Option Nat} {x1 : Int32} {x2 : Int32} {x3 : Int32} {x4 : Int32} {x5 : Int32} (H : ∃ a3, r0 = some a3 ∧ a3 < ea_n h ∧ ea_c h a3 = 11 ∧ ∃ a7, (ea_r h a3 6) = some a7 ∧ a7 < ea_n h ∧ ea_c h a7 = 1 ∧ ((ea_i h a7 0) ≤ x5 → rv = some (vI x4) ∧ hE = h) ∧ (¬ (ea_i h a7 0) ≤ x5 → a3 < ea_n h ∧ ea_c h a3 = 11 ∧ ∃ (d9 : Nat) (xc15 : Int32) (h10 : ea_H), ea_Met mX11_isBetween d9 [vR (some a3), vI x5, vI x1, vI x2] h (some (vI xc15)) h10 ∧ d9 + 1 ≤ d ∧ (xc15 = (0 : Int32) → ea_W mX11_owedBetween d h0 rv hE 6 [(0, vR r0), (1, vI x1), (2, vI x2), (3, vI x3), (4, vI x4), (5, vI (x5 + 1))] [] h10) ∧ (¬ xc15 = (0 : Int32) → (x3 = (0 : Int32) → ea_W mX11_owedBetween d h0 rv hE 47 [(0, vR r0), (1, vI x1), (2, vI x2), (3, vI x3), (4, vI x4), (5, vI x5)] [] h10) ∧ (¬ x3 = (0 : Int32) → a3 < ea_n h10 ∧ ea_c h10 a3 = 11 ∧ ∃ a20, (ea_r h10 a3 6) = some a20 ∧ a20 < ea_n h10 ∧ ea_c h10 a20 = 1 ∧ ∃ a24, (ea_r h10 a20 1) = some a24 ∧ a24 < ea_n h10 ∧ ea_c h10 a24 = 20 ∧ vp_in x5 (ea_l h10 a24) ∧ (¬ (ea_i h10 a24 (Int32.toNatClampNeg x5)) = (2 : Int32) → ea_W mX11_owedBetween d h0 rv hE 6 [(0, vR r0), (1, vI x1), (2, vI x2), (3, vI x3), (4, vI x4), (5, vI (x5 + 1))] [] h10) ∧ ((ea_i h10 a24 (Int32.toNatClampNeg x5)) = (2 : Int32) → ea_W mX11_owedBetween d h0 rv hE 47 [(0, vR r0), (1, vI x1), (2, vI x2), (3, vI x3), (4, vI x4), (5, vI x5)] [] h10))))) : ea_W mX11_owedBetween d h0 rv hE 6 [(0, vR r0), (1, vI x1), (2, vI x2), (3, vI x3), (4, vI x4), (5, vI x5)] [] h := by
  refine ea_iload (pc := 6) dX11_owedBetween_6 5 rfl ?_
  refine ea_aload_n (pc := 8) dX11_owedBetween_8 rfl 0 rfl ?_
  obtain ⟨a3, e4, f1, g2, H⟩ := H
  refine ea_deref0 e4 ?_
  refine ea_getR (pc := 9) dX11_owedBetween_9 ec_11 (k := 6) (Nat.le_of_ble_eq_true rfl) rfl (Or.inl ew_443) f1 g2 rfl ?_
  obtain ⟨a7, e8, f5, g6, H⟩ := H
  refine ea_deref0 e8 ?_
  refine ea_getI (pc := 12) dX11_owedBetween_12 ec_1 (k := 0) (Nat.le_of_ble_eq_true rfl) rfl (Or.inl ew_360) f5 g6 ?_
  refine ea_icmp_ge (pc := 15) (tgt := 68) dX11_owedBetween_15 rfl (fun c30 => ?_) (fun c30 => ?_)
  · have H := H.1 c30
    refine ea_iload (pc := 68) dX11_owedBetween_68 4 rfl ?_
    obtain ⟨rfl, rfl⟩ := H
    exact ea_ireturn (pc := 70) dX11_owedBetween_70 rfl rfl
  · have H := H.2 c30
    refine ea_aload_n (pc := 18) dX11_owedBetween_18 rfl 0 rfl ?_
    refine ea_iload (pc := 19) dX11_owedBetween_19 5 rfl ?_
    refine ea_iload_n (pc := 21) dX11_owedBetween_21 rfl 1 rfl ?_
    refine ea_iload_n (pc := 22) dX11_owedBetween_22 rfl 2 rfl ?_
    obtain ⟨f13, g14, H⟩ := H
    refine ea_deref3 e4 ?_
    obtain ⟨d9, xc15, h10, m11, q12, H⟩ := H
    refine ea_callV (pc := 23) (As := [vI x5, vI x1, vI x2]) (st := []) dX11_owedBetween_23 kX11_isBetween m11 q12 rfl (Nat.le_of_ble_eq_true rfl) ew_1166 ew_1168 ew_39 (ci := 11) rfl (by decide) f13 g14 ?_
    refine ea_if_eq (pc := 26) (tgt := 62) dX11_owedBetween_26 rfl (fun c29 => ?_) (fun c29 => ?_)
    · have H := H.1 c29
      refine ea_iinc (pc := 62) (v := 1) (lv' := [(0, vR r0), (1, vI x1), (2, vI x2), (3, vI x3), (4, vI x4), (5, vI (x5 + 1))]) dX11_owedBetween_62 5 rfl rfl (Nat.le_of_ble_eq_true rfl) [1, 2, 3, 4, 5, 0] rfl ?_
      refine ea_goto (pc := 65) (tgt := 6) dX11_owedBetween_65 rfl ?_
      exact H
    · have H := H.2 c29
      refine ea_iload_n (pc := 29) dX11_owedBetween_29 rfl 3 rfl ?_
      refine ea_if_eq (pc := 30) (tgt := 47) dX11_owedBetween_30 rfl (fun c28 => ?_) (fun c28 => ?_)
      · have H := H.1 c28
        exact H
      · have H := H.2 c28
        refine ea_aload_n (pc := 33) dX11_owedBetween_33 rfl 0 rfl ?_
        obtain ⟨f16, g17, H⟩ := H
        refine ea_deref0 e4 ?_
        refine ea_getR (pc := 34) dX11_owedBetween_34 ec_11 (k := 6) (Nat.le_of_ble_eq_true rfl) rfl (Or.inl ew_443) f16 g17 rfl ?_
        obtain ⟨a20, e21, f18, g19, H⟩ := H
        refine ea_deref0 e21 ?_
        refine ea_getR (pc := 37) dX11_owedBetween_37 ec_1 (k := 1) (Nat.le_of_ble_eq_true rfl) rfl (Or.inl ew_362) f18 g19 rfl ?_
        refine ea_iload (pc := 40) dX11_owedBetween_40 5 rfl ?_
        obtain ⟨a24, e25, f22, g23, H⟩ := H
        refine ea_deref1 e25 ?_
        obtain ⟨z26, H⟩ := H
        refine ea_iald (pc := 42) dX11_owedBetween_42 f22 g23 z26 ?_
        refine ea_iconst (pc := 43) dX11_owedBetween_43 (v := 2) rfl ?_
        refine ea_icmp_ne (pc := 44) (tgt := 62) dX11_owedBetween_44 rfl (fun c27 => ?_) (fun c27 => ?_)
        · have H := H.1 c27
          refine ea_iinc (pc := 62) (v := 1) (lv' := [(0, vR r0), (1, vI x1), (2, vI x2), (3, vI x3), (4, vI x4), (5, vI (x5 + 1))]) dX11_owedBetween_62 5 rfl rfl (Nat.le_of_ble_eq_true rfl) [1, 2, 3, 4, 5, 0] rfl ?_
          refine ea_goto (pc := 65) (tgt := 6) dX11_owedBetween_65 rfl ?_
          exact H
        · have H := H.2 c27
          exact H
theorem bX11_owedBetween_47 {d : Nat} {h0 hE h : ea_H} {rv : Option ea_V} {r0 : Option Nat} {x1 : Int32} {x2 : Int32} {x3 : Int32} {x4 : Int32} {x5 : Int32} (H : ∃ a3, r0 = some a3 ∧ a3 < ea_n h ∧ ea_c h a3 = 11 ∧ ∃ a7, (ea_r h a3 5) = some a7 ∧ a7 < ea_n h ∧ ea_c h a7 = 23 ∧ vp_in x5 (ea_l h a7) ∧ ∃ a16, (ea_r h a7 (Int32.toNatClampNeg x5)) = some a16 ∧ a16 < ea_n h ∧ ea_c h a16 = 4 ∧ ∃ (d10 : Nat) (xc18 : Int32) (h11 : ea_H), ea_Met mX4_owed d10 [vR (some a16)] h (some (vI xc18)) h11 ∧ d10 + 1 ≤ d ∧ ea_W mX11_owedBetween d h0 rv hE 6 [(0, vR r0), (1, vI x1), (2, vI x2), (3, vI x3), (4, vI (x4 + xc18)), (5, vI (x5 + 1))] [] h11) : ea_W mX11_owedBetween d h0 rv hE 47 [(0, vR r0), (1, vI x1), (2, vI x2), (3, vI x3), (4, vI x4), (5, vI x5)] [] h := by
  refine ea_iload (pc := 47) dX11_owedBetween_47 4 rfl ?_
  refine ea_aload_n (pc := 49) dX11_owedBetween_49 rfl 0 rfl ?_
  obtain ⟨a3, e4, f1, g2, H⟩ := H
  refine ea_deref0 e4 ?_
  refine ea_getR (pc := 50) dX11_owedBetween_50 ec_11 (k := 5) (Nat.le_of_ble_eq_true rfl) rfl (Or.inl ew_442) f1 g2 rfl ?_
  refine ea_iload (pc := 53) dX11_owedBetween_53 5 rfl ?_
  obtain ⟨a7, e8, f5, g6, H⟩ := H
  refine ea_deref1 e8 ?_
  obtain ⟨z9, H⟩ := H
  refine ea_aald23 (pc := 55) dX11_owedBetween_55 f5 g6 z9 rfl ?_
  obtain ⟨a16, e17, f14, g15, H⟩ := H
  refine ea_deref0 e17 ?_
  obtain ⟨d10, xc18, h11, m12, q13, H⟩ := H
  refine ea_callV (pc := 56) (As := []) (st := [vI x4]) dX11_owedBetween_56 kX4_owed m12 q13 rfl (Nat.le_of_ble_eq_true rfl) ew_1084 ew_1085 ew_1086 (ci := 4) rfl (by decide) f14 g15 ?_
  refine ea_iadd (pc := 59) dX11_owedBetween_59 ?_
  refine ea_istore (pc := 60) (lv' := [(0, vR r0), (1, vI x1), (2, vI x2), (3, vI x3), (4, vI (x4 + xc18)), (5, vI x5)]) dX11_owedBetween_60 (Nat.le_of_ble_eq_true rfl) [1, 2, 3, 4, 0, 5] rfl ?_
  refine ea_iinc (pc := 62) (v := 1) (lv' := [(0, vR r0), (1, vI x1), (2, vI x2), (3, vI x3), (4, vI (x4 + xc18)), (5, vI (x5 + 1))]) dX11_owedBetween_62 5 rfl rfl (Nat.le_of_ble_eq_true rfl) [1, 2, 3, 4, 5, 0] rfl ?_
  refine ea_goto (pc := 65) (tgt := 6) dX11_owedBetween_65 rfl ?_
  exact H
theorem dX11_differs_0 : decode cX11_differs 0 = .ok (.aload_n 0, 1) := by decide +kernel
theorem dX11_differs_1 : decode cX11_differs 1 = .ok (.iload_n 1, 1) := by decide +kernel
theorem dX11_differs_2 : decode cX11_differs 2 = .ok (.iload_n 2, 1) := by decide +kernel
theorem dX11_differs_3 : decode cX11_differs 3 = .ok (.iload_n 3, 1) := by decide +kernel
theorem dX11_differs_4 : decode cX11_differs 4 = .ok (.invokevirtual 462, 3) := by decide +kernel
theorem dX11_differs_7 : decode cX11_differs 7 = .ok (.ifCond .eq 32, 3) := by decide +kernel
theorem dX11_differs_10 : decode cX11_differs 10 = .ok (.aload_n 0, 1) := by decide +kernel
theorem dX11_differs_11 : decode cX11_differs 11 = .ok (.getfield 48, 3) := by decide +kernel
theorem dX11_differs_14 : decode cX11_differs 14 = .ok (.iload_n 1, 1) := by decide +kernel
theorem dX11_differs_15 : decode cX11_differs 15 = .ok (.aaload, 1) := by decide +kernel
theorem dX11_differs_16 : decode cX11_differs 16 = .ok (.invokevirtual 297, 3) := by decide +kernel
theorem dX11_differs_19 : decode cX11_differs 19 = .ok (.ifCond .le 20, 3) := by decide +kernel
theorem dX11_differs_22 : decode cX11_differs 22 = .ok (.aload_n 0, 1) := by decide +kernel
theorem dX11_differs_23 : decode cX11_differs 23 = .ok (.getfield 57, 3) := by decide +kernel
theorem dX11_differs_26 : decode cX11_differs 26 = .ok (.getfield 255, 3) := by decide +kernel
theorem dX11_differs_29 : decode cX11_differs 29 = .ok (.iload_n 1, 1) := by decide +kernel
theorem dX11_differs_30 : decode cX11_differs 30 = .ok (.iaload, 1) := by decide +kernel
theorem dX11_differs_31 : decode cX11_differs 31 = .ok (.iconst 2, 1) := by decide +kernel
theorem dX11_differs_32 : decode cX11_differs 32 = .ok (.if_icmp .eq 7, 3) := by decide +kernel
theorem dX11_differs_35 : decode cX11_differs 35 = .ok (.iconst 1, 1) := by decide +kernel
theorem dX11_differs_36 : decode cX11_differs 36 = .ok (.goto 4, 3) := by decide +kernel
theorem dX11_differs_39 : decode cX11_differs 39 = .ok (.iconst 0, 1) := by decide +kernel
theorem dX11_differs_40 : decode cX11_differs 40 = .ok (.ireturn, 1) := by decide +kernel
theorem bX11_differs_0 {d : Nat} {h0 hE h : ea_H} {rv : Option ea_V} {r0 : Option Nat} {x1 : Int32} {x2 : Int32} {x3 : Int32} (H : ∃ a7, r0 = some a7 ∧ a7 < ea_n h ∧ ea_c h a7 = 11 ∧ ∃ (d1 : Nat) (xc9 : Int32) (h2 : ea_H), ea_Met mX11_isBetween d1 [vR (some a7), vI x1, vI x2, vI x3] h (some (vI xc9)) h2 ∧ d1 + 1 ≤ d ∧ (xc9 = (0 : Int32) → rv = some (vI 0) ∧ hE = h2) ∧ (¬ xc9 = (0 : Int32) → a7 < ea_n h2 ∧ ea_c h2 a7 = 11 ∧ ∃ a14, (ea_r h2 a7 5) = some a14 ∧ a14 < ea_n h2 ∧ ea_c h2 a14 = 23 ∧ vp_in x1 (ea_l h2 a14) ∧ ∃ a23, (ea_r h2 a14 (Int32.toNatClampNeg x1)) = some a23 ∧ a23 < ea_n h2 ∧ ea_c h2 a23 = 4 ∧ ∃ (d17 : Nat) (xc25 : Int32) (h18 : ea_H), ea_Met mX4_owed d17 [vR (some a23)] h2 (some (vI xc25)) h18 ∧ d17 + 1 ≤ d ∧ (xc25 ≤ (0 : Int32) → rv = some (vI 0) ∧ hE = h18) ∧ (¬ xc25 ≤ (0 : Int32) → a7 < ea_n h18 ∧ ea_c h18 a7 = 11 ∧ ∃ a30, (ea_r h18 a7 6) = some a30 ∧ a30 < ea_n h18 ∧ ea_c h18 a30 = 1 ∧ ∃ a34, (ea_r h18 a30 1) = some a34 ∧ a34 < ea_n h18 ∧ ea_c h18 a34 = 20 ∧ vp_in x1 (ea_l h18 a34) ∧ ((ea_i h18 a34 (Int32.toNatClampNeg x1)) = (2 : Int32) → rv = some (vI 0) ∧ hE = h18) ∧ (¬ (ea_i h18 a34 (Int32.toNatClampNeg x1)) = (2 : Int32) → rv = some (vI 1) ∧ hE = h18)))) : ea_W mX11_differs d h0 rv hE 0 [(0, vR r0), (1, vI x1), (2, vI x2), (3, vI x3)] [] h := by
  refine ea_aload_n (pc := 0) dX11_differs_0 rfl 0 rfl ?_
  refine ea_iload_n (pc := 1) dX11_differs_1 rfl 1 rfl ?_
  refine ea_iload_n (pc := 2) dX11_differs_2 rfl 2 rfl ?_
  refine ea_iload_n (pc := 3) dX11_differs_3 rfl 3 rfl ?_
  obtain ⟨a7, e8, f5, g6, H⟩ := H
  refine ea_deref3 e8 ?_
  obtain ⟨d1, xc9, h2, m3, q4, H⟩ := H
  refine ea_callV (pc := 4) (As := [vI x1, vI x2, vI x3]) (st := []) dX11_differs_4 kX11_isBetween m3 q4 rfl (Nat.le_of_ble_eq_true rfl) ew_1166 ew_1168 ew_39 (ci := 11) rfl (by decide) f5 g6 ?_
  refine ea_if_eq (pc := 7) (tgt := 39) dX11_differs_7 rfl (fun c39 => ?_) (fun c39 => ?_)
  · have H := H.1 c39
    refine ea_iconst (pc := 39) dX11_differs_39 (v := 0) rfl ?_
    obtain ⟨rfl, rfl⟩ := H
    exact ea_ireturn (pc := 40) dX11_differs_40 rfl (ea_bn (Or.inl rfl))
  · have H := H.2 c39
    refine ea_aload_n (pc := 10) dX11_differs_10 rfl 0 rfl ?_
    obtain ⟨f10, g11, H⟩ := H
    refine ea_deref0 e8 ?_
    refine ea_getR (pc := 11) dX11_differs_11 ec_11 (k := 5) (Nat.le_of_ble_eq_true rfl) rfl (Or.inl ew_442) f10 g11 rfl ?_
    refine ea_iload_n (pc := 14) dX11_differs_14 rfl 1 rfl ?_
    obtain ⟨a14, e15, f12, g13, H⟩ := H
    refine ea_deref1 e15 ?_
    obtain ⟨z16, H⟩ := H
    refine ea_aald23 (pc := 15) dX11_differs_15 f12 g13 z16 rfl ?_
    obtain ⟨a23, e24, f21, g22, H⟩ := H
    refine ea_deref0 e24 ?_
    obtain ⟨d17, xc25, h18, m19, q20, H⟩ := H
    refine ea_callV (pc := 16) (As := []) (st := []) dX11_differs_16 kX4_owed m19 q20 rfl (Nat.le_of_ble_eq_true rfl) ew_1084 ew_1085 ew_1086 (ci := 4) rfl (by decide) f21 g22 ?_
    refine ea_if_le (pc := 19) (tgt := 39) dX11_differs_19 rfl (fun c38 => ?_) (fun c38 => ?_)
    · have H := H.1 c38
      refine ea_iconst (pc := 39) dX11_differs_39 (v := 0) rfl ?_
      obtain ⟨rfl, rfl⟩ := H
      exact ea_ireturn (pc := 40) dX11_differs_40 rfl (ea_bn (Or.inl rfl))
    · have H := H.2 c38
      refine ea_aload_n (pc := 22) dX11_differs_22 rfl 0 rfl ?_
      obtain ⟨f26, g27, H⟩ := H
      refine ea_deref0 e8 ?_
      refine ea_getR (pc := 23) dX11_differs_23 ec_11 (k := 6) (Nat.le_of_ble_eq_true rfl) rfl (Or.inl ew_443) f26 g27 rfl ?_
      obtain ⟨a30, e31, f28, g29, H⟩ := H
      refine ea_deref0 e31 ?_
      refine ea_getR (pc := 26) dX11_differs_26 ec_1 (k := 1) (Nat.le_of_ble_eq_true rfl) rfl (Or.inl ew_362) f28 g29 rfl ?_
      refine ea_iload_n (pc := 29) dX11_differs_29 rfl 1 rfl ?_
      obtain ⟨a34, e35, f32, g33, H⟩ := H
      refine ea_deref1 e35 ?_
      obtain ⟨z36, H⟩ := H
      refine ea_iald (pc := 30) dX11_differs_30 f32 g33 z36 ?_
      refine ea_iconst (pc := 31) dX11_differs_31 (v := 2) rfl ?_
      refine ea_icmp_eq (pc := 32) (tgt := 39) dX11_differs_32 rfl (fun c37 => ?_) (fun c37 => ?_)
      · have H := H.1 c37
        refine ea_iconst (pc := 39) dX11_differs_39 (v := 0) rfl ?_
        obtain ⟨rfl, rfl⟩ := H
        exact ea_ireturn (pc := 40) dX11_differs_40 rfl (ea_bn (Or.inl rfl))
      · have H := H.2 c37
        refine ea_iconst (pc := 35) dX11_differs_35 (v := 1) rfl ?_
        refine ea_goto (pc := 36) (tgt := 40) dX11_differs_36 rfl ?_
        obtain ⟨rfl, rfl⟩ := H
        exact ea_ireturn (pc := 40) dX11_differs_40 rfl (ea_bn (Or.inr rfl))
theorem dX11_differing_0 : decode cX11_differing 0 = .ok (.iconst 0, 1) := by decide +kernel
theorem dX11_differing_1 : decode cX11_differing 1 = .ok (.istore_n 3, 1) := by decide +kernel
theorem dX11_differing_2 : decode cX11_differing 2 = .ok (.iconst 0, 1) := by decide +kernel
theorem dX11_differing_3 : decode cX11_differing 3 = .ok (.istore 4, 2) := by decide +kernel
theorem dX11_differing_5 : decode cX11_differing 5 = .ok (.iload 4, 2) := by decide +kernel
theorem dX11_differing_7 : decode cX11_differing 7 = .ok (.aload_n 0, 1) := by decide +kernel
theorem dX11_differing_8 : decode cX11_differing 8 = .ok (.getfield 57, 3) := by decide +kernel
theorem dX11_differing_11 : decode cX11_differing 11 = .ok (.getfield 154, 3) := by decide +kernel
theorem dX11_differing_14 : decode cX11_differing 14 = .ok (.if_icmp .ge 23, 3) := by decide +kernel
theorem dX11_differing_17 : decode cX11_differing 17 = .ok (.aload_n 0, 1) := by decide +kernel
theorem dX11_differing_18 : decode cX11_differing 18 = .ok (.iload 4, 2) := by decide +kernel
theorem dX11_differing_20 : decode cX11_differing 20 = .ok (.iload_n 1, 1) := by decide +kernel
theorem dX11_differing_21 : decode cX11_differing 21 = .ok (.iload_n 2, 1) := by decide +kernel
theorem dX11_differing_22 : decode cX11_differing 22 = .ok (.invokevirtual 465, 3) := by decide +kernel
theorem dX11_differing_25 : decode cX11_differing 25 = .ok (.ifCond .eq 6, 3) := by decide +kernel
theorem dX11_differing_28 : decode cX11_differing 28 = .ok (.iinc 3 1, 3) := by decide +kernel
theorem dX11_differing_31 : decode cX11_differing 31 = .ok (.iinc 4 1, 3) := by decide +kernel
theorem dX11_differing_34 : decode cX11_differing 34 = .ok (.goto (-29), 3) := by decide +kernel
theorem dX11_differing_37 : decode cX11_differing 37 = .ok (.iload_n 3, 1) := by decide +kernel
theorem dX11_differing_38 : decode cX11_differing 38 = .ok (.ireturn, 1) := by decide +kernel
theorem bX11_differing_0 {d : Nat} {h0 hE h : ea_H} {rv : Option ea_V} {r0 : Option Nat} {x1 : Int32} {x2 : Int32} (H : ea_W mX11_differing d h0 rv hE 5 [(0, vR r0), (1, vI x1), (2, vI x2), (3, vI 0), (4, vI 0)] [] h) : ea_W mX11_differing d h0 rv hE 0 [(0, vR r0), (1, vI x1), (2, vI x2)] [] h := by
  refine ea_iconst (pc := 0) dX11_differing_0 (v := 0) rfl ?_
  refine ea_istore_n (pc := 1) (lv' := [(0, vR r0), (1, vI x1), (2, vI x2), (3, vI 0)]) dX11_differing_1 rfl (Nat.le_of_ble_eq_true rfl) [1, 2, 3, 0] rfl ?_
  refine ea_iconst (pc := 2) dX11_differing_2 (v := 0) rfl ?_
  refine ea_istore (pc := 3) (lv' := [(0, vR r0), (1, vI x1), (2, vI x2), (3, vI 0), (4, vI 0)]) dX11_differing_3 (Nat.le_of_ble_eq_true rfl) [1, 2, 3, 4, 0] rfl ?_
  exact H
theorem bX11_differing_5 {d : Nat} {h0 hE h : ea_H} {rv : Option ea_V} {r0 : Option Nat} {x1 : Int32} {x2 : Int32} {x3 : Int32} {x4 : Int32} (H : ∃ a3, r0 = some a3 ∧ a3 < ea_n h ∧ ea_c h a3 = 11 ∧ ∃ a7, (ea_r h a3 6) = some a7 ∧ a7 < ea_n h ∧ ea_c h a7 = 1 ∧ ((ea_i h a7 0) ≤ x4 → rv = some (vI x3) ∧ hE = h) ∧ (¬ (ea_i h a7 0) ≤ x4 → a3 < ea_n h ∧ ea_c h a3 = 11 ∧ ∃ (d9 : Nat) (xc15 : Int32) (h10 : ea_H), ea_Met mX11_differs d9 [vR (some a3), vI x4, vI x1, vI x2] h (some (vI xc15)) h10 ∧ d9 + 1 ≤ d ∧ (xc15 = (0 : Int32) → ea_W mX11_differing d h0 rv hE 5 [(0, vR r0), (1, vI x1), (2, vI x2), (3, vI x3), (4, vI (x4 + 1))] [] h10) ∧ (¬ xc15 = (0 : Int32) → ea_W mX11_differing d h0 rv hE 5 [(0, vR r0), (1, vI x1), (2, vI x2), (3, vI (x3 + 1)), (4, vI (x4 + 1))] [] h10))) : ea_W mX11_differing d h0 rv hE 5 [(0, vR r0), (1, vI x1), (2, vI x2), (3, vI x3), (4, vI x4)] [] h := by
  refine ea_iload (pc := 5) dX11_differing_5 4 rfl ?_
  refine ea_aload_n (pc := 7) dX11_differing_7 rfl 0 rfl ?_
  obtain ⟨a3, e4, f1, g2, H⟩ := H
  refine ea_deref0 e4 ?_
  refine ea_getR (pc := 8) dX11_differing_8 ec_11 (k := 6) (Nat.le_of_ble_eq_true rfl) rfl (Or.inl ew_443) f1 g2 rfl ?_
  obtain ⟨a7, e8, f5, g6, H⟩ := H
  refine ea_deref0 e8 ?_
  refine ea_getI (pc := 11) dX11_differing_11 ec_1 (k := 0) (Nat.le_of_ble_eq_true rfl) rfl (Or.inl ew_360) f5 g6 ?_
  refine ea_icmp_ge (pc := 14) (tgt := 37) dX11_differing_14 rfl (fun c17 => ?_) (fun c17 => ?_)
  · have H := H.1 c17
    refine ea_iload_n (pc := 37) dX11_differing_37 rfl 3 rfl ?_
    obtain ⟨rfl, rfl⟩ := H
    exact ea_ireturn (pc := 38) dX11_differing_38 rfl rfl
  · have H := H.2 c17
    refine ea_aload_n (pc := 17) dX11_differing_17 rfl 0 rfl ?_
    refine ea_iload (pc := 18) dX11_differing_18 4 rfl ?_
    refine ea_iload_n (pc := 20) dX11_differing_20 rfl 1 rfl ?_
    refine ea_iload_n (pc := 21) dX11_differing_21 rfl 2 rfl ?_
    obtain ⟨f13, g14, H⟩ := H
    refine ea_deref3 e4 ?_
    obtain ⟨d9, xc15, h10, m11, q12, H⟩ := H
    refine ea_callV (pc := 22) (As := [vI x4, vI x1, vI x2]) (st := []) dX11_differing_22 kX11_differs m11 q12 rfl (Nat.le_of_ble_eq_true rfl) ew_1174 ew_1176 ew_41 (ci := 11) rfl (by decide) f13 g14 ?_
    refine ea_if_eq (pc := 25) (tgt := 31) dX11_differing_25 rfl (fun c16 => ?_) (fun c16 => ?_)
    · have H := H.1 c16
      refine ea_iinc (pc := 31) (v := 1) (lv' := [(0, vR r0), (1, vI x1), (2, vI x2), (3, vI x3), (4, vI (x4 + 1))]) dX11_differing_31 4 rfl rfl (Nat.le_of_ble_eq_true rfl) [1, 2, 3, 4, 0] rfl ?_
      refine ea_goto (pc := 34) (tgt := 5) dX11_differing_34 rfl ?_
      exact H
    · have H := H.2 c16
      refine ea_iinc (pc := 28) (v := 1) (lv' := [(0, vR r0), (1, vI x1), (2, vI x2), (3, vI (x3 + 1)), (4, vI x4)]) dX11_differing_28 3 rfl rfl (Nat.le_of_ble_eq_true rfl) [1, 2, 3, 0, 4] rfl ?_
      refine ea_iinc (pc := 31) (v := 1) (lv' := [(0, vR r0), (1, vI x1), (2, vI x2), (3, vI (x3 + 1)), (4, vI (x4 + 1))]) dX11_differing_31 4 rfl rfl (Nat.le_of_ble_eq_true rfl) [1, 2, 3, 4, 0] rfl ?_
      refine ea_goto (pc := 34) (tgt := 5) dX11_differing_34 rfl ?_
      exact H
theorem dX11_differingLetter_0 : decode cX11_differingLetter 0 = .ok (.iconst 0, 1) := by decide +kernel
theorem dX11_differingLetter_1 : decode cX11_differingLetter 1 = .ok (.istore 4, 2) := by decide +kernel
theorem dX11_differingLetter_3 : decode cX11_differingLetter 3 = .ok (.iconst 0, 1) := by decide +kernel
theorem dX11_differingLetter_4 : decode cX11_differingLetter 4 = .ok (.istore 5, 2) := by decide +kernel
theorem dX11_differingLetter_6 : decode cX11_differingLetter 6 = .ok (.iload 5, 2) := by decide +kernel
theorem dX11_differingLetter_8 : decode cX11_differingLetter 8 = .ok (.aload_n 0, 1) := by decide +kernel
theorem dX11_differingLetter_9 : decode cX11_differingLetter 9 = .ok (.getfield 57, 3) := by decide +kernel
theorem dX11_differingLetter_12 : decode cX11_differingLetter 12 = .ok (.getfield 154, 3) := by decide +kernel
theorem dX11_differingLetter_15 : decode cX11_differingLetter 15 = .ok (.if_icmp .ge 32, 3) := by decide +kernel
theorem dX11_differingLetter_18 : decode cX11_differingLetter 18 = .ok (.aload_n 0, 1) := by decide +kernel
theorem dX11_differingLetter_19 : decode cX11_differingLetter 19 = .ok (.iload 5, 2) := by decide +kernel
theorem dX11_differingLetter_21 : decode cX11_differingLetter 21 = .ok (.iload_n 1, 1) := by decide +kernel
theorem dX11_differingLetter_22 : decode cX11_differingLetter 22 = .ok (.iload_n 2, 1) := by decide +kernel
theorem dX11_differingLetter_23 : decode cX11_differingLetter 23 = .ok (.invokevirtual 465, 3) := by decide +kernel
theorem dX11_differingLetter_26 : decode cX11_differingLetter 26 = .ok (.ifCond .eq 15, 3) := by decide +kernel
theorem dX11_differingLetter_29 : decode cX11_differingLetter 29 = .ok (.iload 4, 2) := by decide +kernel
theorem dX11_differingLetter_31 : decode cX11_differingLetter 31 = .ok (.iload_n 3, 1) := by decide +kernel
theorem dX11_differingLetter_32 : decode cX11_differingLetter 32 = .ok (.if_icmp .ne 6, 3) := by decide +kernel
theorem dX11_differingLetter_35 : decode cX11_differingLetter 35 = .ok (.iload 5, 2) := by decide +kernel
theorem dX11_differingLetter_37 : decode cX11_differingLetter 37 = .ok (.ireturn, 1) := by decide +kernel
theorem dX11_differingLetter_38 : decode cX11_differingLetter 38 = .ok (.iinc 4 1, 3) := by decide +kernel
theorem dX11_differingLetter_41 : decode cX11_differingLetter 41 = .ok (.iinc 5 1, 3) := by decide +kernel
theorem dX11_differingLetter_44 : decode cX11_differingLetter 44 = .ok (.goto (-38), 3) := by decide +kernel
theorem dX11_differingLetter_47 : decode cX11_differingLetter 47 = .ok (.iconst (-1), 1) := by decide +kernel
theorem dX11_differingLetter_48 : decode cX11_differingLetter 48 = .ok (.ireturn, 1) := by decide +kernel
theorem bX11_differingLetter_0 {d : Nat} {h0 hE h : ea_H} {rv : Option ea_V} {r0 : Option Nat} {x1 : Int32} {x2 : Int32} {x3 : Int32} (H : ea_W mX11_differingLetter d h0 rv hE 6 [(0, vR r0), (1, vI x1), (2, vI x2), (3, vI x3), (4, vI 0), (5, vI 0)] [] h) : ea_W mX11_differingLetter d h0 rv hE 0 [(0, vR r0), (1, vI x1), (2, vI x2), (3, vI x3)] [] h := by
  refine ea_iconst (pc := 0) dX11_differingLetter_0 (v := 0) rfl ?_
  refine ea_istore (pc := 1) (lv' := [(0, vR r0), (1, vI x1), (2, vI x2), (3, vI x3), (4, vI 0)]) dX11_differingLetter_1 (Nat.le_of_ble_eq_true rfl) [1, 2, 3, 4, 0] rfl ?_
  refine ea_iconst (pc := 3) dX11_differingLetter_3 (v := 0) rfl ?_
  refine ea_istore (pc := 4) (lv' := [(0, vR r0), (1, vI x1), (2, vI x2), (3, vI x3), (4, vI 0), (5, vI 0)]) dX11_differingLetter_4 (Nat.le_of_ble_eq_true rfl) [1, 2, 3, 4, 5, 0] rfl ?_
  exact H
theorem bX11_differingLetter_6 {d : Nat} {h0 hE h : ea_H} {rv : Option ea_V} {r0 : Option Nat} {x1 : Int32} {x2 : Int32} {x3 : Int32} {x4 : Int32} {x5 : Int32} (H : ∃ a3, r0 = some a3 ∧ a3 < ea_n h ∧ ea_c h a3 = 11 ∧ ∃ a7, (ea_r h a3 6) = some a7 ∧ a7 < ea_n h ∧ ea_c h a7 = 1 ∧ ((ea_i h a7 0) ≤ x5 → rv = some (vI (-1)) ∧ hE = h) ∧ (¬ (ea_i h a7 0) ≤ x5 → a3 < ea_n h ∧ ea_c h a3 = 11 ∧ ∃ (d9 : Nat) (xc15 : Int32) (h10 : ea_H), ea_Met mX11_differs d9 [vR (some a3), vI x5, vI x1, vI x2] h (some (vI xc15)) h10 ∧ d9 + 1 ≤ d ∧ (xc15 = (0 : Int32) → ea_W mX11_differingLetter d h0 rv hE 6 [(0, vR r0), (1, vI x1), (2, vI x2), (3, vI x3), (4, vI x4), (5, vI (x5 + 1))] [] h10) ∧ (¬ xc15 = (0 : Int32) → (¬ x4 = x3 → ea_W mX11_differingLetter d h0 rv hE 6 [(0, vR r0), (1, vI x1), (2, vI x2), (3, vI x3), (4, vI (x4 + 1)), (5, vI (x5 + 1))] [] h10) ∧ (x4 = x3 → rv = some (vI x5) ∧ hE = h10)))) : ea_W mX11_differingLetter d h0 rv hE 6 [(0, vR r0), (1, vI x1), (2, vI x2), (3, vI x3), (4, vI x4), (5, vI x5)] [] h := by
  refine ea_iload (pc := 6) dX11_differingLetter_6 5 rfl ?_
  refine ea_aload_n (pc := 8) dX11_differingLetter_8 rfl 0 rfl ?_
  obtain ⟨a3, e4, f1, g2, H⟩ := H
  refine ea_deref0 e4 ?_
  refine ea_getR (pc := 9) dX11_differingLetter_9 ec_11 (k := 6) (Nat.le_of_ble_eq_true rfl) rfl (Or.inl ew_443) f1 g2 rfl ?_
  obtain ⟨a7, e8, f5, g6, H⟩ := H
  refine ea_deref0 e8 ?_
  refine ea_getI (pc := 12) dX11_differingLetter_12 ec_1 (k := 0) (Nat.le_of_ble_eq_true rfl) rfl (Or.inl ew_360) f5 g6 ?_
  refine ea_icmp_ge (pc := 15) (tgt := 47) dX11_differingLetter_15 rfl (fun c18 => ?_) (fun c18 => ?_)
  · have H := H.1 c18
    refine ea_iconst (pc := 47) dX11_differingLetter_47 (v := (-1)) rfl ?_
    obtain ⟨rfl, rfl⟩ := H
    exact ea_ireturn (pc := 48) dX11_differingLetter_48 rfl rfl
  · have H := H.2 c18
    refine ea_aload_n (pc := 18) dX11_differingLetter_18 rfl 0 rfl ?_
    refine ea_iload (pc := 19) dX11_differingLetter_19 5 rfl ?_
    refine ea_iload_n (pc := 21) dX11_differingLetter_21 rfl 1 rfl ?_
    refine ea_iload_n (pc := 22) dX11_differingLetter_22 rfl 2 rfl ?_
    obtain ⟨f13, g14, H⟩ := H
    refine ea_deref3 e4 ?_
    obtain ⟨d9, xc15, h10, m11, q12, H⟩ := H
    refine ea_callV (pc := 23) (As := [vI x5, vI x1, vI x2]) (st := []) dX11_differingLetter_23 kX11_differs m11 q12 rfl (Nat.le_of_ble_eq_true rfl) ew_1174 ew_1176 ew_41 (ci := 11) rfl (by decide) f13 g14 ?_
    refine ea_if_eq (pc := 26) (tgt := 41) dX11_differingLetter_26 rfl (fun c17 => ?_) (fun c17 => ?_)
    · have H := H.1 c17
      refine ea_iinc (pc := 41) (v := 1) (lv' := [(0, vR r0), (1, vI x1), (2, vI x2), (3, vI x3), (4, vI x4), (5, vI (x5 + 1))]) dX11_differingLetter_41 5 rfl rfl (Nat.le_of_ble_eq_true rfl) [1, 2, 3, 4, 5, 0] rfl ?_
      refine ea_goto (pc := 44) (tgt := 6) dX11_differingLetter_44 rfl ?_
      exact H
    · have H := H.2 c17
      refine ea_iload (pc := 29) dX11_differingLetter_29 4 rfl ?_
      refine ea_iload_n (pc := 31) dX11_differingLetter_31 rfl 3 rfl ?_
      refine ea_icmp_ne (pc := 32) (tgt := 38) dX11_differingLetter_32 rfl (fun c16 => ?_) (fun c16 => ?_)
      · have H := H.1 c16
        refine ea_iinc (pc := 38) (v := 1) (lv' := [(0, vR r0), (1, vI x1), (2, vI x2), (3, vI x3), (4, vI (x4 + 1)), (5, vI x5)]) dX11_differingLetter_38 4 rfl rfl (Nat.le_of_ble_eq_true rfl) [1, 2, 3, 4, 0, 5] rfl ?_
        refine ea_iinc (pc := 41) (v := 1) (lv' := [(0, vR r0), (1, vI x1), (2, vI x2), (3, vI x3), (4, vI (x4 + 1)), (5, vI (x5 + 1))]) dX11_differingLetter_41 5 rfl rfl (Nat.le_of_ble_eq_true rfl) [1, 2, 3, 4, 5, 0] rfl ?_
        refine ea_goto (pc := 44) (tgt := 6) dX11_differingLetter_44 rfl ?_
        exact H
      · have H := H.2 c16
        refine ea_iload (pc := 35) dX11_differingLetter_35 5 rfl ?_
        obtain ⟨rfl, rfl⟩ := H
        exact ea_ireturn (pc := 37) dX11_differingLetter_37 rfl rfl
theorem dX11_isUnderWay_0 : decode cX11_isUnderWay 0 = .ok (.aload_n 0, 1) := by decide +kernel
theorem dX11_isUnderWay_1 : decode cX11_isUnderWay 1 = .ok (.getfield 19, 3) := by decide +kernel
theorem dX11_isUnderWay_4 : decode cX11_isUnderWay 4 = .ok (.iload_n 1, 1) := by decide +kernel
theorem dX11_isUnderWay_5 : decode cX11_isUnderWay 5 = .ok (.iload_n 2, 1) := by decide +kernel
theorem dX11_isUnderWay_6 : decode cX11_isUnderWay 6 = .ok (.aload_n 0, 1) := by decide +kernel
theorem dX11_isUnderWay_7 : decode cX11_isUnderWay 7 = .ok (.getfield 100, 3) := by decide +kernel
theorem dX11_isUnderWay_10 : decode cX11_isUnderWay 10 = .ok (.invokevirtual 353, 3) := by decide +kernel
theorem dX11_isUnderWay_13 : decode cX11_isUnderWay 13 = .ok (.istore_n 3, 1) := by decide +kernel
theorem dX11_isUnderWay_14 : decode cX11_isUnderWay 14 = .ok (.iload_n 3, 1) := by decide +kernel
theorem dX11_isUnderWay_15 : decode cX11_isUnderWay 15 = .ok (.iconst (-1), 1) := by decide +kernel
theorem dX11_isUnderWay_16 : decode cX11_isUnderWay 16 = .ok (.if_icmp .eq 26, 3) := by decide +kernel
theorem dX11_isUnderWay_19 : decode cX11_isUnderWay 19 = .ok (.aload_n 0, 1) := by decide +kernel
theorem dX11_isUnderWay_20 : decode cX11_isUnderWay 20 = .ok (.getfield 19, 3) := by decide +kernel
theorem dX11_isUnderWay_23 : decode cX11_isUnderWay 23 = .ok (.iload_n 1, 1) := by decide +kernel
theorem dX11_isUnderWay_24 : decode cX11_isUnderWay 24 = .ok (.iload_n 2, 1) := by decide +kernel
theorem dX11_isUnderWay_25 : decode cX11_isUnderWay 25 = .ok (.iload_n 3, 1) := by decide +kernel
theorem dX11_isUnderWay_26 : decode cX11_isUnderWay 26 = .ok (.iconst 1, 1) := by decide +kernel
theorem dX11_isUnderWay_27 : decode cX11_isUnderWay 27 = .ok (.iadd, 1) := by decide +kernel
theorem dX11_isUnderWay_28 : decode cX11_isUnderWay 28 = .ok (.invokevirtual 142, 3) := by decide +kernel
theorem dX11_isUnderWay_31 : decode cX11_isUnderWay 31 = .ok (.aload_n 0, 1) := by decide +kernel
theorem dX11_isUnderWay_32 : decode cX11_isUnderWay 32 = .ok (.getfield 100, 3) := by decide +kernel
theorem dX11_isUnderWay_35 : decode cX11_isUnderWay 35 = .ok (.if_icmp .le 7, 3) := by decide +kernel
theorem dX11_isUnderWay_38 : decode cX11_isUnderWay 38 = .ok (.iconst 1, 1) := by decide +kernel
theorem dX11_isUnderWay_39 : decode cX11_isUnderWay 39 = .ok (.goto 4, 3) := by decide +kernel
theorem dX11_isUnderWay_42 : decode cX11_isUnderWay 42 = .ok (.iconst 0, 1) := by decide +kernel
theorem dX11_isUnderWay_43 : decode cX11_isUnderWay 43 = .ok (.ireturn, 1) := by decide +kernel
theorem bX11_isUnderWay_0 {d : Nat} {h0 hE h : ea_H} {rv : Option ea_V} {r0 : Option Nat} {x1 : Int32} {x2 : Int32} (H : ∃ a3, r0 = some a3 ∧ a3 < ea_n h ∧ ea_c h a3 = 11 ∧ a3 < ea_n h ∧ ea_c h a3 = 11 ∧ ∃ a13, (ea_r h a3 1) = some a13 ∧ a13 < ea_n h ∧ ea_c h a13 = 9 ∧ ∃ (d7 : Nat) (xc15 : Int32) (h8 : ea_H), ea_Met mX9_goneFrom d7 [vR (some a13), vI x1, vI x2, vI (ea_i h a3 11)] h (some (vI xc15)) h8 ∧ d7 + 1 ≤ d ∧ (xc15 = ((-1) : Int32) → rv = some (vI 0) ∧ hE = h8) ∧ (¬ xc15 = ((-1) : Int32) → a3 < ea_n h8 ∧ ea_c h8 a3 = 11 ∧ ∃ a24, (ea_r h8 a3 1) = some a24 ∧ a24 < ea_n h8 ∧ ea_c h8 a24 = 9 ∧ ∃ (d18 : Nat) (xc26 : Int32) (h19 : ea_H), ea_Met mX9_comesAt d18 [vR (some a24), vI x1, vI x2, vI (xc15 + (1 : Int32))] h8 (some (vI xc26)) h19 ∧ d18 + 1 ≤ d ∧ a3 < ea_n h19 ∧ ea_c h19 a3 = 11 ∧ (xc26 ≤ (ea_i h19 a3 11) → rv = some (vI 0) ∧ hE = h19) ∧ (¬ xc26 ≤ (ea_i h19 a3 11) → rv = some (vI 1) ∧ hE = h19))) : ea_W mX11_isUnderWay d h0 rv hE 0 [(0, vR r0), (1, vI x1), (2, vI x2)] [] h := by
  refine ea_aload_n (pc := 0) dX11_isUnderWay_0 rfl 0 rfl ?_
  obtain ⟨a3, e4, f1, g2, H⟩ := H
  refine ea_deref0 e4 ?_
  refine ea_getR (pc := 1) dX11_isUnderWay_1 ec_11 (k := 1) (Nat.le_of_ble_eq_true rfl) rfl (Or.inl ew_438) f1 g2 rfl ?_
  refine ea_iload_n (pc := 4) dX11_isUnderWay_4 rfl 1 rfl ?_
  refine ea_iload_n (pc := 5) dX11_isUnderWay_5 rfl 2 rfl ?_
  refine ea_aload_n (pc := 6) dX11_isUnderWay_6 rfl 0 rfl ?_
  obtain ⟨f5, g6, H⟩ := H
  refine ea_deref0 e4 ?_
  refine ea_getI (pc := 7) dX11_isUnderWay_7 ec_11 (k := 11) (Nat.le_of_ble_eq_true rfl) rfl (Or.inl ew_448) f5 g6 ?_
  obtain ⟨a13, e14, f11, g12, H⟩ := H
  refine ea_deref3 e14 ?_
  obtain ⟨d7, xc15, h8, m9, q10, H⟩ := H
  refine ea_callV (pc := 10) (As := [vI x1, vI x2, vI (ea_i h a3 11)]) (st := []) dX11_isUnderWay_10 kX9_goneFrom m9 q10 rfl (Nat.le_of_ble_eq_true rfl) ew_1153 ew_1154 ew_1155 (ci := 9) rfl (by decide) f11 g12 ?_
  refine ea_istore_n (pc := 13) (lv' := [(0, vR r0), (1, vI x1), (2, vI x2), (3, vI xc15)]) dX11_isUnderWay_13 rfl (Nat.le_of_ble_eq_true rfl) [1, 2, 3, 0] rfl ?_
  refine ea_iload_n (pc := 14) dX11_isUnderWay_14 rfl 3 rfl ?_
  refine ea_iconst (pc := 15) dX11_isUnderWay_15 (v := (-1)) rfl ?_
  refine ea_icmp_eq (pc := 16) (tgt := 42) dX11_isUnderWay_16 rfl (fun c30 => ?_) (fun c30 => ?_)
  · have H := H.1 c30
    refine ea_iconst (pc := 42) dX11_isUnderWay_42 (v := 0) rfl ?_
    obtain ⟨rfl, rfl⟩ := H
    exact ea_ireturn (pc := 43) dX11_isUnderWay_43 rfl (ea_bn (Or.inl rfl))
  · have H := H.2 c30
    refine ea_aload_n (pc := 19) dX11_isUnderWay_19 rfl 0 rfl ?_
    obtain ⟨f16, g17, H⟩ := H
    refine ea_deref0 e4 ?_
    refine ea_getR (pc := 20) dX11_isUnderWay_20 ec_11 (k := 1) (Nat.le_of_ble_eq_true rfl) rfl (Or.inl ew_438) f16 g17 rfl ?_
    refine ea_iload_n (pc := 23) dX11_isUnderWay_23 rfl 1 rfl ?_
    refine ea_iload_n (pc := 24) dX11_isUnderWay_24 rfl 2 rfl ?_
    refine ea_iload_n (pc := 25) dX11_isUnderWay_25 rfl 3 rfl ?_
    refine ea_iconst (pc := 26) dX11_isUnderWay_26 (v := 1) rfl ?_
    refine ea_iadd (pc := 27) dX11_isUnderWay_27 ?_
    obtain ⟨a24, e25, f22, g23, H⟩ := H
    refine ea_deref3 e25 ?_
    obtain ⟨d18, xc26, h19, m20, q21, H⟩ := H
    refine ea_callV (pc := 28) (As := [vI x1, vI x2, vI (xc15 + (1 : Int32))]) (st := []) dX11_isUnderWay_28 kX9_comesAt m20 q21 rfl (Nat.le_of_ble_eq_true rfl) ew_551 ew_552 ew_553 (ci := 9) rfl (by decide) f22 g23 ?_
    refine ea_aload_n (pc := 31) dX11_isUnderWay_31 rfl 0 rfl ?_
    obtain ⟨f27, g28, H⟩ := H
    refine ea_deref0 e4 ?_
    refine ea_getI (pc := 32) dX11_isUnderWay_32 ec_11 (k := 11) (Nat.le_of_ble_eq_true rfl) rfl (Or.inl ew_448) f27 g28 ?_
    refine ea_icmp_le (pc := 35) (tgt := 42) dX11_isUnderWay_35 rfl (fun c29 => ?_) (fun c29 => ?_)
    · have H := H.1 c29
      refine ea_iconst (pc := 42) dX11_isUnderWay_42 (v := 0) rfl ?_
      obtain ⟨rfl, rfl⟩ := H
      exact ea_ireturn (pc := 43) dX11_isUnderWay_43 rfl (ea_bn (Or.inl rfl))
    · have H := H.2 c29
      refine ea_iconst (pc := 38) dX11_isUnderWay_38 (v := 1) rfl ?_
      refine ea_goto (pc := 39) (tgt := 43) dX11_isUnderWay_39 rfl ?_
      obtain ⟨rfl, rfl⟩ := H
      exact ea_ireturn (pc := 43) dX11_isUnderWay_43 rfl (ea_bn (Or.inr rfl))
theorem dX11_outcome_0 : decode cX11_outcome 0 = .ok (.aload_n 0, 1) := by decide +kernel
theorem dX11_outcome_1 : decode cX11_outcome 1 = .ok (.getfield 61, 3) := by decide +kernel
theorem dX11_outcome_4 : decode cX11_outcome 4 = .ok (.aload_n 0, 1) := by decide +kernel
theorem dX11_outcome_5 : decode cX11_outcome 5 = .ok (.getfield 57, 3) := by decide +kernel
theorem dX11_outcome_8 : decode cX11_outcome 8 = .ok (.invokevirtual 468, 3) := by decide +kernel
theorem dX11_outcome_11 : decode cX11_outcome 11 = .ok (.aload_n 0, 1) := by decide +kernel
theorem dX11_outcome_12 : decode cX11_outcome 12 = .ok (.getfield 61, 3) := by decide +kernel
theorem dX11_outcome_15 : decode cX11_outcome 15 = .ok (.aload_n 0, 1) := by decide +kernel
theorem dX11_outcome_16 : decode cX11_outcome 16 = .ok (.getfield 100, 3) := by decide +kernel
theorem dX11_outcome_19 : decode cX11_outcome 19 = .ok (.sipush 10079, 3) := by decide +kernel
theorem dX11_outcome_22 : decode cX11_outcome 22 = .ok (.invokevirtual 146, 3) := by decide +kernel
theorem dX11_outcome_25 : decode cX11_outcome 25 = .ok (.aload_n 0, 1) := by decide +kernel
theorem dX11_outcome_26 : decode cX11_outcome 26 = .ok (.getfield 61, 3) := by decide +kernel
theorem dX11_outcome_29 : decode cX11_outcome 29 = .ok (.invokevirtual 472, 3) := by decide +kernel
theorem dX11_outcome_32 : decode cX11_outcome 32 = .ok (.ireturn, 1) := by decide +kernel
theorem bX11_outcome_0 {d : Nat} {h0 hE h : ea_H} {rv : Option ea_V} {r0 : Option Nat} (H : ∃ a3, r0 = some a3 ∧ a3 < ea_n h ∧ ea_c h a3 = 11 ∧ a3 < ea_n h ∧ ea_c h a3 = 11 ∧ ∃ a13, (ea_r h a3 7) = some a13 ∧ a13 < ea_n h ∧ ea_c h a13 = 1 ∧ ∃ (d7 : Nat) (h8 : ea_H), ea_Met mX1_copy d7 [vR (some a13), vR (ea_r h a3 6)] h none h8 ∧ d7 + 1 ≤ d ∧ a3 < ea_n h8 ∧ ea_c h8 a3 = 11 ∧ a3 < ea_n h8 ∧ ea_c h8 a3 = 11 ∧ ∃ a25, (ea_r h8 a3 7) = some a25 ∧ a25 < ea_n h8 ∧ ea_c h8 a25 = 1 ∧ ∃ (d19 : Nat) (h20 : ea_H), ea_Met mX1_carry d19 [vR (some a25), vI (ea_i h8 a3 11), vI 10079] h8 none h20 ∧ d19 + 1 ≤ d ∧ a3 < ea_n h20 ∧ ea_c h20 a3 = 11 ∧ ∃ a35, (ea_r h20 a3 7) = some a35 ∧ a35 < ea_n h20 ∧ ea_c h20 a35 = 1 ∧ ∃ (d29 : Nat) (xc37 : Int32) (h30 : ea_H), ea_Met mX1_sumOfMinutes d29 [vR (some a35)] h20 (some (vI xc37)) h30 ∧ d29 + 1 ≤ d ∧ rv = some (vI xc37) ∧ hE = h30) : ea_W mX11_outcome d h0 rv hE 0 [(0, vR r0)] [] h := by
  refine ea_aload_n (pc := 0) dX11_outcome_0 rfl 0 rfl ?_
  obtain ⟨a3, e4, f1, g2, H⟩ := H
  refine ea_deref0 e4 ?_
  refine ea_getR (pc := 1) dX11_outcome_1 ec_11 (k := 7) (Nat.le_of_ble_eq_true rfl) rfl (Or.inl ew_444) f1 g2 rfl ?_
  refine ea_aload_n (pc := 4) dX11_outcome_4 rfl 0 rfl ?_
  obtain ⟨f5, g6, H⟩ := H
  refine ea_deref0 e4 ?_
  refine ea_getR (pc := 5) dX11_outcome_5 ec_11 (k := 6) (Nat.le_of_ble_eq_true rfl) rfl (Or.inl ew_443) f5 g6 rfl ?_
  obtain ⟨a13, e14, f11, g12, H⟩ := H
  refine ea_deref1 e14 ?_
  obtain ⟨d7, h8, m9, q10, H⟩ := H
  refine ea_callV (pc := 8) (As := [vR (ea_r h a3 6)]) (st := []) dX11_outcome_8 kX1_copy m9 q10 rfl (Nat.le_of_ble_eq_true rfl) ew_1320 ew_1321 ew_1322 (ci := 1) rfl (by decide) f11 g12 ?_
  refine ea_aload_n (pc := 11) dX11_outcome_11 rfl 0 rfl ?_
  obtain ⟨f15, g16, H⟩ := H
  refine ea_deref0 e4 ?_
  refine ea_getR (pc := 12) dX11_outcome_12 ec_11 (k := 7) (Nat.le_of_ble_eq_true rfl) rfl (Or.inl ew_444) f15 g16 rfl ?_
  refine ea_aload_n (pc := 15) dX11_outcome_15 rfl 0 rfl ?_
  obtain ⟨f17, g18, H⟩ := H
  refine ea_deref0 e4 ?_
  refine ea_getI (pc := 16) dX11_outcome_16 ec_11 (k := 11) (Nat.le_of_ble_eq_true rfl) rfl (Or.inl ew_448) f17 g18 ?_
  refine ea_sipush (pc := 19) dX11_outcome_19 (v := 10079) rfl ?_
  obtain ⟨a25, e26, f23, g24, H⟩ := H
  refine ea_deref2 e26 ?_
  obtain ⟨d19, h20, m21, q22, H⟩ := H
  refine ea_callV (pc := 22) (As := [vI (ea_i h8 a3 11), vI 10079]) (st := []) dX11_outcome_22 kX1_carry m21 q22 rfl (Nat.le_of_ble_eq_true rfl) ew_559 ew_560 ew_561 (ci := 1) rfl (by decide) f23 g24 ?_
  refine ea_aload_n (pc := 25) dX11_outcome_25 rfl 0 rfl ?_
  obtain ⟨f27, g28, H⟩ := H
  refine ea_deref0 e4 ?_
  refine ea_getR (pc := 26) dX11_outcome_26 ec_11 (k := 7) (Nat.le_of_ble_eq_true rfl) rfl (Or.inl ew_444) f27 g28 rfl ?_
  obtain ⟨a35, e36, f33, g34, H⟩ := H
  refine ea_deref0 e36 ?_
  obtain ⟨d29, xc37, h30, m31, q32, H⟩ := H
  refine ea_callV (pc := 29) (As := []) (st := []) dX11_outcome_29 kX1_sumOfMinutes m31 q32 rfl (Nat.le_of_ble_eq_true rfl) ew_1325 ew_1326 ew_1327 (ci := 1) rfl (by decide) f33 g34 ?_
  obtain ⟨rfl, rfl⟩ := H
  exact ea_ireturn (pc := 32) dX11_outcome_32 rfl rfl
theorem dX11_seekSeats_0 : decode cX11_seekSeats 0 = .ok (.aload_n 0, 1) := by decide +kernel
theorem dX11_seekSeats_1 : decode cX11_seekSeats 1 = .ok (.getfield 35, 3) := by decide +kernel
theorem dX11_seekSeats_4 : decode cX11_seekSeats 4 = .ok (.getfield 346, 3) := by decide +kernel
theorem dX11_seekSeats_7 : decode cX11_seekSeats 7 = .ok (.iconst 0, 1) := by decide +kernel
theorem dX11_seekSeats_8 : decode cX11_seekSeats 8 = .ok (.iaload, 1) := by decide +kernel
theorem dX11_seekSeats_9 : decode cX11_seekSeats 9 = .ok (.istore_n 1, 1) := by decide +kernel
theorem dX11_seekSeats_10 : decode cX11_seekSeats 10 = .ok (.aload_n 0, 1) := by decide +kernel
theorem dX11_seekSeats_11 : decode cX11_seekSeats 11 = .ok (.getfield 35, 3) := by decide +kernel
theorem dX11_seekSeats_14 : decode cX11_seekSeats 14 = .ok (.getfield 346, 3) := by decide +kernel
theorem dX11_seekSeats_17 : decode cX11_seekSeats 17 = .ok (.iconst 1, 1) := by decide +kernel
theorem dX11_seekSeats_18 : decode cX11_seekSeats 18 = .ok (.iaload, 1) := by decide +kernel
theorem dX11_seekSeats_19 : decode cX11_seekSeats 19 = .ok (.istore_n 2, 1) := by decide +kernel
theorem dX11_seekSeats_20 : decode cX11_seekSeats 20 = .ok (.aload_n 0, 1) := by decide +kernel
theorem dX11_seekSeats_21 : decode cX11_seekSeats 21 = .ok (.getfield 35, 3) := by decide +kernel
theorem dX11_seekSeats_24 : decode cX11_seekSeats 24 = .ok (.getfield 155, 3) := by decide +kernel
theorem dX11_seekSeats_27 : decode cX11_seekSeats 27 = .ok (.iconst 1, 1) := by decide +kernel
theorem dX11_seekSeats_28 : decode cX11_seekSeats 28 = .ok (.if_icmp .le 13, 3) := by decide +kernel
theorem dX11_seekSeats_31 : decode cX11_seekSeats 31 = .ok (.aload_n 0, 1) := by decide +kernel
theorem dX11_seekSeats_32 : decode cX11_seekSeats 32 = .ok (.getfield 19, 3) := by decide +kernel
theorem dX11_seekSeats_35 : decode cX11_seekSeats 35 = .ok (.getfield 93, 3) := by decide +kernel
theorem dX11_seekSeats_38 : decode cX11_seekSeats 38 = .ok (.goto 4, 3) := by decide +kernel
theorem dX11_seekSeats_41 : decode cX11_seekSeats 41 = .ok (.iconst 1, 1) := by decide +kernel
theorem dX11_seekSeats_42 : decode cX11_seekSeats 42 = .ok (.istore_n 3, 1) := by decide +kernel
theorem dX11_seekSeats_43 : decode cX11_seekSeats 43 = .ok (.aload_n 0, 1) := by decide +kernel
theorem dX11_seekSeats_44 : decode cX11_seekSeats 44 = .ok (.ldc_w 477, 3) := by decide +kernel
theorem dX11_seekSeats_47 : decode cX11_seekSeats 47 = .ok (.putfield 451, 3) := by decide +kernel
theorem dX11_seekSeats_50 : decode cX11_seekSeats 50 = .ok (.iconst 0, 1) := by decide +kernel
theorem dX11_seekSeats_51 : decode cX11_seekSeats 51 = .ok (.istore 4, 2) := by decide +kernel
theorem dX11_seekSeats_53 : decode cX11_seekSeats 53 = .ok (.iload 4, 2) := by decide +kernel
theorem dX11_seekSeats_55 : decode cX11_seekSeats 55 = .ok (.aload_n 0, 1) := by decide +kernel
theorem dX11_seekSeats_56 : decode cX11_seekSeats 56 = .ok (.getfield 19, 3) := by decide +kernel
theorem dX11_seekSeats_59 : decode cX11_seekSeats 59 = .ok (.getfield 93, 3) := by decide +kernel
theorem dX11_seekSeats_62 : decode cX11_seekSeats 62 = .ok (.if_icmp .ge 79, 3) := by decide +kernel
theorem dX11_seekSeats_65 : decode cX11_seekSeats 65 = .ok (.iconst 0, 1) := by decide +kernel
theorem dX11_seekSeats_66 : decode cX11_seekSeats 66 = .ok (.istore 5, 2) := by decide +kernel
theorem dX11_seekSeats_68 : decode cX11_seekSeats 68 = .ok (.iload 5, 2) := by decide +kernel
theorem dX11_seekSeats_70 : decode cX11_seekSeats 70 = .ok (.iload_n 3, 1) := by decide +kernel
theorem dX11_seekSeats_71 : decode cX11_seekSeats 71 = .ok (.if_icmp .ge 64, 3) := by decide +kernel
theorem dX11_seekSeats_74 : decode cX11_seekSeats 74 = .ok (.aload_n 0, 1) := by decide +kernel
theorem dX11_seekSeats_75 : decode cX11_seekSeats 75 = .ok (.getfield 35, 3) := by decide +kernel
theorem dX11_seekSeats_78 : decode cX11_seekSeats 78 = .ok (.getfield 346, 3) := by decide +kernel
theorem dX11_seekSeats_81 : decode cX11_seekSeats 81 = .ok (.iconst 0, 1) := by decide +kernel
theorem dX11_seekSeats_82 : decode cX11_seekSeats 82 = .ok (.iload 4, 2) := by decide +kernel
theorem dX11_seekSeats_84 : decode cX11_seekSeats 84 = .ok (.iastore, 1) := by decide +kernel
theorem dX11_seekSeats_85 : decode cX11_seekSeats 85 = .ok (.aload_n 0, 1) := by decide +kernel
theorem dX11_seekSeats_86 : decode cX11_seekSeats 86 = .ok (.getfield 35, 3) := by decide +kernel
theorem dX11_seekSeats_89 : decode cX11_seekSeats 89 = .ok (.getfield 346, 3) := by decide +kernel
theorem dX11_seekSeats_92 : decode cX11_seekSeats 92 = .ok (.iconst 1, 1) := by decide +kernel
theorem dX11_seekSeats_93 : decode cX11_seekSeats 93 = .ok (.iload 5, 2) := by decide +kernel
theorem dX11_seekSeats_95 : decode cX11_seekSeats 95 = .ok (.iastore, 1) := by decide +kernel
theorem dX11_seekSeats_96 : decode cX11_seekSeats 96 = .ok (.aload_n 0, 1) := by decide +kernel
theorem dX11_seekSeats_97 : decode cX11_seekSeats 97 = .ok (.invokevirtual 442, 3) := by decide +kernel
theorem dX11_seekSeats_100 : decode cX11_seekSeats 100 = .ok (.istore 6, 2) := by decide +kernel
theorem dX11_seekSeats_102 : decode cX11_seekSeats 102 = .ok (.iload 6, 2) := by decide +kernel
theorem dX11_seekSeats_104 : decode cX11_seekSeats 104 = .ok (.aload_n 0, 1) := by decide +kernel
theorem dX11_seekSeats_105 : decode cX11_seekSeats 105 = .ok (.getfield 451, 3) := by decide +kernel
theorem dX11_seekSeats_108 : decode cX11_seekSeats 108 = .ok (.if_icmp .ge 21, 3) := by decide +kernel
theorem dX11_seekSeats_111 : decode cX11_seekSeats 111 = .ok (.aload_n 0, 1) := by decide +kernel
theorem dX11_seekSeats_112 : decode cX11_seekSeats 112 = .ok (.iload 6, 2) := by decide +kernel
theorem dX11_seekSeats_114 : decode cX11_seekSeats 114 = .ok (.putfield 451, 3) := by decide +kernel
theorem dX11_seekSeats_117 : decode cX11_seekSeats 117 = .ok (.aload_n 0, 1) := by decide +kernel
theorem dX11_seekSeats_118 : decode cX11_seekSeats 118 = .ok (.iload 4, 2) := by decide +kernel
theorem dX11_seekSeats_120 : decode cX11_seekSeats 120 = .ok (.putfield 454, 3) := by decide +kernel
theorem dX11_seekSeats_123 : decode cX11_seekSeats 123 = .ok (.aload_n 0, 1) := by decide +kernel
theorem dX11_seekSeats_124 : decode cX11_seekSeats 124 = .ok (.iload 5, 2) := by decide +kernel
theorem dX11_seekSeats_126 : decode cX11_seekSeats 126 = .ok (.putfield 457, 3) := by decide +kernel
theorem dX11_seekSeats_129 : decode cX11_seekSeats 129 = .ok (.iinc 5 1, 3) := by decide +kernel
theorem dX11_seekSeats_132 : decode cX11_seekSeats 132 = .ok (.goto (-64), 3) := by decide +kernel
theorem dX11_seekSeats_135 : decode cX11_seekSeats 135 = .ok (.iinc 4 1, 3) := by decide +kernel
theorem dX11_seekSeats_138 : decode cX11_seekSeats 138 = .ok (.goto (-85), 3) := by decide +kernel
theorem dX11_seekSeats_141 : decode cX11_seekSeats 141 = .ok (.aload_n 0, 1) := by decide +kernel
theorem dX11_seekSeats_142 : decode cX11_seekSeats 142 = .ok (.getfield 35, 3) := by decide +kernel
theorem dX11_seekSeats_145 : decode cX11_seekSeats 145 = .ok (.getfield 346, 3) := by decide +kernel
theorem dX11_seekSeats_148 : decode cX11_seekSeats 148 = .ok (.iconst 0, 1) := by decide +kernel
theorem dX11_seekSeats_149 : decode cX11_seekSeats 149 = .ok (.iload_n 1, 1) := by decide +kernel
theorem dX11_seekSeats_150 : decode cX11_seekSeats 150 = .ok (.iastore, 1) := by decide +kernel
theorem dX11_seekSeats_151 : decode cX11_seekSeats 151 = .ok (.aload_n 0, 1) := by decide +kernel
theorem dX11_seekSeats_152 : decode cX11_seekSeats 152 = .ok (.getfield 35, 3) := by decide +kernel
theorem dX11_seekSeats_155 : decode cX11_seekSeats 155 = .ok (.getfield 346, 3) := by decide +kernel
theorem dX11_seekSeats_158 : decode cX11_seekSeats 158 = .ok (.iconst 1, 1) := by decide +kernel
theorem dX11_seekSeats_159 : decode cX11_seekSeats 159 = .ok (.iload_n 2, 1) := by decide +kernel
theorem dX11_seekSeats_160 : decode cX11_seekSeats 160 = .ok (.iastore, 1) := by decide +kernel
theorem dX11_seekSeats_161 : decode cX11_seekSeats 161 = .ok (.aload_n 0, 1) := by decide +kernel
theorem dX11_seekSeats_162 : decode cX11_seekSeats 162 = .ok (.iconst 1, 1) := by decide +kernel
theorem dX11_seekSeats_163 : decode cX11_seekSeats 163 = .ok (.putfield 96, 3) := by decide +kernel
theorem dX11_seekSeats_166 : decode cX11_seekSeats 166 = .ok (.return_, 1) := by decide +kernel
theorem bX11_seekSeats_0 {d : Nat} {h0 hE h : ea_H} {rv : Option ea_V} {r0 : Option Nat} (H : ∃ a3, r0 = some a3 ∧ a3 < ea_n h ∧ ea_c h a3 = 11 ∧ ∃ a7, (ea_r h a3 3) = some a7 ∧ a7 < ea_n h ∧ ea_c h a7 = 3 ∧ ∃ a11, (ea_r h a7 1) = some a11 ∧ a11 < ea_n h ∧ ea_c h a11 = 20 ∧ vp_in 0 (ea_l h a11) ∧ a3 < ea_n h ∧ ea_c h a3 = 11 ∧ a7 < ea_n h ∧ ea_c h a7 = 3 ∧ a11 < ea_n h ∧ ea_c h a11 = 20 ∧ vp_in 1 (ea_l h a11) ∧ a3 < ea_n h ∧ ea_c h a3 = 11 ∧ a7 < ea_n h ∧ ea_c h a7 = 3 ∧ ((ea_i h a7 0) ≤ (1 : Int32) → a3 < ea_n h ∧ ea_c h a3 = 11 ∧ ∀ h27, h27 = ea_wi h a3 13 2147483647 → ea_W mX11_seekSeats d h0 rv hE 53 [(0, vR r0), (1, vI (ea_i h a11 (Int32.toNatClampNeg 0))), (2, vI (ea_i h a11 (Int32.toNatClampNeg 1))), (3, vI 1), (4, vI 0)] [] h27) ∧ (¬ (ea_i h a7 0) ≤ (1 : Int32) → a3 < ea_n h ∧ ea_c h a3 = 11 ∧ ∃ a33, (ea_r h a3 1) = some a33 ∧ a33 < ea_n h ∧ ea_c h a33 = 9 ∧ a3 < ea_n h ∧ ea_c h a3 = 11 ∧ ∀ h37, h37 = ea_wi h a3 13 2147483647 → ea_W mX11_seekSeats d h0 rv hE 53 [(0, vR r0), (1, vI (ea_i h a11 (Int32.toNatClampNeg 0))), (2, vI (ea_i h a11 (Int32.toNatClampNeg 1))), (3, vI (ea_i h a33 0)), (4, vI 0)] [] h37)) : ea_W mX11_seekSeats d h0 rv hE 0 [(0, vR r0)] [] h := by
  refine ea_aload_n (pc := 0) dX11_seekSeats_0 rfl 0 rfl ?_
  obtain ⟨a3, e4, f1, g2, H⟩ := H
  refine ea_deref0 e4 ?_
  refine ea_getR (pc := 1) dX11_seekSeats_1 ec_11 (k := 3) (Nat.le_of_ble_eq_true rfl) rfl (Or.inl ew_440) f1 g2 rfl ?_
  obtain ⟨a7, e8, f5, g6, H⟩ := H
  refine ea_deref0 e8 ?_
  refine ea_getR (pc := 4) dX11_seekSeats_4 ec_3 (k := 1) (Nat.le_of_ble_eq_true rfl) rfl (Or.inl ew_264) f5 g6 rfl ?_
  refine ea_iconst (pc := 7) dX11_seekSeats_7 (v := 0) rfl ?_
  obtain ⟨a11, e12, f9, g10, H⟩ := H
  refine ea_deref1 e12 ?_
  obtain ⟨z13, H⟩ := H
  refine ea_iald (pc := 8) dX11_seekSeats_8 f9 g10 z13 ?_
  refine ea_istore_n (pc := 9) (lv' := [(0, vR r0), (1, vI (ea_i h a11 (Int32.toNatClampNeg 0)))]) dX11_seekSeats_9 rfl (Nat.le_of_ble_eq_true rfl) [1, 0] rfl ?_
  refine ea_aload_n (pc := 10) dX11_seekSeats_10 rfl 0 rfl ?_
  obtain ⟨f14, g15, H⟩ := H
  refine ea_deref0 e4 ?_
  refine ea_getR (pc := 11) dX11_seekSeats_11 ec_11 (k := 3) (Nat.le_of_ble_eq_true rfl) rfl (Or.inl ew_440) f14 g15 rfl ?_
  obtain ⟨f16, g17, H⟩ := H
  refine ea_deref0 e8 ?_
  refine ea_getR (pc := 14) dX11_seekSeats_14 ec_3 (k := 1) (Nat.le_of_ble_eq_true rfl) rfl (Or.inl ew_264) f16 g17 rfl ?_
  refine ea_iconst (pc := 17) dX11_seekSeats_17 (v := 1) rfl ?_
  obtain ⟨f18, g19, H⟩ := H
  refine ea_deref1 e12 ?_
  obtain ⟨z20, H⟩ := H
  refine ea_iald (pc := 18) dX11_seekSeats_18 f18 g19 z20 ?_
  refine ea_istore_n (pc := 19) (lv' := [(0, vR r0), (1, vI (ea_i h a11 (Int32.toNatClampNeg 0))), (2, vI (ea_i h a11 (Int32.toNatClampNeg 1)))]) dX11_seekSeats_19 rfl (Nat.le_of_ble_eq_true rfl) [1, 2, 0] rfl ?_
  refine ea_aload_n (pc := 20) dX11_seekSeats_20 rfl 0 rfl ?_
  obtain ⟨f21, g22, H⟩ := H
  refine ea_deref0 e4 ?_
  refine ea_getR (pc := 21) dX11_seekSeats_21 ec_11 (k := 3) (Nat.le_of_ble_eq_true rfl) rfl (Or.inl ew_440) f21 g22 rfl ?_
  obtain ⟨f23, g24, H⟩ := H
  refine ea_deref0 e8 ?_
  refine ea_getI (pc := 24) dX11_seekSeats_24 ec_3 (k := 0) (Nat.le_of_ble_eq_true rfl) rfl (Or.inl ew_262) f23 g24 ?_
  refine ea_iconst (pc := 27) dX11_seekSeats_27 (v := 1) rfl ?_
  refine ea_icmp_le (pc := 28) (tgt := 41) dX11_seekSeats_28 rfl (fun c39 => ?_) (fun c39 => ?_)
  · have H := H.1 c39
    refine ea_iconst (pc := 41) dX11_seekSeats_41 (v := 1) rfl ?_
    refine ea_istore_n (pc := 42) (lv' := [(0, vR r0), (1, vI (ea_i h a11 (Int32.toNatClampNeg 0))), (2, vI (ea_i h a11 (Int32.toNatClampNeg 1))), (3, vI 1)]) dX11_seekSeats_42 rfl (Nat.le_of_ble_eq_true rfl) [1, 2, 3, 0] rfl ?_
    refine ea_aload_n (pc := 43) dX11_seekSeats_43 rfl 0 rfl ?_
    refine ea_ldcw (pc := 44) dX11_seekSeats_44 ew_1337 ?_
    obtain ⟨f25, g26, H⟩ := H
    refine ea_deref1 e4 ?_
    refine ea_putI (pc := 47) dX11_seekSeats_47 ec_11 (k := 13) (Nat.le_of_ble_eq_true rfl) rfl (Or.inl ⟨rfl, Or.inl ew_450⟩) rfl rfl f25 g26 ?_
    obtain ⟨h27, E28⟩ : ∃ z, z = ea_wi h a3 13 2147483647 := ⟨_, rfl⟩
    have H := H h27 E28
    refine ea_nm E28 ?_
    refine ea_iconst (pc := 50) dX11_seekSeats_50 (v := 0) rfl ?_
    refine ea_istore (pc := 51) (lv' := [(0, vR r0), (1, vI (ea_i h a11 (Int32.toNatClampNeg 0))), (2, vI (ea_i h a11 (Int32.toNatClampNeg 1))), (3, vI 1), (4, vI 0)]) dX11_seekSeats_51 (Nat.le_of_ble_eq_true rfl) [1, 2, 3, 4, 0] rfl ?_
    exact H
  · have H := H.2 c39
    refine ea_aload_n (pc := 31) dX11_seekSeats_31 rfl 0 rfl ?_
    obtain ⟨f29, g30, H⟩ := H
    refine ea_deref0 e4 ?_
    refine ea_getR (pc := 32) dX11_seekSeats_32 ec_11 (k := 1) (Nat.le_of_ble_eq_true rfl) rfl (Or.inl ew_438) f29 g30 rfl ?_
    obtain ⟨a33, e34, f31, g32, H⟩ := H
    refine ea_deref0 e34 ?_
    refine ea_getI (pc := 35) dX11_seekSeats_35 ec_9 (k := 0) (Nat.le_of_ble_eq_true rfl) rfl (Or.inl ew_178) f31 g32 ?_
    refine ea_goto (pc := 38) (tgt := 42) dX11_seekSeats_38 rfl ?_
    refine ea_istore_n (pc := 42) (lv' := [(0, vR r0), (1, vI (ea_i h a11 (Int32.toNatClampNeg 0))), (2, vI (ea_i h a11 (Int32.toNatClampNeg 1))), (3, vI (ea_i h a33 0))]) dX11_seekSeats_42 rfl (Nat.le_of_ble_eq_true rfl) [1, 2, 3, 0] rfl ?_
    refine ea_aload_n (pc := 43) dX11_seekSeats_43 rfl 0 rfl ?_
    refine ea_ldcw (pc := 44) dX11_seekSeats_44 ew_1337 ?_
    obtain ⟨f35, g36, H⟩ := H
    refine ea_deref1 e4 ?_
    refine ea_putI (pc := 47) dX11_seekSeats_47 ec_11 (k := 13) (Nat.le_of_ble_eq_true rfl) rfl (Or.inl ⟨rfl, Or.inl ew_450⟩) rfl rfl f35 g36 ?_
    obtain ⟨h37, E38⟩ : ∃ z, z = ea_wi h a3 13 2147483647 := ⟨_, rfl⟩
    have H := H h37 E38
    refine ea_nm E38 ?_
    refine ea_iconst (pc := 50) dX11_seekSeats_50 (v := 0) rfl ?_
    refine ea_istore (pc := 51) (lv' := [(0, vR r0), (1, vI (ea_i h a11 (Int32.toNatClampNeg 0))), (2, vI (ea_i h a11 (Int32.toNatClampNeg 1))), (3, vI (ea_i h a33 0)), (4, vI 0)]) dX11_seekSeats_51 (Nat.le_of_ble_eq_true rfl) [1, 2, 3, 4, 0] rfl ?_
    exact H
theorem bX11_seekSeats_53 {d : Nat} {h0 hE h : ea_H} {rv : Option ea_V} {r0 : Option Nat} {x1 : Int32} {x2 : Int32} {x3 : Int32} {x4 : Int32} (H : ∃ a3, r0 = some a3 ∧ a3 < ea_n h ∧ ea_c h a3 = 11 ∧ ∃ a7, (ea_r h a3 1) = some a7 ∧ a7 < ea_n h ∧ ea_c h a7 = 9 ∧ ((ea_i h a7 0) ≤ x4 → a3 < ea_n h ∧ ea_c h a3 = 11 ∧ ∃ a13, (ea_r h a3 3) = some a13 ∧ a13 < ea_n h ∧ ea_c h a13 = 3 ∧ ∃ a17, (ea_r h a13 1) = some a17 ∧ a17 < ea_n h ∧ ea_c h a17 = 20 ∧ vp_in 0 (ea_l h a17) ∧ ∀ h20, h20 = ea_wi h a17 (Int32.toNatClampNeg 0) x1 → a3 < ea_n h20 ∧ ea_c h20 a3 = 11 ∧ ∃ a26, (ea_r h20 a3 3) = some a26 ∧ a26 < ea_n h20 ∧ ea_c h20 a26 = 3 ∧ ∃ a30, (ea_r h20 a26 1) = some a30 ∧ a30 < ea_n h20 ∧ ea_c h20 a30 = 20 ∧ vp_in 1 (ea_l h20 a30) ∧ ∀ h33, h33 = ea_wi h20 a30 (Int32.toNatClampNeg 1) x2 → a3 < ea_n h33 ∧ ea_c h33 a3 = 11 ∧ ∀ h37, h37 = ea_wi h33 a3 12 1 → rv = none ∧ hE = h37) ∧ (¬ (ea_i h a7 0) ≤ x4 → ea_W mX11_seekSeats d h0 rv hE 68 [(0, vR r0), (1, vI x1), (2, vI x2), (3, vI x3), (4, vI x4), (5, vI 0)] [] h)) : ea_W mX11_seekSeats d h0 rv hE 53 [(0, vR r0), (1, vI x1), (2, vI x2), (3, vI x3), (4, vI x4)] [] h := by
  refine ea_iload (pc := 53) dX11_seekSeats_53 4 rfl ?_
  refine ea_aload_n (pc := 55) dX11_seekSeats_55 rfl 0 rfl ?_
  obtain ⟨a3, e4, f1, g2, H⟩ := H
  refine ea_deref0 e4 ?_
  refine ea_getR (pc := 56) dX11_seekSeats_56 ec_11 (k := 1) (Nat.le_of_ble_eq_true rfl) rfl (Or.inl ew_438) f1 g2 rfl ?_
  obtain ⟨a7, e8, f5, g6, H⟩ := H
  refine ea_deref0 e8 ?_
  refine ea_getI (pc := 59) dX11_seekSeats_59 ec_9 (k := 0) (Nat.le_of_ble_eq_true rfl) rfl (Or.inl ew_178) f5 g6 ?_
  refine ea_icmp_ge (pc := 62) (tgt := 141) dX11_seekSeats_62 rfl (fun c39 => ?_) (fun c39 => ?_)
  · have H := H.1 c39
    refine ea_aload_n (pc := 141) dX11_seekSeats_141 rfl 0 rfl ?_
    obtain ⟨f9, g10, H⟩ := H
    refine ea_deref0 e4 ?_
    refine ea_getR (pc := 142) dX11_seekSeats_142 ec_11 (k := 3) (Nat.le_of_ble_eq_true rfl) rfl (Or.inl ew_440) f9 g10 rfl ?_
    obtain ⟨a13, e14, f11, g12, H⟩ := H
    refine ea_deref0 e14 ?_
    refine ea_getR (pc := 145) dX11_seekSeats_145 ec_3 (k := 1) (Nat.le_of_ble_eq_true rfl) rfl (Or.inl ew_264) f11 g12 rfl ?_
    refine ea_iconst (pc := 148) dX11_seekSeats_148 (v := 0) rfl ?_
    refine ea_iload_n (pc := 149) dX11_seekSeats_149 rfl 1 rfl ?_
    obtain ⟨a17, e18, f15, g16, H⟩ := H
    refine ea_deref2 e18 ?_
    obtain ⟨z19, H⟩ := H
    refine ea_iast (pc := 150) dX11_seekSeats_150 f15 g16 z19 ?_
    obtain ⟨h20, E21⟩ : ∃ z, z = ea_wi h a17 (Int32.toNatClampNeg 0) x1 := ⟨_, rfl⟩
    have H := H h20 E21
    refine ea_nm E21 ?_
    refine ea_aload_n (pc := 151) dX11_seekSeats_151 rfl 0 rfl ?_
    obtain ⟨f22, g23, H⟩ := H
    refine ea_deref0 e4 ?_
    refine ea_getR (pc := 152) dX11_seekSeats_152 ec_11 (k := 3) (Nat.le_of_ble_eq_true rfl) rfl (Or.inl ew_440) f22 g23 rfl ?_
    obtain ⟨a26, e27, f24, g25, H⟩ := H
    refine ea_deref0 e27 ?_
    refine ea_getR (pc := 155) dX11_seekSeats_155 ec_3 (k := 1) (Nat.le_of_ble_eq_true rfl) rfl (Or.inl ew_264) f24 g25 rfl ?_
    refine ea_iconst (pc := 158) dX11_seekSeats_158 (v := 1) rfl ?_
    refine ea_iload_n (pc := 159) dX11_seekSeats_159 rfl 2 rfl ?_
    obtain ⟨a30, e31, f28, g29, H⟩ := H
    refine ea_deref2 e31 ?_
    obtain ⟨z32, H⟩ := H
    refine ea_iast (pc := 160) dX11_seekSeats_160 f28 g29 z32 ?_
    obtain ⟨h33, E34⟩ : ∃ z, z = ea_wi h20 a30 (Int32.toNatClampNeg 1) x2 := ⟨_, rfl⟩
    have H := H h33 E34
    refine ea_nm E34 ?_
    refine ea_aload_n (pc := 161) dX11_seekSeats_161 rfl 0 rfl ?_
    refine ea_iconst (pc := 162) dX11_seekSeats_162 (v := 1) rfl ?_
    obtain ⟨f35, g36, H⟩ := H
    refine ea_deref1 e4 ?_
    refine ea_putI (pc := 163) dX11_seekSeats_163 ec_11 (k := 12) (Nat.le_of_ble_eq_true rfl) rfl (Or.inl ⟨rfl, Or.inl ew_449⟩) (ea_bn (Or.inr rfl)) (ea_bf (Or.inr rfl)) f35 g36 ?_
    obtain ⟨h37, E38⟩ : ∃ z, z = ea_wi h33 a3 12 1 := ⟨_, rfl⟩
    have H := H h37 E38
    refine ea_nm E38 ?_
    obtain ⟨rfl, rfl⟩ := H
    exact ea_return (pc := 166) dX11_seekSeats_166 rfl
  · have H := H.2 c39
    refine ea_iconst (pc := 65) dX11_seekSeats_65 (v := 0) rfl ?_
    refine ea_istore (pc := 66) (lv' := [(0, vR r0), (1, vI x1), (2, vI x2), (3, vI x3), (4, vI x4), (5, vI 0)]) dX11_seekSeats_66 (Nat.le_of_ble_eq_true rfl) [1, 2, 3, 4, 5, 0] rfl ?_
    exact H
theorem bX11_seekSeats_68 {d : Nat} {h0 hE h : ea_H} {rv : Option ea_V} {r0 : Option Nat} {x1 : Int32} {x2 : Int32} {x3 : Int32} {x4 : Int32} {x5 : Int32} (H : (x3 ≤ x5 → ea_W mX11_seekSeats d h0 rv hE 53 [(0, vR r0), (1, vI x1), (2, vI x2), (3, vI x3), (4, vI (x4 + 1))] [] h) ∧ (¬ x3 ≤ x5 → ∃ a3, r0 = some a3 ∧ a3 < ea_n h ∧ ea_c h a3 = 11 ∧ ∃ a7, (ea_r h a3 3) = some a7 ∧ a7 < ea_n h ∧ ea_c h a7 = 3 ∧ ∃ a11, (ea_r h a7 1) = some a11 ∧ a11 < ea_n h ∧ ea_c h a11 = 20 ∧ vp_in 0 (ea_l h a11) ∧ ∀ h14, h14 = ea_wi h a11 (Int32.toNatClampNeg 0) x4 → a3 < ea_n h14 ∧ ea_c h14 a3 = 11 ∧ ∃ a20, (ea_r h14 a3 3) = some a20 ∧ a20 < ea_n h14 ∧ ea_c h14 a20 = 3 ∧ ∃ a24, (ea_r h14 a20 1) = some a24 ∧ a24 < ea_n h14 ∧ ea_c h14 a24 = 20 ∧ vp_in 1 (ea_l h14 a24) ∧ ∀ h27, h27 = ea_wi h14 a24 (Int32.toNatClampNeg 1) x5 → a3 < ea_n h27 ∧ ea_c h27 a3 = 11 ∧ ∃ (d29 : Nat) (xc35 : Int32) (h30 : ea_H), ea_Met mX11_outcome d29 [vR (some a3)] h27 (some (vI xc35)) h30 ∧ d29 + 1 ≤ d ∧ a3 < ea_n h30 ∧ ea_c h30 a3 = 11 ∧ ((ea_i h30 a3 13) ≤ xc35 → ea_W mX11_seekSeats d h0 rv hE 68 [(0, vR r0), (1, vI x1), (2, vI x2), (3, vI x3), (4, vI x4), (5, vI (x5 + 1))] [] h30) ∧ (¬ (ea_i h30 a3 13) ≤ xc35 → a3 < ea_n h30 ∧ ea_c h30 a3 = 11 ∧ ∀ h40, h40 = ea_wi h30 a3 13 xc35 → a3 < ea_n h40 ∧ ea_c h40 a3 = 11 ∧ ∀ h44, h44 = ea_wi h40 a3 14 x4 → a3 < ea_n h44 ∧ ea_c h44 a3 = 11 ∧ ∀ h48, h48 = ea_wi h44 a3 15 x5 → ea_W mX11_seekSeats d h0 rv hE 68 [(0, vR r0), (1, vI x1), (2, vI x2), (3, vI x3), (4, vI x4), (5, vI (x5 + 1))] [] h48))) : ea_W mX11_seekSeats d h0 rv hE 68 [(0, vR r0), (1, vI x1), (2, vI x2), (3, vI x3), (4, vI x4), (5, vI x5)] [] h := by
  refine ea_iload (pc := 68) dX11_seekSeats_68 5 rfl ?_
  refine ea_iload_n (pc := 70) dX11_seekSeats_70 rfl 3 rfl ?_
  refine ea_icmp_ge (pc := 71) (tgt := 135) dX11_seekSeats_71 rfl (fun c51 => ?_) (fun c51 => ?_)
  · have H := H.1 c51
    refine ea_iinc (pc := 135) (v := 1) (lv' := [(0, vR r0), (1, vI x1), (2, vI x2), (3, vI x3), (4, vI (x4 + 1))]) dX11_seekSeats_135 4 rfl rfl (Nat.le_of_ble_eq_true rfl) [1, 2, 3, 4, 0] rfl ?_
    refine ea_goto (pc := 138) (tgt := 53) dX11_seekSeats_138 rfl ?_
    exact H
  · have H := H.2 c51
    refine ea_aload_n (pc := 74) dX11_seekSeats_74 rfl 0 rfl ?_
    obtain ⟨a3, e4, f1, g2, H⟩ := H
    refine ea_deref0 e4 ?_
    refine ea_getR (pc := 75) dX11_seekSeats_75 ec_11 (k := 3) (Nat.le_of_ble_eq_true rfl) rfl (Or.inl ew_440) f1 g2 rfl ?_
    obtain ⟨a7, e8, f5, g6, H⟩ := H
    refine ea_deref0 e8 ?_
    refine ea_getR (pc := 78) dX11_seekSeats_78 ec_3 (k := 1) (Nat.le_of_ble_eq_true rfl) rfl (Or.inl ew_264) f5 g6 rfl ?_
    refine ea_iconst (pc := 81) dX11_seekSeats_81 (v := 0) rfl ?_
    refine ea_iload (pc := 82) dX11_seekSeats_82 4 rfl ?_
    obtain ⟨a11, e12, f9, g10, H⟩ := H
    refine ea_deref2 e12 ?_
    obtain ⟨z13, H⟩ := H
    refine ea_iast (pc := 84) dX11_seekSeats_84 f9 g10 z13 ?_
    obtain ⟨h14, E15⟩ : ∃ z, z = ea_wi h a11 (Int32.toNatClampNeg 0) x4 := ⟨_, rfl⟩
    have H := H h14 E15
    refine ea_nm E15 ?_
    refine ea_aload_n (pc := 85) dX11_seekSeats_85 rfl 0 rfl ?_
    obtain ⟨f16, g17, H⟩ := H
    refine ea_deref0 e4 ?_
    refine ea_getR (pc := 86) dX11_seekSeats_86 ec_11 (k := 3) (Nat.le_of_ble_eq_true rfl) rfl (Or.inl ew_440) f16 g17 rfl ?_
    obtain ⟨a20, e21, f18, g19, H⟩ := H
    refine ea_deref0 e21 ?_
    refine ea_getR (pc := 89) dX11_seekSeats_89 ec_3 (k := 1) (Nat.le_of_ble_eq_true rfl) rfl (Or.inl ew_264) f18 g19 rfl ?_
    refine ea_iconst (pc := 92) dX11_seekSeats_92 (v := 1) rfl ?_
    refine ea_iload (pc := 93) dX11_seekSeats_93 5 rfl ?_
    obtain ⟨a24, e25, f22, g23, H⟩ := H
    refine ea_deref2 e25 ?_
    obtain ⟨z26, H⟩ := H
    refine ea_iast (pc := 95) dX11_seekSeats_95 f22 g23 z26 ?_
    obtain ⟨h27, E28⟩ : ∃ z, z = ea_wi h14 a24 (Int32.toNatClampNeg 1) x5 := ⟨_, rfl⟩
    have H := H h27 E28
    refine ea_nm E28 ?_
    refine ea_aload_n (pc := 96) dX11_seekSeats_96 rfl 0 rfl ?_
    obtain ⟨f33, g34, H⟩ := H
    refine ea_deref0 e4 ?_
    obtain ⟨d29, xc35, h30, m31, q32, H⟩ := H
    refine ea_callV (pc := 97) (As := []) (st := []) dX11_seekSeats_97 kX11_outcome m31 q32 rfl (Nat.le_of_ble_eq_true rfl) ew_1316 ew_1318 ew_45 (ci := 11) rfl (by decide) f33 g34 ?_
    refine ea_istore (pc := 100) (lv' := [(0, vR r0), (1, vI x1), (2, vI x2), (3, vI x3), (4, vI x4), (5, vI x5), (6, vI xc35)]) dX11_seekSeats_100 (Nat.le_of_ble_eq_true rfl) [1, 2, 3, 4, 5, 6, 0] rfl ?_
    refine ea_iload (pc := 102) dX11_seekSeats_102 6 rfl ?_
    refine ea_aload_n (pc := 104) dX11_seekSeats_104 rfl 0 rfl ?_
    obtain ⟨f36, g37, H⟩ := H
    refine ea_deref0 e4 ?_
    refine ea_getI (pc := 105) dX11_seekSeats_105 ec_11 (k := 13) (Nat.le_of_ble_eq_true rfl) rfl (Or.inl ew_450) f36 g37 ?_
    refine ea_icmp_ge (pc := 108) (tgt := 129) dX11_seekSeats_108 rfl (fun c50 => ?_) (fun c50 => ?_)
    · have H := H.1 c50
      refine ea_iinc (pc := 129) (v := 1) (lv' := [(0, vR r0), (1, vI x1), (2, vI x2), (3, vI x3), (4, vI x4), (5, vI (x5 + 1))]) dX11_seekSeats_129 5 rfl rfl (Nat.le_of_ble_eq_true rfl) [1, 2, 3, 4, 5, 0] rfl ?_
      refine ea_goto (pc := 132) (tgt := 68) dX11_seekSeats_132 rfl ?_
      exact H
    · have H := H.2 c50
      refine ea_aload_n (pc := 111) dX11_seekSeats_111 rfl 0 rfl ?_
      refine ea_iload (pc := 112) dX11_seekSeats_112 6 rfl ?_
      obtain ⟨f38, g39, H⟩ := H
      refine ea_deref1 e4 ?_
      refine ea_putI (pc := 114) dX11_seekSeats_114 ec_11 (k := 13) (Nat.le_of_ble_eq_true rfl) rfl (Or.inl ⟨rfl, Or.inl ew_450⟩) rfl rfl f38 g39 ?_
      obtain ⟨h40, E41⟩ : ∃ z, z = ea_wi h30 a3 13 xc35 := ⟨_, rfl⟩
      have H := H h40 E41
      refine ea_nm E41 ?_
      refine ea_aload_n (pc := 117) dX11_seekSeats_117 rfl 0 rfl ?_
      refine ea_iload (pc := 118) dX11_seekSeats_118 4 rfl ?_
      obtain ⟨f42, g43, H⟩ := H
      refine ea_deref1 e4 ?_
      refine ea_putI (pc := 120) dX11_seekSeats_120 ec_11 (k := 14) (Nat.le_of_ble_eq_true rfl) rfl (Or.inl ⟨rfl, Or.inl ew_451⟩) rfl rfl f42 g43 ?_
      obtain ⟨h44, E45⟩ : ∃ z, z = ea_wi h40 a3 14 x4 := ⟨_, rfl⟩
      have H := H h44 E45
      refine ea_nm E45 ?_
      refine ea_aload_n (pc := 123) dX11_seekSeats_123 rfl 0 rfl ?_
      refine ea_iload (pc := 124) dX11_seekSeats_124 5 rfl ?_
      obtain ⟨f46, g47, H⟩ := H
      refine ea_deref1 e4 ?_
      refine ea_putI (pc := 126) dX11_seekSeats_126 ec_11 (k := 15) (Nat.le_of_ble_eq_true rfl) rfl (Or.inl ⟨rfl, Or.inl ew_452⟩) rfl rfl f46 g47 ?_
      obtain ⟨h48, E49⟩ : ∃ z, z = ea_wi h44 a3 15 x5 := ⟨_, rfl⟩
      have H := H h48 E49
      refine ea_nm E49 ?_
      refine ea_iinc (pc := 129) (v := 1) (lv' := [(0, vR r0), (1, vI x1), (2, vI x2), (3, vI x3), (4, vI x4), (5, vI (x5 + 1))]) dX11_seekSeats_129 5 rfl rfl (Nat.le_of_ble_eq_true rfl) [1, 2, 3, 4, 5, 0] rfl ?_
      refine ea_goto (pc := 132) (tgt := 68) dX11_seekSeats_132 rfl ?_
      exact H
theorem dX12_init_0 : decode cX12_init 0 = .ok (.aload_n 0, 1) := by decide +kernel
theorem dX12_init_1 : decode cX12_init 1 = .ok (.invokespecial 1, 3) := by decide +kernel
theorem dX12_init_4 : decode cX12_init 4 = .ok (.aload_n 0, 1) := by decide +kernel
theorem dX12_init_5 : decode cX12_init 5 = .ok (.sipush 144, 3) := by decide +kernel
theorem dX12_init_8 : decode cX12_init 8 = .ok (.newarray .int, 2) := by decide +kernel
theorem dX12_init_10 : decode cX12_init 10 = .ok (.putfield 7, 3) := by decide +kernel
theorem dX12_init_13 : decode cX12_init 13 = .ok (.aload_n 0, 1) := by decide +kernel
theorem dX12_init_14 : decode cX12_init 14 = .ok (.bipush 10, 2) := by decide +kernel
theorem dX12_init_16 : decode cX12_init 16 = .ok (.newarray .int, 2) := by decide +kernel
theorem dX12_init_18 : decode cX12_init 18 = .ok (.putfield 13, 3) := by decide +kernel
theorem dX12_init_21 : decode cX12_init 21 = .ok (.aload_n 0, 1) := by decide +kernel
theorem dX12_init_22 : decode cX12_init 22 = .ok (.bipush 80, 2) := by decide +kernel
theorem dX12_init_24 : decode cX12_init 24 = .ok (.newarray .int, 2) := by decide +kernel
theorem dX12_init_26 : decode cX12_init 26 = .ok (.putfield 16, 3) := by decide +kernel
theorem dX12_init_29 : decode cX12_init 29 = .ok (.aload_n 0, 1) := by decide +kernel
theorem dX12_init_30 : decode cX12_init 30 = .ok (.bipush 80, 2) := by decide +kernel
theorem dX12_init_32 : decode cX12_init 32 = .ok (.newarray .int, 2) := by decide +kernel
theorem dX12_init_34 : decode cX12_init 34 = .ok (.putfield 19, 3) := by decide +kernel
theorem dX12_init_37 : decode cX12_init 37 = .ok (.aload_n 0, 1) := by decide +kernel
theorem dX12_init_38 : decode cX12_init 38 = .ok (.bipush 80, 2) := by decide +kernel
theorem dX12_init_40 : decode cX12_init 40 = .ok (.newarray .int, 2) := by decide +kernel
theorem dX12_init_42 : decode cX12_init 42 = .ok (.putfield 22, 3) := by decide +kernel
theorem dX12_init_45 : decode cX12_init 45 = .ok (.aload_n 0, 1) := by decide +kernel
theorem dX12_init_46 : decode cX12_init 46 = .ok (.bipush 70, 2) := by decide +kernel
theorem dX12_init_48 : decode cX12_init 48 = .ok (.newarray .int, 2) := by decide +kernel
theorem dX12_init_50 : decode cX12_init 50 = .ok (.putfield 25, 3) := by decide +kernel
theorem dX12_init_53 : decode cX12_init 53 = .ok (.aload_n 0, 1) := by decide +kernel
theorem dX12_init_54 : decode cX12_init 54 = .ok (.bipush 80, 2) := by decide +kernel
theorem dX12_init_56 : decode cX12_init 56 = .ok (.newarray .boolean, 2) := by decide +kernel
theorem dX12_init_58 : decode cX12_init 58 = .ok (.putfield 28, 3) := by decide +kernel
theorem dX12_init_61 : decode cX12_init 61 = .ok (.aload_n 0, 1) := by decide +kernel
theorem dX12_init_62 : decode cX12_init 62 = .ok (.sipush 560, 3) := by decide +kernel
theorem dX12_init_65 : decode cX12_init 65 = .ok (.newarray .boolean, 2) := by decide +kernel
theorem dX12_init_67 : decode cX12_init 67 = .ok (.putfield 32, 3) := by decide +kernel
theorem dX12_init_70 : decode cX12_init 70 = .ok (.aload_n 0, 1) := by decide +kernel
theorem dX12_init_71 : decode cX12_init 71 = .ok (.bipush 12, 2) := by decide +kernel
theorem dX12_init_73 : decode cX12_init 73 = .ok (.newarray .int, 2) := by decide +kernel
theorem dX12_init_75 : decode cX12_init 75 = .ok (.putfield 35, 3) := by decide +kernel
theorem dX12_init_78 : decode cX12_init 78 = .ok (.aload_n 0, 1) := by decide +kernel
theorem dX12_init_79 : decode cX12_init 79 = .ok (.sipush 1000, 3) := by decide +kernel
theorem dX12_init_82 : decode cX12_init 82 = .ok (.newarray .int, 2) := by decide +kernel
theorem dX12_init_84 : decode cX12_init 84 = .ok (.putfield 38, 3) := by decide +kernel
theorem dX12_init_87 : decode cX12_init 87 = .ok (.aload_n 0, 1) := by decide +kernel
theorem dX12_init_88 : decode cX12_init 88 = .ok (.sipush 1000, 3) := by decide +kernel
theorem dX12_init_91 : decode cX12_init 91 = .ok (.newarray .int, 2) := by decide +kernel
theorem dX12_init_93 : decode cX12_init 93 = .ok (.putfield 41, 3) := by decide +kernel
theorem dX12_init_96 : decode cX12_init 96 = .ok (.aload_n 0, 1) := by decide +kernel
theorem dX12_init_97 : decode cX12_init 97 = .ok (.sipush 1000, 3) := by decide +kernel
theorem dX12_init_100 : decode cX12_init 100 = .ok (.newarray .int, 2) := by decide +kernel
theorem dX12_init_102 : decode cX12_init 102 = .ok (.putfield 44, 3) := by decide +kernel
theorem dX12_init_105 : decode cX12_init 105 = .ok (.aload_n 0, 1) := by decide +kernel
theorem dX12_init_106 : decode cX12_init 106 = .ok (.sipush 1000, 3) := by decide +kernel
theorem dX12_init_109 : decode cX12_init 109 = .ok (.newarray .int, 2) := by decide +kernel
theorem dX12_init_111 : decode cX12_init 111 = .ok (.putfield 47, 3) := by decide +kernel
theorem dX12_init_114 : decode cX12_init 114 = .ok (.aload_n 0, 1) := by decide +kernel
theorem dX12_init_115 : decode cX12_init 115 = .ok (.bipush 70, 2) := by decide +kernel
theorem dX12_init_117 : decode cX12_init 117 = .ok (.newarray .int, 2) := by decide +kernel
theorem dX12_init_119 : decode cX12_init 119 = .ok (.putfield 50, 3) := by decide +kernel
theorem dX12_init_122 : decode cX12_init 122 = .ok (.aload_n 0, 1) := by decide +kernel
theorem dX12_init_123 : decode cX12_init 123 = .ok (.sipush 12000, 3) := by decide +kernel
theorem dX12_init_126 : decode cX12_init 126 = .ok (.newarray .int, 2) := by decide +kernel
theorem dX12_init_128 : decode cX12_init 128 = .ok (.putfield 53, 3) := by decide +kernel
theorem dX12_init_131 : decode cX12_init 131 = .ok (.aload_n 0, 1) := by decide +kernel
theorem dX12_init_132 : decode cX12_init 132 = .ok (.sipush 12000, 3) := by decide +kernel
theorem dX12_init_135 : decode cX12_init 135 = .ok (.newarray .int, 2) := by decide +kernel
theorem dX12_init_137 : decode cX12_init 137 = .ok (.putfield 56, 3) := by decide +kernel
theorem dX12_init_140 : decode cX12_init 140 = .ok (.aload_n 0, 1) := by decide +kernel
theorem dX12_init_141 : decode cX12_init 141 = .ok (.sipush 12000, 3) := by decide +kernel
theorem dX12_init_144 : decode cX12_init 144 = .ok (.newarray .int, 2) := by decide +kernel
theorem dX12_init_146 : decode cX12_init 146 = .ok (.putfield 59, 3) := by decide +kernel
theorem dX12_init_149 : decode cX12_init 149 = .ok (.aload_n 0, 1) := by decide +kernel
theorem dX12_init_150 : decode cX12_init 150 = .ok (.sipush 12000, 3) := by decide +kernel
theorem dX12_init_153 : decode cX12_init 153 = .ok (.newarray .int, 2) := by decide +kernel
theorem dX12_init_155 : decode cX12_init 155 = .ok (.putfield 62, 3) := by decide +kernel
theorem dX12_init_158 : decode cX12_init 158 = .ok (.aload_n 0, 1) := by decide +kernel
theorem dX12_init_159 : decode cX12_init 159 = .ok (.sipush 1000, 3) := by decide +kernel
theorem dX12_init_162 : decode cX12_init 162 = .ok (.newarray .int, 2) := by decide +kernel
theorem dX12_init_164 : decode cX12_init 164 = .ok (.putfield 65, 3) := by decide +kernel
theorem dX12_init_167 : decode cX12_init 167 = .ok (.aload_n 0, 1) := by decide +kernel
theorem dX12_init_168 : decode cX12_init 168 = .ok (.bipush 12, 2) := by decide +kernel
theorem dX12_init_170 : decode cX12_init 170 = .ok (.newarray .int, 2) := by decide +kernel
theorem dX12_init_172 : decode cX12_init 172 = .ok (.putfield 68, 3) := by decide +kernel
theorem dX12_init_175 : decode cX12_init 175 = .ok (.aload_n 0, 1) := by decide +kernel
theorem dX12_init_176 : decode cX12_init 176 = .ok (.bipush 6, 2) := by decide +kernel
theorem dX12_init_178 : decode cX12_init 178 = .ok (.newarray .int, 2) := by decide +kernel
theorem dX12_init_180 : decode cX12_init 180 = .ok (.putfield 71, 3) := by decide +kernel
theorem dX12_init_183 : decode cX12_init 183 = .ok (.aload_n 0, 1) := by decide +kernel
theorem dX12_init_184 : decode cX12_init 184 = .ok (.bipush 6, 2) := by decide +kernel
theorem dX12_init_186 : decode cX12_init 186 = .ok (.newarray .int, 2) := by decide +kernel
theorem dX12_init_188 : decode cX12_init 188 = .ok (.putfield 74, 3) := by decide +kernel
theorem dX12_init_191 : decode cX12_init 191 = .ok (.aload_n 0, 1) := by decide +kernel
theorem dX12_init_192 : decode cX12_init 192 = .ok (.bipush 6, 2) := by decide +kernel
theorem dX12_init_194 : decode cX12_init 194 = .ok (.newarray .int, 2) := by decide +kernel
theorem dX12_init_196 : decode cX12_init 196 = .ok (.putfield 77, 3) := by decide +kernel
theorem dX12_init_199 : decode cX12_init 199 = .ok (.aload_n 0, 1) := by decide +kernel
theorem dX12_init_200 : decode cX12_init 200 = .ok (.bipush 6, 2) := by decide +kernel
theorem dX12_init_202 : decode cX12_init 202 = .ok (.newarray .int, 2) := by decide +kernel
theorem dX12_init_204 : decode cX12_init 204 = .ok (.putfield 80, 3) := by decide +kernel
theorem dX12_init_207 : decode cX12_init 207 = .ok (.aload_n 0, 1) := by decide +kernel
theorem dX12_init_208 : decode cX12_init 208 = .ok (.bipush 6, 2) := by decide +kernel
theorem dX12_init_210 : decode cX12_init 210 = .ok (.newarray .int, 2) := by decide +kernel
theorem dX12_init_212 : decode cX12_init 212 = .ok (.putfield 83, 3) := by decide +kernel
theorem dX12_init_215 : decode cX12_init 215 = .ok (.aload_n 0, 1) := by decide +kernel
theorem dX12_init_216 : decode cX12_init 216 = .ok (.bipush 6, 2) := by decide +kernel
theorem dX12_init_218 : decode cX12_init 218 = .ok (.newarray .int, 2) := by decide +kernel
theorem dX12_init_220 : decode cX12_init 220 = .ok (.putfield 86, 3) := by decide +kernel
theorem dX12_init_223 : decode cX12_init 223 = .ok (.aload_n 0, 1) := by decide +kernel
theorem dX12_init_224 : decode cX12_init 224 = .ok (.bipush 6, 2) := by decide +kernel
theorem dX12_init_226 : decode cX12_init 226 = .ok (.newarray .int, 2) := by decide +kernel
theorem dX12_init_228 : decode cX12_init 228 = .ok (.putfield 89, 3) := by decide +kernel
theorem dX12_init_231 : decode cX12_init 231 = .ok (.aload_n 0, 1) := by decide +kernel
theorem dX12_init_232 : decode cX12_init 232 = .ok (.bipush 6, 2) := by decide +kernel
theorem dX12_init_234 : decode cX12_init 234 = .ok (.newarray .int, 2) := by decide +kernel
theorem dX12_init_236 : decode cX12_init 236 = .ok (.putfield 92, 3) := by decide +kernel
theorem dX12_init_239 : decode cX12_init 239 = .ok (.aload_n 0, 1) := by decide +kernel
theorem dX12_init_240 : decode cX12_init 240 = .ok (.bipush 6, 2) := by decide +kernel
theorem dX12_init_242 : decode cX12_init 242 = .ok (.newarray .int, 2) := by decide +kernel
theorem dX12_init_244 : decode cX12_init 244 = .ok (.putfield 95, 3) := by decide +kernel
theorem dX12_init_247 : decode cX12_init 247 = .ok (.aload_n 0, 1) := by decide +kernel
theorem dX12_init_248 : decode cX12_init 248 = .ok (.sipush 150, 3) := by decide +kernel
theorem dX12_init_251 : decode cX12_init 251 = .ok (.newarray .int, 2) := by decide +kernel
theorem dX12_init_253 : decode cX12_init 253 = .ok (.putfield 98, 3) := by decide +kernel
theorem dX12_init_256 : decode cX12_init 256 = .ok (.aload_n 0, 1) := by decide +kernel
theorem dX12_init_257 : decode cX12_init 257 = .ok (.sipush 144, 3) := by decide +kernel
theorem dX12_init_260 : decode cX12_init 260 = .ok (.newarray .int, 2) := by decide +kernel
theorem dX12_init_262 : decode cX12_init 262 = .ok (.putfield 101, 3) := by decide +kernel
theorem dX12_init_265 : decode cX12_init 265 = .ok (.aload_n 0, 1) := by decide +kernel
theorem dX12_init_266 : decode cX12_init 266 = .ok (.sipush 7320, 3) := by decide +kernel
theorem dX12_init_269 : decode cX12_init 269 = .ok (.newarray .int, 2) := by decide +kernel
theorem dX12_init_271 : decode cX12_init 271 = .ok (.putfield 104, 3) := by decide +kernel
theorem dX12_init_274 : decode cX12_init 274 = .ok (.aload_n 0, 1) := by decide +kernel
theorem dX12_init_275 : decode cX12_init 275 = .ok (.bipush 25, 2) := by decide +kernel
theorem dX12_init_277 : decode cX12_init 277 = .ok (.newarray .int, 2) := by decide +kernel
theorem dX12_init_279 : decode cX12_init 279 = .ok (.putfield 107, 3) := by decide +kernel
theorem dX12_init_282 : decode cX12_init 282 = .ok (.aload_n 0, 1) := by decide +kernel
theorem dX12_init_283 : decode cX12_init 283 = .ok (.bipush 24, 2) := by decide +kernel
theorem dX12_init_285 : decode cX12_init 285 = .ok (.newarray .int, 2) := by decide +kernel
theorem dX12_init_287 : decode cX12_init 287 = .ok (.putfield 110, 3) := by decide +kernel
theorem dX12_init_290 : decode cX12_init 290 = .ok (.aload_n 0, 1) := by decide +kernel
theorem dX12_init_291 : decode cX12_init 291 = .ok (.sipush 1220, 3) := by decide +kernel
theorem dX12_init_294 : decode cX12_init 294 = .ok (.newarray .int, 2) := by decide +kernel
theorem dX12_init_296 : decode cX12_init 296 = .ok (.putfield 113, 3) := by decide +kernel
theorem dX12_init_299 : decode cX12_init 299 = .ok (.aload_n 0, 1) := by decide +kernel
theorem dX12_init_300 : decode cX12_init 300 = .ok (.sipush 600, 3) := by decide +kernel
theorem dX12_init_303 : decode cX12_init 303 = .ok (.newarray .int, 2) := by decide +kernel
theorem dX12_init_305 : decode cX12_init 305 = .ok (.putfield 116, 3) := by decide +kernel
theorem dX12_init_308 : decode cX12_init 308 = .ok (.aload_n 0, 1) := by decide +kernel
theorem dX12_init_309 : decode cX12_init 309 = .ok (.sipush 620, 3) := by decide +kernel
theorem dX12_init_312 : decode cX12_init 312 = .ok (.newarray .int, 2) := by decide +kernel
theorem dX12_init_314 : decode cX12_init 314 = .ok (.putfield 119, 3) := by decide +kernel
theorem dX12_init_317 : decode cX12_init 317 = .ok (.aload_n 0, 1) := by decide +kernel
theorem dX12_init_318 : decode cX12_init 318 = .ok (.iconst (-1), 1) := by decide +kernel
theorem dX12_init_319 : decode cX12_init 319 = .ok (.putfield 122, 3) := by decide +kernel
theorem dX12_init_322 : decode cX12_init 322 = .ok (.aload_n 0, 1) := by decide +kernel
theorem dX12_init_323 : decode cX12_init 323 = .ok (.bipush 120, 2) := by decide +kernel
theorem dX12_init_325 : decode cX12_init 325 = .ok (.newarray .int, 2) := by decide +kernel
theorem dX12_init_327 : decode cX12_init 327 = .ok (.putfield 126, 3) := by decide +kernel
theorem dX12_init_330 : decode cX12_init 330 = .ok (.aload_n 0, 1) := by decide +kernel
theorem dX12_init_331 : decode cX12_init 331 = .ok (.bipush 120, 2) := by decide +kernel
theorem dX12_init_333 : decode cX12_init 333 = .ok (.newarray .int, 2) := by decide +kernel
theorem dX12_init_335 : decode cX12_init 335 = .ok (.putfield 129, 3) := by decide +kernel
theorem dX12_init_338 : decode cX12_init 338 = .ok (.aload_n 0, 1) := by decide +kernel
theorem dX12_init_339 : decode cX12_init 339 = .ok (.bipush 120, 2) := by decide +kernel
theorem dX12_init_341 : decode cX12_init 341 = .ok (.newarray .int, 2) := by decide +kernel
theorem dX12_init_343 : decode cX12_init 343 = .ok (.putfield 132, 3) := by decide +kernel
theorem dX12_init_346 : decode cX12_init 346 = .ok (.aload_n 0, 1) := by decide +kernel
theorem dX12_init_347 : decode cX12_init 347 = .ok (.bipush 120, 2) := by decide +kernel
theorem dX12_init_349 : decode cX12_init 349 = .ok (.newarray .int, 2) := by decide +kernel
theorem dX12_init_351 : decode cX12_init 351 = .ok (.putfield 135, 3) := by decide +kernel
theorem dX12_init_354 : decode cX12_init 354 = .ok (.aload_n 0, 1) := by decide +kernel
theorem dX12_init_355 : decode cX12_init 355 = .ok (.bipush 120, 2) := by decide +kernel
theorem dX12_init_357 : decode cX12_init 357 = .ok (.newarray .int, 2) := by decide +kernel
theorem dX12_init_359 : decode cX12_init 359 = .ok (.putfield 138, 3) := by decide +kernel
theorem dX12_init_362 : decode cX12_init 362 = .ok (.aload_n 0, 1) := by decide +kernel
theorem dX12_init_363 : decode cX12_init 363 = .ok (.bipush 120, 2) := by decide +kernel
theorem dX12_init_365 : decode cX12_init 365 = .ok (.newarray .int, 2) := by decide +kernel
theorem dX12_init_367 : decode cX12_init 367 = .ok (.putfield 141, 3) := by decide +kernel
theorem dX12_init_370 : decode cX12_init 370 = .ok (.aload_n 0, 1) := by decide +kernel
theorem dX12_init_371 : decode cX12_init 371 = .ok (.bipush 120, 2) := by decide +kernel
theorem dX12_init_373 : decode cX12_init 373 = .ok (.newarray .int, 2) := by decide +kernel
theorem dX12_init_375 : decode cX12_init 375 = .ok (.putfield 144, 3) := by decide +kernel
theorem dX12_init_378 : decode cX12_init 378 = .ok (.aload_n 0, 1) := by decide +kernel
theorem dX12_init_379 : decode cX12_init 379 = .ok (.bipush 120, 2) := by decide +kernel
theorem dX12_init_381 : decode cX12_init 381 = .ok (.newarray .int, 2) := by decide +kernel
theorem dX12_init_383 : decode cX12_init 383 = .ok (.putfield 147, 3) := by decide +kernel
theorem dX12_init_386 : decode cX12_init 386 = .ok (.aload_n 0, 1) := by decide +kernel
theorem dX12_init_387 : decode cX12_init 387 = .ok (.bipush 120, 2) := by decide +kernel
theorem dX12_init_389 : decode cX12_init 389 = .ok (.newarray .int, 2) := by decide +kernel
theorem dX12_init_391 : decode cX12_init 391 = .ok (.putfield 150, 3) := by decide +kernel
theorem dX12_init_394 : decode cX12_init 394 = .ok (.aload_n 0, 1) := by decide +kernel
theorem dX12_init_395 : decode cX12_init 395 = .ok (.bipush 120, 2) := by decide +kernel
theorem dX12_init_397 : decode cX12_init 397 = .ok (.newarray .int, 2) := by decide +kernel
theorem dX12_init_399 : decode cX12_init 399 = .ok (.putfield 153, 3) := by decide +kernel
theorem dX12_init_402 : decode cX12_init 402 = .ok (.aload_n 0, 1) := by decide +kernel
theorem dX12_init_403 : decode cX12_init 403 = .ok (.bipush 120, 2) := by decide +kernel
theorem dX12_init_405 : decode cX12_init 405 = .ok (.newarray .int, 2) := by decide +kernel
theorem dX12_init_407 : decode cX12_init 407 = .ok (.putfield 156, 3) := by decide +kernel
theorem dX12_init_410 : decode cX12_init 410 = .ok (.aload_n 0, 1) := by decide +kernel
theorem dX12_init_411 : decode cX12_init 411 = .ok (.bipush 120, 2) := by decide +kernel
theorem dX12_init_413 : decode cX12_init 413 = .ok (.newarray .int, 2) := by decide +kernel
theorem dX12_init_415 : decode cX12_init 415 = .ok (.putfield 159, 3) := by decide +kernel
theorem dX12_init_418 : decode cX12_init 418 = .ok (.aload_n 0, 1) := by decide +kernel
theorem dX12_init_419 : decode cX12_init 419 = .ok (.bipush 120, 2) := by decide +kernel
theorem dX12_init_421 : decode cX12_init 421 = .ok (.newarray .int, 2) := by decide +kernel
theorem dX12_init_423 : decode cX12_init 423 = .ok (.putfield 162, 3) := by decide +kernel
theorem dX12_init_426 : decode cX12_init 426 = .ok (.aload_n 0, 1) := by decide +kernel
theorem dX12_init_427 : decode cX12_init 427 = .ok (.bipush 120, 2) := by decide +kernel
theorem dX12_init_429 : decode cX12_init 429 = .ok (.newarray .int, 2) := by decide +kernel
theorem dX12_init_431 : decode cX12_init 431 = .ok (.putfield 165, 3) := by decide +kernel
theorem dX12_init_434 : decode cX12_init 434 = .ok (.aload_n 0, 1) := by decide +kernel
theorem dX12_init_435 : decode cX12_init 435 = .ok (.bipush 120, 2) := by decide +kernel
theorem dX12_init_437 : decode cX12_init 437 = .ok (.newarray .boolean, 2) := by decide +kernel
theorem dX12_init_439 : decode cX12_init 439 = .ok (.putfield 168, 3) := by decide +kernel
theorem dX12_init_442 : decode cX12_init 442 = .ok (.aload_n 0, 1) := by decide +kernel
theorem dX12_init_443 : decode cX12_init 443 = .ok (.bipush 120, 2) := by decide +kernel
theorem dX12_init_445 : decode cX12_init 445 = .ok (.newarray .boolean, 2) := by decide +kernel
theorem dX12_init_447 : decode cX12_init 447 = .ok (.putfield 171, 3) := by decide +kernel
theorem dX12_init_450 : decode cX12_init 450 = .ok (.aload_n 0, 1) := by decide +kernel
theorem dX12_init_451 : decode cX12_init 451 = .ok (.bipush 120, 2) := by decide +kernel
theorem dX12_init_453 : decode cX12_init 453 = .ok (.newarray .boolean, 2) := by decide +kernel
theorem dX12_init_455 : decode cX12_init 455 = .ok (.putfield 174, 3) := by decide +kernel
theorem dX12_init_458 : decode cX12_init 458 = .ok (.aload_n 0, 1) := by decide +kernel
theorem dX12_init_459 : decode cX12_init 459 = .ok (.bipush 120, 2) := by decide +kernel
theorem dX12_init_461 : decode cX12_init 461 = .ok (.newarray .int, 2) := by decide +kernel
theorem dX12_init_463 : decode cX12_init 463 = .ok (.putfield 177, 3) := by decide +kernel
theorem dX12_init_466 : decode cX12_init 466 = .ok (.aload_n 0, 1) := by decide +kernel
theorem dX12_init_467 : decode cX12_init 467 = .ok (.bipush 120, 2) := by decide +kernel
theorem dX12_init_469 : decode cX12_init 469 = .ok (.newarray .int, 2) := by decide +kernel
theorem dX12_init_471 : decode cX12_init 471 = .ok (.putfield 180, 3) := by decide +kernel
theorem dX12_init_474 : decode cX12_init 474 = .ok (.aload_n 0, 1) := by decide +kernel
theorem dX12_init_475 : decode cX12_init 475 = .ok (.bipush 120, 2) := by decide +kernel
theorem dX12_init_477 : decode cX12_init 477 = .ok (.newarray .int, 2) := by decide +kernel
theorem dX12_init_479 : decode cX12_init 479 = .ok (.putfield 183, 3) := by decide +kernel
theorem dX12_init_482 : decode cX12_init 482 = .ok (.aload_n 0, 1) := by decide +kernel
theorem dX12_init_483 : decode cX12_init 483 = .ok (.bipush 120, 2) := by decide +kernel
theorem dX12_init_485 : decode cX12_init 485 = .ok (.newarray .int, 2) := by decide +kernel
theorem dX12_init_487 : decode cX12_init 487 = .ok (.putfield 186, 3) := by decide +kernel
theorem dX12_init_490 : decode cX12_init 490 = .ok (.aload_n 0, 1) := by decide +kernel
theorem dX12_init_491 : decode cX12_init 491 = .ok (.bipush 120, 2) := by decide +kernel
theorem dX12_init_493 : decode cX12_init 493 = .ok (.newarray .int, 2) := by decide +kernel
theorem dX12_init_495 : decode cX12_init 495 = .ok (.putfield 189, 3) := by decide +kernel
theorem dX12_init_498 : decode cX12_init 498 = .ok (.aload_n 0, 1) := by decide +kernel
theorem dX12_init_499 : decode cX12_init 499 = .ok (.bipush 70, 2) := by decide +kernel
theorem dX12_init_501 : decode cX12_init 501 = .ok (.newarray .int, 2) := by decide +kernel
theorem dX12_init_503 : decode cX12_init 503 = .ok (.putfield 192, 3) := by decide +kernel
theorem dX12_init_506 : decode cX12_init 506 = .ok (.aload_n 0, 1) := by decide +kernel
theorem dX12_init_507 : decode cX12_init 507 = .ok (.bipush 120, 2) := by decide +kernel
theorem dX12_init_509 : decode cX12_init 509 = .ok (.newarray .boolean, 2) := by decide +kernel
theorem dX12_init_511 : decode cX12_init 511 = .ok (.putfield 195, 3) := by decide +kernel
theorem dX12_init_514 : decode cX12_init 514 = .ok (.aload_n 0, 1) := by decide +kernel
theorem dX12_init_515 : decode cX12_init 515 = .ok (.ldc 198, 2) := by decide +kernel
theorem dX12_init_517 : decode cX12_init 517 = .ok (.newarray .int, 2) := by decide +kernel
theorem dX12_init_519 : decode cX12_init 519 = .ok (.putfield 199, 3) := by decide +kernel
theorem dX12_init_522 : decode cX12_init 522 = .ok (.aload_n 0, 1) := by decide +kernel
theorem dX12_init_523 : decode cX12_init 523 = .ok (.ldc 198, 2) := by decide +kernel
theorem dX12_init_525 : decode cX12_init 525 = .ok (.newarray .int, 2) := by decide +kernel
theorem dX12_init_527 : decode cX12_init 527 = .ok (.putfield 202, 3) := by decide +kernel
theorem dX12_init_530 : decode cX12_init 530 = .ok (.aload_n 0, 1) := by decide +kernel
theorem dX12_init_531 : decode cX12_init 531 = .ok (.ldc 198, 2) := by decide +kernel
theorem dX12_init_533 : decode cX12_init 533 = .ok (.newarray .int, 2) := by decide +kernel
theorem dX12_init_535 : decode cX12_init 535 = .ok (.putfield 205, 3) := by decide +kernel
theorem dX12_init_538 : decode cX12_init 538 = .ok (.aload_n 0, 1) := by decide +kernel
theorem dX12_init_539 : decode cX12_init 539 = .ok (.bipush 8, 2) := by decide +kernel
theorem dX12_init_541 : decode cX12_init 541 = .ok (.newarray .int, 2) := by decide +kernel
theorem dX12_init_543 : decode cX12_init 543 = .ok (.putfield 208, 3) := by decide +kernel
theorem dX12_init_546 : decode cX12_init 546 = .ok (.aload_n 0, 1) := by decide +kernel
theorem dX12_init_547 : decode cX12_init 547 = .ok (.bipush 8, 2) := by decide +kernel
theorem dX12_init_549 : decode cX12_init 549 = .ok (.newarray .int, 2) := by decide +kernel
theorem dX12_init_551 : decode cX12_init 551 = .ok (.putfield 211, 3) := by decide +kernel
theorem dX12_init_554 : decode cX12_init 554 = .ok (.aload_n 0, 1) := by decide +kernel
theorem dX12_init_555 : decode cX12_init 555 = .ok (.bipush 8, 2) := by decide +kernel
theorem dX12_init_557 : decode cX12_init 557 = .ok (.newarray .int, 2) := by decide +kernel
theorem dX12_init_559 : decode cX12_init 559 = .ok (.putfield 214, 3) := by decide +kernel
theorem dX12_init_562 : decode cX12_init 562 = .ok (.aload_n 0, 1) := by decide +kernel
theorem dX12_init_563 : decode cX12_init 563 = .ok (.bipush 8, 2) := by decide +kernel
theorem dX12_init_565 : decode cX12_init 565 = .ok (.newarray .int, 2) := by decide +kernel
theorem dX12_init_567 : decode cX12_init 567 = .ok (.putfield 217, 3) := by decide +kernel
theorem dX12_init_570 : decode cX12_init 570 = .ok (.aload_n 0, 1) := by decide +kernel
theorem dX12_init_571 : decode cX12_init 571 = .ok (.bipush 8, 2) := by decide +kernel
theorem dX12_init_573 : decode cX12_init 573 = .ok (.newarray .int, 2) := by decide +kernel
theorem dX12_init_575 : decode cX12_init 575 = .ok (.putfield 220, 3) := by decide +kernel
theorem dX12_init_578 : decode cX12_init 578 = .ok (.aload_n 0, 1) := by decide +kernel
theorem dX12_init_579 : decode cX12_init 579 = .ok (.bipush 120, 2) := by decide +kernel
theorem dX12_init_581 : decode cX12_init 581 = .ok (.newarray .int, 2) := by decide +kernel
theorem dX12_init_583 : decode cX12_init 583 = .ok (.putfield 223, 3) := by decide +kernel
theorem dX12_init_586 : decode cX12_init 586 = .ok (.aload_n 0, 1) := by decide +kernel
theorem dX12_init_587 : decode cX12_init 587 = .ok (.sipush 480, 3) := by decide +kernel
theorem dX12_init_590 : decode cX12_init 590 = .ok (.newarray .int, 2) := by decide +kernel
theorem dX12_init_592 : decode cX12_init 592 = .ok (.putfield 226, 3) := by decide +kernel
theorem dX12_init_595 : decode cX12_init 595 = .ok (.aload_n 0, 1) := by decide +kernel
theorem dX12_init_596 : decode cX12_init 596 = .ok (.sipush 480, 3) := by decide +kernel
theorem dX12_init_599 : decode cX12_init 599 = .ok (.newarray .int, 2) := by decide +kernel
theorem dX12_init_601 : decode cX12_init 601 = .ok (.putfield 229, 3) := by decide +kernel
theorem dX12_init_604 : decode cX12_init 604 = .ok (.aload_n 0, 1) := by decide +kernel
theorem dX12_init_605 : decode cX12_init 605 = .ok (.bipush 20, 2) := by decide +kernel
theorem dX12_init_607 : decode cX12_init 607 = .ok (.newarray .int, 2) := by decide +kernel
theorem dX12_init_609 : decode cX12_init 609 = .ok (.putfield 232, 3) := by decide +kernel
theorem dX12_init_612 : decode cX12_init 612 = .ok (.aload_n 0, 1) := by decide +kernel
theorem dX12_init_613 : decode cX12_init 613 = .ok (.bipush 20, 2) := by decide +kernel
theorem dX12_init_615 : decode cX12_init 615 = .ok (.newarray .int, 2) := by decide +kernel
theorem dX12_init_617 : decode cX12_init 617 = .ok (.putfield 235, 3) := by decide +kernel
theorem dX12_init_620 : decode cX12_init 620 = .ok (.aload_n 0, 1) := by decide +kernel
theorem dX12_init_621 : decode cX12_init 621 = .ok (.bipush 20, 2) := by decide +kernel
theorem dX12_init_623 : decode cX12_init 623 = .ok (.newarray .int, 2) := by decide +kernel
theorem dX12_init_625 : decode cX12_init 625 = .ok (.putfield 238, 3) := by decide +kernel
theorem dX12_init_628 : decode cX12_init 628 = .ok (.aload_n 0, 1) := by decide +kernel
theorem dX12_init_629 : decode cX12_init 629 = .ok (.bipush 20, 2) := by decide +kernel
theorem dX12_init_631 : decode cX12_init 631 = .ok (.newarray .int, 2) := by decide +kernel
theorem dX12_init_633 : decode cX12_init 633 = .ok (.putfield 241, 3) := by decide +kernel
theorem dX12_init_636 : decode cX12_init 636 = .ok (.aload_n 0, 1) := by decide +kernel
theorem dX12_init_637 : decode cX12_init 637 = .ok (.sipush 2400, 3) := by decide +kernel
theorem dX12_init_640 : decode cX12_init 640 = .ok (.newarray .int, 2) := by decide +kernel
theorem dX12_init_642 : decode cX12_init 642 = .ok (.putfield 244, 3) := by decide +kernel
theorem dX12_init_645 : decode cX12_init 645 = .ok (.aload_n 0, 1) := by decide +kernel
theorem dX12_init_646 : decode cX12_init 646 = .ok (.bipush 10, 2) := by decide +kernel
theorem dX12_init_648 : decode cX12_init 648 = .ok (.newarray .int, 2) := by decide +kernel
theorem dX12_init_650 : decode cX12_init 650 = .ok (.putfield 247, 3) := by decide +kernel
theorem dX12_init_653 : decode cX12_init 653 = .ok (.aload_n 0, 1) := by decide +kernel
theorem dX12_init_654 : decode cX12_init 654 = .ok (.bipush 10, 2) := by decide +kernel
theorem dX12_init_656 : decode cX12_init 656 = .ok (.newarray .int, 2) := by decide +kernel
theorem dX12_init_658 : decode cX12_init 658 = .ok (.putfield 250, 3) := by decide +kernel
theorem dX12_init_661 : decode cX12_init 661 = .ok (.aload_n 0, 1) := by decide +kernel
theorem dX12_init_662 : decode cX12_init 662 = .ok (.bipush 10, 2) := by decide +kernel
theorem dX12_init_664 : decode cX12_init 664 = .ok (.newarray .int, 2) := by decide +kernel
theorem dX12_init_666 : decode cX12_init 666 = .ok (.putfield 253, 3) := by decide +kernel
theorem dX12_init_669 : decode cX12_init 669 = .ok (.aload_n 0, 1) := by decide +kernel
theorem dX12_init_670 : decode cX12_init 670 = .ok (.bipush 120, 2) := by decide +kernel
theorem dX12_init_672 : decode cX12_init 672 = .ok (.newarray .int, 2) := by decide +kernel
theorem dX12_init_674 : decode cX12_init 674 = .ok (.putfield 256, 3) := by decide +kernel
theorem dX12_init_677 : decode cX12_init 677 = .ok (.aload_n 0, 1) := by decide +kernel
theorem dX12_init_678 : decode cX12_init 678 = .ok (.bipush 120, 2) := by decide +kernel
theorem dX12_init_680 : decode cX12_init 680 = .ok (.newarray .int, 2) := by decide +kernel
theorem dX12_init_682 : decode cX12_init 682 = .ok (.putfield 259, 3) := by decide +kernel
theorem dX12_init_685 : decode cX12_init 685 = .ok (.aload_n 0, 1) := by decide +kernel
theorem dX12_init_686 : decode cX12_init 686 = .ok (.bipush 120, 2) := by decide +kernel
theorem dX12_init_688 : decode cX12_init 688 = .ok (.newarray .int, 2) := by decide +kernel
theorem dX12_init_690 : decode cX12_init 690 = .ok (.putfield 262, 3) := by decide +kernel
theorem dX12_init_693 : decode cX12_init 693 = .ok (.aload_n 0, 1) := by decide +kernel
theorem dX12_init_694 : decode cX12_init 694 = .ok (.bipush 120, 2) := by decide +kernel
theorem dX12_init_696 : decode cX12_init 696 = .ok (.newarray .int, 2) := by decide +kernel
theorem dX12_init_698 : decode cX12_init 698 = .ok (.putfield 265, 3) := by decide +kernel
theorem dX12_init_701 : decode cX12_init 701 = .ok (.aload_n 0, 1) := by decide +kernel
theorem dX12_init_702 : decode cX12_init 702 = .ok (.bipush 120, 2) := by decide +kernel
theorem dX12_init_704 : decode cX12_init 704 = .ok (.newarray .int, 2) := by decide +kernel
theorem dX12_init_706 : decode cX12_init 706 = .ok (.putfield 268, 3) := by decide +kernel
theorem dX12_init_709 : decode cX12_init 709 = .ok (.aload_n 0, 1) := by decide +kernel
theorem dX12_init_710 : decode cX12_init 710 = .ok (.bipush 120, 2) := by decide +kernel
theorem dX12_init_712 : decode cX12_init 712 = .ok (.newarray .int, 2) := by decide +kernel
theorem dX12_init_714 : decode cX12_init 714 = .ok (.putfield 271, 3) := by decide +kernel
theorem dX12_init_717 : decode cX12_init 717 = .ok (.aload_n 0, 1) := by decide +kernel
theorem dX12_init_718 : decode cX12_init 718 = .ok (.bipush 120, 2) := by decide +kernel
theorem dX12_init_720 : decode cX12_init 720 = .ok (.newarray .int, 2) := by decide +kernel
theorem dX12_init_722 : decode cX12_init 722 = .ok (.putfield 274, 3) := by decide +kernel
theorem dX12_init_725 : decode cX12_init 725 = .ok (.aload_n 0, 1) := by decide +kernel
theorem dX12_init_726 : decode cX12_init 726 = .ok (.bipush 70, 2) := by decide +kernel
theorem dX12_init_728 : decode cX12_init 728 = .ok (.newarray .int, 2) := by decide +kernel
theorem dX12_init_730 : decode cX12_init 730 = .ok (.putfield 277, 3) := by decide +kernel
theorem dX12_init_733 : decode cX12_init 733 = .ok (.aload_n 0, 1) := by decide +kernel
theorem dX12_init_734 : decode cX12_init 734 = .ok (.bipush 120, 2) := by decide +kernel
theorem dX12_init_736 : decode cX12_init 736 = .ok (.newarray .boolean, 2) := by decide +kernel
theorem dX12_init_738 : decode cX12_init 738 = .ok (.putfield 280, 3) := by decide +kernel
theorem dX12_init_741 : decode cX12_init 741 = .ok (.iconst 0, 1) := by decide +kernel
theorem dX12_init_742 : decode cX12_init 742 = .ok (.istore_n 1, 1) := by decide +kernel
theorem dX12_init_743 : decode cX12_init 743 = .ok (.iload_n 1, 1) := by decide +kernel
theorem dX12_init_744 : decode cX12_init 744 = .ok (.bipush 10, 2) := by decide +kernel
theorem dX12_init_746 : decode cX12_init 746 = .ok (.if_icmp .ge 25, 3) := by decide +kernel
theorem dX12_init_749 : decode cX12_init 749 = .ok (.aload_n 0, 1) := by decide +kernel
theorem dX12_init_750 : decode cX12_init 750 = .ok (.getfield 247, 3) := by decide +kernel
theorem dX12_init_753 : decode cX12_init 753 = .ok (.iload_n 1, 1) := by decide +kernel
theorem dX12_init_754 : decode cX12_init 754 = .ok (.bipush (-60), 2) := by decide +kernel
theorem dX12_init_756 : decode cX12_init 756 = .ok (.iastore, 1) := by decide +kernel
theorem dX12_init_757 : decode cX12_init 757 = .ok (.aload_n 0, 1) := by decide +kernel
theorem dX12_init_758 : decode cX12_init 758 = .ok (.getfield 250, 3) := by decide +kernel
theorem dX12_init_761 : decode cX12_init 761 = .ok (.iload_n 1, 1) := by decide +kernel
theorem dX12_init_762 : decode cX12_init 762 = .ok (.bipush 60, 2) := by decide +kernel
theorem dX12_init_764 : decode cX12_init 764 = .ok (.iastore, 1) := by decide +kernel
theorem dX12_init_765 : decode cX12_init 765 = .ok (.iinc 1 1, 3) := by decide +kernel
theorem dX12_init_768 : decode cX12_init 768 = .ok (.goto (-25), 3) := by decide +kernel
theorem dX12_init_771 : decode cX12_init 771 = .ok (.iconst 0, 1) := by decide +kernel
theorem dX12_init_772 : decode cX12_init 772 = .ok (.istore_n 1, 1) := by decide +kernel
theorem dX12_init_773 : decode cX12_init 773 = .ok (.iload_n 1, 1) := by decide +kernel
theorem dX12_init_774 : decode cX12_init 774 = .ok (.bipush 8, 2) := by decide +kernel
theorem dX12_init_776 : decode cX12_init 776 = .ok (.if_icmp .ge 16, 3) := by decide +kernel
theorem dX12_init_779 : decode cX12_init 779 = .ok (.aload_n 0, 1) := by decide +kernel
theorem dX12_init_780 : decode cX12_init 780 = .ok (.getfield 217, 3) := by decide +kernel
theorem dX12_init_783 : decode cX12_init 783 = .ok (.iload_n 1, 1) := by decide +kernel
theorem dX12_init_784 : decode cX12_init 784 = .ok (.iconst (-1), 1) := by decide +kernel
theorem dX12_init_785 : decode cX12_init 785 = .ok (.iastore, 1) := by decide +kernel
theorem dX12_init_786 : decode cX12_init 786 = .ok (.iinc 1 1, 3) := by decide +kernel
theorem dX12_init_789 : decode cX12_init 789 = .ok (.goto (-16), 3) := by decide +kernel
theorem dX12_init_792 : decode cX12_init 792 = .ok (.return_, 1) := by decide +kernel
set_option maxRecDepth 100000 in
set_option maxHeartbeats 0 in
theorem bX12_init_0 {d : Nat} {h0 hE h : ea_H} {rv : Option ea_V} {r0 : Option Nat} (H : 1 ≤ d ∧ ∃ a542, r0 = some a542 ∧ ∀ h544, h544 = ea_new h 20 144 144 → a542 < ea_n h544 ∧ ea_c h544 a542 = 12 ∧ ∀ h548, h548 = ea_wr h544 a542 3 (some (ea_n h)) → ∀ h550, h550 = ea_new h548 20 10 10 → a542 < ea_n h550 ∧ ea_c h550 a542 = 12 ∧ ∀ h554, h554 = ea_wr h550 a542 4 (some (ea_n h548)) → ∀ h556, h556 = ea_new h554 20 80 80 → a542 < ea_n h556 ∧ ea_c h556 a542 = 12 ∧ ∀ h560, h560 = ea_wr h556 a542 5 (some (ea_n h554)) → ∀ h562, h562 = ea_new h560 20 80 80 → a542 < ea_n h562 ∧ ea_c h562 a542 = 12 ∧ ∀ h566, h566 = ea_wr h562 a542 6 (some (ea_n h560)) → ∀ h568, h568 = ea_new h566 20 80 80 → a542 < ea_n h568 ∧ ea_c h568 a542 = 12 ∧ ∀ h572, h572 = ea_wr h568 a542 7 (some (ea_n h566)) → ∀ h574, h574 = ea_new h572 20 70 70 → a542 < ea_n h574 ∧ ea_c h574 a542 = 12 ∧ ∀ h578, h578 = ea_wr h574 a542 8 (some (ea_n h572)) → ∀ h580, h580 = ea_new h578 21 80 80 → a542 < ea_n h580 ∧ ea_c h580 a542 = 12 ∧ ∀ h584, h584 = ea_wr h580 a542 9 (some (ea_n h578)) → ∀ h586, h586 = ea_new h584 21 560 560 → a542 < ea_n h586 ∧ ea_c h586 a542 = 12 ∧ ∀ h590, h590 = ea_wr h586 a542 10 (some (ea_n h584)) → ∀ h592, h592 = ea_new h590 20 12 12 → a542 < ea_n h592 ∧ ea_c h592 a542 = 12 ∧ ∀ h596, h596 = ea_wr h592 a542 11 (some (ea_n h590)) → ∀ h598, h598 = ea_new h596 20 1000 1000 → a542 < ea_n h598 ∧ ea_c h598 a542 = 12 ∧ ∀ h602, h602 = ea_wr h598 a542 14 (some (ea_n h596)) → ∀ h604, h604 = ea_new h602 20 1000 1000 → a542 < ea_n h604 ∧ ea_c h604 a542 = 12 ∧ ∀ h608, h608 = ea_wr h604 a542 15 (some (ea_n h602)) → ∀ h610, h610 = ea_new h608 20 1000 1000 → a542 < ea_n h610 ∧ ea_c h610 a542 = 12 ∧ ∀ h614, h614 = ea_wr h610 a542 16 (some (ea_n h608)) → ∀ h616, h616 = ea_new h614 20 1000 1000 → a542 < ea_n h616 ∧ ea_c h616 a542 = 12 ∧ ∀ h620, h620 = ea_wr h616 a542 17 (some (ea_n h614)) → ∀ h622, h622 = ea_new h620 20 70 70 → a542 < ea_n h622 ∧ ea_c h622 a542 = 12 ∧ ∀ h626, h626 = ea_wr h622 a542 18 (some (ea_n h620)) → ∀ h628, h628 = ea_new h626 20 12000 12000 → a542 < ea_n h628 ∧ ea_c h628 a542 = 12 ∧ ∀ h632, h632 = ea_wr h628 a542 19 (some (ea_n h626)) → ∀ h634, h634 = ea_new h632 20 12000 12000 → a542 < ea_n h634 ∧ ea_c h634 a542 = 12 ∧ ∀ h638, h638 = ea_wr h634 a542 20 (some (ea_n h632)) → ∀ h640, h640 = ea_new h638 20 12000 12000 → a542 < ea_n h640 ∧ ea_c h640 a542 = 12 ∧ ∀ h644, h644 = ea_wr h640 a542 21 (some (ea_n h638)) → ∀ h646, h646 = ea_new h644 20 12000 12000 → a542 < ea_n h646 ∧ ea_c h646 a542 = 12 ∧ ∀ h650, h650 = ea_wr h646 a542 22 (some (ea_n h644)) → ∀ h652, h652 = ea_new h650 20 1000 1000 → a542 < ea_n h652 ∧ ea_c h652 a542 = 12 ∧ ∀ h656, h656 = ea_wr h652 a542 23 (some (ea_n h650)) → ∀ h658, h658 = ea_new h656 20 12 12 → a542 < ea_n h658 ∧ ea_c h658 a542 = 12 ∧ ∀ h662, h662 = ea_wr h658 a542 24 (some (ea_n h656)) → ∀ h664, h664 = ea_new h662 20 6 6 → a542 < ea_n h664 ∧ ea_c h664 a542 = 12 ∧ ∀ h668, h668 = ea_wr h664 a542 26 (some (ea_n h662)) → ∀ h670, h670 = ea_new h668 20 6 6 → a542 < ea_n h670 ∧ ea_c h670 a542 = 12 ∧ ∀ h674, h674 = ea_wr h670 a542 27 (some (ea_n h668)) → ∀ h676, h676 = ea_new h674 20 6 6 → a542 < ea_n h676 ∧ ea_c h676 a542 = 12 ∧ ∀ h680, h680 = ea_wr h676 a542 28 (some (ea_n h674)) → ∀ h682, h682 = ea_new h680 20 6 6 → a542 < ea_n h682 ∧ ea_c h682 a542 = 12 ∧ ∀ h686, h686 = ea_wr h682 a542 29 (some (ea_n h680)) → ∀ h688, h688 = ea_new h686 20 6 6 → a542 < ea_n h688 ∧ ea_c h688 a542 = 12 ∧ ∀ h692, h692 = ea_wr h688 a542 30 (some (ea_n h686)) → ∀ h694, h694 = ea_new h692 20 6 6 → a542 < ea_n h694 ∧ ea_c h694 a542 = 12 ∧ ∀ h698, h698 = ea_wr h694 a542 31 (some (ea_n h692)) → ∀ h700, h700 = ea_new h698 20 6 6 → a542 < ea_n h700 ∧ ea_c h700 a542 = 12 ∧ ∀ h704, h704 = ea_wr h700 a542 32 (some (ea_n h698)) → ∀ h706, h706 = ea_new h704 20 6 6 → a542 < ea_n h706 ∧ ea_c h706 a542 = 12 ∧ ∀ h710, h710 = ea_wr h706 a542 33 (some (ea_n h704)) → ∀ h712, h712 = ea_new h710 20 6 6 → a542 < ea_n h712 ∧ ea_c h712 a542 = 12 ∧ ∀ h716, h716 = ea_wr h712 a542 34 (some (ea_n h710)) → ∀ h718, h718 = ea_new h716 20 150 150 → a542 < ea_n h718 ∧ ea_c h718 a542 = 12 ∧ ∀ h722, h722 = ea_wr h718 a542 35 (some (ea_n h716)) → ∀ h724, h724 = ea_new h722 20 144 144 → a542 < ea_n h724 ∧ ea_c h724 a542 = 12 ∧ ∀ h728, h728 = ea_wr h724 a542 36 (some (ea_n h722)) → ∀ h730, h730 = ea_new h728 20 7320 7320 → a542 < ea_n h730 ∧ ea_c h730 a542 = 12 ∧ ∀ h734, h734 = ea_wr h730 a542 37 (some (ea_n h728)) → ∀ h736, h736 = ea_new h734 20 25 25 → a542 < ea_n h736 ∧ ea_c h736 a542 = 12 ∧ ∀ h740, h740 = ea_wr h736 a542 38 (some (ea_n h734)) → ∀ h742, h742 = ea_new h740 20 24 24 → a542 < ea_n h742 ∧ ea_c h742 a542 = 12 ∧ ∀ h746, h746 = ea_wr h742 a542 39 (some (ea_n h740)) → ∀ h748, h748 = ea_new h746 20 1220 1220 → a542 < ea_n h748 ∧ ea_c h748 a542 = 12 ∧ ∀ h752, h752 = ea_wr h748 a542 40 (some (ea_n h746)) → ∀ h754, h754 = ea_new h752 20 600 600 → a542 < ea_n h754 ∧ ea_c h754 a542 = 12 ∧ ∀ h758, h758 = ea_wr h754 a542 41 (some (ea_n h752)) → ∀ h760, h760 = ea_new h758 20 620 620 → a542 < ea_n h760 ∧ ea_c h760 a542 = 12 ∧ ∀ h764, h764 = ea_wr h760 a542 42 (some (ea_n h758)) → a542 < ea_n h764 ∧ ea_c h764 a542 = 12 ∧ ∀ h768, h768 = ea_wi h764 a542 62 (-1) → ∀ h770, h770 = ea_new h768 20 120 120 → a542 < ea_n h770 ∧ ea_c h770 a542 = 12 ∧ ∀ h774, h774 = ea_wr h770 a542 64 (some (ea_n h768)) → ∀ h776, h776 = ea_new h774 20 120 120 → a542 < ea_n h776 ∧ ea_c h776 a542 = 12 ∧ ∀ h780, h780 = ea_wr h776 a542 65 (some (ea_n h774)) → ∀ h782, h782 = ea_new h780 20 120 120 → a542 < ea_n h782 ∧ ea_c h782 a542 = 12 ∧ ∀ h786, h786 = ea_wr h782 a542 66 (some (ea_n h780)) → ∀ h788, h788 = ea_new h786 20 120 120 → a542 < ea_n h788 ∧ ea_c h788 a542 = 12 ∧ ∀ h792, h792 = ea_wr h788 a542 67 (some (ea_n h786)) → ∀ h794, h794 = ea_new h792 20 120 120 → a542 < ea_n h794 ∧ ea_c h794 a542 = 12 ∧ ∀ h798, h798 = ea_wr h794 a542 68 (some (ea_n h792)) → ∀ h800, h800 = ea_new h798 20 120 120 → a542 < ea_n h800 ∧ ea_c h800 a542 = 12 ∧ ∀ h804, h804 = ea_wr h800 a542 69 (some (ea_n h798)) → ∀ h806, h806 = ea_new h804 20 120 120 → a542 < ea_n h806 ∧ ea_c h806 a542 = 12 ∧ ∀ h810, h810 = ea_wr h806 a542 70 (some (ea_n h804)) → ∀ h812, h812 = ea_new h810 20 120 120 → a542 < ea_n h812 ∧ ea_c h812 a542 = 12 ∧ ∀ h816, h816 = ea_wr h812 a542 71 (some (ea_n h810)) → ∀ h818, h818 = ea_new h816 20 120 120 → a542 < ea_n h818 ∧ ea_c h818 a542 = 12 ∧ ∀ h822, h822 = ea_wr h818 a542 72 (some (ea_n h816)) → ∀ h824, h824 = ea_new h822 20 120 120 → a542 < ea_n h824 ∧ ea_c h824 a542 = 12 ∧ ∀ h828, h828 = ea_wr h824 a542 73 (some (ea_n h822)) → ∀ h830, h830 = ea_new h828 20 120 120 → a542 < ea_n h830 ∧ ea_c h830 a542 = 12 ∧ ∀ h834, h834 = ea_wr h830 a542 74 (some (ea_n h828)) → ∀ h836, h836 = ea_new h834 20 120 120 → a542 < ea_n h836 ∧ ea_c h836 a542 = 12 ∧ ∀ h840, h840 = ea_wr h836 a542 75 (some (ea_n h834)) → ∀ h842, h842 = ea_new h840 20 120 120 → a542 < ea_n h842 ∧ ea_c h842 a542 = 12 ∧ ∀ h846, h846 = ea_wr h842 a542 76 (some (ea_n h840)) → ∀ h848, h848 = ea_new h846 20 120 120 → a542 < ea_n h848 ∧ ea_c h848 a542 = 12 ∧ ∀ h852, h852 = ea_wr h848 a542 77 (some (ea_n h846)) → ∀ h854, h854 = ea_new h852 21 120 120 → a542 < ea_n h854 ∧ ea_c h854 a542 = 12 ∧ ∀ h858, h858 = ea_wr h854 a542 78 (some (ea_n h852)) → ∀ h860, h860 = ea_new h858 21 120 120 → a542 < ea_n h860 ∧ ea_c h860 a542 = 12 ∧ ∀ h864, h864 = ea_wr h860 a542 79 (some (ea_n h858)) → ∀ h866, h866 = ea_new h864 21 120 120 → a542 < ea_n h866 ∧ ea_c h866 a542 = 12 ∧ ∀ h870, h870 = ea_wr h866 a542 80 (some (ea_n h864)) → ∀ h872, h872 = ea_new h870 20 120 120 → a542 < ea_n h872 ∧ ea_c h872 a542 = 12 ∧ ∀ h876, h876 = ea_wr h872 a542 81 (some (ea_n h870)) → ∀ h878, h878 = ea_new h876 20 120 120 → a542 < ea_n h878 ∧ ea_c h878 a542 = 12 ∧ ∀ h882, h882 = ea_wr h878 a542 82 (some (ea_n h876)) → ∀ h884, h884 = ea_new h882 20 120 120 → a542 < ea_n h884 ∧ ea_c h884 a542 = 12 ∧ ∀ h888, h888 = ea_wr h884 a542 83 (some (ea_n h882)) → ∀ h890, h890 = ea_new h888 20 120 120 → a542 < ea_n h890 ∧ ea_c h890 a542 = 12 ∧ ∀ h894, h894 = ea_wr h890 a542 84 (some (ea_n h888)) → ∀ h896, h896 = ea_new h894 20 120 120 → a542 < ea_n h896 ∧ ea_c h896 a542 = 12 ∧ ∀ h900, h900 = ea_wr h896 a542 85 (some (ea_n h894)) → ∀ h902, h902 = ea_new h900 20 70 70 → a542 < ea_n h902 ∧ ea_c h902 a542 = 12 ∧ ∀ h906, h906 = ea_wr h902 a542 86 (some (ea_n h900)) → ∀ h908, h908 = ea_new h906 21 120 120 → a542 < ea_n h908 ∧ ea_c h908 a542 = 12 ∧ ∀ h912, h912 = ea_wr h908 a542 87 (some (ea_n h906)) → ∀ h914, h914 = ea_new h912 20 120000 120000 → a542 < ea_n h914 ∧ ea_c h914 a542 = 12 ∧ ∀ h918, h918 = ea_wr h914 a542 88 (some (ea_n h912)) → ∀ h920, h920 = ea_new h918 20 120000 120000 → a542 < ea_n h920 ∧ ea_c h920 a542 = 12 ∧ ∀ h924, h924 = ea_wr h920 a542 89 (some (ea_n h918)) → ∀ h926, h926 = ea_new h924 20 120000 120000 → a542 < ea_n h926 ∧ ea_c h926 a542 = 12 ∧ ∀ h930, h930 = ea_wr h926 a542 90 (some (ea_n h924)) → ∀ h932, h932 = ea_new h930 20 8 8 → a542 < ea_n h932 ∧ ea_c h932 a542 = 12 ∧ ∀ h936, h936 = ea_wr h932 a542 91 (some (ea_n h930)) → ∀ h938, h938 = ea_new h936 20 8 8 → a542 < ea_n h938 ∧ ea_c h938 a542 = 12 ∧ ∀ h942, h942 = ea_wr h938 a542 93 (some (ea_n h936)) → ∀ h944, h944 = ea_new h942 20 8 8 → a542 < ea_n h944 ∧ ea_c h944 a542 = 12 ∧ ∀ h948, h948 = ea_wr h944 a542 94 (some (ea_n h942)) → ∀ h950, h950 = ea_new h948 20 8 8 → a542 < ea_n h950 ∧ ea_c h950 a542 = 12 ∧ ∀ h954, h954 = ea_wr h950 a542 95 (some (ea_n h948)) → ∀ h956, h956 = ea_new h954 20 8 8 → a542 < ea_n h956 ∧ ea_c h956 a542 = 12 ∧ ∀ h960, h960 = ea_wr h956 a542 96 (some (ea_n h954)) → ∀ h962, h962 = ea_new h960 20 120 120 → a542 < ea_n h962 ∧ ea_c h962 a542 = 12 ∧ ∀ h966, h966 = ea_wr h962 a542 97 (some (ea_n h960)) → ∀ h968, h968 = ea_new h966 20 480 480 → a542 < ea_n h968 ∧ ea_c h968 a542 = 12 ∧ ∀ h972, h972 = ea_wr h968 a542 98 (some (ea_n h966)) → ∀ h974, h974 = ea_new h972 20 480 480 → a542 < ea_n h974 ∧ ea_c h974 a542 = 12 ∧ ∀ h978, h978 = ea_wr h974 a542 99 (some (ea_n h972)) → ∀ h980, h980 = ea_new h978 20 20 20 → a542 < ea_n h980 ∧ ea_c h980 a542 = 12 ∧ ∀ h984, h984 = ea_wr h980 a542 101 (some (ea_n h978)) → ∀ h986, h986 = ea_new h984 20 20 20 → a542 < ea_n h986 ∧ ea_c h986 a542 = 12 ∧ ∀ h990, h990 = ea_wr h986 a542 102 (some (ea_n h984)) → ∀ h992, h992 = ea_new h990 20 20 20 → a542 < ea_n h992 ∧ ea_c h992 a542 = 12 ∧ ∀ h996, h996 = ea_wr h992 a542 103 (some (ea_n h990)) → ∀ h998, h998 = ea_new h996 20 20 20 → a542 < ea_n h998 ∧ ea_c h998 a542 = 12 ∧ ∀ h1002, h1002 = ea_wr h998 a542 104 (some (ea_n h996)) → ∀ h1004, h1004 = ea_new h1002 20 2400 2400 → a542 < ea_n h1004 ∧ ea_c h1004 a542 = 12 ∧ ∀ h1008, h1008 = ea_wr h1004 a542 105 (some (ea_n h1002)) → ∀ h1010, h1010 = ea_new h1008 20 10 10 → a542 < ea_n h1010 ∧ ea_c h1010 a542 = 12 ∧ ∀ h1014, h1014 = ea_wr h1010 a542 106 (some (ea_n h1008)) → ∀ h1016, h1016 = ea_new h1014 20 10 10 → a542 < ea_n h1016 ∧ ea_c h1016 a542 = 12 ∧ ∀ h1020, h1020 = ea_wr h1016 a542 107 (some (ea_n h1014)) → ∀ h1022, h1022 = ea_new h1020 20 10 10 → a542 < ea_n h1022 ∧ ea_c h1022 a542 = 12 ∧ ∀ h1026, h1026 = ea_wr h1022 a542 108 (some (ea_n h1020)) → ∀ h1028, h1028 = ea_new h1026 20 120 120 → a542 < ea_n h1028 ∧ ea_c h1028 a542 = 12 ∧ ∀ h1032, h1032 = ea_wr h1028 a542 109 (some (ea_n h1026)) → ∀ h1034, h1034 = ea_new h1032 20 120 120 → a542 < ea_n h1034 ∧ ea_c h1034 a542 = 12 ∧ ∀ h1038, h1038 = ea_wr h1034 a542 110 (some (ea_n h1032)) → ∀ h1040, h1040 = ea_new h1038 20 120 120 → a542 < ea_n h1040 ∧ ea_c h1040 a542 = 12 ∧ ∀ h1044, h1044 = ea_wr h1040 a542 111 (some (ea_n h1038)) → ∀ h1046, h1046 = ea_new h1044 20 120 120 → a542 < ea_n h1046 ∧ ea_c h1046 a542 = 12 ∧ ∀ h1050, h1050 = ea_wr h1046 a542 112 (some (ea_n h1044)) → ∀ h1052, h1052 = ea_new h1050 20 120 120 → a542 < ea_n h1052 ∧ ea_c h1052 a542 = 12 ∧ ∀ h1056, h1056 = ea_wr h1052 a542 113 (some (ea_n h1050)) → ∀ h1058, h1058 = ea_new h1056 20 120 120 → a542 < ea_n h1058 ∧ ea_c h1058 a542 = 12 ∧ ∀ h1062, h1062 = ea_wr h1058 a542 114 (some (ea_n h1056)) → ∀ h1064, h1064 = ea_new h1062 20 120 120 → a542 < ea_n h1064 ∧ ea_c h1064 a542 = 12 ∧ ∀ h1068, h1068 = ea_wr h1064 a542 115 (some (ea_n h1062)) → ∀ h1070, h1070 = ea_new h1068 20 70 70 → a542 < ea_n h1070 ∧ ea_c h1070 a542 = 12 ∧ ∀ h1074, h1074 = ea_wr h1070 a542 116 (some (ea_n h1068)) → ∀ h1076, h1076 = ea_new h1074 21 120 120 → a542 < ea_n h1076 ∧ ea_c h1076 a542 = 12 ∧ ∀ h1080, h1080 = ea_wr h1076 a542 117 (some (ea_n h1074)) → ea_W mX12_init d h0 rv hE 743 [(0, vR r0), (1, vI 0)] [] h1080) : ea_W mX12_init d h0 rv hE 0 [(0, vR r0)] [] h := by
  refine ea_aload_n (pc := 0) dX12_init_0 rfl 0 rfl ?_
  obtain ⟨z541, a542, e543, H⟩ := H
  refine ea_deref0 e543 ?_
  refine ea_objInit (pc := 1) dX12_init_1 ew_1343 ew_134 ew_135 z541 (Nat.le_of_ble_eq_true rfl) ?_
  refine ea_aload_n (pc := 4) dX12_init_4 rfl 0 rfl ?_
  refine ea_sipush (pc := 5) dX12_init_5 (v := 144) rfl ?_
  refine ea_newI (pc := 8) (N := 144) dX12_init_8 ew_170 (by decide) rfl (Nat.le_of_ble_eq_true rfl) ?_
  obtain ⟨h544, E545⟩ : ∃ z, z = ea_new h 20 144 144 := ⟨_, rfl⟩
  have H := H h544 E545
  refine ea_nm E545 ?_
  obtain ⟨f546, g547, H⟩ := H
  refine ea_deref1 e543 ?_
  refine ea_putR (pc := 10) dX12_init_10 ec_12 (k := 3) (Nat.le_of_ble_eq_true rfl) rfl (Or.inr ⟨rfl, rfl, rfl, ew_1348⟩) f546 g547 ?_
  obtain ⟨h548, E549⟩ : ∃ z, z = ea_wr h544 a542 3 (some (ea_n h)) := ⟨_, rfl⟩
  have H := H h548 E549
  refine ea_nm E549 ?_
  refine ea_aload_n (pc := 13) dX12_init_13 rfl 0 rfl ?_
  refine ea_bipush (pc := 14) dX12_init_14 (v := 10) rfl ?_
  refine ea_newI (pc := 16) (N := 10) dX12_init_16 ew_170 (by decide) rfl (Nat.le_of_ble_eq_true rfl) ?_
  obtain ⟨h550, E551⟩ : ∃ z, z = ea_new h548 20 10 10 := ⟨_, rfl⟩
  have H := H h550 E551
  refine ea_nm E551 ?_
  obtain ⟨f552, g553, H⟩ := H
  refine ea_deref1 e543 ?_
  refine ea_putR (pc := 18) dX12_init_18 ec_12 (k := 4) (Nat.le_of_ble_eq_true rfl) rfl (Or.inr ⟨rfl, rfl, rfl, ew_1349⟩) f552 g553 ?_
  obtain ⟨h554, E555⟩ : ∃ z, z = ea_wr h550 a542 4 (some (ea_n h548)) := ⟨_, rfl⟩
  have H := H h554 E555
  refine ea_nm E555 ?_
  refine ea_aload_n (pc := 21) dX12_init_21 rfl 0 rfl ?_
  refine ea_bipush (pc := 22) dX12_init_22 (v := 80) rfl ?_
  refine ea_newI (pc := 24) (N := 80) dX12_init_24 ew_170 (by decide) rfl (Nat.le_of_ble_eq_true rfl) ?_
  obtain ⟨h556, E557⟩ : ∃ z, z = ea_new h554 20 80 80 := ⟨_, rfl⟩
  have H := H h556 E557
  refine ea_nm E557 ?_
  obtain ⟨f558, g559, H⟩ := H
  refine ea_deref1 e543 ?_
  refine ea_putR (pc := 26) dX12_init_26 ec_12 (k := 5) (Nat.le_of_ble_eq_true rfl) rfl (Or.inr ⟨rfl, rfl, rfl, ew_1350⟩) f558 g559 ?_
  obtain ⟨h560, E561⟩ : ∃ z, z = ea_wr h556 a542 5 (some (ea_n h554)) := ⟨_, rfl⟩
  have H := H h560 E561
  refine ea_nm E561 ?_
  refine ea_aload_n (pc := 29) dX12_init_29 rfl 0 rfl ?_
  refine ea_bipush (pc := 30) dX12_init_30 (v := 80) rfl ?_
  refine ea_newI (pc := 32) (N := 80) dX12_init_32 ew_170 (by decide) rfl (Nat.le_of_ble_eq_true rfl) ?_
  obtain ⟨h562, E563⟩ : ∃ z, z = ea_new h560 20 80 80 := ⟨_, rfl⟩
  have H := H h562 E563
  refine ea_nm E563 ?_
  obtain ⟨f564, g565, H⟩ := H
  refine ea_deref1 e543 ?_
  refine ea_putR (pc := 34) dX12_init_34 ec_12 (k := 6) (Nat.le_of_ble_eq_true rfl) rfl (Or.inr ⟨rfl, rfl, rfl, ew_1351⟩) f564 g565 ?_
  obtain ⟨h566, E567⟩ : ∃ z, z = ea_wr h562 a542 6 (some (ea_n h560)) := ⟨_, rfl⟩
  have H := H h566 E567
  refine ea_nm E567 ?_
  refine ea_aload_n (pc := 37) dX12_init_37 rfl 0 rfl ?_
  refine ea_bipush (pc := 38) dX12_init_38 (v := 80) rfl ?_
  refine ea_newI (pc := 40) (N := 80) dX12_init_40 ew_170 (by decide) rfl (Nat.le_of_ble_eq_true rfl) ?_
  obtain ⟨h568, E569⟩ : ∃ z, z = ea_new h566 20 80 80 := ⟨_, rfl⟩
  have H := H h568 E569
  refine ea_nm E569 ?_
  obtain ⟨f570, g571, H⟩ := H
  refine ea_deref1 e543 ?_
  refine ea_putR (pc := 42) dX12_init_42 ec_12 (k := 7) (Nat.le_of_ble_eq_true rfl) rfl (Or.inr ⟨rfl, rfl, rfl, ew_1352⟩) f570 g571 ?_
  obtain ⟨h572, E573⟩ : ∃ z, z = ea_wr h568 a542 7 (some (ea_n h566)) := ⟨_, rfl⟩
  have H := H h572 E573
  refine ea_nm E573 ?_
  refine ea_aload_n (pc := 45) dX12_init_45 rfl 0 rfl ?_
  refine ea_bipush (pc := 46) dX12_init_46 (v := 70) rfl ?_
  refine ea_newI (pc := 48) (N := 70) dX12_init_48 ew_170 (by decide) rfl (Nat.le_of_ble_eq_true rfl) ?_
  obtain ⟨h574, E575⟩ : ∃ z, z = ea_new h572 20 70 70 := ⟨_, rfl⟩
  have H := H h574 E575
  refine ea_nm E575 ?_
  obtain ⟨f576, g577, H⟩ := H
  refine ea_deref1 e543 ?_
  refine ea_putR (pc := 50) dX12_init_50 ec_12 (k := 8) (Nat.le_of_ble_eq_true rfl) rfl (Or.inr ⟨rfl, rfl, rfl, ew_1353⟩) f576 g577 ?_
  obtain ⟨h578, E579⟩ : ∃ z, z = ea_wr h574 a542 8 (some (ea_n h572)) := ⟨_, rfl⟩
  have H := H h578 E579
  refine ea_nm E579 ?_
  refine ea_aload_n (pc := 53) dX12_init_53 rfl 0 rfl ?_
  refine ea_bipush (pc := 54) dX12_init_54 (v := 80) rfl ?_
  refine ea_newZ (pc := 56) (N := 80) dX12_init_56 ew_218 (by decide) rfl (Nat.le_of_ble_eq_true rfl) ?_
  obtain ⟨h580, E581⟩ : ∃ z, z = ea_new h578 21 80 80 := ⟨_, rfl⟩
  have H := H h580 E581
  refine ea_nm E581 ?_
  obtain ⟨f582, g583, H⟩ := H
  refine ea_deref1 e543 ?_
  refine ea_putR (pc := 58) dX12_init_58 ec_12 (k := 9) (Nat.le_of_ble_eq_true rfl) rfl (Or.inr ⟨rfl, rfl, rfl, ew_1354⟩) f582 g583 ?_
  obtain ⟨h584, E585⟩ : ∃ z, z = ea_wr h580 a542 9 (some (ea_n h578)) := ⟨_, rfl⟩
  have H := H h584 E585
  refine ea_nm E585 ?_
  refine ea_aload_n (pc := 61) dX12_init_61 rfl 0 rfl ?_
  refine ea_sipush (pc := 62) dX12_init_62 (v := 560) rfl ?_
  refine ea_newZ (pc := 65) (N := 560) dX12_init_65 ew_218 (by decide) rfl (Nat.le_of_ble_eq_true rfl) ?_
  obtain ⟨h586, E587⟩ : ∃ z, z = ea_new h584 21 560 560 := ⟨_, rfl⟩
  have H := H h586 E587
  refine ea_nm E587 ?_
  obtain ⟨f588, g589, H⟩ := H
  refine ea_deref1 e543 ?_
  refine ea_putR (pc := 67) dX12_init_67 ec_12 (k := 10) (Nat.le_of_ble_eq_true rfl) rfl (Or.inr ⟨rfl, rfl, rfl, ew_1355⟩) f588 g589 ?_
  obtain ⟨h590, E591⟩ : ∃ z, z = ea_wr h586 a542 10 (some (ea_n h584)) := ⟨_, rfl⟩
  have H := H h590 E591
  refine ea_nm E591 ?_
  refine ea_aload_n (pc := 70) dX12_init_70 rfl 0 rfl ?_
  refine ea_bipush (pc := 71) dX12_init_71 (v := 12) rfl ?_
  refine ea_newI (pc := 73) (N := 12) dX12_init_73 ew_170 (by decide) rfl (Nat.le_of_ble_eq_true rfl) ?_
  obtain ⟨h592, E593⟩ : ∃ z, z = ea_new h590 20 12 12 := ⟨_, rfl⟩
  have H := H h592 E593
  refine ea_nm E593 ?_
  obtain ⟨f594, g595, H⟩ := H
  refine ea_deref1 e543 ?_
  refine ea_putR (pc := 75) dX12_init_75 ec_12 (k := 11) (Nat.le_of_ble_eq_true rfl) rfl (Or.inr ⟨rfl, rfl, rfl, ew_1356⟩) f594 g595 ?_
  obtain ⟨h596, E597⟩ : ∃ z, z = ea_wr h592 a542 11 (some (ea_n h590)) := ⟨_, rfl⟩
  have H := H h596 E597
  refine ea_nm E597 ?_
  refine ea_aload_n (pc := 78) dX12_init_78 rfl 0 rfl ?_
  refine ea_sipush (pc := 79) dX12_init_79 (v := 1000) rfl ?_
  refine ea_newI (pc := 82) (N := 1000) dX12_init_82 ew_170 (by decide) rfl (Nat.le_of_ble_eq_true rfl) ?_
  obtain ⟨h598, E599⟩ : ∃ z, z = ea_new h596 20 1000 1000 := ⟨_, rfl⟩
  have H := H h598 E599
  refine ea_nm E599 ?_
  obtain ⟨f600, g601, H⟩ := H
  refine ea_deref1 e543 ?_
  refine ea_putR (pc := 84) dX12_init_84 ec_12 (k := 14) (Nat.le_of_ble_eq_true rfl) rfl (Or.inr ⟨rfl, rfl, rfl, ew_1359⟩) f600 g601 ?_
  obtain ⟨h602, E603⟩ : ∃ z, z = ea_wr h598 a542 14 (some (ea_n h596)) := ⟨_, rfl⟩
  have H := H h602 E603
  refine ea_nm E603 ?_
  refine ea_aload_n (pc := 87) dX12_init_87 rfl 0 rfl ?_
  refine ea_sipush (pc := 88) dX12_init_88 (v := 1000) rfl ?_
  refine ea_newI (pc := 91) (N := 1000) dX12_init_91 ew_170 (by decide) rfl (Nat.le_of_ble_eq_true rfl) ?_
  obtain ⟨h604, E605⟩ : ∃ z, z = ea_new h602 20 1000 1000 := ⟨_, rfl⟩
  have H := H h604 E605
  refine ea_nm E605 ?_
  obtain ⟨f606, g607, H⟩ := H
  refine ea_deref1 e543 ?_
  refine ea_putR (pc := 93) dX12_init_93 ec_12 (k := 15) (Nat.le_of_ble_eq_true rfl) rfl (Or.inr ⟨rfl, rfl, rfl, ew_1360⟩) f606 g607 ?_
  obtain ⟨h608, E609⟩ : ∃ z, z = ea_wr h604 a542 15 (some (ea_n h602)) := ⟨_, rfl⟩
  have H := H h608 E609
  refine ea_nm E609 ?_
  refine ea_aload_n (pc := 96) dX12_init_96 rfl 0 rfl ?_
  refine ea_sipush (pc := 97) dX12_init_97 (v := 1000) rfl ?_
  refine ea_newI (pc := 100) (N := 1000) dX12_init_100 ew_170 (by decide) rfl (Nat.le_of_ble_eq_true rfl) ?_
  obtain ⟨h610, E611⟩ : ∃ z, z = ea_new h608 20 1000 1000 := ⟨_, rfl⟩
  have H := H h610 E611
  refine ea_nm E611 ?_
  obtain ⟨f612, g613, H⟩ := H
  refine ea_deref1 e543 ?_
  refine ea_putR (pc := 102) dX12_init_102 ec_12 (k := 16) (Nat.le_of_ble_eq_true rfl) rfl (Or.inr ⟨rfl, rfl, rfl, ew_1361⟩) f612 g613 ?_
  obtain ⟨h614, E615⟩ : ∃ z, z = ea_wr h610 a542 16 (some (ea_n h608)) := ⟨_, rfl⟩
  have H := H h614 E615
  refine ea_nm E615 ?_
  refine ea_aload_n (pc := 105) dX12_init_105 rfl 0 rfl ?_
  refine ea_sipush (pc := 106) dX12_init_106 (v := 1000) rfl ?_
  refine ea_newI (pc := 109) (N := 1000) dX12_init_109 ew_170 (by decide) rfl (Nat.le_of_ble_eq_true rfl) ?_
  obtain ⟨h616, E617⟩ : ∃ z, z = ea_new h614 20 1000 1000 := ⟨_, rfl⟩
  have H := H h616 E617
  refine ea_nm E617 ?_
  obtain ⟨f618, g619, H⟩ := H
  refine ea_deref1 e543 ?_
  refine ea_putR (pc := 111) dX12_init_111 ec_12 (k := 17) (Nat.le_of_ble_eq_true rfl) rfl (Or.inr ⟨rfl, rfl, rfl, ew_1362⟩) f618 g619 ?_
  obtain ⟨h620, E621⟩ : ∃ z, z = ea_wr h616 a542 17 (some (ea_n h614)) := ⟨_, rfl⟩
  have H := H h620 E621
  refine ea_nm E621 ?_
  refine ea_aload_n (pc := 114) dX12_init_114 rfl 0 rfl ?_
  refine ea_bipush (pc := 115) dX12_init_115 (v := 70) rfl ?_
  refine ea_newI (pc := 117) (N := 70) dX12_init_117 ew_170 (by decide) rfl (Nat.le_of_ble_eq_true rfl) ?_
  obtain ⟨h622, E623⟩ : ∃ z, z = ea_new h620 20 70 70 := ⟨_, rfl⟩
  have H := H h622 E623
  refine ea_nm E623 ?_
  obtain ⟨f624, g625, H⟩ := H
  refine ea_deref1 e543 ?_
  refine ea_putR (pc := 119) dX12_init_119 ec_12 (k := 18) (Nat.le_of_ble_eq_true rfl) rfl (Or.inr ⟨rfl, rfl, rfl, ew_1363⟩) f624 g625 ?_
  obtain ⟨h626, E627⟩ : ∃ z, z = ea_wr h622 a542 18 (some (ea_n h620)) := ⟨_, rfl⟩
  have H := H h626 E627
  refine ea_nm E627 ?_
  refine ea_aload_n (pc := 122) dX12_init_122 rfl 0 rfl ?_
  refine ea_sipush (pc := 123) dX12_init_123 (v := 12000) rfl ?_
  refine ea_newI (pc := 126) (N := 12000) dX12_init_126 ew_170 (by decide) rfl (Nat.le_of_ble_eq_true rfl) ?_
  obtain ⟨h628, E629⟩ : ∃ z, z = ea_new h626 20 12000 12000 := ⟨_, rfl⟩
  have H := H h628 E629
  refine ea_nm E629 ?_
  obtain ⟨f630, g631, H⟩ := H
  refine ea_deref1 e543 ?_
  refine ea_putR (pc := 128) dX12_init_128 ec_12 (k := 19) (Nat.le_of_ble_eq_true rfl) rfl (Or.inr ⟨rfl, rfl, rfl, ew_1364⟩) f630 g631 ?_
  obtain ⟨h632, E633⟩ : ∃ z, z = ea_wr h628 a542 19 (some (ea_n h626)) := ⟨_, rfl⟩
  have H := H h632 E633
  refine ea_nm E633 ?_
  refine ea_aload_n (pc := 131) dX12_init_131 rfl 0 rfl ?_
  refine ea_sipush (pc := 132) dX12_init_132 (v := 12000) rfl ?_
  refine ea_newI (pc := 135) (N := 12000) dX12_init_135 ew_170 (by decide) rfl (Nat.le_of_ble_eq_true rfl) ?_
  obtain ⟨h634, E635⟩ : ∃ z, z = ea_new h632 20 12000 12000 := ⟨_, rfl⟩
  have H := H h634 E635
  refine ea_nm E635 ?_
  obtain ⟨f636, g637, H⟩ := H
  refine ea_deref1 e543 ?_
  refine ea_putR (pc := 137) dX12_init_137 ec_12 (k := 20) (Nat.le_of_ble_eq_true rfl) rfl (Or.inr ⟨rfl, rfl, rfl, ew_1365⟩) f636 g637 ?_
  obtain ⟨h638, E639⟩ : ∃ z, z = ea_wr h634 a542 20 (some (ea_n h632)) := ⟨_, rfl⟩
  have H := H h638 E639
  refine ea_nm E639 ?_
  refine ea_aload_n (pc := 140) dX12_init_140 rfl 0 rfl ?_
  refine ea_sipush (pc := 141) dX12_init_141 (v := 12000) rfl ?_
  refine ea_newI (pc := 144) (N := 12000) dX12_init_144 ew_170 (by decide) rfl (Nat.le_of_ble_eq_true rfl) ?_
  obtain ⟨h640, E641⟩ : ∃ z, z = ea_new h638 20 12000 12000 := ⟨_, rfl⟩
  have H := H h640 E641
  refine ea_nm E641 ?_
  obtain ⟨f642, g643, H⟩ := H
  refine ea_deref1 e543 ?_
  refine ea_putR (pc := 146) dX12_init_146 ec_12 (k := 21) (Nat.le_of_ble_eq_true rfl) rfl (Or.inr ⟨rfl, rfl, rfl, ew_1366⟩) f642 g643 ?_
  obtain ⟨h644, E645⟩ : ∃ z, z = ea_wr h640 a542 21 (some (ea_n h638)) := ⟨_, rfl⟩
  have H := H h644 E645
  refine ea_nm E645 ?_
  refine ea_aload_n (pc := 149) dX12_init_149 rfl 0 rfl ?_
  refine ea_sipush (pc := 150) dX12_init_150 (v := 12000) rfl ?_
  refine ea_newI (pc := 153) (N := 12000) dX12_init_153 ew_170 (by decide) rfl (Nat.le_of_ble_eq_true rfl) ?_
  obtain ⟨h646, E647⟩ : ∃ z, z = ea_new h644 20 12000 12000 := ⟨_, rfl⟩
  have H := H h646 E647
  refine ea_nm E647 ?_
  obtain ⟨f648, g649, H⟩ := H
  refine ea_deref1 e543 ?_
  refine ea_putR (pc := 155) dX12_init_155 ec_12 (k := 22) (Nat.le_of_ble_eq_true rfl) rfl (Or.inr ⟨rfl, rfl, rfl, ew_1367⟩) f648 g649 ?_
  obtain ⟨h650, E651⟩ : ∃ z, z = ea_wr h646 a542 22 (some (ea_n h644)) := ⟨_, rfl⟩
  have H := H h650 E651
  refine ea_nm E651 ?_
  refine ea_aload_n (pc := 158) dX12_init_158 rfl 0 rfl ?_
  refine ea_sipush (pc := 159) dX12_init_159 (v := 1000) rfl ?_
  refine ea_newI (pc := 162) (N := 1000) dX12_init_162 ew_170 (by decide) rfl (Nat.le_of_ble_eq_true rfl) ?_
  obtain ⟨h652, E653⟩ : ∃ z, z = ea_new h650 20 1000 1000 := ⟨_, rfl⟩
  have H := H h652 E653
  refine ea_nm E653 ?_
  obtain ⟨f654, g655, H⟩ := H
  refine ea_deref1 e543 ?_
  refine ea_putR (pc := 164) dX12_init_164 ec_12 (k := 23) (Nat.le_of_ble_eq_true rfl) rfl (Or.inr ⟨rfl, rfl, rfl, ew_1368⟩) f654 g655 ?_
  obtain ⟨h656, E657⟩ : ∃ z, z = ea_wr h652 a542 23 (some (ea_n h650)) := ⟨_, rfl⟩
  have H := H h656 E657
  refine ea_nm E657 ?_
  refine ea_aload_n (pc := 167) dX12_init_167 rfl 0 rfl ?_
  refine ea_bipush (pc := 168) dX12_init_168 (v := 12) rfl ?_
  refine ea_newI (pc := 170) (N := 12) dX12_init_170 ew_170 (by decide) rfl (Nat.le_of_ble_eq_true rfl) ?_
  obtain ⟨h658, E659⟩ : ∃ z, z = ea_new h656 20 12 12 := ⟨_, rfl⟩
  have H := H h658 E659
  refine ea_nm E659 ?_
  obtain ⟨f660, g661, H⟩ := H
  refine ea_deref1 e543 ?_
  refine ea_putR (pc := 172) dX12_init_172 ec_12 (k := 24) (Nat.le_of_ble_eq_true rfl) rfl (Or.inr ⟨rfl, rfl, rfl, ew_1369⟩) f660 g661 ?_
  obtain ⟨h662, E663⟩ : ∃ z, z = ea_wr h658 a542 24 (some (ea_n h656)) := ⟨_, rfl⟩
  have H := H h662 E663
  refine ea_nm E663 ?_
  refine ea_aload_n (pc := 175) dX12_init_175 rfl 0 rfl ?_
  refine ea_bipush (pc := 176) dX12_init_176 (v := 6) rfl ?_
  refine ea_newI (pc := 178) (N := 6) dX12_init_178 ew_170 (by decide) rfl (Nat.le_of_ble_eq_true rfl) ?_
  obtain ⟨h664, E665⟩ : ∃ z, z = ea_new h662 20 6 6 := ⟨_, rfl⟩
  have H := H h664 E665
  refine ea_nm E665 ?_
  obtain ⟨f666, g667, H⟩ := H
  refine ea_deref1 e543 ?_
  refine ea_putR (pc := 180) dX12_init_180 ec_12 (k := 26) (Nat.le_of_ble_eq_true rfl) rfl (Or.inr ⟨rfl, rfl, rfl, ew_1371⟩) f666 g667 ?_
  obtain ⟨h668, E669⟩ : ∃ z, z = ea_wr h664 a542 26 (some (ea_n h662)) := ⟨_, rfl⟩
  have H := H h668 E669
  refine ea_nm E669 ?_
  refine ea_aload_n (pc := 183) dX12_init_183 rfl 0 rfl ?_
  refine ea_bipush (pc := 184) dX12_init_184 (v := 6) rfl ?_
  refine ea_newI (pc := 186) (N := 6) dX12_init_186 ew_170 (by decide) rfl (Nat.le_of_ble_eq_true rfl) ?_
  obtain ⟨h670, E671⟩ : ∃ z, z = ea_new h668 20 6 6 := ⟨_, rfl⟩
  have H := H h670 E671
  refine ea_nm E671 ?_
  obtain ⟨f672, g673, H⟩ := H
  refine ea_deref1 e543 ?_
  refine ea_putR (pc := 188) dX12_init_188 ec_12 (k := 27) (Nat.le_of_ble_eq_true rfl) rfl (Or.inr ⟨rfl, rfl, rfl, ew_1372⟩) f672 g673 ?_
  obtain ⟨h674, E675⟩ : ∃ z, z = ea_wr h670 a542 27 (some (ea_n h668)) := ⟨_, rfl⟩
  have H := H h674 E675
  refine ea_nm E675 ?_
  refine ea_aload_n (pc := 191) dX12_init_191 rfl 0 rfl ?_
  refine ea_bipush (pc := 192) dX12_init_192 (v := 6) rfl ?_
  refine ea_newI (pc := 194) (N := 6) dX12_init_194 ew_170 (by decide) rfl (Nat.le_of_ble_eq_true rfl) ?_
  obtain ⟨h676, E677⟩ : ∃ z, z = ea_new h674 20 6 6 := ⟨_, rfl⟩
  have H := H h676 E677
  refine ea_nm E677 ?_
  obtain ⟨f678, g679, H⟩ := H
  refine ea_deref1 e543 ?_
  refine ea_putR (pc := 196) dX12_init_196 ec_12 (k := 28) (Nat.le_of_ble_eq_true rfl) rfl (Or.inr ⟨rfl, rfl, rfl, ew_1373⟩) f678 g679 ?_
  obtain ⟨h680, E681⟩ : ∃ z, z = ea_wr h676 a542 28 (some (ea_n h674)) := ⟨_, rfl⟩
  have H := H h680 E681
  refine ea_nm E681 ?_
  refine ea_aload_n (pc := 199) dX12_init_199 rfl 0 rfl ?_
  refine ea_bipush (pc := 200) dX12_init_200 (v := 6) rfl ?_
  refine ea_newI (pc := 202) (N := 6) dX12_init_202 ew_170 (by decide) rfl (Nat.le_of_ble_eq_true rfl) ?_
  obtain ⟨h682, E683⟩ : ∃ z, z = ea_new h680 20 6 6 := ⟨_, rfl⟩
  have H := H h682 E683
  refine ea_nm E683 ?_
  obtain ⟨f684, g685, H⟩ := H
  refine ea_deref1 e543 ?_
  refine ea_putR (pc := 204) dX12_init_204 ec_12 (k := 29) (Nat.le_of_ble_eq_true rfl) rfl (Or.inr ⟨rfl, rfl, rfl, ew_1374⟩) f684 g685 ?_
  obtain ⟨h686, E687⟩ : ∃ z, z = ea_wr h682 a542 29 (some (ea_n h680)) := ⟨_, rfl⟩
  have H := H h686 E687
  refine ea_nm E687 ?_
  refine ea_aload_n (pc := 207) dX12_init_207 rfl 0 rfl ?_
  refine ea_bipush (pc := 208) dX12_init_208 (v := 6) rfl ?_
  refine ea_newI (pc := 210) (N := 6) dX12_init_210 ew_170 (by decide) rfl (Nat.le_of_ble_eq_true rfl) ?_
  obtain ⟨h688, E689⟩ : ∃ z, z = ea_new h686 20 6 6 := ⟨_, rfl⟩
  have H := H h688 E689
  refine ea_nm E689 ?_
  obtain ⟨f690, g691, H⟩ := H
  refine ea_deref1 e543 ?_
  refine ea_putR (pc := 212) dX12_init_212 ec_12 (k := 30) (Nat.le_of_ble_eq_true rfl) rfl (Or.inr ⟨rfl, rfl, rfl, ew_1375⟩) f690 g691 ?_
  obtain ⟨h692, E693⟩ : ∃ z, z = ea_wr h688 a542 30 (some (ea_n h686)) := ⟨_, rfl⟩
  have H := H h692 E693
  refine ea_nm E693 ?_
  refine ea_aload_n (pc := 215) dX12_init_215 rfl 0 rfl ?_
  refine ea_bipush (pc := 216) dX12_init_216 (v := 6) rfl ?_
  refine ea_newI (pc := 218) (N := 6) dX12_init_218 ew_170 (by decide) rfl (Nat.le_of_ble_eq_true rfl) ?_
  obtain ⟨h694, E695⟩ : ∃ z, z = ea_new h692 20 6 6 := ⟨_, rfl⟩
  have H := H h694 E695
  refine ea_nm E695 ?_
  obtain ⟨f696, g697, H⟩ := H
  refine ea_deref1 e543 ?_
  refine ea_putR (pc := 220) dX12_init_220 ec_12 (k := 31) (Nat.le_of_ble_eq_true rfl) rfl (Or.inr ⟨rfl, rfl, rfl, ew_1376⟩) f696 g697 ?_
  obtain ⟨h698, E699⟩ : ∃ z, z = ea_wr h694 a542 31 (some (ea_n h692)) := ⟨_, rfl⟩
  have H := H h698 E699
  refine ea_nm E699 ?_
  refine ea_aload_n (pc := 223) dX12_init_223 rfl 0 rfl ?_
  refine ea_bipush (pc := 224) dX12_init_224 (v := 6) rfl ?_
  refine ea_newI (pc := 226) (N := 6) dX12_init_226 ew_170 (by decide) rfl (Nat.le_of_ble_eq_true rfl) ?_
  obtain ⟨h700, E701⟩ : ∃ z, z = ea_new h698 20 6 6 := ⟨_, rfl⟩
  have H := H h700 E701
  refine ea_nm E701 ?_
  obtain ⟨f702, g703, H⟩ := H
  refine ea_deref1 e543 ?_
  refine ea_putR (pc := 228) dX12_init_228 ec_12 (k := 32) (Nat.le_of_ble_eq_true rfl) rfl (Or.inr ⟨rfl, rfl, rfl, ew_1377⟩) f702 g703 ?_
  obtain ⟨h704, E705⟩ : ∃ z, z = ea_wr h700 a542 32 (some (ea_n h698)) := ⟨_, rfl⟩
  have H := H h704 E705
  refine ea_nm E705 ?_
  refine ea_aload_n (pc := 231) dX12_init_231 rfl 0 rfl ?_
  refine ea_bipush (pc := 232) dX12_init_232 (v := 6) rfl ?_
  refine ea_newI (pc := 234) (N := 6) dX12_init_234 ew_170 (by decide) rfl (Nat.le_of_ble_eq_true rfl) ?_
  obtain ⟨h706, E707⟩ : ∃ z, z = ea_new h704 20 6 6 := ⟨_, rfl⟩
  have H := H h706 E707
  refine ea_nm E707 ?_
  obtain ⟨f708, g709, H⟩ := H
  refine ea_deref1 e543 ?_
  refine ea_putR (pc := 236) dX12_init_236 ec_12 (k := 33) (Nat.le_of_ble_eq_true rfl) rfl (Or.inr ⟨rfl, rfl, rfl, ew_1378⟩) f708 g709 ?_
  obtain ⟨h710, E711⟩ : ∃ z, z = ea_wr h706 a542 33 (some (ea_n h704)) := ⟨_, rfl⟩
  have H := H h710 E711
  refine ea_nm E711 ?_
  refine ea_aload_n (pc := 239) dX12_init_239 rfl 0 rfl ?_
  refine ea_bipush (pc := 240) dX12_init_240 (v := 6) rfl ?_
  refine ea_newI (pc := 242) (N := 6) dX12_init_242 ew_170 (by decide) rfl (Nat.le_of_ble_eq_true rfl) ?_
  obtain ⟨h712, E713⟩ : ∃ z, z = ea_new h710 20 6 6 := ⟨_, rfl⟩
  have H := H h712 E713
  refine ea_nm E713 ?_
  obtain ⟨f714, g715, H⟩ := H
  refine ea_deref1 e543 ?_
  refine ea_putR (pc := 244) dX12_init_244 ec_12 (k := 34) (Nat.le_of_ble_eq_true rfl) rfl (Or.inr ⟨rfl, rfl, rfl, ew_1379⟩) f714 g715 ?_
  obtain ⟨h716, E717⟩ : ∃ z, z = ea_wr h712 a542 34 (some (ea_n h710)) := ⟨_, rfl⟩
  have H := H h716 E717
  refine ea_nm E717 ?_
  refine ea_aload_n (pc := 247) dX12_init_247 rfl 0 rfl ?_
  refine ea_sipush (pc := 248) dX12_init_248 (v := 150) rfl ?_
  refine ea_newI (pc := 251) (N := 150) dX12_init_251 ew_170 (by decide) rfl (Nat.le_of_ble_eq_true rfl) ?_
  obtain ⟨h718, E719⟩ : ∃ z, z = ea_new h716 20 150 150 := ⟨_, rfl⟩
  have H := H h718 E719
  refine ea_nm E719 ?_
  obtain ⟨f720, g721, H⟩ := H
  refine ea_deref1 e543 ?_
  refine ea_putR (pc := 253) dX12_init_253 ec_12 (k := 35) (Nat.le_of_ble_eq_true rfl) rfl (Or.inr ⟨rfl, rfl, rfl, ew_1380⟩) f720 g721 ?_
  obtain ⟨h722, E723⟩ : ∃ z, z = ea_wr h718 a542 35 (some (ea_n h716)) := ⟨_, rfl⟩
  have H := H h722 E723
  refine ea_nm E723 ?_
  refine ea_aload_n (pc := 256) dX12_init_256 rfl 0 rfl ?_
  refine ea_sipush (pc := 257) dX12_init_257 (v := 144) rfl ?_
  refine ea_newI (pc := 260) (N := 144) dX12_init_260 ew_170 (by decide) rfl (Nat.le_of_ble_eq_true rfl) ?_
  obtain ⟨h724, E725⟩ : ∃ z, z = ea_new h722 20 144 144 := ⟨_, rfl⟩
  have H := H h724 E725
  refine ea_nm E725 ?_
  obtain ⟨f726, g727, H⟩ := H
  refine ea_deref1 e543 ?_
  refine ea_putR (pc := 262) dX12_init_262 ec_12 (k := 36) (Nat.le_of_ble_eq_true rfl) rfl (Or.inr ⟨rfl, rfl, rfl, ew_1381⟩) f726 g727 ?_
  obtain ⟨h728, E729⟩ : ∃ z, z = ea_wr h724 a542 36 (some (ea_n h722)) := ⟨_, rfl⟩
  have H := H h728 E729
  refine ea_nm E729 ?_
  refine ea_aload_n (pc := 265) dX12_init_265 rfl 0 rfl ?_
  refine ea_sipush (pc := 266) dX12_init_266 (v := 7320) rfl ?_
  refine ea_newI (pc := 269) (N := 7320) dX12_init_269 ew_170 (by decide) rfl (Nat.le_of_ble_eq_true rfl) ?_
  obtain ⟨h730, E731⟩ : ∃ z, z = ea_new h728 20 7320 7320 := ⟨_, rfl⟩
  have H := H h730 E731
  refine ea_nm E731 ?_
  obtain ⟨f732, g733, H⟩ := H
  refine ea_deref1 e543 ?_
  refine ea_putR (pc := 271) dX12_init_271 ec_12 (k := 37) (Nat.le_of_ble_eq_true rfl) rfl (Or.inr ⟨rfl, rfl, rfl, ew_1382⟩) f732 g733 ?_
  obtain ⟨h734, E735⟩ : ∃ z, z = ea_wr h730 a542 37 (some (ea_n h728)) := ⟨_, rfl⟩
  have H := H h734 E735
  refine ea_nm E735 ?_
  refine ea_aload_n (pc := 274) dX12_init_274 rfl 0 rfl ?_
  refine ea_bipush (pc := 275) dX12_init_275 (v := 25) rfl ?_
  refine ea_newI (pc := 277) (N := 25) dX12_init_277 ew_170 (by decide) rfl (Nat.le_of_ble_eq_true rfl) ?_
  obtain ⟨h736, E737⟩ : ∃ z, z = ea_new h734 20 25 25 := ⟨_, rfl⟩
  have H := H h736 E737
  refine ea_nm E737 ?_
  obtain ⟨f738, g739, H⟩ := H
  refine ea_deref1 e543 ?_
  refine ea_putR (pc := 279) dX12_init_279 ec_12 (k := 38) (Nat.le_of_ble_eq_true rfl) rfl (Or.inr ⟨rfl, rfl, rfl, ew_1383⟩) f738 g739 ?_
  obtain ⟨h740, E741⟩ : ∃ z, z = ea_wr h736 a542 38 (some (ea_n h734)) := ⟨_, rfl⟩
  have H := H h740 E741
  refine ea_nm E741 ?_
  refine ea_aload_n (pc := 282) dX12_init_282 rfl 0 rfl ?_
  refine ea_bipush (pc := 283) dX12_init_283 (v := 24) rfl ?_
  refine ea_newI (pc := 285) (N := 24) dX12_init_285 ew_170 (by decide) rfl (Nat.le_of_ble_eq_true rfl) ?_
  obtain ⟨h742, E743⟩ : ∃ z, z = ea_new h740 20 24 24 := ⟨_, rfl⟩
  have H := H h742 E743
  refine ea_nm E743 ?_
  obtain ⟨f744, g745, H⟩ := H
  refine ea_deref1 e543 ?_
  refine ea_putR (pc := 287) dX12_init_287 ec_12 (k := 39) (Nat.le_of_ble_eq_true rfl) rfl (Or.inr ⟨rfl, rfl, rfl, ew_1384⟩) f744 g745 ?_
  obtain ⟨h746, E747⟩ : ∃ z, z = ea_wr h742 a542 39 (some (ea_n h740)) := ⟨_, rfl⟩
  have H := H h746 E747
  refine ea_nm E747 ?_
  refine ea_aload_n (pc := 290) dX12_init_290 rfl 0 rfl ?_
  refine ea_sipush (pc := 291) dX12_init_291 (v := 1220) rfl ?_
  refine ea_newI (pc := 294) (N := 1220) dX12_init_294 ew_170 (by decide) rfl (Nat.le_of_ble_eq_true rfl) ?_
  obtain ⟨h748, E749⟩ : ∃ z, z = ea_new h746 20 1220 1220 := ⟨_, rfl⟩
  have H := H h748 E749
  refine ea_nm E749 ?_
  obtain ⟨f750, g751, H⟩ := H
  refine ea_deref1 e543 ?_
  refine ea_putR (pc := 296) dX12_init_296 ec_12 (k := 40) (Nat.le_of_ble_eq_true rfl) rfl (Or.inr ⟨rfl, rfl, rfl, ew_1385⟩) f750 g751 ?_
  obtain ⟨h752, E753⟩ : ∃ z, z = ea_wr h748 a542 40 (some (ea_n h746)) := ⟨_, rfl⟩
  have H := H h752 E753
  refine ea_nm E753 ?_
  refine ea_aload_n (pc := 299) dX12_init_299 rfl 0 rfl ?_
  refine ea_sipush (pc := 300) dX12_init_300 (v := 600) rfl ?_
  refine ea_newI (pc := 303) (N := 600) dX12_init_303 ew_170 (by decide) rfl (Nat.le_of_ble_eq_true rfl) ?_
  obtain ⟨h754, E755⟩ : ∃ z, z = ea_new h752 20 600 600 := ⟨_, rfl⟩
  have H := H h754 E755
  refine ea_nm E755 ?_
  obtain ⟨f756, g757, H⟩ := H
  refine ea_deref1 e543 ?_
  refine ea_putR (pc := 305) dX12_init_305 ec_12 (k := 41) (Nat.le_of_ble_eq_true rfl) rfl (Or.inr ⟨rfl, rfl, rfl, ew_1386⟩) f756 g757 ?_
  obtain ⟨h758, E759⟩ : ∃ z, z = ea_wr h754 a542 41 (some (ea_n h752)) := ⟨_, rfl⟩
  have H := H h758 E759
  refine ea_nm E759 ?_
  refine ea_aload_n (pc := 308) dX12_init_308 rfl 0 rfl ?_
  refine ea_sipush (pc := 309) dX12_init_309 (v := 620) rfl ?_
  refine ea_newI (pc := 312) (N := 620) dX12_init_312 ew_170 (by decide) rfl (Nat.le_of_ble_eq_true rfl) ?_
  obtain ⟨h760, E761⟩ : ∃ z, z = ea_new h758 20 620 620 := ⟨_, rfl⟩
  have H := H h760 E761
  refine ea_nm E761 ?_
  obtain ⟨f762, g763, H⟩ := H
  refine ea_deref1 e543 ?_
  refine ea_putR (pc := 314) dX12_init_314 ec_12 (k := 42) (Nat.le_of_ble_eq_true rfl) rfl (Or.inr ⟨rfl, rfl, rfl, ew_1387⟩) f762 g763 ?_
  obtain ⟨h764, E765⟩ : ∃ z, z = ea_wr h760 a542 42 (some (ea_n h758)) := ⟨_, rfl⟩
  have H := H h764 E765
  refine ea_nm E765 ?_
  refine ea_aload_n (pc := 317) dX12_init_317 rfl 0 rfl ?_
  refine ea_iconst (pc := 318) dX12_init_318 (v := (-1)) rfl ?_
  obtain ⟨f766, g767, H⟩ := H
  refine ea_deref1 e543 ?_
  refine ea_putI (pc := 319) dX12_init_319 ec_12 (k := 62) (Nat.le_of_ble_eq_true rfl) rfl (Or.inl ⟨rfl, Or.inl ew_1407⟩) rfl rfl f766 g767 ?_
  obtain ⟨h768, E769⟩ : ∃ z, z = ea_wi h764 a542 62 (-1) := ⟨_, rfl⟩
  have H := H h768 E769
  refine ea_nm E769 ?_
  refine ea_aload_n (pc := 322) dX12_init_322 rfl 0 rfl ?_
  refine ea_bipush (pc := 323) dX12_init_323 (v := 120) rfl ?_
  refine ea_newI (pc := 325) (N := 120) dX12_init_325 ew_170 (by decide) rfl (Nat.le_of_ble_eq_true rfl) ?_
  obtain ⟨h770, E771⟩ : ∃ z, z = ea_new h768 20 120 120 := ⟨_, rfl⟩
  have H := H h770 E771
  refine ea_nm E771 ?_
  obtain ⟨f772, g773, H⟩ := H
  refine ea_deref1 e543 ?_
  refine ea_putR (pc := 327) dX12_init_327 ec_12 (k := 64) (Nat.le_of_ble_eq_true rfl) rfl (Or.inr ⟨rfl, rfl, rfl, ew_1409⟩) f772 g773 ?_
  obtain ⟨h774, E775⟩ : ∃ z, z = ea_wr h770 a542 64 (some (ea_n h768)) := ⟨_, rfl⟩
  have H := H h774 E775
  refine ea_nm E775 ?_
  refine ea_aload_n (pc := 330) dX12_init_330 rfl 0 rfl ?_
  refine ea_bipush (pc := 331) dX12_init_331 (v := 120) rfl ?_
  refine ea_newI (pc := 333) (N := 120) dX12_init_333 ew_170 (by decide) rfl (Nat.le_of_ble_eq_true rfl) ?_
  obtain ⟨h776, E777⟩ : ∃ z, z = ea_new h774 20 120 120 := ⟨_, rfl⟩
  have H := H h776 E777
  refine ea_nm E777 ?_
  obtain ⟨f778, g779, H⟩ := H
  refine ea_deref1 e543 ?_
  refine ea_putR (pc := 335) dX12_init_335 ec_12 (k := 65) (Nat.le_of_ble_eq_true rfl) rfl (Or.inr ⟨rfl, rfl, rfl, ew_1410⟩) f778 g779 ?_
  obtain ⟨h780, E781⟩ : ∃ z, z = ea_wr h776 a542 65 (some (ea_n h774)) := ⟨_, rfl⟩
  have H := H h780 E781
  refine ea_nm E781 ?_
  refine ea_aload_n (pc := 338) dX12_init_338 rfl 0 rfl ?_
  refine ea_bipush (pc := 339) dX12_init_339 (v := 120) rfl ?_
  refine ea_newI (pc := 341) (N := 120) dX12_init_341 ew_170 (by decide) rfl (Nat.le_of_ble_eq_true rfl) ?_
  obtain ⟨h782, E783⟩ : ∃ z, z = ea_new h780 20 120 120 := ⟨_, rfl⟩
  have H := H h782 E783
  refine ea_nm E783 ?_
  obtain ⟨f784, g785, H⟩ := H
  refine ea_deref1 e543 ?_
  refine ea_putR (pc := 343) dX12_init_343 ec_12 (k := 66) (Nat.le_of_ble_eq_true rfl) rfl (Or.inr ⟨rfl, rfl, rfl, ew_1411⟩) f784 g785 ?_
  obtain ⟨h786, E787⟩ : ∃ z, z = ea_wr h782 a542 66 (some (ea_n h780)) := ⟨_, rfl⟩
  have H := H h786 E787
  refine ea_nm E787 ?_
  refine ea_aload_n (pc := 346) dX12_init_346 rfl 0 rfl ?_
  refine ea_bipush (pc := 347) dX12_init_347 (v := 120) rfl ?_
  refine ea_newI (pc := 349) (N := 120) dX12_init_349 ew_170 (by decide) rfl (Nat.le_of_ble_eq_true rfl) ?_
  obtain ⟨h788, E789⟩ : ∃ z, z = ea_new h786 20 120 120 := ⟨_, rfl⟩
  have H := H h788 E789
  refine ea_nm E789 ?_
  obtain ⟨f790, g791, H⟩ := H
  refine ea_deref1 e543 ?_
  refine ea_putR (pc := 351) dX12_init_351 ec_12 (k := 67) (Nat.le_of_ble_eq_true rfl) rfl (Or.inr ⟨rfl, rfl, rfl, ew_1412⟩) f790 g791 ?_
  obtain ⟨h792, E793⟩ : ∃ z, z = ea_wr h788 a542 67 (some (ea_n h786)) := ⟨_, rfl⟩
  have H := H h792 E793
  refine ea_nm E793 ?_
  refine ea_aload_n (pc := 354) dX12_init_354 rfl 0 rfl ?_
  refine ea_bipush (pc := 355) dX12_init_355 (v := 120) rfl ?_
  refine ea_newI (pc := 357) (N := 120) dX12_init_357 ew_170 (by decide) rfl (Nat.le_of_ble_eq_true rfl) ?_
  obtain ⟨h794, E795⟩ : ∃ z, z = ea_new h792 20 120 120 := ⟨_, rfl⟩
  have H := H h794 E795
  refine ea_nm E795 ?_
  obtain ⟨f796, g797, H⟩ := H
  refine ea_deref1 e543 ?_
  refine ea_putR (pc := 359) dX12_init_359 ec_12 (k := 68) (Nat.le_of_ble_eq_true rfl) rfl (Or.inr ⟨rfl, rfl, rfl, ew_1413⟩) f796 g797 ?_
  obtain ⟨h798, E799⟩ : ∃ z, z = ea_wr h794 a542 68 (some (ea_n h792)) := ⟨_, rfl⟩
  have H := H h798 E799
  refine ea_nm E799 ?_
  refine ea_aload_n (pc := 362) dX12_init_362 rfl 0 rfl ?_
  refine ea_bipush (pc := 363) dX12_init_363 (v := 120) rfl ?_
  refine ea_newI (pc := 365) (N := 120) dX12_init_365 ew_170 (by decide) rfl (Nat.le_of_ble_eq_true rfl) ?_
  obtain ⟨h800, E801⟩ : ∃ z, z = ea_new h798 20 120 120 := ⟨_, rfl⟩
  have H := H h800 E801
  refine ea_nm E801 ?_
  obtain ⟨f802, g803, H⟩ := H
  refine ea_deref1 e543 ?_
  refine ea_putR (pc := 367) dX12_init_367 ec_12 (k := 69) (Nat.le_of_ble_eq_true rfl) rfl (Or.inr ⟨rfl, rfl, rfl, ew_1414⟩) f802 g803 ?_
  obtain ⟨h804, E805⟩ : ∃ z, z = ea_wr h800 a542 69 (some (ea_n h798)) := ⟨_, rfl⟩
  have H := H h804 E805
  refine ea_nm E805 ?_
  refine ea_aload_n (pc := 370) dX12_init_370 rfl 0 rfl ?_
  refine ea_bipush (pc := 371) dX12_init_371 (v := 120) rfl ?_
  refine ea_newI (pc := 373) (N := 120) dX12_init_373 ew_170 (by decide) rfl (Nat.le_of_ble_eq_true rfl) ?_
  obtain ⟨h806, E807⟩ : ∃ z, z = ea_new h804 20 120 120 := ⟨_, rfl⟩
  have H := H h806 E807
  refine ea_nm E807 ?_
  obtain ⟨f808, g809, H⟩ := H
  refine ea_deref1 e543 ?_
  refine ea_putR (pc := 375) dX12_init_375 ec_12 (k := 70) (Nat.le_of_ble_eq_true rfl) rfl (Or.inr ⟨rfl, rfl, rfl, ew_1415⟩) f808 g809 ?_
  obtain ⟨h810, E811⟩ : ∃ z, z = ea_wr h806 a542 70 (some (ea_n h804)) := ⟨_, rfl⟩
  have H := H h810 E811
  refine ea_nm E811 ?_
  refine ea_aload_n (pc := 378) dX12_init_378 rfl 0 rfl ?_
  refine ea_bipush (pc := 379) dX12_init_379 (v := 120) rfl ?_
  refine ea_newI (pc := 381) (N := 120) dX12_init_381 ew_170 (by decide) rfl (Nat.le_of_ble_eq_true rfl) ?_
  obtain ⟨h812, E813⟩ : ∃ z, z = ea_new h810 20 120 120 := ⟨_, rfl⟩
  have H := H h812 E813
  refine ea_nm E813 ?_
  obtain ⟨f814, g815, H⟩ := H
  refine ea_deref1 e543 ?_
  refine ea_putR (pc := 383) dX12_init_383 ec_12 (k := 71) (Nat.le_of_ble_eq_true rfl) rfl (Or.inr ⟨rfl, rfl, rfl, ew_1416⟩) f814 g815 ?_
  obtain ⟨h816, E817⟩ : ∃ z, z = ea_wr h812 a542 71 (some (ea_n h810)) := ⟨_, rfl⟩
  have H := H h816 E817
  refine ea_nm E817 ?_
  refine ea_aload_n (pc := 386) dX12_init_386 rfl 0 rfl ?_
  refine ea_bipush (pc := 387) dX12_init_387 (v := 120) rfl ?_
  refine ea_newI (pc := 389) (N := 120) dX12_init_389 ew_170 (by decide) rfl (Nat.le_of_ble_eq_true rfl) ?_
  obtain ⟨h818, E819⟩ : ∃ z, z = ea_new h816 20 120 120 := ⟨_, rfl⟩
  have H := H h818 E819
  refine ea_nm E819 ?_
  obtain ⟨f820, g821, H⟩ := H
  refine ea_deref1 e543 ?_
  refine ea_putR (pc := 391) dX12_init_391 ec_12 (k := 72) (Nat.le_of_ble_eq_true rfl) rfl (Or.inr ⟨rfl, rfl, rfl, ew_1417⟩) f820 g821 ?_
  obtain ⟨h822, E823⟩ : ∃ z, z = ea_wr h818 a542 72 (some (ea_n h816)) := ⟨_, rfl⟩
  have H := H h822 E823
  refine ea_nm E823 ?_
  refine ea_aload_n (pc := 394) dX12_init_394 rfl 0 rfl ?_
  refine ea_bipush (pc := 395) dX12_init_395 (v := 120) rfl ?_
  refine ea_newI (pc := 397) (N := 120) dX12_init_397 ew_170 (by decide) rfl (Nat.le_of_ble_eq_true rfl) ?_
  obtain ⟨h824, E825⟩ : ∃ z, z = ea_new h822 20 120 120 := ⟨_, rfl⟩
  have H := H h824 E825
  refine ea_nm E825 ?_
  obtain ⟨f826, g827, H⟩ := H
  refine ea_deref1 e543 ?_
  refine ea_putR (pc := 399) dX12_init_399 ec_12 (k := 73) (Nat.le_of_ble_eq_true rfl) rfl (Or.inr ⟨rfl, rfl, rfl, ew_1418⟩) f826 g827 ?_
  obtain ⟨h828, E829⟩ : ∃ z, z = ea_wr h824 a542 73 (some (ea_n h822)) := ⟨_, rfl⟩
  have H := H h828 E829
  refine ea_nm E829 ?_
  refine ea_aload_n (pc := 402) dX12_init_402 rfl 0 rfl ?_
  refine ea_bipush (pc := 403) dX12_init_403 (v := 120) rfl ?_
  refine ea_newI (pc := 405) (N := 120) dX12_init_405 ew_170 (by decide) rfl (Nat.le_of_ble_eq_true rfl) ?_
  obtain ⟨h830, E831⟩ : ∃ z, z = ea_new h828 20 120 120 := ⟨_, rfl⟩
  have H := H h830 E831
  refine ea_nm E831 ?_
  obtain ⟨f832, g833, H⟩ := H
  refine ea_deref1 e543 ?_
  refine ea_putR (pc := 407) dX12_init_407 ec_12 (k := 74) (Nat.le_of_ble_eq_true rfl) rfl (Or.inr ⟨rfl, rfl, rfl, ew_1419⟩) f832 g833 ?_
  obtain ⟨h834, E835⟩ : ∃ z, z = ea_wr h830 a542 74 (some (ea_n h828)) := ⟨_, rfl⟩
  have H := H h834 E835
  refine ea_nm E835 ?_
  refine ea_aload_n (pc := 410) dX12_init_410 rfl 0 rfl ?_
  refine ea_bipush (pc := 411) dX12_init_411 (v := 120) rfl ?_
  refine ea_newI (pc := 413) (N := 120) dX12_init_413 ew_170 (by decide) rfl (Nat.le_of_ble_eq_true rfl) ?_
  obtain ⟨h836, E837⟩ : ∃ z, z = ea_new h834 20 120 120 := ⟨_, rfl⟩
  have H := H h836 E837
  refine ea_nm E837 ?_
  obtain ⟨f838, g839, H⟩ := H
  refine ea_deref1 e543 ?_
  refine ea_putR (pc := 415) dX12_init_415 ec_12 (k := 75) (Nat.le_of_ble_eq_true rfl) rfl (Or.inr ⟨rfl, rfl, rfl, ew_1420⟩) f838 g839 ?_
  obtain ⟨h840, E841⟩ : ∃ z, z = ea_wr h836 a542 75 (some (ea_n h834)) := ⟨_, rfl⟩
  have H := H h840 E841
  refine ea_nm E841 ?_
  refine ea_aload_n (pc := 418) dX12_init_418 rfl 0 rfl ?_
  refine ea_bipush (pc := 419) dX12_init_419 (v := 120) rfl ?_
  refine ea_newI (pc := 421) (N := 120) dX12_init_421 ew_170 (by decide) rfl (Nat.le_of_ble_eq_true rfl) ?_
  obtain ⟨h842, E843⟩ : ∃ z, z = ea_new h840 20 120 120 := ⟨_, rfl⟩
  have H := H h842 E843
  refine ea_nm E843 ?_
  obtain ⟨f844, g845, H⟩ := H
  refine ea_deref1 e543 ?_
  refine ea_putR (pc := 423) dX12_init_423 ec_12 (k := 76) (Nat.le_of_ble_eq_true rfl) rfl (Or.inr ⟨rfl, rfl, rfl, ew_1421⟩) f844 g845 ?_
  obtain ⟨h846, E847⟩ : ∃ z, z = ea_wr h842 a542 76 (some (ea_n h840)) := ⟨_, rfl⟩
  have H := H h846 E847
  refine ea_nm E847 ?_
  refine ea_aload_n (pc := 426) dX12_init_426 rfl 0 rfl ?_
  refine ea_bipush (pc := 427) dX12_init_427 (v := 120) rfl ?_
  refine ea_newI (pc := 429) (N := 120) dX12_init_429 ew_170 (by decide) rfl (Nat.le_of_ble_eq_true rfl) ?_
  obtain ⟨h848, E849⟩ : ∃ z, z = ea_new h846 20 120 120 := ⟨_, rfl⟩
  have H := H h848 E849
  refine ea_nm E849 ?_
  obtain ⟨f850, g851, H⟩ := H
  refine ea_deref1 e543 ?_
  refine ea_putR (pc := 431) dX12_init_431 ec_12 (k := 77) (Nat.le_of_ble_eq_true rfl) rfl (Or.inr ⟨rfl, rfl, rfl, ew_1422⟩) f850 g851 ?_
  obtain ⟨h852, E853⟩ : ∃ z, z = ea_wr h848 a542 77 (some (ea_n h846)) := ⟨_, rfl⟩
  have H := H h852 E853
  refine ea_nm E853 ?_
  refine ea_aload_n (pc := 434) dX12_init_434 rfl 0 rfl ?_
  refine ea_bipush (pc := 435) dX12_init_435 (v := 120) rfl ?_
  refine ea_newZ (pc := 437) (N := 120) dX12_init_437 ew_218 (by decide) rfl (Nat.le_of_ble_eq_true rfl) ?_
  obtain ⟨h854, E855⟩ : ∃ z, z = ea_new h852 21 120 120 := ⟨_, rfl⟩
  have H := H h854 E855
  refine ea_nm E855 ?_
  obtain ⟨f856, g857, H⟩ := H
  refine ea_deref1 e543 ?_
  refine ea_putR (pc := 439) dX12_init_439 ec_12 (k := 78) (Nat.le_of_ble_eq_true rfl) rfl (Or.inr ⟨rfl, rfl, rfl, ew_1423⟩) f856 g857 ?_
  obtain ⟨h858, E859⟩ : ∃ z, z = ea_wr h854 a542 78 (some (ea_n h852)) := ⟨_, rfl⟩
  have H := H h858 E859
  refine ea_nm E859 ?_
  refine ea_aload_n (pc := 442) dX12_init_442 rfl 0 rfl ?_
  refine ea_bipush (pc := 443) dX12_init_443 (v := 120) rfl ?_
  refine ea_newZ (pc := 445) (N := 120) dX12_init_445 ew_218 (by decide) rfl (Nat.le_of_ble_eq_true rfl) ?_
  obtain ⟨h860, E861⟩ : ∃ z, z = ea_new h858 21 120 120 := ⟨_, rfl⟩
  have H := H h860 E861
  refine ea_nm E861 ?_
  obtain ⟨f862, g863, H⟩ := H
  refine ea_deref1 e543 ?_
  refine ea_putR (pc := 447) dX12_init_447 ec_12 (k := 79) (Nat.le_of_ble_eq_true rfl) rfl (Or.inr ⟨rfl, rfl, rfl, ew_1424⟩) f862 g863 ?_
  obtain ⟨h864, E865⟩ : ∃ z, z = ea_wr h860 a542 79 (some (ea_n h858)) := ⟨_, rfl⟩
  have H := H h864 E865
  refine ea_nm E865 ?_
  refine ea_aload_n (pc := 450) dX12_init_450 rfl 0 rfl ?_
  refine ea_bipush (pc := 451) dX12_init_451 (v := 120) rfl ?_
  refine ea_newZ (pc := 453) (N := 120) dX12_init_453 ew_218 (by decide) rfl (Nat.le_of_ble_eq_true rfl) ?_
  obtain ⟨h866, E867⟩ : ∃ z, z = ea_new h864 21 120 120 := ⟨_, rfl⟩
  have H := H h866 E867
  refine ea_nm E867 ?_
  obtain ⟨f868, g869, H⟩ := H
  refine ea_deref1 e543 ?_
  refine ea_putR (pc := 455) dX12_init_455 ec_12 (k := 80) (Nat.le_of_ble_eq_true rfl) rfl (Or.inr ⟨rfl, rfl, rfl, ew_1425⟩) f868 g869 ?_
  obtain ⟨h870, E871⟩ : ∃ z, z = ea_wr h866 a542 80 (some (ea_n h864)) := ⟨_, rfl⟩
  have H := H h870 E871
  refine ea_nm E871 ?_
  refine ea_aload_n (pc := 458) dX12_init_458 rfl 0 rfl ?_
  refine ea_bipush (pc := 459) dX12_init_459 (v := 120) rfl ?_
  refine ea_newI (pc := 461) (N := 120) dX12_init_461 ew_170 (by decide) rfl (Nat.le_of_ble_eq_true rfl) ?_
  obtain ⟨h872, E873⟩ : ∃ z, z = ea_new h870 20 120 120 := ⟨_, rfl⟩
  have H := H h872 E873
  refine ea_nm E873 ?_
  obtain ⟨f874, g875, H⟩ := H
  refine ea_deref1 e543 ?_
  refine ea_putR (pc := 463) dX12_init_463 ec_12 (k := 81) (Nat.le_of_ble_eq_true rfl) rfl (Or.inr ⟨rfl, rfl, rfl, ew_1426⟩) f874 g875 ?_
  obtain ⟨h876, E877⟩ : ∃ z, z = ea_wr h872 a542 81 (some (ea_n h870)) := ⟨_, rfl⟩
  have H := H h876 E877
  refine ea_nm E877 ?_
  refine ea_aload_n (pc := 466) dX12_init_466 rfl 0 rfl ?_
  refine ea_bipush (pc := 467) dX12_init_467 (v := 120) rfl ?_
  refine ea_newI (pc := 469) (N := 120) dX12_init_469 ew_170 (by decide) rfl (Nat.le_of_ble_eq_true rfl) ?_
  obtain ⟨h878, E879⟩ : ∃ z, z = ea_new h876 20 120 120 := ⟨_, rfl⟩
  have H := H h878 E879
  refine ea_nm E879 ?_
  obtain ⟨f880, g881, H⟩ := H
  refine ea_deref1 e543 ?_
  refine ea_putR (pc := 471) dX12_init_471 ec_12 (k := 82) (Nat.le_of_ble_eq_true rfl) rfl (Or.inr ⟨rfl, rfl, rfl, ew_1427⟩) f880 g881 ?_
  obtain ⟨h882, E883⟩ : ∃ z, z = ea_wr h878 a542 82 (some (ea_n h876)) := ⟨_, rfl⟩
  have H := H h882 E883
  refine ea_nm E883 ?_
  refine ea_aload_n (pc := 474) dX12_init_474 rfl 0 rfl ?_
  refine ea_bipush (pc := 475) dX12_init_475 (v := 120) rfl ?_
  refine ea_newI (pc := 477) (N := 120) dX12_init_477 ew_170 (by decide) rfl (Nat.le_of_ble_eq_true rfl) ?_
  obtain ⟨h884, E885⟩ : ∃ z, z = ea_new h882 20 120 120 := ⟨_, rfl⟩
  have H := H h884 E885
  refine ea_nm E885 ?_
  obtain ⟨f886, g887, H⟩ := H
  refine ea_deref1 e543 ?_
  refine ea_putR (pc := 479) dX12_init_479 ec_12 (k := 83) (Nat.le_of_ble_eq_true rfl) rfl (Or.inr ⟨rfl, rfl, rfl, ew_1428⟩) f886 g887 ?_
  obtain ⟨h888, E889⟩ : ∃ z, z = ea_wr h884 a542 83 (some (ea_n h882)) := ⟨_, rfl⟩
  have H := H h888 E889
  refine ea_nm E889 ?_
  refine ea_aload_n (pc := 482) dX12_init_482 rfl 0 rfl ?_
  refine ea_bipush (pc := 483) dX12_init_483 (v := 120) rfl ?_
  refine ea_newI (pc := 485) (N := 120) dX12_init_485 ew_170 (by decide) rfl (Nat.le_of_ble_eq_true rfl) ?_
  obtain ⟨h890, E891⟩ : ∃ z, z = ea_new h888 20 120 120 := ⟨_, rfl⟩
  have H := H h890 E891
  refine ea_nm E891 ?_
  obtain ⟨f892, g893, H⟩ := H
  refine ea_deref1 e543 ?_
  refine ea_putR (pc := 487) dX12_init_487 ec_12 (k := 84) (Nat.le_of_ble_eq_true rfl) rfl (Or.inr ⟨rfl, rfl, rfl, ew_1429⟩) f892 g893 ?_
  obtain ⟨h894, E895⟩ : ∃ z, z = ea_wr h890 a542 84 (some (ea_n h888)) := ⟨_, rfl⟩
  have H := H h894 E895
  refine ea_nm E895 ?_
  refine ea_aload_n (pc := 490) dX12_init_490 rfl 0 rfl ?_
  refine ea_bipush (pc := 491) dX12_init_491 (v := 120) rfl ?_
  refine ea_newI (pc := 493) (N := 120) dX12_init_493 ew_170 (by decide) rfl (Nat.le_of_ble_eq_true rfl) ?_
  obtain ⟨h896, E897⟩ : ∃ z, z = ea_new h894 20 120 120 := ⟨_, rfl⟩
  have H := H h896 E897
  refine ea_nm E897 ?_
  obtain ⟨f898, g899, H⟩ := H
  refine ea_deref1 e543 ?_
  refine ea_putR (pc := 495) dX12_init_495 ec_12 (k := 85) (Nat.le_of_ble_eq_true rfl) rfl (Or.inr ⟨rfl, rfl, rfl, ew_1430⟩) f898 g899 ?_
  obtain ⟨h900, E901⟩ : ∃ z, z = ea_wr h896 a542 85 (some (ea_n h894)) := ⟨_, rfl⟩
  have H := H h900 E901
  refine ea_nm E901 ?_
  refine ea_aload_n (pc := 498) dX12_init_498 rfl 0 rfl ?_
  refine ea_bipush (pc := 499) dX12_init_499 (v := 70) rfl ?_
  refine ea_newI (pc := 501) (N := 70) dX12_init_501 ew_170 (by decide) rfl (Nat.le_of_ble_eq_true rfl) ?_
  obtain ⟨h902, E903⟩ : ∃ z, z = ea_new h900 20 70 70 := ⟨_, rfl⟩
  have H := H h902 E903
  refine ea_nm E903 ?_
  obtain ⟨f904, g905, H⟩ := H
  refine ea_deref1 e543 ?_
  refine ea_putR (pc := 503) dX12_init_503 ec_12 (k := 86) (Nat.le_of_ble_eq_true rfl) rfl (Or.inr ⟨rfl, rfl, rfl, ew_1431⟩) f904 g905 ?_
  obtain ⟨h906, E907⟩ : ∃ z, z = ea_wr h902 a542 86 (some (ea_n h900)) := ⟨_, rfl⟩
  have H := H h906 E907
  refine ea_nm E907 ?_
  refine ea_aload_n (pc := 506) dX12_init_506 rfl 0 rfl ?_
  refine ea_bipush (pc := 507) dX12_init_507 (v := 120) rfl ?_
  refine ea_newZ (pc := 509) (N := 120) dX12_init_509 ew_218 (by decide) rfl (Nat.le_of_ble_eq_true rfl) ?_
  obtain ⟨h908, E909⟩ : ∃ z, z = ea_new h906 21 120 120 := ⟨_, rfl⟩
  have H := H h908 E909
  refine ea_nm E909 ?_
  obtain ⟨f910, g911, H⟩ := H
  refine ea_deref1 e543 ?_
  refine ea_putR (pc := 511) dX12_init_511 ec_12 (k := 87) (Nat.le_of_ble_eq_true rfl) rfl (Or.inr ⟨rfl, rfl, rfl, ew_1432⟩) f910 g911 ?_
  obtain ⟨h912, E913⟩ : ∃ z, z = ea_wr h908 a542 87 (some (ea_n h906)) := ⟨_, rfl⟩
  have H := H h912 E913
  refine ea_nm E913 ?_
  refine ea_aload_n (pc := 514) dX12_init_514 rfl 0 rfl ?_
  refine ea_ldc (pc := 515) dX12_init_515 ew_1344 ?_
  refine ea_newI (pc := 517) (N := 120000) dX12_init_517 ew_170 (by decide) rfl (Nat.le_of_ble_eq_true rfl) ?_
  obtain ⟨h914, E915⟩ : ∃ z, z = ea_new h912 20 120000 120000 := ⟨_, rfl⟩
  have H := H h914 E915
  refine ea_nm E915 ?_
  obtain ⟨f916, g917, H⟩ := H
  refine ea_deref1 e543 ?_
  refine ea_putR (pc := 519) dX12_init_519 ec_12 (k := 88) (Nat.le_of_ble_eq_true rfl) rfl (Or.inr ⟨rfl, rfl, rfl, ew_1433⟩) f916 g917 ?_
  obtain ⟨h918, E919⟩ : ∃ z, z = ea_wr h914 a542 88 (some (ea_n h912)) := ⟨_, rfl⟩
  have H := H h918 E919
  refine ea_nm E919 ?_
  refine ea_aload_n (pc := 522) dX12_init_522 rfl 0 rfl ?_
  refine ea_ldc (pc := 523) dX12_init_523 ew_1344 ?_
  refine ea_newI (pc := 525) (N := 120000) dX12_init_525 ew_170 (by decide) rfl (Nat.le_of_ble_eq_true rfl) ?_
  obtain ⟨h920, E921⟩ : ∃ z, z = ea_new h918 20 120000 120000 := ⟨_, rfl⟩
  have H := H h920 E921
  refine ea_nm E921 ?_
  obtain ⟨f922, g923, H⟩ := H
  refine ea_deref1 e543 ?_
  refine ea_putR (pc := 527) dX12_init_527 ec_12 (k := 89) (Nat.le_of_ble_eq_true rfl) rfl (Or.inr ⟨rfl, rfl, rfl, ew_1434⟩) f922 g923 ?_
  obtain ⟨h924, E925⟩ : ∃ z, z = ea_wr h920 a542 89 (some (ea_n h918)) := ⟨_, rfl⟩
  have H := H h924 E925
  refine ea_nm E925 ?_
  refine ea_aload_n (pc := 530) dX12_init_530 rfl 0 rfl ?_
  refine ea_ldc (pc := 531) dX12_init_531 ew_1344 ?_
  refine ea_newI (pc := 533) (N := 120000) dX12_init_533 ew_170 (by decide) rfl (Nat.le_of_ble_eq_true rfl) ?_
  obtain ⟨h926, E927⟩ : ∃ z, z = ea_new h924 20 120000 120000 := ⟨_, rfl⟩
  have H := H h926 E927
  refine ea_nm E927 ?_
  obtain ⟨f928, g929, H⟩ := H
  refine ea_deref1 e543 ?_
  refine ea_putR (pc := 535) dX12_init_535 ec_12 (k := 90) (Nat.le_of_ble_eq_true rfl) rfl (Or.inr ⟨rfl, rfl, rfl, ew_1435⟩) f928 g929 ?_
  obtain ⟨h930, E931⟩ : ∃ z, z = ea_wr h926 a542 90 (some (ea_n h924)) := ⟨_, rfl⟩
  have H := H h930 E931
  refine ea_nm E931 ?_
  refine ea_aload_n (pc := 538) dX12_init_538 rfl 0 rfl ?_
  refine ea_bipush (pc := 539) dX12_init_539 (v := 8) rfl ?_
  refine ea_newI (pc := 541) (N := 8) dX12_init_541 ew_170 (by decide) rfl (Nat.le_of_ble_eq_true rfl) ?_
  obtain ⟨h932, E933⟩ : ∃ z, z = ea_new h930 20 8 8 := ⟨_, rfl⟩
  have H := H h932 E933
  refine ea_nm E933 ?_
  obtain ⟨f934, g935, H⟩ := H
  refine ea_deref1 e543 ?_
  refine ea_putR (pc := 543) dX12_init_543 ec_12 (k := 91) (Nat.le_of_ble_eq_true rfl) rfl (Or.inr ⟨rfl, rfl, rfl, ew_1436⟩) f934 g935 ?_
  obtain ⟨h936, E937⟩ : ∃ z, z = ea_wr h932 a542 91 (some (ea_n h930)) := ⟨_, rfl⟩
  have H := H h936 E937
  refine ea_nm E937 ?_
  refine ea_aload_n (pc := 546) dX12_init_546 rfl 0 rfl ?_
  refine ea_bipush (pc := 547) dX12_init_547 (v := 8) rfl ?_
  refine ea_newI (pc := 549) (N := 8) dX12_init_549 ew_170 (by decide) rfl (Nat.le_of_ble_eq_true rfl) ?_
  obtain ⟨h938, E939⟩ : ∃ z, z = ea_new h936 20 8 8 := ⟨_, rfl⟩
  have H := H h938 E939
  refine ea_nm E939 ?_
  obtain ⟨f940, g941, H⟩ := H
  refine ea_deref1 e543 ?_
  refine ea_putR (pc := 551) dX12_init_551 ec_12 (k := 93) (Nat.le_of_ble_eq_true rfl) rfl (Or.inr ⟨rfl, rfl, rfl, ew_1438⟩) f940 g941 ?_
  obtain ⟨h942, E943⟩ : ∃ z, z = ea_wr h938 a542 93 (some (ea_n h936)) := ⟨_, rfl⟩
  have H := H h942 E943
  refine ea_nm E943 ?_
  refine ea_aload_n (pc := 554) dX12_init_554 rfl 0 rfl ?_
  refine ea_bipush (pc := 555) dX12_init_555 (v := 8) rfl ?_
  refine ea_newI (pc := 557) (N := 8) dX12_init_557 ew_170 (by decide) rfl (Nat.le_of_ble_eq_true rfl) ?_
  obtain ⟨h944, E945⟩ : ∃ z, z = ea_new h942 20 8 8 := ⟨_, rfl⟩
  have H := H h944 E945
  refine ea_nm E945 ?_
  obtain ⟨f946, g947, H⟩ := H
  refine ea_deref1 e543 ?_
  refine ea_putR (pc := 559) dX12_init_559 ec_12 (k := 94) (Nat.le_of_ble_eq_true rfl) rfl (Or.inr ⟨rfl, rfl, rfl, ew_1439⟩) f946 g947 ?_
  obtain ⟨h948, E949⟩ : ∃ z, z = ea_wr h944 a542 94 (some (ea_n h942)) := ⟨_, rfl⟩
  have H := H h948 E949
  refine ea_nm E949 ?_
  refine ea_aload_n (pc := 562) dX12_init_562 rfl 0 rfl ?_
  refine ea_bipush (pc := 563) dX12_init_563 (v := 8) rfl ?_
  refine ea_newI (pc := 565) (N := 8) dX12_init_565 ew_170 (by decide) rfl (Nat.le_of_ble_eq_true rfl) ?_
  obtain ⟨h950, E951⟩ : ∃ z, z = ea_new h948 20 8 8 := ⟨_, rfl⟩
  have H := H h950 E951
  refine ea_nm E951 ?_
  obtain ⟨f952, g953, H⟩ := H
  refine ea_deref1 e543 ?_
  refine ea_putR (pc := 567) dX12_init_567 ec_12 (k := 95) (Nat.le_of_ble_eq_true rfl) rfl (Or.inr ⟨rfl, rfl, rfl, ew_1440⟩) f952 g953 ?_
  obtain ⟨h954, E955⟩ : ∃ z, z = ea_wr h950 a542 95 (some (ea_n h948)) := ⟨_, rfl⟩
  have H := H h954 E955
  refine ea_nm E955 ?_
  refine ea_aload_n (pc := 570) dX12_init_570 rfl 0 rfl ?_
  refine ea_bipush (pc := 571) dX12_init_571 (v := 8) rfl ?_
  refine ea_newI (pc := 573) (N := 8) dX12_init_573 ew_170 (by decide) rfl (Nat.le_of_ble_eq_true rfl) ?_
  obtain ⟨h956, E957⟩ : ∃ z, z = ea_new h954 20 8 8 := ⟨_, rfl⟩
  have H := H h956 E957
  refine ea_nm E957 ?_
  obtain ⟨f958, g959, H⟩ := H
  refine ea_deref1 e543 ?_
  refine ea_putR (pc := 575) dX12_init_575 ec_12 (k := 96) (Nat.le_of_ble_eq_true rfl) rfl (Or.inr ⟨rfl, rfl, rfl, ew_1441⟩) f958 g959 ?_
  obtain ⟨h960, E961⟩ : ∃ z, z = ea_wr h956 a542 96 (some (ea_n h954)) := ⟨_, rfl⟩
  have H := H h960 E961
  refine ea_nm E961 ?_
  refine ea_aload_n (pc := 578) dX12_init_578 rfl 0 rfl ?_
  refine ea_bipush (pc := 579) dX12_init_579 (v := 120) rfl ?_
  refine ea_newI (pc := 581) (N := 120) dX12_init_581 ew_170 (by decide) rfl (Nat.le_of_ble_eq_true rfl) ?_
  obtain ⟨h962, E963⟩ : ∃ z, z = ea_new h960 20 120 120 := ⟨_, rfl⟩
  have H := H h962 E963
  refine ea_nm E963 ?_
  obtain ⟨f964, g965, H⟩ := H
  refine ea_deref1 e543 ?_
  refine ea_putR (pc := 583) dX12_init_583 ec_12 (k := 97) (Nat.le_of_ble_eq_true rfl) rfl (Or.inr ⟨rfl, rfl, rfl, ew_1442⟩) f964 g965 ?_
  obtain ⟨h966, E967⟩ : ∃ z, z = ea_wr h962 a542 97 (some (ea_n h960)) := ⟨_, rfl⟩
  have H := H h966 E967
  refine ea_nm E967 ?_
  refine ea_aload_n (pc := 586) dX12_init_586 rfl 0 rfl ?_
  refine ea_sipush (pc := 587) dX12_init_587 (v := 480) rfl ?_
  refine ea_newI (pc := 590) (N := 480) dX12_init_590 ew_170 (by decide) rfl (Nat.le_of_ble_eq_true rfl) ?_
  obtain ⟨h968, E969⟩ : ∃ z, z = ea_new h966 20 480 480 := ⟨_, rfl⟩
  have H := H h968 E969
  refine ea_nm E969 ?_
  obtain ⟨f970, g971, H⟩ := H
  refine ea_deref1 e543 ?_
  refine ea_putR (pc := 592) dX12_init_592 ec_12 (k := 98) (Nat.le_of_ble_eq_true rfl) rfl (Or.inr ⟨rfl, rfl, rfl, ew_1443⟩) f970 g971 ?_
  obtain ⟨h972, E973⟩ : ∃ z, z = ea_wr h968 a542 98 (some (ea_n h966)) := ⟨_, rfl⟩
  have H := H h972 E973
  refine ea_nm E973 ?_
  refine ea_aload_n (pc := 595) dX12_init_595 rfl 0 rfl ?_
  refine ea_sipush (pc := 596) dX12_init_596 (v := 480) rfl ?_
  refine ea_newI (pc := 599) (N := 480) dX12_init_599 ew_170 (by decide) rfl (Nat.le_of_ble_eq_true rfl) ?_
  obtain ⟨h974, E975⟩ : ∃ z, z = ea_new h972 20 480 480 := ⟨_, rfl⟩
  have H := H h974 E975
  refine ea_nm E975 ?_
  obtain ⟨f976, g977, H⟩ := H
  refine ea_deref1 e543 ?_
  refine ea_putR (pc := 601) dX12_init_601 ec_12 (k := 99) (Nat.le_of_ble_eq_true rfl) rfl (Or.inr ⟨rfl, rfl, rfl, ew_1444⟩) f976 g977 ?_
  obtain ⟨h978, E979⟩ : ∃ z, z = ea_wr h974 a542 99 (some (ea_n h972)) := ⟨_, rfl⟩
  have H := H h978 E979
  refine ea_nm E979 ?_
  refine ea_aload_n (pc := 604) dX12_init_604 rfl 0 rfl ?_
  refine ea_bipush (pc := 605) dX12_init_605 (v := 20) rfl ?_
  refine ea_newI (pc := 607) (N := 20) dX12_init_607 ew_170 (by decide) rfl (Nat.le_of_ble_eq_true rfl) ?_
  obtain ⟨h980, E981⟩ : ∃ z, z = ea_new h978 20 20 20 := ⟨_, rfl⟩
  have H := H h980 E981
  refine ea_nm E981 ?_
  obtain ⟨f982, g983, H⟩ := H
  refine ea_deref1 e543 ?_
  refine ea_putR (pc := 609) dX12_init_609 ec_12 (k := 101) (Nat.le_of_ble_eq_true rfl) rfl (Or.inr ⟨rfl, rfl, rfl, ew_1446⟩) f982 g983 ?_
  obtain ⟨h984, E985⟩ : ∃ z, z = ea_wr h980 a542 101 (some (ea_n h978)) := ⟨_, rfl⟩
  have H := H h984 E985
  refine ea_nm E985 ?_
  refine ea_aload_n (pc := 612) dX12_init_612 rfl 0 rfl ?_
  refine ea_bipush (pc := 613) dX12_init_613 (v := 20) rfl ?_
  refine ea_newI (pc := 615) (N := 20) dX12_init_615 ew_170 (by decide) rfl (Nat.le_of_ble_eq_true rfl) ?_
  obtain ⟨h986, E987⟩ : ∃ z, z = ea_new h984 20 20 20 := ⟨_, rfl⟩
  have H := H h986 E987
  refine ea_nm E987 ?_
  obtain ⟨f988, g989, H⟩ := H
  refine ea_deref1 e543 ?_
  refine ea_putR (pc := 617) dX12_init_617 ec_12 (k := 102) (Nat.le_of_ble_eq_true rfl) rfl (Or.inr ⟨rfl, rfl, rfl, ew_1447⟩) f988 g989 ?_
  obtain ⟨h990, E991⟩ : ∃ z, z = ea_wr h986 a542 102 (some (ea_n h984)) := ⟨_, rfl⟩
  have H := H h990 E991
  refine ea_nm E991 ?_
  refine ea_aload_n (pc := 620) dX12_init_620 rfl 0 rfl ?_
  refine ea_bipush (pc := 621) dX12_init_621 (v := 20) rfl ?_
  refine ea_newI (pc := 623) (N := 20) dX12_init_623 ew_170 (by decide) rfl (Nat.le_of_ble_eq_true rfl) ?_
  obtain ⟨h992, E993⟩ : ∃ z, z = ea_new h990 20 20 20 := ⟨_, rfl⟩
  have H := H h992 E993
  refine ea_nm E993 ?_
  obtain ⟨f994, g995, H⟩ := H
  refine ea_deref1 e543 ?_
  refine ea_putR (pc := 625) dX12_init_625 ec_12 (k := 103) (Nat.le_of_ble_eq_true rfl) rfl (Or.inr ⟨rfl, rfl, rfl, ew_1448⟩) f994 g995 ?_
  obtain ⟨h996, E997⟩ : ∃ z, z = ea_wr h992 a542 103 (some (ea_n h990)) := ⟨_, rfl⟩
  have H := H h996 E997
  refine ea_nm E997 ?_
  refine ea_aload_n (pc := 628) dX12_init_628 rfl 0 rfl ?_
  refine ea_bipush (pc := 629) dX12_init_629 (v := 20) rfl ?_
  refine ea_newI (pc := 631) (N := 20) dX12_init_631 ew_170 (by decide) rfl (Nat.le_of_ble_eq_true rfl) ?_
  obtain ⟨h998, E999⟩ : ∃ z, z = ea_new h996 20 20 20 := ⟨_, rfl⟩
  have H := H h998 E999
  refine ea_nm E999 ?_
  obtain ⟨f1000, g1001, H⟩ := H
  refine ea_deref1 e543 ?_
  refine ea_putR (pc := 633) dX12_init_633 ec_12 (k := 104) (Nat.le_of_ble_eq_true rfl) rfl (Or.inr ⟨rfl, rfl, rfl, ew_1449⟩) f1000 g1001 ?_
  obtain ⟨h1002, E1003⟩ : ∃ z, z = ea_wr h998 a542 104 (some (ea_n h996)) := ⟨_, rfl⟩
  have H := H h1002 E1003
  refine ea_nm E1003 ?_
  refine ea_aload_n (pc := 636) dX12_init_636 rfl 0 rfl ?_
  refine ea_sipush (pc := 637) dX12_init_637 (v := 2400) rfl ?_
  refine ea_newI (pc := 640) (N := 2400) dX12_init_640 ew_170 (by decide) rfl (Nat.le_of_ble_eq_true rfl) ?_
  obtain ⟨h1004, E1005⟩ : ∃ z, z = ea_new h1002 20 2400 2400 := ⟨_, rfl⟩
  have H := H h1004 E1005
  refine ea_nm E1005 ?_
  obtain ⟨f1006, g1007, H⟩ := H
  refine ea_deref1 e543 ?_
  refine ea_putR (pc := 642) dX12_init_642 ec_12 (k := 105) (Nat.le_of_ble_eq_true rfl) rfl (Or.inr ⟨rfl, rfl, rfl, ew_1450⟩) f1006 g1007 ?_
  obtain ⟨h1008, E1009⟩ : ∃ z, z = ea_wr h1004 a542 105 (some (ea_n h1002)) := ⟨_, rfl⟩
  have H := H h1008 E1009
  refine ea_nm E1009 ?_
  refine ea_aload_n (pc := 645) dX12_init_645 rfl 0 rfl ?_
  refine ea_bipush (pc := 646) dX12_init_646 (v := 10) rfl ?_
  refine ea_newI (pc := 648) (N := 10) dX12_init_648 ew_170 (by decide) rfl (Nat.le_of_ble_eq_true rfl) ?_
  obtain ⟨h1010, E1011⟩ : ∃ z, z = ea_new h1008 20 10 10 := ⟨_, rfl⟩
  have H := H h1010 E1011
  refine ea_nm E1011 ?_
  obtain ⟨f1012, g1013, H⟩ := H
  refine ea_deref1 e543 ?_
  refine ea_putR (pc := 650) dX12_init_650 ec_12 (k := 106) (Nat.le_of_ble_eq_true rfl) rfl (Or.inr ⟨rfl, rfl, rfl, ew_1451⟩) f1012 g1013 ?_
  obtain ⟨h1014, E1015⟩ : ∃ z, z = ea_wr h1010 a542 106 (some (ea_n h1008)) := ⟨_, rfl⟩
  have H := H h1014 E1015
  refine ea_nm E1015 ?_
  refine ea_aload_n (pc := 653) dX12_init_653 rfl 0 rfl ?_
  refine ea_bipush (pc := 654) dX12_init_654 (v := 10) rfl ?_
  refine ea_newI (pc := 656) (N := 10) dX12_init_656 ew_170 (by decide) rfl (Nat.le_of_ble_eq_true rfl) ?_
  obtain ⟨h1016, E1017⟩ : ∃ z, z = ea_new h1014 20 10 10 := ⟨_, rfl⟩
  have H := H h1016 E1017
  refine ea_nm E1017 ?_
  obtain ⟨f1018, g1019, H⟩ := H
  refine ea_deref1 e543 ?_
  refine ea_putR (pc := 658) dX12_init_658 ec_12 (k := 107) (Nat.le_of_ble_eq_true rfl) rfl (Or.inr ⟨rfl, rfl, rfl, ew_1452⟩) f1018 g1019 ?_
  obtain ⟨h1020, E1021⟩ : ∃ z, z = ea_wr h1016 a542 107 (some (ea_n h1014)) := ⟨_, rfl⟩
  have H := H h1020 E1021
  refine ea_nm E1021 ?_
  refine ea_aload_n (pc := 661) dX12_init_661 rfl 0 rfl ?_
  refine ea_bipush (pc := 662) dX12_init_662 (v := 10) rfl ?_
  refine ea_newI (pc := 664) (N := 10) dX12_init_664 ew_170 (by decide) rfl (Nat.le_of_ble_eq_true rfl) ?_
  obtain ⟨h1022, E1023⟩ : ∃ z, z = ea_new h1020 20 10 10 := ⟨_, rfl⟩
  have H := H h1022 E1023
  refine ea_nm E1023 ?_
  obtain ⟨f1024, g1025, H⟩ := H
  refine ea_deref1 e543 ?_
  refine ea_putR (pc := 666) dX12_init_666 ec_12 (k := 108) (Nat.le_of_ble_eq_true rfl) rfl (Or.inr ⟨rfl, rfl, rfl, ew_1453⟩) f1024 g1025 ?_
  obtain ⟨h1026, E1027⟩ : ∃ z, z = ea_wr h1022 a542 108 (some (ea_n h1020)) := ⟨_, rfl⟩
  have H := H h1026 E1027
  refine ea_nm E1027 ?_
  refine ea_aload_n (pc := 669) dX12_init_669 rfl 0 rfl ?_
  refine ea_bipush (pc := 670) dX12_init_670 (v := 120) rfl ?_
  refine ea_newI (pc := 672) (N := 120) dX12_init_672 ew_170 (by decide) rfl (Nat.le_of_ble_eq_true rfl) ?_
  obtain ⟨h1028, E1029⟩ : ∃ z, z = ea_new h1026 20 120 120 := ⟨_, rfl⟩
  have H := H h1028 E1029
  refine ea_nm E1029 ?_
  obtain ⟨f1030, g1031, H⟩ := H
  refine ea_deref1 e543 ?_
  refine ea_putR (pc := 674) dX12_init_674 ec_12 (k := 109) (Nat.le_of_ble_eq_true rfl) rfl (Or.inr ⟨rfl, rfl, rfl, ew_1454⟩) f1030 g1031 ?_
  obtain ⟨h1032, E1033⟩ : ∃ z, z = ea_wr h1028 a542 109 (some (ea_n h1026)) := ⟨_, rfl⟩
  have H := H h1032 E1033
  refine ea_nm E1033 ?_
  refine ea_aload_n (pc := 677) dX12_init_677 rfl 0 rfl ?_
  refine ea_bipush (pc := 678) dX12_init_678 (v := 120) rfl ?_
  refine ea_newI (pc := 680) (N := 120) dX12_init_680 ew_170 (by decide) rfl (Nat.le_of_ble_eq_true rfl) ?_
  obtain ⟨h1034, E1035⟩ : ∃ z, z = ea_new h1032 20 120 120 := ⟨_, rfl⟩
  have H := H h1034 E1035
  refine ea_nm E1035 ?_
  obtain ⟨f1036, g1037, H⟩ := H
  refine ea_deref1 e543 ?_
  refine ea_putR (pc := 682) dX12_init_682 ec_12 (k := 110) (Nat.le_of_ble_eq_true rfl) rfl (Or.inr ⟨rfl, rfl, rfl, ew_1455⟩) f1036 g1037 ?_
  obtain ⟨h1038, E1039⟩ : ∃ z, z = ea_wr h1034 a542 110 (some (ea_n h1032)) := ⟨_, rfl⟩
  have H := H h1038 E1039
  refine ea_nm E1039 ?_
  refine ea_aload_n (pc := 685) dX12_init_685 rfl 0 rfl ?_
  refine ea_bipush (pc := 686) dX12_init_686 (v := 120) rfl ?_
  refine ea_newI (pc := 688) (N := 120) dX12_init_688 ew_170 (by decide) rfl (Nat.le_of_ble_eq_true rfl) ?_
  obtain ⟨h1040, E1041⟩ : ∃ z, z = ea_new h1038 20 120 120 := ⟨_, rfl⟩
  have H := H h1040 E1041
  refine ea_nm E1041 ?_
  obtain ⟨f1042, g1043, H⟩ := H
  refine ea_deref1 e543 ?_
  refine ea_putR (pc := 690) dX12_init_690 ec_12 (k := 111) (Nat.le_of_ble_eq_true rfl) rfl (Or.inr ⟨rfl, rfl, rfl, ew_1456⟩) f1042 g1043 ?_
  obtain ⟨h1044, E1045⟩ : ∃ z, z = ea_wr h1040 a542 111 (some (ea_n h1038)) := ⟨_, rfl⟩
  have H := H h1044 E1045
  refine ea_nm E1045 ?_
  refine ea_aload_n (pc := 693) dX12_init_693 rfl 0 rfl ?_
  refine ea_bipush (pc := 694) dX12_init_694 (v := 120) rfl ?_
  refine ea_newI (pc := 696) (N := 120) dX12_init_696 ew_170 (by decide) rfl (Nat.le_of_ble_eq_true rfl) ?_
  obtain ⟨h1046, E1047⟩ : ∃ z, z = ea_new h1044 20 120 120 := ⟨_, rfl⟩
  have H := H h1046 E1047
  refine ea_nm E1047 ?_
  obtain ⟨f1048, g1049, H⟩ := H
  refine ea_deref1 e543 ?_
  refine ea_putR (pc := 698) dX12_init_698 ec_12 (k := 112) (Nat.le_of_ble_eq_true rfl) rfl (Or.inr ⟨rfl, rfl, rfl, ew_1457⟩) f1048 g1049 ?_
  obtain ⟨h1050, E1051⟩ : ∃ z, z = ea_wr h1046 a542 112 (some (ea_n h1044)) := ⟨_, rfl⟩
  have H := H h1050 E1051
  refine ea_nm E1051 ?_
  refine ea_aload_n (pc := 701) dX12_init_701 rfl 0 rfl ?_
  refine ea_bipush (pc := 702) dX12_init_702 (v := 120) rfl ?_
  refine ea_newI (pc := 704) (N := 120) dX12_init_704 ew_170 (by decide) rfl (Nat.le_of_ble_eq_true rfl) ?_
  obtain ⟨h1052, E1053⟩ : ∃ z, z = ea_new h1050 20 120 120 := ⟨_, rfl⟩
  have H := H h1052 E1053
  refine ea_nm E1053 ?_
  obtain ⟨f1054, g1055, H⟩ := H
  refine ea_deref1 e543 ?_
  refine ea_putR (pc := 706) dX12_init_706 ec_12 (k := 113) (Nat.le_of_ble_eq_true rfl) rfl (Or.inr ⟨rfl, rfl, rfl, ew_1458⟩) f1054 g1055 ?_
  obtain ⟨h1056, E1057⟩ : ∃ z, z = ea_wr h1052 a542 113 (some (ea_n h1050)) := ⟨_, rfl⟩
  have H := H h1056 E1057
  refine ea_nm E1057 ?_
  refine ea_aload_n (pc := 709) dX12_init_709 rfl 0 rfl ?_
  refine ea_bipush (pc := 710) dX12_init_710 (v := 120) rfl ?_
  refine ea_newI (pc := 712) (N := 120) dX12_init_712 ew_170 (by decide) rfl (Nat.le_of_ble_eq_true rfl) ?_
  obtain ⟨h1058, E1059⟩ : ∃ z, z = ea_new h1056 20 120 120 := ⟨_, rfl⟩
  have H := H h1058 E1059
  refine ea_nm E1059 ?_
  obtain ⟨f1060, g1061, H⟩ := H
  refine ea_deref1 e543 ?_
  refine ea_putR (pc := 714) dX12_init_714 ec_12 (k := 114) (Nat.le_of_ble_eq_true rfl) rfl (Or.inr ⟨rfl, rfl, rfl, ew_1459⟩) f1060 g1061 ?_
  obtain ⟨h1062, E1063⟩ : ∃ z, z = ea_wr h1058 a542 114 (some (ea_n h1056)) := ⟨_, rfl⟩
  have H := H h1062 E1063
  refine ea_nm E1063 ?_
  refine ea_aload_n (pc := 717) dX12_init_717 rfl 0 rfl ?_
  refine ea_bipush (pc := 718) dX12_init_718 (v := 120) rfl ?_
  refine ea_newI (pc := 720) (N := 120) dX12_init_720 ew_170 (by decide) rfl (Nat.le_of_ble_eq_true rfl) ?_
  obtain ⟨h1064, E1065⟩ : ∃ z, z = ea_new h1062 20 120 120 := ⟨_, rfl⟩
  have H := H h1064 E1065
  refine ea_nm E1065 ?_
  obtain ⟨f1066, g1067, H⟩ := H
  refine ea_deref1 e543 ?_
  refine ea_putR (pc := 722) dX12_init_722 ec_12 (k := 115) (Nat.le_of_ble_eq_true rfl) rfl (Or.inr ⟨rfl, rfl, rfl, ew_1460⟩) f1066 g1067 ?_
  obtain ⟨h1068, E1069⟩ : ∃ z, z = ea_wr h1064 a542 115 (some (ea_n h1062)) := ⟨_, rfl⟩
  have H := H h1068 E1069
  refine ea_nm E1069 ?_
  refine ea_aload_n (pc := 725) dX12_init_725 rfl 0 rfl ?_
  refine ea_bipush (pc := 726) dX12_init_726 (v := 70) rfl ?_
  refine ea_newI (pc := 728) (N := 70) dX12_init_728 ew_170 (by decide) rfl (Nat.le_of_ble_eq_true rfl) ?_
  obtain ⟨h1070, E1071⟩ : ∃ z, z = ea_new h1068 20 70 70 := ⟨_, rfl⟩
  have H := H h1070 E1071
  refine ea_nm E1071 ?_
  obtain ⟨f1072, g1073, H⟩ := H
  refine ea_deref1 e543 ?_
  refine ea_putR (pc := 730) dX12_init_730 ec_12 (k := 116) (Nat.le_of_ble_eq_true rfl) rfl (Or.inr ⟨rfl, rfl, rfl, ew_1461⟩) f1072 g1073 ?_
  obtain ⟨h1074, E1075⟩ : ∃ z, z = ea_wr h1070 a542 116 (some (ea_n h1068)) := ⟨_, rfl⟩
  have H := H h1074 E1075
  refine ea_nm E1075 ?_
  refine ea_aload_n (pc := 733) dX12_init_733 rfl 0 rfl ?_
  refine ea_bipush (pc := 734) dX12_init_734 (v := 120) rfl ?_
  refine ea_newZ (pc := 736) (N := 120) dX12_init_736 ew_218 (by decide) rfl (Nat.le_of_ble_eq_true rfl) ?_
  obtain ⟨h1076, E1077⟩ : ∃ z, z = ea_new h1074 21 120 120 := ⟨_, rfl⟩
  have H := H h1076 E1077
  refine ea_nm E1077 ?_
  obtain ⟨f1078, g1079, H⟩ := H
  refine ea_deref1 e543 ?_
  refine ea_putR (pc := 738) dX12_init_738 ec_12 (k := 117) (Nat.le_of_ble_eq_true rfl) rfl (Or.inr ⟨rfl, rfl, rfl, ew_1462⟩) f1078 g1079 ?_
  obtain ⟨h1080, E1081⟩ : ∃ z, z = ea_wr h1076 a542 117 (some (ea_n h1074)) := ⟨_, rfl⟩
  have H := H h1080 E1081
  refine ea_nm E1081 ?_
  refine ea_iconst (pc := 741) dX12_init_741 (v := 0) rfl ?_
  refine ea_istore_n (pc := 742) (lv' := [(0, vR r0), (1, vI 0)]) dX12_init_742 rfl (Nat.le_of_ble_eq_true rfl) [1, 0] rfl ?_
  exact H
set_option maxRecDepth 100000 in
set_option maxHeartbeats 0 in
theorem bX12_init_743 {d : Nat} {h0 hE h : ea_H} {rv : Option ea_V} {r0 : Option Nat} {x1 : Int32} (H : ((10 : Int32) ≤ x1 → ea_W mX12_init d h0 rv hE 773 [(0, vR r0), (1, vI 0)] [] h) ∧ (¬ (10 : Int32) ≤ x1 → ∃ a3, r0 = some a3 ∧ a3 < ea_n h ∧ ea_c h a3 = 12 ∧ ∃ a7, (ea_r h a3 106) = some a7 ∧ a7 < ea_n h ∧ ea_c h a7 = 20 ∧ vp_in x1 (ea_l h a7) ∧ ∀ h10, h10 = ea_wi h a7 (Int32.toNatClampNeg x1) (-60) → a3 < ea_n h10 ∧ ea_c h10 a3 = 12 ∧ ∃ a16, (ea_r h10 a3 107) = some a16 ∧ a16 < ea_n h10 ∧ ea_c h10 a16 = 20 ∧ vp_in x1 (ea_l h10 a16) ∧ ∀ h19, h19 = ea_wi h10 a16 (Int32.toNatClampNeg x1) 60 → ea_W mX12_init d h0 rv hE 743 [(0, vR r0), (1, vI (x1 + 1))] [] h19)) : ea_W mX12_init d h0 rv hE 743 [(0, vR r0), (1, vI x1)] [] h := by
  refine ea_iload_n (pc := 743) dX12_init_743 rfl 1 rfl ?_
  refine ea_bipush (pc := 744) dX12_init_744 (v := 10) rfl ?_
  refine ea_icmp_ge (pc := 746) (tgt := 771) dX12_init_746 rfl (fun c21 => ?_) (fun c21 => ?_)
  · have H := H.1 c21
    refine ea_iconst (pc := 771) dX12_init_771 (v := 0) rfl ?_
    refine ea_istore_n (pc := 772) (lv' := [(0, vR r0), (1, vI 0)]) dX12_init_772 rfl (Nat.le_of_ble_eq_true rfl) [1, 0] rfl ?_
    exact H
  · have H := H.2 c21
    refine ea_aload_n (pc := 749) dX12_init_749 rfl 0 rfl ?_
    obtain ⟨a3, e4, f1, g2, H⟩ := H
    refine ea_deref0 e4 ?_
    refine ea_getR (pc := 750) dX12_init_750 ec_12 (k := 106) (Nat.le_of_ble_eq_true rfl) rfl (Or.inl ew_1451) f1 g2 rfl ?_
    refine ea_iload_n (pc := 753) dX12_init_753 rfl 1 rfl ?_
    refine ea_bipush (pc := 754) dX12_init_754 (v := (-60)) rfl ?_
    obtain ⟨a7, e8, f5, g6, H⟩ := H
    refine ea_deref2 e8 ?_
    obtain ⟨z9, H⟩ := H
    refine ea_iast (pc := 756) dX12_init_756 f5 g6 z9 ?_
    obtain ⟨h10, E11⟩ : ∃ z, z = ea_wi h a7 (Int32.toNatClampNeg x1) (-60) := ⟨_, rfl⟩
    have H := H h10 E11
    refine ea_nm E11 ?_
    refine ea_aload_n (pc := 757) dX12_init_757 rfl 0 rfl ?_
    obtain ⟨f12, g13, H⟩ := H
    refine ea_deref0 e4 ?_
    refine ea_getR (pc := 758) dX12_init_758 ec_12 (k := 107) (Nat.le_of_ble_eq_true rfl) rfl (Or.inl ew_1452) f12 g13 rfl ?_
    refine ea_iload_n (pc := 761) dX12_init_761 rfl 1 rfl ?_
    refine ea_bipush (pc := 762) dX12_init_762 (v := 60) rfl ?_
    obtain ⟨a16, e17, f14, g15, H⟩ := H
    refine ea_deref2 e17 ?_
    obtain ⟨z18, H⟩ := H
    refine ea_iast (pc := 764) dX12_init_764 f14 g15 z18 ?_
    obtain ⟨h19, E20⟩ : ∃ z, z = ea_wi h10 a16 (Int32.toNatClampNeg x1) 60 := ⟨_, rfl⟩
    have H := H h19 E20
    refine ea_nm E20 ?_
    refine ea_iinc (pc := 765) (v := 1) (lv' := [(0, vR r0), (1, vI (x1 + 1))]) dX12_init_765 1 rfl rfl (Nat.le_of_ble_eq_true rfl) [1, 0] rfl ?_
    refine ea_goto (pc := 768) (tgt := 743) dX12_init_768 rfl ?_
    exact H
set_option maxRecDepth 100000 in
set_option maxHeartbeats 0 in
theorem bX12_init_773 {d : Nat} {h0 hE h : ea_H} {rv : Option ea_V} {r0 : Option Nat} {x1 : Int32} (H : ((8 : Int32) ≤ x1 → rv = none ∧ hE = h) ∧ (¬ (8 : Int32) ≤ x1 → ∃ a3, r0 = some a3 ∧ a3 < ea_n h ∧ ea_c h a3 = 12 ∧ ∃ a7, (ea_r h a3 95) = some a7 ∧ a7 < ea_n h ∧ ea_c h a7 = 20 ∧ vp_in x1 (ea_l h a7) ∧ ∀ h10, h10 = ea_wi h a7 (Int32.toNatClampNeg x1) (-1) → ea_W mX12_init d h0 rv hE 773 [(0, vR r0), (1, vI (x1 + 1))] [] h10)) : ea_W mX12_init d h0 rv hE 773 [(0, vR r0), (1, vI x1)] [] h := by
  refine ea_iload_n (pc := 773) dX12_init_773 rfl 1 rfl ?_
  refine ea_bipush (pc := 774) dX12_init_774 (v := 8) rfl ?_
  refine ea_icmp_ge (pc := 776) (tgt := 792) dX12_init_776 rfl (fun c12 => ?_) (fun c12 => ?_)
  · have H := H.1 c12
    obtain ⟨rfl, rfl⟩ := H
    exact ea_return (pc := 792) dX12_init_792 rfl
  · have H := H.2 c12
    refine ea_aload_n (pc := 779) dX12_init_779 rfl 0 rfl ?_
    obtain ⟨a3, e4, f1, g2, H⟩ := H
    refine ea_deref0 e4 ?_
    refine ea_getR (pc := 780) dX12_init_780 ec_12 (k := 95) (Nat.le_of_ble_eq_true rfl) rfl (Or.inl ew_1440) f1 g2 rfl ?_
    refine ea_iload_n (pc := 783) dX12_init_783 rfl 1 rfl ?_
    refine ea_iconst (pc := 784) dX12_init_784 (v := (-1)) rfl ?_
    obtain ⟨a7, e8, f5, g6, H⟩ := H
    refine ea_deref2 e8 ?_
    obtain ⟨z9, H⟩ := H
    refine ea_iast (pc := 785) dX12_init_785 f5 g6 z9 ?_
    obtain ⟨h10, E11⟩ : ∃ z, z = ea_wi h a7 (Int32.toNatClampNeg x1) (-1) := ⟨_, rfl⟩
    have H := H h10 E11
    refine ea_nm E11 ?_
    refine ea_iinc (pc := 786) (v := 1) (lv' := [(0, vR r0), (1, vI (x1 + 1))]) dX12_init_786 1 rfl rfl (Nat.le_of_ble_eq_true rfl) [1, 0] rfl ?_
    refine ea_goto (pc := 789) (tgt := 773) dX12_init_789 rfl ?_
    exact H
theorem dX12_isIn_0 : decode cX12_isIn 0 = .ok (.iload_n 0, 1) := by decide +kernel
theorem dX12_isIn_1 : decode cX12_isIn 1 = .ok (.iload_n 1, 1) := by decide +kernel
theorem dX12_isIn_2 : decode cX12_isIn 2 = .ok (.if_icmp .lt 12, 3) := by decide +kernel
theorem dX12_isIn_5 : decode cX12_isIn 5 = .ok (.iload_n 0, 1) := by decide +kernel
theorem dX12_isIn_6 : decode cX12_isIn 6 = .ok (.iload_n 2, 1) := by decide +kernel
theorem dX12_isIn_7 : decode cX12_isIn 7 = .ok (.if_icmp .gt 7, 3) := by decide +kernel
theorem dX12_isIn_10 : decode cX12_isIn 10 = .ok (.iconst 1, 1) := by decide +kernel
theorem dX12_isIn_11 : decode cX12_isIn 11 = .ok (.goto 4, 3) := by decide +kernel
theorem dX12_isIn_14 : decode cX12_isIn 14 = .ok (.iconst 0, 1) := by decide +kernel
theorem dX12_isIn_15 : decode cX12_isIn 15 = .ok (.ireturn, 1) := by decide +kernel
theorem bX12_isIn_0 {d : Nat} {h0 hE h : ea_H} {rv : Option ea_V} {x0 : Int32} {x1 : Int32} {x2 : Int32} (H : (x0 < x1 → rv = some (vI 0) ∧ hE = h) ∧ (¬ x0 < x1 → (x2 < x0 → rv = some (vI 0) ∧ hE = h) ∧ (¬ x2 < x0 → rv = some (vI 1) ∧ hE = h))) : ea_W mX12_isIn d h0 rv hE 0 [(0, vI x0), (1, vI x1), (2, vI x2)] [] h := by
  refine ea_iload_n (pc := 0) dX12_isIn_0 rfl 0 rfl ?_
  refine ea_iload_n (pc := 1) dX12_isIn_1 rfl 1 rfl ?_
  refine ea_icmp_lt (pc := 2) (tgt := 14) dX12_isIn_2 rfl (fun c2 => ?_) (fun c2 => ?_)
  · have H := H.1 c2
    refine ea_iconst (pc := 14) dX12_isIn_14 (v := 0) rfl ?_
    obtain ⟨rfl, rfl⟩ := H
    exact ea_ireturn (pc := 15) dX12_isIn_15 rfl (ea_bn (Or.inl rfl))
  · have H := H.2 c2
    refine ea_iload_n (pc := 5) dX12_isIn_5 rfl 0 rfl ?_
    refine ea_iload_n (pc := 6) dX12_isIn_6 rfl 2 rfl ?_
    refine ea_icmp_gt (pc := 7) (tgt := 14) dX12_isIn_7 rfl (fun c1 => ?_) (fun c1 => ?_)
    · have H := H.1 c1
      refine ea_iconst (pc := 14) dX12_isIn_14 (v := 0) rfl ?_
      obtain ⟨rfl, rfl⟩ := H
      exact ea_ireturn (pc := 15) dX12_isIn_15 rfl (ea_bn (Or.inl rfl))
    · have H := H.2 c1
      refine ea_iconst (pc := 10) dX12_isIn_10 (v := 1) rfl ?_
      refine ea_goto (pc := 11) (tgt := 15) dX12_isIn_11 rfl ?_
      obtain ⟨rfl, rfl⟩ := H
      exact ea_ireturn (pc := 15) dX12_isIn_15 rfl (ea_bn (Or.inr rfl))
theorem dX12_isTown_0 : decode cX12_isTown 0 = .ok (.iload_n 1, 1) := by decide +kernel
theorem dX12_isTown_1 : decode cX12_isTown 1 = .ok (.iconst 0, 1) := by decide +kernel
theorem dX12_isTown_2 : decode cX12_isTown 2 = .ok (.aload_n 0, 1) := by decide +kernel
theorem dX12_isTown_3 : decode cX12_isTown 3 = .ok (.getfield 283, 3) := by decide +kernel
theorem dX12_isTown_6 : decode cX12_isTown 6 = .ok (.iconst 1, 1) := by decide +kernel
theorem dX12_isTown_7 : decode cX12_isTown 7 = .ok (.isub, 1) := by decide +kernel
theorem dX12_isTown_8 : decode cX12_isTown 8 = .ok (.invokestatic 286, 3) := by decide +kernel
theorem dX12_isTown_11 : decode cX12_isTown 11 = .ok (.ireturn, 1) := by decide +kernel
theorem bX12_isTown_0 {d : Nat} {h0 hE h : ea_H} {rv : Option ea_V} {r0 : Option Nat} {x1 : Int32} (H : ∃ a3, r0 = some a3 ∧ a3 < ea_n h ∧ ea_c h a3 = 12 ∧ ∃ (d5 : Nat) (xc9 : Int32) (h6 : ea_H), ea_Met mX12_isIn d5 [vI x1, vI 0, vI ((ea_i h a3 1) - (1 : Int32))] h (some (vI xc9)) h6 ∧ d5 + 1 ≤ d ∧ (xc9 = 0 ∨ xc9 = 1) ∧ rv = some (vI xc9) ∧ hE = h6) : ea_W mX12_isTown d h0 rv hE 0 [(0, vR r0), (1, vI x1)] [] h := by
  refine ea_iload_n (pc := 0) dX12_isTown_0 rfl 1 rfl ?_
  refine ea_iconst (pc := 1) dX12_isTown_1 (v := 0) rfl ?_
  refine ea_aload_n (pc := 2) dX12_isTown_2 rfl 0 rfl ?_
  obtain ⟨a3, e4, f1, g2, H⟩ := H
  refine ea_deref0 e4 ?_
  refine ea_getI (pc := 3) dX12_isTown_3 ec_12 (k := 1) (Nat.le_of_ble_eq_true rfl) rfl (Or.inl ew_1346) f1 g2 ?_
  refine ea_iconst (pc := 6) dX12_isTown_6 (v := 1) rfl ?_
  refine ea_isub (pc := 7) dX12_isTown_7 ?_
  obtain ⟨d5, xc9, h6, m7, q8, H⟩ := H
  refine ea_callS (pc := 8) (As := [vI x1, vI 0, vI ((ea_i h a3 1) - (1 : Int32))]) (st := []) dX12_isTown_8 kX12_isIn m7 q8 rfl (Nat.le_of_ble_eq_true rfl) ew_1712 ew_1713 ?_
  obtain ⟨z10, rfl, rfl⟩ := H
  exact ea_ireturn (pc := 11) dX12_isTown_11 rfl (ea_bn z10)
theorem dX12_isTrain_0 : decode cX12_isTrain 0 = .ok (.iload_n 1, 1) := by decide +kernel
theorem dX12_isTrain_1 : decode cX12_isTrain 1 = .ok (.iconst 0, 1) := by decide +kernel
theorem dX12_isTrain_2 : decode cX12_isTrain 2 = .ok (.aload_n 0, 1) := by decide +kernel
theorem dX12_isTrain_3 : decode cX12_isTrain 3 = .ok (.getfield 290, 3) := by decide +kernel
theorem dX12_isTrain_6 : decode cX12_isTrain 6 = .ok (.iconst 1, 1) := by decide +kernel
theorem dX12_isTrain_7 : decode cX12_isTrain 7 = .ok (.isub, 1) := by decide +kernel
theorem dX12_isTrain_8 : decode cX12_isTrain 8 = .ok (.invokestatic 286, 3) := by decide +kernel
theorem dX12_isTrain_11 : decode cX12_isTrain 11 = .ok (.ireturn, 1) := by decide +kernel
theorem bX12_isTrain_0 {d : Nat} {h0 hE h : ea_H} {rv : Option ea_V} {r0 : Option Nat} {x1 : Int32} (H : ∃ a3, r0 = some a3 ∧ a3 < ea_n h ∧ ea_c h a3 = 12 ∧ ∃ (d5 : Nat) (xc9 : Int32) (h6 : ea_H), ea_Met mX12_isIn d5 [vI x1, vI 0, vI ((ea_i h a3 2) - (1 : Int32))] h (some (vI xc9)) h6 ∧ d5 + 1 ≤ d ∧ (xc9 = 0 ∨ xc9 = 1) ∧ rv = some (vI xc9) ∧ hE = h6) : ea_W mX12_isTrain d h0 rv hE 0 [(0, vR r0), (1, vI x1)] [] h := by
  refine ea_iload_n (pc := 0) dX12_isTrain_0 rfl 1 rfl ?_
  refine ea_iconst (pc := 1) dX12_isTrain_1 (v := 0) rfl ?_
  refine ea_aload_n (pc := 2) dX12_isTrain_2 rfl 0 rfl ?_
  obtain ⟨a3, e4, f1, g2, H⟩ := H
  refine ea_deref0 e4 ?_
  refine ea_getI (pc := 3) dX12_isTrain_3 ec_12 (k := 2) (Nat.le_of_ble_eq_true rfl) rfl (Or.inl ew_1347) f1 g2 ?_
  refine ea_iconst (pc := 6) dX12_isTrain_6 (v := 1) rfl ?_
  refine ea_isub (pc := 7) dX12_isTrain_7 ?_
  obtain ⟨d5, xc9, h6, m7, q8, H⟩ := H
  refine ea_callS (pc := 8) (As := [vI x1, vI 0, vI ((ea_i h a3 2) - (1 : Int32))]) (st := []) dX12_isTrain_8 kX12_isIn m7 q8 rfl (Nat.le_of_ble_eq_true rfl) ew_1712 ew_1713 ?_
  obtain ⟨z10, rfl, rfl⟩ := H
  exact ea_ireturn (pc := 11) dX12_isTrain_11 rfl (ea_bn z10)
theorem dX12_isDay_0 : decode cX12_isDay 0 = .ok (.iload_n 0, 1) := by decide +kernel
theorem dX12_isDay_1 : decode cX12_isDay 1 = .ok (.iconst 0, 1) := by decide +kernel
theorem dX12_isDay_2 : decode cX12_isDay 2 = .ok (.bipush 6, 2) := by decide +kernel
theorem dX12_isDay_4 : decode cX12_isDay 4 = .ok (.invokestatic 286, 3) := by decide +kernel
theorem dX12_isDay_7 : decode cX12_isDay 7 = .ok (.ireturn, 1) := by decide +kernel
theorem bX12_isDay_0 {d : Nat} {h0 hE h : ea_H} {rv : Option ea_V} {x0 : Int32} (H : ∃ (d1 : Nat) (xc5 : Int32) (h2 : ea_H), ea_Met mX12_isIn d1 [vI x0, vI 0, vI 6] h (some (vI xc5)) h2 ∧ d1 + 1 ≤ d ∧ (xc5 = 0 ∨ xc5 = 1) ∧ rv = some (vI xc5) ∧ hE = h2) : ea_W mX12_isDay d h0 rv hE 0 [(0, vI x0)] [] h := by
  refine ea_iload_n (pc := 0) dX12_isDay_0 rfl 0 rfl ?_
  refine ea_iconst (pc := 1) dX12_isDay_1 (v := 0) rfl ?_
  refine ea_bipush (pc := 2) dX12_isDay_2 (v := 6) rfl ?_
  obtain ⟨d1, xc5, h2, m3, q4, H⟩ := H
  refine ea_callS (pc := 4) (As := [vI x0, vI 0, vI 6]) (st := []) dX12_isDay_4 kX12_isIn m3 q4 rfl (Nat.le_of_ble_eq_true rfl) ew_1712 ew_1713 ?_
  obtain ⟨z6, rfl, rfl⟩ := H
  exact ea_ireturn (pc := 7) dX12_isDay_7 rfl (ea_bn z6)
theorem dX12_isMinute_0 : decode cX12_isMinute 0 = .ok (.iload_n 0, 1) := by decide +kernel
theorem dX12_isMinute_1 : decode cX12_isMinute 1 = .ok (.iconst 0, 1) := by decide +kernel
theorem dX12_isMinute_2 : decode cX12_isMinute 2 = .ok (.sipush 10079, 3) := by decide +kernel
theorem dX12_isMinute_5 : decode cX12_isMinute 5 = .ok (.invokestatic 286, 3) := by decide +kernel
theorem dX12_isMinute_8 : decode cX12_isMinute 8 = .ok (.ireturn, 1) := by decide +kernel
theorem bX12_isMinute_0 {d : Nat} {h0 hE h : ea_H} {rv : Option ea_V} {x0 : Int32} (H : ∃ (d1 : Nat) (xc5 : Int32) (h2 : ea_H), ea_Met mX12_isIn d1 [vI x0, vI 0, vI 10079] h (some (vI xc5)) h2 ∧ d1 + 1 ≤ d ∧ (xc5 = 0 ∨ xc5 = 1) ∧ rv = some (vI xc5) ∧ hE = h2) : ea_W mX12_isMinute d h0 rv hE 0 [(0, vI x0)] [] h := by
  refine ea_iload_n (pc := 0) dX12_isMinute_0 rfl 0 rfl ?_
  refine ea_iconst (pc := 1) dX12_isMinute_1 (v := 0) rfl ?_
  refine ea_sipush (pc := 2) dX12_isMinute_2 (v := 10079) rfl ?_
  obtain ⟨d1, xc5, h2, m3, q4, H⟩ := H
  refine ea_callS (pc := 5) (As := [vI x0, vI 0, vI 10079]) (st := []) dX12_isMinute_5 kX12_isIn m3 q4 rfl (Nat.le_of_ble_eq_true rfl) ew_1712 ew_1713 ?_
  obtain ⟨z6, rfl, rfl⟩ := H
  exact ea_ireturn (pc := 8) dX12_isMinute_8 rfl (ea_bn z6)
theorem dX12_town_0 : decode cX12_town 0 = .ok (.aload_n 0, 1) := by decide +kernel
theorem dX12_town_1 : decode cX12_town 1 = .ok (.getfield 283, 3) := by decide +kernel
theorem dX12_town_4 : decode cX12_town 4 = .ok (.bipush 12, 2) := by decide +kernel
theorem dX12_town_6 : decode cX12_town 6 = .ok (.if_icmp .ne 5, 3) := by decide +kernel
theorem dX12_town_9 : decode cX12_town 9 = .ok (.iconst (-1), 1) := by decide +kernel
theorem dX12_town_10 : decode cX12_town 10 = .ok (.ireturn, 1) := by decide +kernel
theorem dX12_town_11 : decode cX12_town 11 = .ok (.aload_n 0, 1) := by decide +kernel
theorem dX12_town_12 : decode cX12_town 12 = .ok (.dup, 1) := by decide +kernel
theorem dX12_town_13 : decode cX12_town 13 = .ok (.getfield 283, 3) := by decide +kernel
theorem dX12_town_16 : decode cX12_town 16 = .ok (.iconst 1, 1) := by decide +kernel
theorem dX12_town_17 : decode cX12_town 17 = .ok (.iadd, 1) := by decide +kernel
theorem dX12_town_18 : decode cX12_town 18 = .ok (.putfield 283, 3) := by decide +kernel
theorem dX12_town_21 : decode cX12_town 21 = .ok (.aload_n 0, 1) := by decide +kernel
theorem dX12_town_22 : decode cX12_town 22 = .ok (.iconst 0, 1) := by decide +kernel
theorem dX12_town_23 : decode cX12_town 23 = .ok (.putfield 293, 3) := by decide +kernel
theorem dX12_town_26 : decode cX12_town 26 = .ok (.aload_n 0, 1) := by decide +kernel
theorem dX12_town_27 : decode cX12_town 27 = .ok (.getfield 283, 3) := by decide +kernel
theorem dX12_town_30 : decode cX12_town 30 = .ok (.iconst 1, 1) := by decide +kernel
theorem dX12_town_31 : decode cX12_town 31 = .ok (.isub, 1) := by decide +kernel
theorem dX12_town_32 : decode cX12_town 32 = .ok (.ireturn, 1) := by decide +kernel
theorem bX12_town_0 {d : Nat} {h0 hE h : ea_H} {rv : Option ea_V} {r0 : Option Nat} (H : ∃ a3, r0 = some a3 ∧ a3 < ea_n h ∧ ea_c h a3 = 12 ∧ (¬ (ea_i h a3 1) = (12 : Int32) → a3 < ea_n h ∧ ea_c h a3 = 12 ∧ a3 < ea_n h ∧ ea_c h a3 = 12 ∧ ∀ h9, h9 = ea_wi h a3 1 ((ea_i h a3 1) + (1 : Int32)) → a3 < ea_n h9 ∧ ea_c h9 a3 = 12 ∧ ∀ h13, h13 = ea_wi h9 a3 12 0 → a3 < ea_n h13 ∧ ea_c h13 a3 = 12 ∧ rv = some (vI ((ea_i h13 a3 1) - (1 : Int32))) ∧ hE = h13) ∧ ((ea_i h a3 1) = (12 : Int32) → rv = some (vI (-1)) ∧ hE = h)) : ea_W mX12_town d h0 rv hE 0 [(0, vR r0)] [] h := by
  refine ea_aload_n (pc := 0) dX12_town_0 rfl 0 rfl ?_
  obtain ⟨a3, e4, f1, g2, H⟩ := H
  refine ea_deref0 e4 ?_
  refine ea_getI (pc := 1) dX12_town_1 ec_12 (k := 1) (Nat.le_of_ble_eq_true rfl) rfl (Or.inl ew_1346) f1 g2 ?_
  refine ea_bipush (pc := 4) dX12_town_4 (v := 12) rfl ?_
  refine ea_icmp_ne (pc := 6) (tgt := 11) dX12_town_6 rfl (fun c17 => ?_) (fun c17 => ?_)
  · have H := H.1 c17
    refine ea_aload_n (pc := 11) dX12_town_11 rfl 0 rfl ?_
    refine ea_dup (pc := 12) dX12_town_12 rfl ?_
    obtain ⟨f5, g6, H⟩ := H
    refine ea_deref0 e4 ?_
    refine ea_getI (pc := 13) dX12_town_13 ec_12 (k := 1) (Nat.le_of_ble_eq_true rfl) rfl (Or.inl ew_1346) f5 g6 ?_
    refine ea_iconst (pc := 16) dX12_town_16 (v := 1) rfl ?_
    refine ea_iadd (pc := 17) dX12_town_17 ?_
    obtain ⟨f7, g8, H⟩ := H
    refine ea_deref1 e4 ?_
    refine ea_putI (pc := 18) dX12_town_18 ec_12 (k := 1) (Nat.le_of_ble_eq_true rfl) rfl (Or.inl ⟨rfl, Or.inl ew_1346⟩) rfl rfl f7 g8 ?_
    obtain ⟨h9, E10⟩ : ∃ z, z = ea_wi h a3 1 ((ea_i h a3 1) + (1 : Int32)) := ⟨_, rfl⟩
    have H := H h9 E10
    refine ea_nm E10 ?_
    refine ea_aload_n (pc := 21) dX12_town_21 rfl 0 rfl ?_
    refine ea_iconst (pc := 22) dX12_town_22 (v := 0) rfl ?_
    obtain ⟨f11, g12, H⟩ := H
    refine ea_deref1 e4 ?_
    refine ea_putI (pc := 23) dX12_town_23 ec_12 (k := 12) (Nat.le_of_ble_eq_true rfl) rfl (Or.inl ⟨rfl, Or.inl ew_1357⟩) (ea_bn (Or.inl rfl)) (ea_bf (Or.inl rfl)) f11 g12 ?_
    obtain ⟨h13, E14⟩ : ∃ z, z = ea_wi h9 a3 12 0 := ⟨_, rfl⟩
    have H := H h13 E14
    refine ea_nm E14 ?_
    refine ea_aload_n (pc := 26) dX12_town_26 rfl 0 rfl ?_
    obtain ⟨f15, g16, H⟩ := H
    refine ea_deref0 e4 ?_
    refine ea_getI (pc := 27) dX12_town_27 ec_12 (k := 1) (Nat.le_of_ble_eq_true rfl) rfl (Or.inl ew_1346) f15 g16 ?_
    refine ea_iconst (pc := 30) dX12_town_30 (v := 1) rfl ?_
    refine ea_isub (pc := 31) dX12_town_31 ?_
    obtain ⟨rfl, rfl⟩ := H
    exact ea_ireturn (pc := 32) dX12_town_32 rfl rfl
  · have H := H.2 c17
    refine ea_iconst (pc := 9) dX12_town_9 (v := (-1)) rfl ?_
    obtain ⟨rfl, rfl⟩ := H
    exact ea_ireturn (pc := 10) dX12_town_10 rfl rfl
theorem dX12_road_0 : decode cX12_road 0 = .ok (.aload_n 0, 1) := by decide +kernel
theorem dX12_road_1 : decode cX12_road 1 = .ok (.iload_n 1, 1) := by decide +kernel
theorem dX12_road_2 : decode cX12_road 2 = .ok (.invokevirtual 297, 3) := by decide +kernel
theorem dX12_road_5 : decode cX12_road 5 = .ok (.ifCond .eq 27, 3) := by decide +kernel
theorem dX12_road_8 : decode cX12_road 8 = .ok (.aload_n 0, 1) := by decide +kernel
theorem dX12_road_9 : decode cX12_road 9 = .ok (.iload_n 2, 1) := by decide +kernel
theorem dX12_road_10 : decode cX12_road 10 = .ok (.invokevirtual 297, 3) := by decide +kernel
theorem dX12_road_13 : decode cX12_road 13 = .ok (.ifCond .eq 19, 3) := by decide +kernel
theorem dX12_road_16 : decode cX12_road 16 = .ok (.iload_n 1, 1) := by decide +kernel
theorem dX12_road_17 : decode cX12_road 17 = .ok (.iload_n 2, 1) := by decide +kernel
theorem dX12_road_18 : decode cX12_road 18 = .ok (.if_icmp .eq 14, 3) := by decide +kernel
theorem dX12_road_21 : decode cX12_road 21 = .ok (.iload_n 3, 1) := by decide +kernel
theorem dX12_road_22 : decode cX12_road 22 = .ok (.iconst 1, 1) := by decide +kernel
theorem dX12_road_23 : decode cX12_road 23 = .ok (.sipush 999, 3) := by decide +kernel
theorem dX12_road_26 : decode cX12_road 26 = .ok (.invokestatic 286, 3) := by decide +kernel
theorem dX12_road_29 : decode cX12_road 29 = .ok (.ifCond .ne 5, 3) := by decide +kernel
theorem dX12_road_32 : decode cX12_road 32 = .ok (.iconst 0, 1) := by decide +kernel
theorem dX12_road_33 : decode cX12_road 33 = .ok (.ireturn, 1) := by decide +kernel
theorem dX12_road_34 : decode cX12_road 34 = .ok (.aload_n 0, 1) := by decide +kernel
theorem dX12_road_35 : decode cX12_road 35 = .ok (.getfield 7, 3) := by decide +kernel
theorem dX12_road_38 : decode cX12_road 38 = .ok (.bipush 12, 2) := by decide +kernel
theorem dX12_road_40 : decode cX12_road 40 = .ok (.iload_n 1, 1) := by decide +kernel
theorem dX12_road_41 : decode cX12_road 41 = .ok (.imul, 1) := by decide +kernel
theorem dX12_road_42 : decode cX12_road 42 = .ok (.iload_n 2, 1) := by decide +kernel
theorem dX12_road_43 : decode cX12_road 43 = .ok (.iadd, 1) := by decide +kernel
theorem dX12_road_44 : decode cX12_road 44 = .ok (.iload_n 3, 1) := by decide +kernel
theorem dX12_road_45 : decode cX12_road 45 = .ok (.iastore, 1) := by decide +kernel
theorem dX12_road_46 : decode cX12_road 46 = .ok (.aload_n 0, 1) := by decide +kernel
theorem dX12_road_47 : decode cX12_road 47 = .ok (.getfield 7, 3) := by decide +kernel
theorem dX12_road_50 : decode cX12_road 50 = .ok (.bipush 12, 2) := by decide +kernel
theorem dX12_road_52 : decode cX12_road 52 = .ok (.iload_n 2, 1) := by decide +kernel
theorem dX12_road_53 : decode cX12_road 53 = .ok (.imul, 1) := by decide +kernel
theorem dX12_road_54 : decode cX12_road 54 = .ok (.iload_n 1, 1) := by decide +kernel
theorem dX12_road_55 : decode cX12_road 55 = .ok (.iadd, 1) := by decide +kernel
theorem dX12_road_56 : decode cX12_road 56 = .ok (.iload_n 3, 1) := by decide +kernel
theorem dX12_road_57 : decode cX12_road 57 = .ok (.iastore, 1) := by decide +kernel
theorem dX12_road_58 : decode cX12_road 58 = .ok (.iconst 1, 1) := by decide +kernel
theorem dX12_road_59 : decode cX12_road 59 = .ok (.ireturn, 1) := by decide +kernel
theorem bX12_road_0 {d : Nat} {h0 hE h : ea_H} {rv : Option ea_V} {r0 : Option Nat} {x1 : Int32} {x2 : Int32} {x3 : Int32} (H : ∃ a7, r0 = some a7 ∧ a7 < ea_n h ∧ ea_c h a7 = 12 ∧ ∃ (d1 : Nat) (xc9 : Int32) (h2 : ea_H), ea_Met mX12_isTown d1 [vR (some a7), vI x1] h (some (vI xc9)) h2 ∧ d1 + 1 ≤ d ∧ (xc9 = (0 : Int32) → rv = some (vI 0) ∧ hE = h2) ∧ (¬ xc9 = (0 : Int32) → a7 < ea_n h2 ∧ ea_c h2 a7 = 12 ∧ ∃ (d10 : Nat) (xc16 : Int32) (h11 : ea_H), ea_Met mX12_isTown d10 [vR (some a7), vI x2] h2 (some (vI xc16)) h11 ∧ d10 + 1 ≤ d ∧ (xc16 = (0 : Int32) → rv = some (vI 0) ∧ hE = h11) ∧ (¬ xc16 = (0 : Int32) → (x1 = x2 → rv = some (vI 0) ∧ hE = h11) ∧ (¬ x1 = x2 → ∃ (d17 : Nat) (xc21 : Int32) (h18 : ea_H), ea_Met mX12_isIn d17 [vI x3, vI 1, vI 999] h11 (some (vI xc21)) h18 ∧ d17 + 1 ≤ d ∧ (¬ xc21 = (0 : Int32) → a7 < ea_n h18 ∧ ea_c h18 a7 = 12 ∧ ∃ a26, (ea_r h18 a7 3) = some a26 ∧ a26 < ea_n h18 ∧ ea_c h18 a26 = 20 ∧ vp_in (((12 : Int32) * x1) + x2) (ea_l h18 a26) ∧ ∀ h29, h29 = ea_wi h18 a26 (Int32.toNatClampNeg (((12 : Int32) * x1) + x2)) x3 → a7 < ea_n h29 ∧ ea_c h29 a7 = 12 ∧ ∃ a35, (ea_r h29 a7 3) = some a35 ∧ a35 < ea_n h29 ∧ ea_c h29 a35 = 20 ∧ vp_in (((12 : Int32) * x2) + x1) (ea_l h29 a35) ∧ ∀ h38, h38 = ea_wi h29 a35 (Int32.toNatClampNeg (((12 : Int32) * x2) + x1)) x3 → rv = some (vI 1) ∧ hE = h38) ∧ (xc21 = (0 : Int32) → rv = some (vI 0) ∧ hE = h18))))) : ea_W mX12_road d h0 rv hE 0 [(0, vR r0), (1, vI x1), (2, vI x2), (3, vI x3)] [] h := by
  refine ea_aload_n (pc := 0) dX12_road_0 rfl 0 rfl ?_
  refine ea_iload_n (pc := 1) dX12_road_1 rfl 1 rfl ?_
  obtain ⟨a7, e8, f5, g6, H⟩ := H
  refine ea_deref1 e8 ?_
  obtain ⟨d1, xc9, h2, m3, q4, H⟩ := H
  refine ea_callV (pc := 2) (As := [vI x1]) (st := []) dX12_road_2 kX12_isTown m3 q4 rfl (Nat.le_of_ble_eq_true rfl) ew_1708 ew_1710 ew_47 (ci := 12) rfl (by decide) f5 g6 ?_
  refine ea_if_eq (pc := 5) (tgt := 32) dX12_road_5 rfl (fun c43 => ?_) (fun c43 => ?_)
  · have H := H.1 c43
    refine ea_iconst (pc := 32) dX12_road_32 (v := 0) rfl ?_
    obtain ⟨rfl, rfl⟩ := H
    exact ea_ireturn (pc := 33) dX12_road_33 rfl (ea_bn (Or.inl rfl))
  · have H := H.2 c43
    refine ea_aload_n (pc := 8) dX12_road_8 rfl 0 rfl ?_
    refine ea_iload_n (pc := 9) dX12_road_9 rfl 2 rfl ?_
    obtain ⟨f14, g15, H⟩ := H
    refine ea_deref1 e8 ?_
    obtain ⟨d10, xc16, h11, m12, q13, H⟩ := H
    refine ea_callV (pc := 10) (As := [vI x2]) (st := []) dX12_road_10 kX12_isTown m12 q13 rfl (Nat.le_of_ble_eq_true rfl) ew_1708 ew_1710 ew_47 (ci := 12) rfl (by decide) f14 g15 ?_
    refine ea_if_eq (pc := 13) (tgt := 32) dX12_road_13 rfl (fun c42 => ?_) (fun c42 => ?_)
    · have H := H.1 c42
      refine ea_iconst (pc := 32) dX12_road_32 (v := 0) rfl ?_
      obtain ⟨rfl, rfl⟩ := H
      exact ea_ireturn (pc := 33) dX12_road_33 rfl (ea_bn (Or.inl rfl))
    · have H := H.2 c42
      refine ea_iload_n (pc := 16) dX12_road_16 rfl 1 rfl ?_
      refine ea_iload_n (pc := 17) dX12_road_17 rfl 2 rfl ?_
      refine ea_icmp_eq (pc := 18) (tgt := 32) dX12_road_18 rfl (fun c41 => ?_) (fun c41 => ?_)
      · have H := H.1 c41
        refine ea_iconst (pc := 32) dX12_road_32 (v := 0) rfl ?_
        obtain ⟨rfl, rfl⟩ := H
        exact ea_ireturn (pc := 33) dX12_road_33 rfl (ea_bn (Or.inl rfl))
      · have H := H.2 c41
        refine ea_iload_n (pc := 21) dX12_road_21 rfl 3 rfl ?_
        refine ea_iconst (pc := 22) dX12_road_22 (v := 1) rfl ?_
        refine ea_sipush (pc := 23) dX12_road_23 (v := 999) rfl ?_
        obtain ⟨d17, xc21, h18, m19, q20, H⟩ := H
        refine ea_callS (pc := 26) (As := [vI x3, vI 1, vI 999]) (st := []) dX12_road_26 kX12_isIn m19 q20 rfl (Nat.le_of_ble_eq_true rfl) ew_1712 ew_1713 ?_
        refine ea_if_ne (pc := 29) (tgt := 34) dX12_road_29 rfl (fun c40 => ?_) (fun c40 => ?_)
        · have H := H.1 c40
          refine ea_aload_n (pc := 34) dX12_road_34 rfl 0 rfl ?_
          obtain ⟨f22, g23, H⟩ := H
          refine ea_deref0 e8 ?_
          refine ea_getR (pc := 35) dX12_road_35 ec_12 (k := 3) (Nat.le_of_ble_eq_true rfl) rfl (Or.inl ew_1348) f22 g23 rfl ?_
          refine ea_bipush (pc := 38) dX12_road_38 (v := 12) rfl ?_
          refine ea_iload_n (pc := 40) dX12_road_40 rfl 1 rfl ?_
          refine ea_imul (pc := 41) dX12_road_41 ?_
          refine ea_iload_n (pc := 42) dX12_road_42 rfl 2 rfl ?_
          refine ea_iadd (pc := 43) dX12_road_43 ?_
          refine ea_iload_n (pc := 44) dX12_road_44 rfl 3 rfl ?_
          obtain ⟨a26, e27, f24, g25, H⟩ := H
          refine ea_deref2 e27 ?_
          obtain ⟨z28, H⟩ := H
          refine ea_iast (pc := 45) dX12_road_45 f24 g25 z28 ?_
          obtain ⟨h29, E30⟩ : ∃ z, z = ea_wi h18 a26 (Int32.toNatClampNeg (((12 : Int32) * x1) + x2)) x3 := ⟨_, rfl⟩
          have H := H h29 E30
          refine ea_nm E30 ?_
          refine ea_aload_n (pc := 46) dX12_road_46 rfl 0 rfl ?_
          obtain ⟨f31, g32, H⟩ := H
          refine ea_deref0 e8 ?_
          refine ea_getR (pc := 47) dX12_road_47 ec_12 (k := 3) (Nat.le_of_ble_eq_true rfl) rfl (Or.inl ew_1348) f31 g32 rfl ?_
          refine ea_bipush (pc := 50) dX12_road_50 (v := 12) rfl ?_
          refine ea_iload_n (pc := 52) dX12_road_52 rfl 2 rfl ?_
          refine ea_imul (pc := 53) dX12_road_53 ?_
          refine ea_iload_n (pc := 54) dX12_road_54 rfl 1 rfl ?_
          refine ea_iadd (pc := 55) dX12_road_55 ?_
          refine ea_iload_n (pc := 56) dX12_road_56 rfl 3 rfl ?_
          obtain ⟨a35, e36, f33, g34, H⟩ := H
          refine ea_deref2 e36 ?_
          obtain ⟨z37, H⟩ := H
          refine ea_iast (pc := 57) dX12_road_57 f33 g34 z37 ?_
          obtain ⟨h38, E39⟩ : ∃ z, z = ea_wi h29 a35 (Int32.toNatClampNeg (((12 : Int32) * x2) + x1)) x3 := ⟨_, rfl⟩
          have H := H h38 E39
          refine ea_nm E39 ?_
          refine ea_iconst (pc := 58) dX12_road_58 (v := 1) rfl ?_
          obtain ⟨rfl, rfl⟩ := H
          exact ea_ireturn (pc := 59) dX12_road_59 rfl (ea_bn (Or.inr rfl))
        · have H := H.2 c40
          refine ea_iconst (pc := 32) dX12_road_32 (v := 0) rfl ?_
          obtain ⟨rfl, rfl⟩ := H
          exact ea_ireturn (pc := 33) dX12_road_33 rfl (ea_bn (Or.inl rfl))
theorem dX12_spreads_0 : decode cX12_spreads 0 = .ok (.iconst 0, 1) := by decide +kernel
theorem dX12_spreads_1 : decode cX12_spreads 1 = .ok (.istore_n 3, 1) := by decide +kernel
theorem dX12_spreads_2 : decode cX12_spreads 2 = .ok (.iload_n 3, 1) := by decide +kernel
theorem dX12_spreads_3 : decode cX12_spreads 3 = .ok (.bipush 12, 2) := by decide +kernel
theorem dX12_spreads_5 : decode cX12_spreads 5 = .ok (.if_icmp .ge 27, 3) := by decide +kernel
theorem dX12_spreads_8 : decode cX12_spreads 8 = .ok (.aload_n 0, 1) := by decide +kernel
theorem dX12_spreads_9 : decode cX12_spreads 9 = .ok (.getfield 35, 3) := by decide +kernel
theorem dX12_spreads_12 : decode cX12_spreads 12 = .ok (.iload_n 3, 1) := by decide +kernel
theorem dX12_spreads_13 : decode cX12_spreads 13 = .ok (.iload_n 3, 1) := by decide +kernel
theorem dX12_spreads_14 : decode cX12_spreads 14 = .ok (.iload_n 1, 1) := by decide +kernel
theorem dX12_spreads_15 : decode cX12_spreads 15 = .ok (.if_icmp .ne 7, 3) := by decide +kernel
theorem dX12_spreads_18 : decode cX12_spreads 18 = .ok (.iconst 0, 1) := by decide +kernel
theorem dX12_spreads_19 : decode cX12_spreads 19 = .ok (.goto 6, 3) := by decide +kernel
theorem dX12_spreads_22 : decode cX12_spreads 22 = .ok (.ldc_w 301, 3) := by decide +kernel
theorem dX12_spreads_25 : decode cX12_spreads 25 = .ok (.iastore, 1) := by decide +kernel
theorem dX12_spreads_26 : decode cX12_spreads 26 = .ok (.iinc 3 1, 3) := by decide +kernel
theorem dX12_spreads_29 : decode cX12_spreads 29 = .ok (.goto (-27), 3) := by decide +kernel
theorem dX12_spreads_32 : decode cX12_spreads 32 = .ok (.iconst 1, 1) := by decide +kernel
theorem dX12_spreads_33 : decode cX12_spreads 33 = .ok (.istore_n 3, 1) := by decide +kernel
theorem dX12_spreads_34 : decode cX12_spreads 34 = .ok (.iload_n 3, 1) := by decide +kernel
theorem dX12_spreads_35 : decode cX12_spreads 35 = .ok (.ifCond .eq 119, 3) := by decide +kernel
theorem dX12_spreads_38 : decode cX12_spreads 38 = .ok (.iconst 0, 1) := by decide +kernel
theorem dX12_spreads_39 : decode cX12_spreads 39 = .ok (.istore_n 3, 1) := by decide +kernel
theorem dX12_spreads_40 : decode cX12_spreads 40 = .ok (.iload_n 2, 1) := by decide +kernel
theorem dX12_spreads_41 : decode cX12_spreads 41 = .ok (.istore 4, 2) := by decide +kernel
theorem dX12_spreads_43 : decode cX12_spreads 43 = .ok (.iload 4, 2) := by decide +kernel
theorem dX12_spreads_45 : decode cX12_spreads 45 = .ok (.aload_n 0, 1) := by decide +kernel
theorem dX12_spreads_46 : decode cX12_spreads 46 = .ok (.getfield 283, 3) := by decide +kernel
theorem dX12_spreads_49 : decode cX12_spreads 49 = .ok (.if_icmp .ge 102, 3) := by decide +kernel
theorem dX12_spreads_52 : decode cX12_spreads 52 = .ok (.iload_n 2, 1) := by decide +kernel
theorem dX12_spreads_53 : decode cX12_spreads 53 = .ok (.istore 5, 2) := by decide +kernel
theorem dX12_spreads_55 : decode cX12_spreads 55 = .ok (.iload 5, 2) := by decide +kernel
theorem dX12_spreads_57 : decode cX12_spreads 57 = .ok (.aload_n 0, 1) := by decide +kernel
theorem dX12_spreads_58 : decode cX12_spreads 58 = .ok (.getfield 283, 3) := by decide +kernel
theorem dX12_spreads_61 : decode cX12_spreads 61 = .ok (.if_icmp .ge 84, 3) := by decide +kernel
theorem dX12_spreads_64 : decode cX12_spreads 64 = .ok (.aload_n 0, 1) := by decide +kernel
theorem dX12_spreads_65 : decode cX12_spreads 65 = .ok (.getfield 7, 3) := by decide +kernel
theorem dX12_spreads_68 : decode cX12_spreads 68 = .ok (.bipush 12, 2) := by decide +kernel
theorem dX12_spreads_70 : decode cX12_spreads 70 = .ok (.iload 4, 2) := by decide +kernel
theorem dX12_spreads_72 : decode cX12_spreads 72 = .ok (.imul, 1) := by decide +kernel
theorem dX12_spreads_73 : decode cX12_spreads 73 = .ok (.iload 5, 2) := by decide +kernel
theorem dX12_spreads_75 : decode cX12_spreads 75 = .ok (.iadd, 1) := by decide +kernel
theorem dX12_spreads_76 : decode cX12_spreads 76 = .ok (.iaload, 1) := by decide +kernel
theorem dX12_spreads_77 : decode cX12_spreads 77 = .ok (.istore 6, 2) := by decide +kernel
theorem dX12_spreads_79 : decode cX12_spreads 79 = .ok (.iload 6, 2) := by decide +kernel
theorem dX12_spreads_81 : decode cX12_spreads 81 = .ok (.ifCond .eq 58, 3) := by decide +kernel
theorem dX12_spreads_84 : decode cX12_spreads 84 = .ok (.aload_n 0, 1) := by decide +kernel
theorem dX12_spreads_85 : decode cX12_spreads 85 = .ok (.getfield 35, 3) := by decide +kernel
theorem dX12_spreads_88 : decode cX12_spreads 88 = .ok (.iload 4, 2) := by decide +kernel
theorem dX12_spreads_90 : decode cX12_spreads 90 = .ok (.iaload, 1) := by decide +kernel
theorem dX12_spreads_91 : decode cX12_spreads 91 = .ok (.ldc_w 301, 3) := by decide +kernel
theorem dX12_spreads_94 : decode cX12_spreads 94 = .ok (.if_icmp .eq 45, 3) := by decide +kernel
theorem dX12_spreads_97 : decode cX12_spreads 97 = .ok (.aload_n 0, 1) := by decide +kernel
theorem dX12_spreads_98 : decode cX12_spreads 98 = .ok (.getfield 35, 3) := by decide +kernel
theorem dX12_spreads_101 : decode cX12_spreads 101 = .ok (.iload 4, 2) := by decide +kernel
theorem dX12_spreads_103 : decode cX12_spreads 103 = .ok (.iaload, 1) := by decide +kernel
theorem dX12_spreads_104 : decode cX12_spreads 104 = .ok (.iload 6, 2) := by decide +kernel
theorem dX12_spreads_106 : decode cX12_spreads 106 = .ok (.iadd, 1) := by decide +kernel
theorem dX12_spreads_107 : decode cX12_spreads 107 = .ok (.aload_n 0, 1) := by decide +kernel
theorem dX12_spreads_108 : decode cX12_spreads 108 = .ok (.getfield 35, 3) := by decide +kernel
theorem dX12_spreads_111 : decode cX12_spreads 111 = .ok (.iload 5, 2) := by decide +kernel
theorem dX12_spreads_113 : decode cX12_spreads 113 = .ok (.iaload, 1) := by decide +kernel
theorem dX12_spreads_114 : decode cX12_spreads 114 = .ok (.if_icmp .lt 6, 3) := by decide +kernel
theorem dX12_spreads_117 : decode cX12_spreads 117 = .ok (.goto 22, 3) := by decide +kernel
theorem dX12_spreads_120 : decode cX12_spreads 120 = .ok (.aload_n 0, 1) := by decide +kernel
theorem dX12_spreads_121 : decode cX12_spreads 121 = .ok (.getfield 35, 3) := by decide +kernel
theorem dX12_spreads_124 : decode cX12_spreads 124 = .ok (.iload 5, 2) := by decide +kernel
theorem dX12_spreads_126 : decode cX12_spreads 126 = .ok (.aload_n 0, 1) := by decide +kernel
theorem dX12_spreads_127 : decode cX12_spreads 127 = .ok (.getfield 35, 3) := by decide +kernel
theorem dX12_spreads_130 : decode cX12_spreads 130 = .ok (.iload 4, 2) := by decide +kernel
theorem dX12_spreads_132 : decode cX12_spreads 132 = .ok (.iaload, 1) := by decide +kernel
theorem dX12_spreads_133 : decode cX12_spreads 133 = .ok (.iload 6, 2) := by decide +kernel
theorem dX12_spreads_135 : decode cX12_spreads 135 = .ok (.iadd, 1) := by decide +kernel
theorem dX12_spreads_136 : decode cX12_spreads 136 = .ok (.iastore, 1) := by decide +kernel
theorem dX12_spreads_137 : decode cX12_spreads 137 = .ok (.iconst 1, 1) := by decide +kernel
theorem dX12_spreads_138 : decode cX12_spreads 138 = .ok (.istore_n 3, 1) := by decide +kernel
theorem dX12_spreads_139 : decode cX12_spreads 139 = .ok (.iinc 5 1, 3) := by decide +kernel
theorem dX12_spreads_142 : decode cX12_spreads 142 = .ok (.goto (-87), 3) := by decide +kernel
theorem dX12_spreads_145 : decode cX12_spreads 145 = .ok (.iinc 4 1, 3) := by decide +kernel
theorem dX12_spreads_148 : decode cX12_spreads 148 = .ok (.goto (-105), 3) := by decide +kernel
theorem dX12_spreads_151 : decode cX12_spreads 151 = .ok (.goto (-117), 3) := by decide +kernel
theorem dX12_spreads_154 : decode cX12_spreads 154 = .ok (.return_, 1) := by decide +kernel
theorem bX12_spreads_0 {d : Nat} {h0 hE h : ea_H} {rv : Option ea_V} {r0 : Option Nat} {x1 : Int32} {x2 : Int32} (H : ea_W mX12_spreads d h0 rv hE 2 [(0, vR r0), (1, vI x1), (2, vI x2), (3, vI 0)] [] h) : ea_W mX12_spreads d h0 rv hE 0 [(0, vR r0), (1, vI x1), (2, vI x2)] [] h := by
  refine ea_iconst (pc := 0) dX12_spreads_0 (v := 0) rfl ?_
  refine ea_istore_n (pc := 1) (lv' := [(0, vR r0), (1, vI x1), (2, vI x2), (3, vI 0)]) dX12_spreads_1 rfl (Nat.le_of_ble_eq_true rfl) [1, 2, 3, 0] rfl ?_
  exact H
theorem bX12_spreads_2 {d : Nat} {h0 hE h : ea_H} {rv : Option ea_V} {r0 : Option Nat} {x1 : Int32} {x2 : Int32} {x3 : Int32} (H : ((12 : Int32) ≤ x3 → ea_W mX12_spreads d h0 rv hE 34 [(0, vR r0), (2, vI x2), (3, vI 1)] [] h) ∧ (¬ (12 : Int32) ≤ x3 → ∃ a3, r0 = some a3 ∧ a3 < ea_n h ∧ ea_c h a3 = 12 ∧ (¬ x3 = x1 → ∃ a7, (ea_r h a3 11) = some a7 ∧ a7 < ea_n h ∧ ea_c h a7 = 20 ∧ vp_in x3 (ea_l h a7) ∧ ∀ h10, h10 = ea_wi h a7 (Int32.toNatClampNeg x3) 1000000 → ea_W mX12_spreads d h0 rv hE 2 [(0, vR r0), (1, vI x1), (2, vI x2), (3, vI (x3 + 1))] [] h10) ∧ (x3 = x1 → ∃ a14, (ea_r h a3 11) = some a14 ∧ a14 < ea_n h ∧ ea_c h a14 = 20 ∧ vp_in x3 (ea_l h a14) ∧ ∀ h17, h17 = ea_wi h a14 (Int32.toNatClampNeg x3) 0 → ea_W mX12_spreads d h0 rv hE 2 [(0, vR r0), (1, vI x1), (2, vI x2), (3, vI (x3 + 1))] [] h17))) : ea_W mX12_spreads d h0 rv hE 2 [(0, vR r0), (1, vI x1), (2, vI x2), (3, vI x3)] [] h := by
  refine ea_iload_n (pc := 2) dX12_spreads_2 rfl 3 rfl ?_
  refine ea_bipush (pc := 3) dX12_spreads_3 (v := 12) rfl ?_
  refine ea_icmp_ge (pc := 5) (tgt := 32) dX12_spreads_5 rfl (fun c20 => ?_) (fun c20 => ?_)
  · have H := H.1 c20
    refine ea_iconst (pc := 32) dX12_spreads_32 (v := 1) rfl ?_
    refine ea_istore_n (pc := 33) (lv' := [(0, vR r0), (2, vI x2), (3, vI 1)]) dX12_spreads_33 rfl (Nat.le_of_ble_eq_true rfl) [1, 3, 0] rfl ?_
    exact H
  · have H := H.2 c20
    refine ea_aload_n (pc := 8) dX12_spreads_8 rfl 0 rfl ?_
    obtain ⟨a3, e4, f1, g2, H⟩ := H
    refine ea_deref0 e4 ?_
    refine ea_getR (pc := 9) dX12_spreads_9 ec_12 (k := 11) (Nat.le_of_ble_eq_true rfl) rfl (Or.inl ew_1356) f1 g2 rfl ?_
    refine ea_iload_n (pc := 12) dX12_spreads_12 rfl 3 rfl ?_
    refine ea_iload_n (pc := 13) dX12_spreads_13 rfl 3 rfl ?_
    refine ea_iload_n (pc := 14) dX12_spreads_14 rfl 1 rfl ?_
    refine ea_icmp_ne (pc := 15) (tgt := 22) dX12_spreads_15 rfl (fun c19 => ?_) (fun c19 => ?_)
    · have H := H.1 c19
      refine ea_ldcw (pc := 22) dX12_spreads_22 ew_1727 ?_
      obtain ⟨a7, e8, f5, g6, H⟩ := H
      refine ea_deref2 e8 ?_
      obtain ⟨z9, H⟩ := H
      refine ea_iast (pc := 25) dX12_spreads_25 f5 g6 z9 ?_
      obtain ⟨h10, E11⟩ : ∃ z, z = ea_wi h a7 (Int32.toNatClampNeg x3) 1000000 := ⟨_, rfl⟩
      have H := H h10 E11
      refine ea_nm E11 ?_
      refine ea_iinc (pc := 26) (v := 1) (lv' := [(0, vR r0), (1, vI x1), (2, vI x2), (3, vI (x3 + 1))]) dX12_spreads_26 3 rfl rfl (Nat.le_of_ble_eq_true rfl) [1, 2, 3, 0] rfl ?_
      refine ea_goto (pc := 29) (tgt := 2) dX12_spreads_29 rfl ?_
      exact H
    · have H := H.2 c19
      refine ea_iconst (pc := 18) dX12_spreads_18 (v := 0) rfl ?_
      refine ea_goto (pc := 19) (tgt := 25) dX12_spreads_19 rfl ?_
      obtain ⟨a14, e15, f12, g13, H⟩ := H
      refine ea_deref2 e15 ?_
      obtain ⟨z16, H⟩ := H
      refine ea_iast (pc := 25) dX12_spreads_25 f12 g13 z16 ?_
      obtain ⟨h17, E18⟩ : ∃ z, z = ea_wi h a14 (Int32.toNatClampNeg x3) 0 := ⟨_, rfl⟩
      have H := H h17 E18
      refine ea_nm E18 ?_
      refine ea_iinc (pc := 26) (v := 1) (lv' := [(0, vR r0), (1, vI x1), (2, vI x2), (3, vI (x3 + 1))]) dX12_spreads_26 3 rfl rfl (Nat.le_of_ble_eq_true rfl) [1, 2, 3, 0] rfl ?_
      refine ea_goto (pc := 29) (tgt := 2) dX12_spreads_29 rfl ?_
      exact H
theorem bX12_spreads_34 {d : Nat} {h0 hE h : ea_H} {rv : Option ea_V} {r0 : Option Nat} {x2 : Int32} {x3 : Int32} (H : (x3 = (0 : Int32) → rv = none ∧ hE = h) ∧ (¬ x3 = (0 : Int32) → ea_W mX12_spreads d h0 rv hE 43 [(0, vR r0), (2, vI x2), (3, vI 0), (4, vI x2)] [] h)) : ea_W mX12_spreads d h0 rv hE 34 [(0, vR r0), (2, vI x2), (3, vI x3)] [] h := by
  refine ea_iload_n (pc := 34) dX12_spreads_34 rfl 2 rfl ?_
  refine ea_if_eq (pc := 35) (tgt := 154) dX12_spreads_35 rfl (fun c1 => ?_) (fun c1 => ?_)
  · have H := H.1 c1
    obtain ⟨rfl, rfl⟩ := H
    exact ea_return (pc := 154) dX12_spreads_154 rfl
  · have H := H.2 c1
    refine ea_iconst (pc := 38) dX12_spreads_38 (v := 0) rfl ?_
    refine ea_istore_n (pc := 39) (lv' := [(0, vR r0), (2, vI x2), (3, vI 0)]) dX12_spreads_39 rfl (Nat.le_of_ble_eq_true rfl) [1, 2, 0] rfl ?_
    refine ea_iload_n (pc := 40) dX12_spreads_40 rfl 1 rfl ?_
    refine ea_istore (pc := 41) (lv' := [(0, vR r0), (2, vI x2), (3, vI 0), (4, vI x2)]) dX12_spreads_41 (Nat.le_of_ble_eq_true rfl) [1, 2, 3, 0] rfl ?_
    exact H
theorem bX12_spreads_43 {d : Nat} {h0 hE h : ea_H} {rv : Option ea_V} {r0 : Option Nat} {x2 : Int32} {x3 : Int32} {x4 : Int32} (H : ∃ a3, r0 = some a3 ∧ a3 < ea_n h ∧ ea_c h a3 = 12 ∧ ((ea_i h a3 1) ≤ x4 → ea_W mX12_spreads d h0 rv hE 34 [(0, vR r0), (2, vI x2), (3, vI x3)] [] h) ∧ (¬ (ea_i h a3 1) ≤ x4 → ea_W mX12_spreads d h0 rv hE 55 [(0, vR r0), (2, vI x2), (3, vI x3), (4, vI x4), (5, vI x2)] [] h)) : ea_W mX12_spreads d h0 rv hE 43 [(0, vR r0), (2, vI x2), (3, vI x3), (4, vI x4)] [] h := by
  refine ea_iload (pc := 43) dX12_spreads_43 3 rfl ?_
  refine ea_aload_n (pc := 45) dX12_spreads_45 rfl 0 rfl ?_
  obtain ⟨a3, e4, f1, g2, H⟩ := H
  refine ea_deref0 e4 ?_
  refine ea_getI (pc := 46) dX12_spreads_46 ec_12 (k := 1) (Nat.le_of_ble_eq_true rfl) rfl (Or.inl ew_1346) f1 g2 ?_
  refine ea_icmp_ge (pc := 49) (tgt := 151) dX12_spreads_49 rfl (fun c5 => ?_) (fun c5 => ?_)
  · have H := H.1 c5
    refine ea_goto (pc := 151) (tgt := 34) dX12_spreads_151 rfl ?_
    exact ea_fewer [0, 1, 2] rfl H
  · have H := H.2 c5
    refine ea_iload_n (pc := 52) dX12_spreads_52 rfl 1 rfl ?_
    refine ea_istore (pc := 53) (lv' := [(0, vR r0), (2, vI x2), (3, vI x3), (4, vI x4), (5, vI x2)]) dX12_spreads_53 (Nat.le_of_ble_eq_true rfl) [1, 2, 3, 4, 0] rfl ?_
    exact H
theorem bX12_spreads_55 {d : Nat} {h0 hE h : ea_H} {rv : Option ea_V} {r0 : Option Nat} {x2 : Int32} {x3 : Int32} {x4 : Int32} {x5 : Int32} (H : ∃ a3, r0 = some a3 ∧ a3 < ea_n h ∧ ea_c h a3 = 12 ∧ ((ea_i h a3 1) ≤ x5 → ea_W mX12_spreads d h0 rv hE 43 [(0, vR r0), (2, vI x2), (3, vI x3), (4, vI (x4 + 1))] [] h) ∧ (¬ (ea_i h a3 1) ≤ x5 → a3 < ea_n h ∧ ea_c h a3 = 12 ∧ ∃ a9, (ea_r h a3 3) = some a9 ∧ a9 < ea_n h ∧ ea_c h a9 = 20 ∧ vp_in (((12 : Int32) * x4) + x5) (ea_l h a9) ∧ ((ea_i h a9 (Int32.toNatClampNeg (((12 : Int32) * x4) + x5))) = (0 : Int32) → ea_W mX12_spreads d h0 rv hE 55 [(0, vR r0), (2, vI x2), (3, vI x3), (4, vI x4), (5, vI (x5 + 1))] [] h) ∧ (¬ (ea_i h a9 (Int32.toNatClampNeg (((12 : Int32) * x4) + x5))) = (0 : Int32) → a3 < ea_n h ∧ ea_c h a3 = 12 ∧ ∃ a16, (ea_r h a3 11) = some a16 ∧ a16 < ea_n h ∧ ea_c h a16 = 20 ∧ vp_in x4 (ea_l h a16) ∧ ((ea_i h a16 (Int32.toNatClampNeg x4)) = (1000000 : Int32) → ea_W mX12_spreads d h0 rv hE 55 [(0, vR r0), (2, vI x2), (3, vI x3), (4, vI x4), (5, vI (x5 + 1))] [] h) ∧ (¬ (ea_i h a16 (Int32.toNatClampNeg x4)) = (1000000 : Int32) → a3 < ea_n h ∧ ea_c h a3 = 12 ∧ a16 < ea_n h ∧ ea_c h a16 = 20 ∧ vp_in x4 (ea_l h a16) ∧ a3 < ea_n h ∧ ea_c h a3 = 12 ∧ a16 < ea_n h ∧ ea_c h a16 = 20 ∧ vp_in x5 (ea_l h a16) ∧ (((ea_i h a16 (Int32.toNatClampNeg x4)) + (ea_i h a9 (Int32.toNatClampNeg (((12 : Int32) * x4) + x5)))) < (ea_i h a16 (Int32.toNatClampNeg x5)) → a3 < ea_n h ∧ ea_c h a3 = 12 ∧ a3 < ea_n h ∧ ea_c h a3 = 12 ∧ a16 < ea_n h ∧ ea_c h a16 = 20 ∧ vp_in x4 (ea_l h a16) ∧ a16 < ea_n h ∧ ea_c h a16 = 20 ∧ vp_in x5 (ea_l h a16) ∧ ∀ h39, h39 = ea_wi h a16 (Int32.toNatClampNeg x5) ((ea_i h a16 (Int32.toNatClampNeg x4)) + (ea_i h a9 (Int32.toNatClampNeg (((12 : Int32) * x4) + x5)))) → ea_W mX12_spreads d h0 rv hE 55 [(0, vR r0), (2, vI x2), (3, vI 1), (4, vI x4), (5, vI (x5 + 1))] [] h39) ∧ (¬ ((ea_i h a16 (Int32.toNatClampNeg x4)) + (ea_i h a9 (Int32.toNatClampNeg (((12 : Int32) * x4) + x5)))) < (ea_i h a16 (Int32.toNatClampNeg x5)) → ea_W mX12_spreads d h0 rv hE 55 [(0, vR r0), (2, vI x2), (3, vI x3), (4, vI x4), (5, vI (x5 + 1))] [] h))))) : ea_W mX12_spreads d h0 rv hE 55 [(0, vR r0), (2, vI x2), (3, vI x3), (4, vI x4), (5, vI x5)] [] h := by
  refine ea_iload (pc := 55) dX12_spreads_55 4 rfl ?_
  refine ea_aload_n (pc := 57) dX12_spreads_57 rfl 0 rfl ?_
  obtain ⟨a3, e4, f1, g2, H⟩ := H
  refine ea_deref0 e4 ?_
  refine ea_getI (pc := 58) dX12_spreads_58 ec_12 (k := 1) (Nat.le_of_ble_eq_true rfl) rfl (Or.inl ew_1346) f1 g2 ?_
  refine ea_icmp_ge (pc := 61) (tgt := 145) dX12_spreads_61 rfl (fun c44 => ?_) (fun c44 => ?_)
  · have H := H.1 c44
    refine ea_iinc (pc := 145) (v := 1) (lv' := [(0, vR r0), (2, vI x2), (3, vI x3), (4, vI (x4 + 1))]) dX12_spreads_145 3 rfl rfl (Nat.le_of_ble_eq_true rfl) [1, 2, 3, 0] rfl ?_
    refine ea_goto (pc := 148) (tgt := 43) dX12_spreads_148 rfl ?_
    exact H
  · have H := H.2 c44
    refine ea_aload_n (pc := 64) dX12_spreads_64 rfl 0 rfl ?_
    obtain ⟨f5, g6, H⟩ := H
    refine ea_deref0 e4 ?_
    refine ea_getR (pc := 65) dX12_spreads_65 ec_12 (k := 3) (Nat.le_of_ble_eq_true rfl) rfl (Or.inl ew_1348) f5 g6 rfl ?_
    refine ea_bipush (pc := 68) dX12_spreads_68 (v := 12) rfl ?_
    refine ea_iload (pc := 70) dX12_spreads_70 3 rfl ?_
    refine ea_imul (pc := 72) dX12_spreads_72 ?_
    refine ea_iload (pc := 73) dX12_spreads_73 4 rfl ?_
    refine ea_iadd (pc := 75) dX12_spreads_75 ?_
    obtain ⟨a9, e10, f7, g8, H⟩ := H
    refine ea_deref1 e10 ?_
    obtain ⟨z11, H⟩ := H
    refine ea_iald (pc := 76) dX12_spreads_76 f7 g8 z11 ?_
    refine ea_istore (pc := 77) (lv' := [(0, vR r0), (2, vI x2), (3, vI x3), (4, vI x4), (5, vI x5), (6, vI (ea_i h a9 (Int32.toNatClampNeg (((12 : Int32) * x4) + x5))))]) dX12_spreads_77 (Nat.le_of_ble_eq_true rfl) [1, 2, 3, 4, 5, 0] rfl ?_
    refine ea_iload (pc := 79) dX12_spreads_79 5 rfl ?_
    refine ea_if_eq (pc := 81) (tgt := 139) dX12_spreads_81 rfl (fun c43 => ?_) (fun c43 => ?_)
    · have H := H.1 c43
      refine ea_iinc (pc := 139) (v := 1) (lv' := [(0, vR r0), (2, vI x2), (3, vI x3), (4, vI x4), (5, vI (x5 + 1))]) dX12_spreads_139 4 rfl rfl (Nat.le_of_ble_eq_true rfl) [1, 2, 3, 4, 0] rfl ?_
      refine ea_goto (pc := 142) (tgt := 55) dX12_spreads_142 rfl ?_
      exact H
    · have H := H.2 c43
      refine ea_aload_n (pc := 84) dX12_spreads_84 rfl 0 rfl ?_
      obtain ⟨f12, g13, H⟩ := H
      refine ea_deref0 e4 ?_
      refine ea_getR (pc := 85) dX12_spreads_85 ec_12 (k := 11) (Nat.le_of_ble_eq_true rfl) rfl (Or.inl ew_1356) f12 g13 rfl ?_
      refine ea_iload (pc := 88) dX12_spreads_88 3 rfl ?_
      obtain ⟨a16, e17, f14, g15, H⟩ := H
      refine ea_deref1 e17 ?_
      obtain ⟨z18, H⟩ := H
      refine ea_iald (pc := 90) dX12_spreads_90 f14 g15 z18 ?_
      refine ea_ldcw (pc := 91) dX12_spreads_91 ew_1727 ?_
      refine ea_icmp_eq (pc := 94) (tgt := 139) dX12_spreads_94 rfl (fun c42 => ?_) (fun c42 => ?_)
      · have H := H.1 c42
        refine ea_iinc (pc := 139) (v := 1) (lv' := [(0, vR r0), (2, vI x2), (3, vI x3), (4, vI x4), (5, vI (x5 + 1))]) dX12_spreads_139 4 rfl rfl (Nat.le_of_ble_eq_true rfl) [1, 2, 3, 4, 0] rfl ?_
        refine ea_goto (pc := 142) (tgt := 55) dX12_spreads_142 rfl ?_
        exact H
      · have H := H.2 c42
        refine ea_aload_n (pc := 97) dX12_spreads_97 rfl 0 rfl ?_
        obtain ⟨f19, g20, H⟩ := H
        refine ea_deref0 e4 ?_
        refine ea_getR (pc := 98) dX12_spreads_98 ec_12 (k := 11) (Nat.le_of_ble_eq_true rfl) rfl (Or.inl ew_1356) f19 g20 rfl ?_
        refine ea_iload (pc := 101) dX12_spreads_101 3 rfl ?_
        obtain ⟨f21, g22, H⟩ := H
        refine ea_deref1 e17 ?_
        obtain ⟨z23, H⟩ := H
        refine ea_iald (pc := 103) dX12_spreads_103 f21 g22 z23 ?_
        refine ea_iload (pc := 104) dX12_spreads_104 5 rfl ?_
        refine ea_iadd (pc := 106) dX12_spreads_106 ?_
        refine ea_aload_n (pc := 107) dX12_spreads_107 rfl 0 rfl ?_
        obtain ⟨f24, g25, H⟩ := H
        refine ea_deref0 e4 ?_
        refine ea_getR (pc := 108) dX12_spreads_108 ec_12 (k := 11) (Nat.le_of_ble_eq_true rfl) rfl (Or.inl ew_1356) f24 g25 rfl ?_
        refine ea_iload (pc := 111) dX12_spreads_111 4 rfl ?_
        obtain ⟨f26, g27, H⟩ := H
        refine ea_deref1 e17 ?_
        obtain ⟨z28, H⟩ := H
        refine ea_iald (pc := 113) dX12_spreads_113 f26 g27 z28 ?_
        refine ea_icmp_lt (pc := 114) (tgt := 120) dX12_spreads_114 rfl (fun c41 => ?_) (fun c41 => ?_)
        · have H := H.1 c41
          refine ea_aload_n (pc := 120) dX12_spreads_120 rfl 0 rfl ?_
          obtain ⟨f29, g30, H⟩ := H
          refine ea_deref0 e4 ?_
          refine ea_getR (pc := 121) dX12_spreads_121 ec_12 (k := 11) (Nat.le_of_ble_eq_true rfl) rfl (Or.inl ew_1356) f29 g30 rfl ?_
          refine ea_iload (pc := 124) dX12_spreads_124 4 rfl ?_
          refine ea_aload_n (pc := 126) dX12_spreads_126 rfl 0 rfl ?_
          obtain ⟨f31, g32, H⟩ := H
          refine ea_deref0 e4 ?_
          refine ea_getR (pc := 127) dX12_spreads_127 ec_12 (k := 11) (Nat.le_of_ble_eq_true rfl) rfl (Or.inl ew_1356) f31 g32 rfl ?_
          refine ea_iload (pc := 130) dX12_spreads_130 3 rfl ?_
          obtain ⟨f33, g34, H⟩ := H
          refine ea_deref1 e17 ?_
          obtain ⟨z35, H⟩ := H
          refine ea_iald (pc := 132) dX12_spreads_132 f33 g34 z35 ?_
          refine ea_iload (pc := 133) dX12_spreads_133 5 rfl ?_
          refine ea_iadd (pc := 135) dX12_spreads_135 ?_
          obtain ⟨f36, g37, H⟩ := H
          refine ea_deref2 e17 ?_
          obtain ⟨z38, H⟩ := H
          refine ea_iast (pc := 136) dX12_spreads_136 f36 g37 z38 ?_
          obtain ⟨h39, E40⟩ : ∃ z, z = ea_wi h a16 (Int32.toNatClampNeg x5) ((ea_i h a16 (Int32.toNatClampNeg x4)) + (ea_i h a9 (Int32.toNatClampNeg (((12 : Int32) * x4) + x5)))) := ⟨_, rfl⟩
          have H := H h39 E40
          refine ea_nm E40 ?_
          refine ea_iconst (pc := 137) dX12_spreads_137 (v := 1) rfl ?_
          refine ea_istore_n (pc := 138) (lv' := [(0, vR r0), (2, vI x2), (3, vI 1), (4, vI x4), (5, vI x5)]) dX12_spreads_138 rfl (Nat.le_of_ble_eq_true rfl) [1, 2, 0, 3, 4] rfl ?_
          refine ea_iinc (pc := 139) (v := 1) (lv' := [(0, vR r0), (2, vI x2), (3, vI 1), (4, vI x4), (5, vI (x5 + 1))]) dX12_spreads_139 4 rfl rfl (Nat.le_of_ble_eq_true rfl) [1, 2, 3, 4, 0] rfl ?_
          refine ea_goto (pc := 142) (tgt := 55) dX12_spreads_142 rfl ?_
          exact H
        · have H := H.2 c41
          refine ea_goto (pc := 117) (tgt := 139) dX12_spreads_117 rfl ?_
          refine ea_iinc (pc := 139) (v := 1) (lv' := [(0, vR r0), (2, vI x2), (3, vI x3), (4, vI x4), (5, vI (x5 + 1))]) dX12_spreads_139 4 rfl rfl (Nat.le_of_ble_eq_true rfl) [1, 2, 3, 4, 0] rfl ?_
          refine ea_goto (pc := 142) (tgt := 55) dX12_spreads_142 rfl ?_
          exact H
theorem dX12_milesOf_0 : decode cX12_milesOf 0 = .ok (.aload_n 0, 1) := by decide +kernel
theorem dX12_milesOf_1 : decode cX12_milesOf 1 = .ok (.iload_n 1, 1) := by decide +kernel
theorem dX12_milesOf_2 : decode cX12_milesOf 2 = .ok (.iload_n 3, 1) := by decide +kernel
theorem dX12_milesOf_3 : decode cX12_milesOf 3 = .ok (.invokevirtual 302, 3) := by decide +kernel
theorem dX12_milesOf_6 : decode cX12_milesOf 6 = .ok (.aload_n 0, 1) := by decide +kernel
theorem dX12_milesOf_7 : decode cX12_milesOf 7 = .ok (.getfield 35, 3) := by decide +kernel
theorem dX12_milesOf_10 : decode cX12_milesOf 10 = .ok (.iload_n 2, 1) := by decide +kernel
theorem dX12_milesOf_11 : decode cX12_milesOf 11 = .ok (.iaload, 1) := by decide +kernel
theorem dX12_milesOf_12 : decode cX12_milesOf 12 = .ok (.ireturn, 1) := by decide +kernel
theorem bX12_milesOf_0 {d : Nat} {h0 hE h : ea_H} {rv : Option ea_V} {r0 : Option Nat} {x1 : Int32} {x2 : Int32} {x3 : Int32} (H : ∃ a7, r0 = some a7 ∧ a7 < ea_n h ∧ ea_c h a7 = 12 ∧ ∃ (d1 : Nat) (h2 : ea_H), ea_Met mX12_spreads d1 [vR (some a7), vI x1, vI x3] h none h2 ∧ d1 + 1 ≤ d ∧ a7 < ea_n h2 ∧ ea_c h2 a7 = 12 ∧ ∃ a13, (ea_r h2 a7 11) = some a13 ∧ a13 < ea_n h2 ∧ ea_c h2 a13 = 20 ∧ vp_in x2 (ea_l h2 a13) ∧ rv = some (vI (ea_i h2 a13 (Int32.toNatClampNeg x2))) ∧ hE = h2) : ea_W mX12_milesOf d h0 rv hE 0 [(0, vR r0), (1, vI x1), (2, vI x2), (3, vI x3)] [] h := by
  refine ea_aload_n (pc := 0) dX12_milesOf_0 rfl 0 rfl ?_
  refine ea_iload_n (pc := 1) dX12_milesOf_1 rfl 1 rfl ?_
  refine ea_iload_n (pc := 2) dX12_milesOf_2 rfl 3 rfl ?_
  obtain ⟨a7, e8, f5, g6, H⟩ := H
  refine ea_deref2 e8 ?_
  obtain ⟨d1, h2, m3, q4, H⟩ := H
  refine ea_callV (pc := 3) (As := [vI x1, vI x3]) (st := []) dX12_milesOf_3 kX12_spreads m3 q4 rfl (Nat.le_of_ble_eq_true rfl) ew_1723 ew_1725 ew_49 (ci := 12) rfl (by decide) f5 g6 ?_
  refine ea_aload_n (pc := 6) dX12_milesOf_6 rfl 0 rfl ?_
  obtain ⟨f9, g10, H⟩ := H
  refine ea_deref0 e8 ?_
  refine ea_getR (pc := 7) dX12_milesOf_7 ec_12 (k := 11) (Nat.le_of_ble_eq_true rfl) rfl (Or.inl ew_1356) f9 g10 rfl ?_
  refine ea_iload_n (pc := 10) dX12_milesOf_10 rfl 2 rfl ?_
  obtain ⟨a13, e14, f11, g12, H⟩ := H
  refine ea_deref1 e14 ?_
  obtain ⟨z15, H⟩ := H
  refine ea_iald (pc := 11) dX12_milesOf_11 f11 g12 z15 ?_
  obtain ⟨rfl, rfl⟩ := H
  exact ea_ireturn (pc := 12) dX12_milesOf_12 rfl rfl
theorem dX12_miles_0 : decode cX12_miles 0 = .ok (.aload_n 0, 1) := by decide +kernel
theorem dX12_miles_1 : decode cX12_miles 1 = .ok (.iload_n 1, 1) := by decide +kernel
theorem dX12_miles_2 : decode cX12_miles 2 = .ok (.invokevirtual 297, 3) := by decide +kernel
theorem dX12_miles_5 : decode cX12_miles 5 = .ok (.ifCond .eq 11, 3) := by decide +kernel
theorem dX12_miles_8 : decode cX12_miles 8 = .ok (.aload_n 0, 1) := by decide +kernel
theorem dX12_miles_9 : decode cX12_miles 9 = .ok (.iload_n 2, 1) := by decide +kernel
theorem dX12_miles_10 : decode cX12_miles 10 = .ok (.invokevirtual 297, 3) := by decide +kernel
theorem dX12_miles_13 : decode cX12_miles 13 = .ok (.ifCond .ne 5, 3) := by decide +kernel
theorem dX12_miles_16 : decode cX12_miles 16 = .ok (.iconst (-1), 1) := by decide +kernel
theorem dX12_miles_17 : decode cX12_miles 17 = .ok (.ireturn, 1) := by decide +kernel
theorem dX12_miles_18 : decode cX12_miles 18 = .ok (.aload_n 0, 1) := by decide +kernel
theorem dX12_miles_19 : decode cX12_miles 19 = .ok (.iload_n 1, 1) := by decide +kernel
theorem dX12_miles_20 : decode cX12_miles 20 = .ok (.iload_n 2, 1) := by decide +kernel
theorem dX12_miles_21 : decode cX12_miles 21 = .ok (.iconst 0, 1) := by decide +kernel
theorem dX12_miles_22 : decode cX12_miles 22 = .ok (.invokevirtual 306, 3) := by decide +kernel
theorem dX12_miles_25 : decode cX12_miles 25 = .ok (.istore_n 3, 1) := by decide +kernel
theorem dX12_miles_26 : decode cX12_miles 26 = .ok (.iload_n 3, 1) := by decide +kernel
theorem dX12_miles_27 : decode cX12_miles 27 = .ok (.ldc_w 301, 3) := by decide +kernel
theorem dX12_miles_30 : decode cX12_miles 30 = .ok (.if_icmp .ne 7, 3) := by decide +kernel
theorem dX12_miles_33 : decode cX12_miles 33 = .ok (.iconst (-1), 1) := by decide +kernel
theorem dX12_miles_34 : decode cX12_miles 34 = .ok (.goto 4, 3) := by decide +kernel
theorem dX12_miles_37 : decode cX12_miles 37 = .ok (.iload_n 3, 1) := by decide +kernel
theorem dX12_miles_38 : decode cX12_miles 38 = .ok (.ireturn, 1) := by decide +kernel
theorem bX12_miles_0 {d : Nat} {h0 hE h : ea_H} {rv : Option ea_V} {r0 : Option Nat} {x1 : Int32} {x2 : Int32} (H : ∃ a7, r0 = some a7 ∧ a7 < ea_n h ∧ ea_c h a7 = 12 ∧ ∃ (d1 : Nat) (xc9 : Int32) (h2 : ea_H), ea_Met mX12_isTown d1 [vR (some a7), vI x1] h (some (vI xc9)) h2 ∧ d1 + 1 ≤ d ∧ (xc9 = (0 : Int32) → rv = some (vI (-1)) ∧ hE = h2) ∧ (¬ xc9 = (0 : Int32) → a7 < ea_n h2 ∧ ea_c h2 a7 = 12 ∧ ∃ (d10 : Nat) (xc16 : Int32) (h11 : ea_H), ea_Met mX12_isTown d10 [vR (some a7), vI x2] h2 (some (vI xc16)) h11 ∧ d10 + 1 ≤ d ∧ (¬ xc16 = (0 : Int32) → a7 < ea_n h11 ∧ ea_c h11 a7 = 12 ∧ ∃ (d17 : Nat) (xc23 : Int32) (h18 : ea_H), ea_Met mX12_milesOf d17 [vR (some a7), vI x1, vI x2, vI 0] h11 (some (vI xc23)) h18 ∧ d17 + 1 ≤ d ∧ (¬ xc23 = (1000000 : Int32) → rv = some (vI xc23) ∧ hE = h18) ∧ (xc23 = (1000000 : Int32) → rv = some (vI (-1)) ∧ hE = h18)) ∧ (xc16 = (0 : Int32) → rv = some (vI (-1)) ∧ hE = h11))) : ea_W mX12_miles d h0 rv hE 0 [(0, vR r0), (1, vI x1), (2, vI x2)] [] h := by
  refine ea_aload_n (pc := 0) dX12_miles_0 rfl 0 rfl ?_
  refine ea_iload_n (pc := 1) dX12_miles_1 rfl 1 rfl ?_
  obtain ⟨a7, e8, f5, g6, H⟩ := H
  refine ea_deref1 e8 ?_
  obtain ⟨d1, xc9, h2, m3, q4, H⟩ := H
  refine ea_callV (pc := 2) (As := [vI x1]) (st := []) dX12_miles_2 kX12_isTown m3 q4 rfl (Nat.le_of_ble_eq_true rfl) ew_1708 ew_1710 ew_47 (ci := 12) rfl (by decide) f5 g6 ?_
  refine ea_if_eq (pc := 5) (tgt := 16) dX12_miles_5 rfl (fun c26 => ?_) (fun c26 => ?_)
  · have H := H.1 c26
    refine ea_iconst (pc := 16) dX12_miles_16 (v := (-1)) rfl ?_
    obtain ⟨rfl, rfl⟩ := H
    exact ea_ireturn (pc := 17) dX12_miles_17 rfl rfl
  · have H := H.2 c26
    refine ea_aload_n (pc := 8) dX12_miles_8 rfl 0 rfl ?_
    refine ea_iload_n (pc := 9) dX12_miles_9 rfl 2 rfl ?_
    obtain ⟨f14, g15, H⟩ := H
    refine ea_deref1 e8 ?_
    obtain ⟨d10, xc16, h11, m12, q13, H⟩ := H
    refine ea_callV (pc := 10) (As := [vI x2]) (st := []) dX12_miles_10 kX12_isTown m12 q13 rfl (Nat.le_of_ble_eq_true rfl) ew_1708 ew_1710 ew_47 (ci := 12) rfl (by decide) f14 g15 ?_
    refine ea_if_ne (pc := 13) (tgt := 18) dX12_miles_13 rfl (fun c25 => ?_) (fun c25 => ?_)
    · have H := H.1 c25
      refine ea_aload_n (pc := 18) dX12_miles_18 rfl 0 rfl ?_
      refine ea_iload_n (pc := 19) dX12_miles_19 rfl 1 rfl ?_
      refine ea_iload_n (pc := 20) dX12_miles_20 rfl 2 rfl ?_
      refine ea_iconst (pc := 21) dX12_miles_21 (v := 0) rfl ?_
      obtain ⟨f21, g22, H⟩ := H
      refine ea_deref3 e8 ?_
      obtain ⟨d17, xc23, h18, m19, q20, H⟩ := H
      refine ea_callV (pc := 22) (As := [vI x1, vI x2, vI 0]) (st := []) dX12_miles_22 kX12_milesOf m19 q20 rfl (Nat.le_of_ble_eq_true rfl) ew_1719 ew_1721 ew_48 (ci := 12) rfl (by decide) f21 g22 ?_
      refine ea_istore_n (pc := 25) (lv' := [(3, vI xc23)]) dX12_miles_25 rfl (Nat.le_of_ble_eq_true rfl) [0] rfl ?_
      refine ea_iload_n (pc := 26) dX12_miles_26 rfl 0 rfl ?_
      refine ea_ldcw (pc := 27) dX12_miles_27 ew_1727 ?_
      refine ea_icmp_ne (pc := 30) (tgt := 37) dX12_miles_30 rfl (fun c24 => ?_) (fun c24 => ?_)
      · have H := H.1 c24
        refine ea_iload_n (pc := 37) dX12_miles_37 rfl 0 rfl ?_
        obtain ⟨rfl, rfl⟩ := H
        exact ea_ireturn (pc := 38) dX12_miles_38 rfl rfl
      · have H := H.2 c24
        refine ea_iconst (pc := 33) dX12_miles_33 (v := (-1)) rfl ?_
        refine ea_goto (pc := 34) (tgt := 38) dX12_miles_34 rfl ?_
        obtain ⟨rfl, rfl⟩ := H
        exact ea_ireturn (pc := 38) dX12_miles_38 rfl rfl
    · have H := H.2 c25
      refine ea_iconst (pc := 16) dX12_miles_16 (v := (-1)) rfl ?_
      obtain ⟨rfl, rfl⟩ := H
      exact ea_ireturn (pc := 17) dX12_miles_17 rfl rfl
theorem dX12_train_0 : decode cX12_train 0 = .ok (.aload_n 0, 1) := by decide +kernel
theorem dX12_train_1 : decode cX12_train 1 = .ok (.getfield 290, 3) := by decide +kernel
theorem dX12_train_4 : decode cX12_train 4 = .ok (.bipush 10, 2) := by decide +kernel
theorem dX12_train_6 : decode cX12_train 6 = .ok (.if_icmp .ne 5, 3) := by decide +kernel
theorem dX12_train_9 : decode cX12_train 9 = .ok (.iconst (-1), 1) := by decide +kernel
theorem dX12_train_10 : decode cX12_train 10 = .ok (.ireturn, 1) := by decide +kernel
theorem dX12_train_11 : decode cX12_train 11 = .ok (.aload_n 0, 1) := by decide +kernel
theorem dX12_train_12 : decode cX12_train 12 = .ok (.dup, 1) := by decide +kernel
theorem dX12_train_13 : decode cX12_train 13 = .ok (.getfield 290, 3) := by decide +kernel
theorem dX12_train_16 : decode cX12_train 16 = .ok (.iconst 1, 1) := by decide +kernel
theorem dX12_train_17 : decode cX12_train 17 = .ok (.iadd, 1) := by decide +kernel
theorem dX12_train_18 : decode cX12_train 18 = .ok (.putfield 290, 3) := by decide +kernel
theorem dX12_train_21 : decode cX12_train 21 = .ok (.aload_n 0, 1) := by decide +kernel
theorem dX12_train_22 : decode cX12_train 22 = .ok (.iconst 0, 1) := by decide +kernel
theorem dX12_train_23 : decode cX12_train 23 = .ok (.putfield 293, 3) := by decide +kernel
theorem dX12_train_26 : decode cX12_train 26 = .ok (.aload_n 0, 1) := by decide +kernel
theorem dX12_train_27 : decode cX12_train 27 = .ok (.getfield 290, 3) := by decide +kernel
theorem dX12_train_30 : decode cX12_train 30 = .ok (.iconst 1, 1) := by decide +kernel
theorem dX12_train_31 : decode cX12_train 31 = .ok (.isub, 1) := by decide +kernel
theorem dX12_train_32 : decode cX12_train 32 = .ok (.ireturn, 1) := by decide +kernel
theorem bX12_train_0 {d : Nat} {h0 hE h : ea_H} {rv : Option ea_V} {r0 : Option Nat} (H : ∃ a3, r0 = some a3 ∧ a3 < ea_n h ∧ ea_c h a3 = 12 ∧ (¬ (ea_i h a3 2) = (10 : Int32) → a3 < ea_n h ∧ ea_c h a3 = 12 ∧ a3 < ea_n h ∧ ea_c h a3 = 12 ∧ ∀ h9, h9 = ea_wi h a3 2 ((ea_i h a3 2) + (1 : Int32)) → a3 < ea_n h9 ∧ ea_c h9 a3 = 12 ∧ ∀ h13, h13 = ea_wi h9 a3 12 0 → a3 < ea_n h13 ∧ ea_c h13 a3 = 12 ∧ rv = some (vI ((ea_i h13 a3 2) - (1 : Int32))) ∧ hE = h13) ∧ ((ea_i h a3 2) = (10 : Int32) → rv = some (vI (-1)) ∧ hE = h)) : ea_W mX12_train d h0 rv hE 0 [(0, vR r0)] [] h := by
  refine ea_aload_n (pc := 0) dX12_train_0 rfl 0 rfl ?_
  obtain ⟨a3, e4, f1, g2, H⟩ := H
  refine ea_deref0 e4 ?_
  refine ea_getI (pc := 1) dX12_train_1 ec_12 (k := 2) (Nat.le_of_ble_eq_true rfl) rfl (Or.inl ew_1347) f1 g2 ?_
  refine ea_bipush (pc := 4) dX12_train_4 (v := 10) rfl ?_
  refine ea_icmp_ne (pc := 6) (tgt := 11) dX12_train_6 rfl (fun c17 => ?_) (fun c17 => ?_)
  · have H := H.1 c17
    refine ea_aload_n (pc := 11) dX12_train_11 rfl 0 rfl ?_
    refine ea_dup (pc := 12) dX12_train_12 rfl ?_
    obtain ⟨f5, g6, H⟩ := H
    refine ea_deref0 e4 ?_
    refine ea_getI (pc := 13) dX12_train_13 ec_12 (k := 2) (Nat.le_of_ble_eq_true rfl) rfl (Or.inl ew_1347) f5 g6 ?_
    refine ea_iconst (pc := 16) dX12_train_16 (v := 1) rfl ?_
    refine ea_iadd (pc := 17) dX12_train_17 ?_
    obtain ⟨f7, g8, H⟩ := H
    refine ea_deref1 e4 ?_
    refine ea_putI (pc := 18) dX12_train_18 ec_12 (k := 2) (Nat.le_of_ble_eq_true rfl) rfl (Or.inl ⟨rfl, Or.inl ew_1347⟩) rfl rfl f7 g8 ?_
    obtain ⟨h9, E10⟩ : ∃ z, z = ea_wi h a3 2 ((ea_i h a3 2) + (1 : Int32)) := ⟨_, rfl⟩
    have H := H h9 E10
    refine ea_nm E10 ?_
    refine ea_aload_n (pc := 21) dX12_train_21 rfl 0 rfl ?_
    refine ea_iconst (pc := 22) dX12_train_22 (v := 0) rfl ?_
    obtain ⟨f11, g12, H⟩ := H
    refine ea_deref1 e4 ?_
    refine ea_putI (pc := 23) dX12_train_23 ec_12 (k := 12) (Nat.le_of_ble_eq_true rfl) rfl (Or.inl ⟨rfl, Or.inl ew_1357⟩) (ea_bn (Or.inl rfl)) (ea_bf (Or.inl rfl)) f11 g12 ?_
    obtain ⟨h13, E14⟩ : ∃ z, z = ea_wi h9 a3 12 0 := ⟨_, rfl⟩
    have H := H h13 E14
    refine ea_nm E14 ?_
    refine ea_aload_n (pc := 26) dX12_train_26 rfl 0 rfl ?_
    obtain ⟨f15, g16, H⟩ := H
    refine ea_deref0 e4 ?_
    refine ea_getI (pc := 27) dX12_train_27 ec_12 (k := 2) (Nat.le_of_ble_eq_true rfl) rfl (Or.inl ew_1347) f15 g16 ?_
    refine ea_iconst (pc := 30) dX12_train_30 (v := 1) rfl ?_
    refine ea_isub (pc := 31) dX12_train_31 ?_
    obtain ⟨rfl, rfl⟩ := H
    exact ea_ireturn (pc := 32) dX12_train_32 rfl rfl
  · have H := H.2 c17
    refine ea_iconst (pc := 9) dX12_train_9 (v := (-1)) rfl ?_
    obtain ⟨rfl, rfl⟩ := H
    exact ea_ireturn (pc := 10) dX12_train_10 rfl rfl
theorem dX12_stop_0 : decode cX12_stop 0 = .ok (.aload_n 0, 1) := by decide +kernel
theorem dX12_stop_1 : decode cX12_stop 1 = .ok (.iload_n 1, 1) := by decide +kernel
theorem dX12_stop_2 : decode cX12_stop 2 = .ok (.invokevirtual 310, 3) := by decide +kernel
theorem dX12_stop_5 : decode cX12_stop 5 = .ok (.ifCond .eq 63, 3) := by decide +kernel
theorem dX12_stop_8 : decode cX12_stop 8 = .ok (.aload_n 0, 1) := by decide +kernel
theorem dX12_stop_9 : decode cX12_stop 9 = .ok (.getfield 313, 3) := by decide +kernel
theorem dX12_stop_12 : decode cX12_stop 12 = .ok (.ifCond .gt 56, 3) := by decide +kernel
theorem dX12_stop_15 : decode cX12_stop 15 = .ok (.aload_n 0, 1) := by decide +kernel
theorem dX12_stop_16 : decode cX12_stop 16 = .ok (.iload_n 2, 1) := by decide +kernel
theorem dX12_stop_17 : decode cX12_stop 17 = .ok (.invokevirtual 297, 3) := by decide +kernel
theorem dX12_stop_20 : decode cX12_stop 20 = .ok (.ifCond .eq 48, 3) := by decide +kernel
theorem dX12_stop_23 : decode cX12_stop 23 = .ok (.iload_n 3, 1) := by decide +kernel
theorem dX12_stop_24 : decode cX12_stop 24 = .ok (.iconst 0, 1) := by decide +kernel
theorem dX12_stop_25 : decode cX12_stop 25 = .ok (.sipush 2400, 3) := by decide +kernel
theorem dX12_stop_28 : decode cX12_stop 28 = .ok (.invokestatic 286, 3) := by decide +kernel
theorem dX12_stop_31 : decode cX12_stop 31 = .ok (.ifCond .eq 37, 3) := by decide +kernel
theorem dX12_stop_34 : decode cX12_stop 34 = .ok (.iload 4, 2) := by decide +kernel
theorem dX12_stop_36 : decode cX12_stop 36 = .ok (.iload_n 3, 1) := by decide +kernel
theorem dX12_stop_37 : decode cX12_stop 37 = .ok (.sipush 2400, 3) := by decide +kernel
theorem dX12_stop_40 : decode cX12_stop 40 = .ok (.invokestatic 286, 3) := by decide +kernel
theorem dX12_stop_43 : decode cX12_stop 43 = .ok (.ifCond .eq 25, 3) := by decide +kernel
theorem dX12_stop_46 : decode cX12_stop 46 = .ok (.iload 5, 2) := by decide +kernel
theorem dX12_stop_48 : decode cX12_stop 48 = .ok (.ifCond .eq 9, 3) := by decide +kernel
theorem dX12_stop_51 : decode cX12_stop 51 = .ok (.iload_n 3, 1) := by decide +kernel
theorem dX12_stop_52 : decode cX12_stop 52 = .ok (.iload 4, 2) := by decide +kernel
theorem dX12_stop_54 : decode cX12_stop 54 = .ok (.if_icmp .ne 14, 3) := by decide +kernel
theorem dX12_stop_57 : decode cX12_stop 57 = .ok (.aload_n 0, 1) := by decide +kernel
theorem dX12_stop_58 : decode cX12_stop 58 = .ok (.getfield 13, 3) := by decide +kernel
theorem dX12_stop_61 : decode cX12_stop 61 = .ok (.iload_n 1, 1) := by decide +kernel
theorem dX12_stop_62 : decode cX12_stop 62 = .ok (.iaload, 1) := by decide +kernel
theorem dX12_stop_63 : decode cX12_stop 63 = .ok (.bipush 8, 2) := by decide +kernel
theorem dX12_stop_65 : decode cX12_stop 65 = .ok (.if_icmp .ne 5, 3) := by decide +kernel
theorem dX12_stop_68 : decode cX12_stop 68 = .ok (.iconst (-1), 1) := by decide +kernel
theorem dX12_stop_69 : decode cX12_stop 69 = .ok (.ireturn, 1) := by decide +kernel
theorem dX12_stop_70 : decode cX12_stop 70 = .ok (.bipush 8, 2) := by decide +kernel
theorem dX12_stop_72 : decode cX12_stop 72 = .ok (.iload_n 1, 1) := by decide +kernel
theorem dX12_stop_73 : decode cX12_stop 73 = .ok (.imul, 1) := by decide +kernel
theorem dX12_stop_74 : decode cX12_stop 74 = .ok (.aload_n 0, 1) := by decide +kernel
theorem dX12_stop_75 : decode cX12_stop 75 = .ok (.getfield 13, 3) := by decide +kernel
theorem dX12_stop_78 : decode cX12_stop 78 = .ok (.iload_n 1, 1) := by decide +kernel
theorem dX12_stop_79 : decode cX12_stop 79 = .ok (.iaload, 1) := by decide +kernel
theorem dX12_stop_80 : decode cX12_stop 80 = .ok (.iadd, 1) := by decide +kernel
theorem dX12_stop_81 : decode cX12_stop 81 = .ok (.istore 6, 2) := by decide +kernel
theorem dX12_stop_83 : decode cX12_stop 83 = .ok (.aload_n 0, 1) := by decide +kernel
theorem dX12_stop_84 : decode cX12_stop 84 = .ok (.getfield 13, 3) := by decide +kernel
theorem dX12_stop_87 : decode cX12_stop 87 = .ok (.iload_n 1, 1) := by decide +kernel
theorem dX12_stop_88 : decode cX12_stop 88 = .ok (.iaload, 1) := by decide +kernel
theorem dX12_stop_89 : decode cX12_stop 89 = .ok (.ifCond .le 31, 3) := by decide +kernel
theorem dX12_stop_92 : decode cX12_stop 92 = .ok (.aload_n 0, 1) := by decide +kernel
theorem dX12_stop_93 : decode cX12_stop 93 = .ok (.getfield 16, 3) := by decide +kernel
theorem dX12_stop_96 : decode cX12_stop 96 = .ok (.iload 6, 2) := by decide +kernel
theorem dX12_stop_98 : decode cX12_stop 98 = .ok (.iconst 1, 1) := by decide +kernel
theorem dX12_stop_99 : decode cX12_stop 99 = .ok (.isub, 1) := by decide +kernel
theorem dX12_stop_100 : decode cX12_stop 100 = .ok (.iaload, 1) := by decide +kernel
theorem dX12_stop_101 : decode cX12_stop 101 = .ok (.iload_n 2, 1) := by decide +kernel
theorem dX12_stop_102 : decode cX12_stop 102 = .ok (.if_icmp .eq 16, 3) := by decide +kernel
theorem dX12_stop_105 : decode cX12_stop 105 = .ok (.iload_n 3, 1) := by decide +kernel
theorem dX12_stop_106 : decode cX12_stop 106 = .ok (.aload_n 0, 1) := by decide +kernel
theorem dX12_stop_107 : decode cX12_stop 107 = .ok (.getfield 22, 3) := by decide +kernel
theorem dX12_stop_110 : decode cX12_stop 110 = .ok (.iload 6, 2) := by decide +kernel
theorem dX12_stop_112 : decode cX12_stop 112 = .ok (.iconst 1, 1) := by decide +kernel
theorem dX12_stop_113 : decode cX12_stop 113 = .ok (.isub, 1) := by decide +kernel
theorem dX12_stop_114 : decode cX12_stop 114 = .ok (.iaload, 1) := by decide +kernel
theorem dX12_stop_115 : decode cX12_stop 115 = .ok (.if_icmp .gt 5, 3) := by decide +kernel
theorem dX12_stop_118 : decode cX12_stop 118 = .ok (.iconst (-1), 1) := by decide +kernel
theorem dX12_stop_119 : decode cX12_stop 119 = .ok (.ireturn, 1) := by decide +kernel
theorem dX12_stop_120 : decode cX12_stop 120 = .ok (.aload_n 0, 1) := by decide +kernel
theorem dX12_stop_121 : decode cX12_stop 121 = .ok (.getfield 16, 3) := by decide +kernel
theorem dX12_stop_124 : decode cX12_stop 124 = .ok (.iload 6, 2) := by decide +kernel
theorem dX12_stop_126 : decode cX12_stop 126 = .ok (.iload_n 2, 1) := by decide +kernel
theorem dX12_stop_127 : decode cX12_stop 127 = .ok (.iastore, 1) := by decide +kernel
theorem dX12_stop_128 : decode cX12_stop 128 = .ok (.aload_n 0, 1) := by decide +kernel
theorem dX12_stop_129 : decode cX12_stop 129 = .ok (.getfield 19, 3) := by decide +kernel
theorem dX12_stop_132 : decode cX12_stop 132 = .ok (.iload 6, 2) := by decide +kernel
theorem dX12_stop_134 : decode cX12_stop 134 = .ok (.iload_n 3, 1) := by decide +kernel
theorem dX12_stop_135 : decode cX12_stop 135 = .ok (.iastore, 1) := by decide +kernel
theorem dX12_stop_136 : decode cX12_stop 136 = .ok (.aload_n 0, 1) := by decide +kernel
theorem dX12_stop_137 : decode cX12_stop 137 = .ok (.getfield 22, 3) := by decide +kernel
theorem dX12_stop_140 : decode cX12_stop 140 = .ok (.iload 6, 2) := by decide +kernel
theorem dX12_stop_142 : decode cX12_stop 142 = .ok (.iload 4, 2) := by decide +kernel
theorem dX12_stop_144 : decode cX12_stop 144 = .ok (.iastore, 1) := by decide +kernel
theorem dX12_stop_145 : decode cX12_stop 145 = .ok (.aload_n 0, 1) := by decide +kernel
theorem dX12_stop_146 : decode cX12_stop 146 = .ok (.getfield 28, 3) := by decide +kernel
theorem dX12_stop_149 : decode cX12_stop 149 = .ok (.iload 6, 2) := by decide +kernel
theorem dX12_stop_151 : decode cX12_stop 151 = .ok (.iload 5, 2) := by decide +kernel
theorem dX12_stop_153 : decode cX12_stop 153 = .ok (.bastore, 1) := by decide +kernel
theorem dX12_stop_154 : decode cX12_stop 154 = .ok (.aload_n 0, 1) := by decide +kernel
theorem dX12_stop_155 : decode cX12_stop 155 = .ok (.getfield 13, 3) := by decide +kernel
theorem dX12_stop_158 : decode cX12_stop 158 = .ok (.iload_n 1, 1) := by decide +kernel
theorem dX12_stop_159 : decode cX12_stop 159 = .ok (.dup2, 1) := by decide +kernel
theorem dX12_stop_160 : decode cX12_stop 160 = .ok (.iaload, 1) := by decide +kernel
theorem dX12_stop_161 : decode cX12_stop 161 = .ok (.iconst 1, 1) := by decide +kernel
theorem dX12_stop_162 : decode cX12_stop 162 = .ok (.iadd, 1) := by decide +kernel
theorem dX12_stop_163 : decode cX12_stop 163 = .ok (.iastore, 1) := by decide +kernel
theorem dX12_stop_164 : decode cX12_stop 164 = .ok (.aload_n 0, 1) := by decide +kernel
theorem dX12_stop_165 : decode cX12_stop 165 = .ok (.iconst 0, 1) := by decide +kernel
theorem dX12_stop_166 : decode cX12_stop 166 = .ok (.putfield 293, 3) := by decide +kernel
theorem dX12_stop_169 : decode cX12_stop 169 = .ok (.aload_n 0, 1) := by decide +kernel
theorem dX12_stop_170 : decode cX12_stop 170 = .ok (.getfield 13, 3) := by decide +kernel
theorem dX12_stop_173 : decode cX12_stop 173 = .ok (.iload_n 1, 1) := by decide +kernel
theorem dX12_stop_174 : decode cX12_stop 174 = .ok (.iaload, 1) := by decide +kernel
theorem dX12_stop_175 : decode cX12_stop 175 = .ok (.iconst 1, 1) := by decide +kernel
theorem dX12_stop_176 : decode cX12_stop 176 = .ok (.isub, 1) := by decide +kernel
theorem dX12_stop_177 : decode cX12_stop 177 = .ok (.ireturn, 1) := by decide +kernel
theorem bX12_stop_0 {d : Nat} {h0 hE h : ea_H} {rv : Option ea_V} {r0 : Option Nat} {x1 : Int32} {x2 : Int32} {x3 : Int32} {x4 : Int32} {x5 : Int32} (H : ∃ a7, r0 = some a7 ∧ a7 < ea_n h ∧ ea_c h a7 = 12 ∧ ∃ (d1 : Nat) (xc9 : Int32) (h2 : ea_H), ea_Met mX12_isTrain d1 [vR (some a7), vI x1] h (some (vI xc9)) h2 ∧ d1 + 1 ≤ d ∧ (xc9 = (0 : Int32) → rv = some (vI (-1)) ∧ hE = h2) ∧ (¬ xc9 = (0 : Int32) → a7 < ea_n h2 ∧ ea_c h2 a7 = 12 ∧ ((0 : Int32) < (ea_i h2 a7 0) → rv = some (vI (-1)) ∧ hE = h2) ∧ (¬ (0 : Int32) < (ea_i h2 a7 0) → a7 < ea_n h2 ∧ ea_c h2 a7 = 12 ∧ ∃ (d12 : Nat) (xc18 : Int32) (h13 : ea_H), ea_Met mX12_isTown d12 [vR (some a7), vI x2] h2 (some (vI xc18)) h13 ∧ d12 + 1 ≤ d ∧ (xc18 = (0 : Int32) → rv = some (vI (-1)) ∧ hE = h13) ∧ (¬ xc18 = (0 : Int32) → ∃ (d19 : Nat) (xc23 : Int32) (h20 : ea_H), ea_Met mX12_isIn d19 [vI x3, vI 0, vI 2400] h13 (some (vI xc23)) h20 ∧ d19 + 1 ≤ d ∧ (xc23 = (0 : Int32) → rv = some (vI (-1)) ∧ hE = h20) ∧ (¬ xc23 = (0 : Int32) → ∃ (d24 : Nat) (xc28 : Int32) (h25 : ea_H), ea_Met mX12_isIn d24 [vI x4, vI x3, vI 2400] h20 (some (vI xc28)) h25 ∧ d24 + 1 ≤ d ∧ (xc28 = (0 : Int32) → rv = some (vI (-1)) ∧ hE = h25) ∧ (¬ xc28 = (0 : Int32) → (x5 = (0 : Int32) → ea_W mX12_stop d h0 rv hE 57 [(0, vR r0), (1, vI x1), (2, vI x2), (3, vI x3), (4, vI x4), (5, vI x5)] [] h25) ∧ (¬ x5 = (0 : Int32) → (¬ x3 = x4 → rv = some (vI (-1)) ∧ hE = h25) ∧ (x3 = x4 → ea_W mX12_stop d h0 rv hE 57 [(0, vR r0), (1, vI x1), (2, vI x2), (3, vI x3), (4, vI x4), (5, vI x5)] [] h25)))))))) : ea_W mX12_stop d h0 rv hE 0 [(0, vR r0), (1, vI x1), (2, vI x2), (3, vI x3), (4, vI x4), (5, vI x5)] [] h := by
  refine ea_aload_n (pc := 0) dX12_stop_0 rfl 0 rfl ?_
  refine ea_iload_n (pc := 1) dX12_stop_1 rfl 1 rfl ?_
  obtain ⟨a7, e8, f5, g6, H⟩ := H
  refine ea_deref1 e8 ?_
  obtain ⟨d1, xc9, h2, m3, q4, H⟩ := H
  refine ea_callV (pc := 2) (As := [vI x1]) (st := []) dX12_stop_2 kX12_isTrain m3 q4 rfl (Nat.le_of_ble_eq_true rfl) ew_1736 ew_1738 ew_50 (ci := 12) rfl (by decide) f5 g6 ?_
  refine ea_if_eq (pc := 5) (tgt := 68) dX12_stop_5 rfl (fun c35 => ?_) (fun c35 => ?_)
  · have H := H.1 c35
    refine ea_iconst (pc := 68) dX12_stop_68 (v := (-1)) rfl ?_
    obtain ⟨rfl, rfl⟩ := H
    exact ea_ireturn (pc := 69) dX12_stop_69 rfl rfl
  · have H := H.2 c35
    refine ea_aload_n (pc := 8) dX12_stop_8 rfl 0 rfl ?_
    obtain ⟨f10, g11, H⟩ := H
    refine ea_deref0 e8 ?_
    refine ea_getI (pc := 9) dX12_stop_9 ec_12 (k := 0) (Nat.le_of_ble_eq_true rfl) rfl (Or.inl ew_1345) f10 g11 ?_
    refine ea_if_gt (pc := 12) (tgt := 68) dX12_stop_12 rfl (fun c34 => ?_) (fun c34 => ?_)
    · have H := H.1 c34
      refine ea_iconst (pc := 68) dX12_stop_68 (v := (-1)) rfl ?_
      obtain ⟨rfl, rfl⟩ := H
      exact ea_ireturn (pc := 69) dX12_stop_69 rfl rfl
    · have H := H.2 c34
      refine ea_aload_n (pc := 15) dX12_stop_15 rfl 0 rfl ?_
      refine ea_iload_n (pc := 16) dX12_stop_16 rfl 2 rfl ?_
      obtain ⟨f16, g17, H⟩ := H
      refine ea_deref1 e8 ?_
      obtain ⟨d12, xc18, h13, m14, q15, H⟩ := H
      refine ea_callV (pc := 17) (As := [vI x2]) (st := []) dX12_stop_17 kX12_isTown m14 q15 rfl (Nat.le_of_ble_eq_true rfl) ew_1708 ew_1710 ew_47 (ci := 12) rfl (by decide) f16 g17 ?_
      refine ea_if_eq (pc := 20) (tgt := 68) dX12_stop_20 rfl (fun c33 => ?_) (fun c33 => ?_)
      · have H := H.1 c33
        refine ea_iconst (pc := 68) dX12_stop_68 (v := (-1)) rfl ?_
        obtain ⟨rfl, rfl⟩ := H
        exact ea_ireturn (pc := 69) dX12_stop_69 rfl rfl
      · have H := H.2 c33
        refine ea_iload_n (pc := 23) dX12_stop_23 rfl 3 rfl ?_
        refine ea_iconst (pc := 24) dX12_stop_24 (v := 0) rfl ?_
        refine ea_sipush (pc := 25) dX12_stop_25 (v := 2400) rfl ?_
        obtain ⟨d19, xc23, h20, m21, q22, H⟩ := H
        refine ea_callS (pc := 28) (As := [vI x3, vI 0, vI 2400]) (st := []) dX12_stop_28 kX12_isIn m21 q22 rfl (Nat.le_of_ble_eq_true rfl) ew_1712 ew_1713 ?_
        refine ea_if_eq (pc := 31) (tgt := 68) dX12_stop_31 rfl (fun c32 => ?_) (fun c32 => ?_)
        · have H := H.1 c32
          refine ea_iconst (pc := 68) dX12_stop_68 (v := (-1)) rfl ?_
          obtain ⟨rfl, rfl⟩ := H
          exact ea_ireturn (pc := 69) dX12_stop_69 rfl rfl
        · have H := H.2 c32
          refine ea_iload (pc := 34) dX12_stop_34 4 rfl ?_
          refine ea_iload_n (pc := 36) dX12_stop_36 rfl 3 rfl ?_
          refine ea_sipush (pc := 37) dX12_stop_37 (v := 2400) rfl ?_
          obtain ⟨d24, xc28, h25, m26, q27, H⟩ := H
          refine ea_callS (pc := 40) (As := [vI x4, vI x3, vI 2400]) (st := []) dX12_stop_40 kX12_isIn m26 q27 rfl (Nat.le_of_ble_eq_true rfl) ew_1712 ew_1713 ?_
          refine ea_if_eq (pc := 43) (tgt := 68) dX12_stop_43 rfl (fun c31 => ?_) (fun c31 => ?_)
          · have H := H.1 c31
            refine ea_iconst (pc := 68) dX12_stop_68 (v := (-1)) rfl ?_
            obtain ⟨rfl, rfl⟩ := H
            exact ea_ireturn (pc := 69) dX12_stop_69 rfl rfl
          · have H := H.2 c31
            refine ea_iload (pc := 46) dX12_stop_46 5 rfl ?_
            refine ea_if_eq (pc := 48) (tgt := 57) dX12_stop_48 rfl (fun c30 => ?_) (fun c30 => ?_)
            · have H := H.1 c30
              exact H
            · have H := H.2 c30
              refine ea_iload_n (pc := 51) dX12_stop_51 rfl 3 rfl ?_
              refine ea_iload (pc := 52) dX12_stop_52 4 rfl ?_
              refine ea_icmp_ne (pc := 54) (tgt := 68) dX12_stop_54 rfl (fun c29 => ?_) (fun c29 => ?_)
              · have H := H.1 c29
                refine ea_iconst (pc := 68) dX12_stop_68 (v := (-1)) rfl ?_
                obtain ⟨rfl, rfl⟩ := H
                exact ea_ireturn (pc := 69) dX12_stop_69 rfl rfl
              · have H := H.2 c29
                exact H
theorem bX12_stop_57 {d : Nat} {h0 hE h : ea_H} {rv : Option ea_V} {r0 : Option Nat} {x1 : Int32} {x2 : Int32} {x3 : Int32} {x4 : Int32} {x5 : Int32} (H : ∃ a3, r0 = some a3 ∧ a3 < ea_n h ∧ ea_c h a3 = 12 ∧ ∃ a7, (ea_r h a3 4) = some a7 ∧ a7 < ea_n h ∧ ea_c h a7 = 20 ∧ vp_in x1 (ea_l h a7) ∧ (¬ (ea_i h a7 (Int32.toNatClampNeg x1)) = (8 : Int32) → a3 < ea_n h ∧ ea_c h a3 = 12 ∧ a7 < ea_n h ∧ ea_c h a7 = 20 ∧ vp_in x1 (ea_l h a7) ∧ a3 < ea_n h ∧ ea_c h a3 = 12 ∧ a7 < ea_n h ∧ ea_c h a7 = 20 ∧ vp_in x1 (ea_l h a7) ∧ ((ea_i h a7 (Int32.toNatClampNeg x1)) ≤ (0 : Int32) → ea_W mX12_stop d h0 rv hE 120 [(0, vR r0), (1, vI x1), (2, vI x2), (3, vI x3), (4, vI x4), (5, vI x5), (6, vI (((8 : Int32) * x1) + (ea_i h a7 (Int32.toNatClampNeg x1))))] [] h) ∧ (¬ (ea_i h a7 (Int32.toNatClampNeg x1)) ≤ (0 : Int32) → a3 < ea_n h ∧ ea_c h a3 = 12 ∧ ∃ a24, (ea_r h a3 5) = some a24 ∧ a24 < ea_n h ∧ ea_c h a24 = 20 ∧ vp_in ((((8 : Int32) * x1) + (ea_i h a7 (Int32.toNatClampNeg x1))) - (1 : Int32)) (ea_l h a24) ∧ ((ea_i h a24 (Int32.toNatClampNeg ((((8 : Int32) * x1) + (ea_i h a7 (Int32.toNatClampNeg x1))) - (1 : Int32)))) = x2 → rv = some (vI (-1)) ∧ hE = h) ∧ (¬ (ea_i h a24 (Int32.toNatClampNeg ((((8 : Int32) * x1) + (ea_i h a7 (Int32.toNatClampNeg x1))) - (1 : Int32)))) = x2 → a3 < ea_n h ∧ ea_c h a3 = 12 ∧ ∃ a31, (ea_r h a3 7) = some a31 ∧ a31 < ea_n h ∧ ea_c h a31 = 20 ∧ vp_in ((((8 : Int32) * x1) + (ea_i h a7 (Int32.toNatClampNeg x1))) - (1 : Int32)) (ea_l h a31) ∧ ((ea_i h a31 (Int32.toNatClampNeg ((((8 : Int32) * x1) + (ea_i h a7 (Int32.toNatClampNeg x1))) - (1 : Int32)))) < x3 → ea_W mX12_stop d h0 rv hE 120 [(0, vR r0), (1, vI x1), (2, vI x2), (3, vI x3), (4, vI x4), (5, vI x5), (6, vI (((8 : Int32) * x1) + (ea_i h a7 (Int32.toNatClampNeg x1))))] [] h) ∧ (¬ (ea_i h a31 (Int32.toNatClampNeg ((((8 : Int32) * x1) + (ea_i h a7 (Int32.toNatClampNeg x1))) - (1 : Int32)))) < x3 → rv = some (vI (-1)) ∧ hE = h)))) ∧ ((ea_i h a7 (Int32.toNatClampNeg x1)) = (8 : Int32) → rv = some (vI (-1)) ∧ hE = h)) : ea_W mX12_stop d h0 rv hE 57 [(0, vR r0), (1, vI x1), (2, vI x2), (3, vI x3), (4, vI x4), (5, vI x5)] [] h := by
  refine ea_aload_n (pc := 57) dX12_stop_57 rfl 0 rfl ?_
  obtain ⟨a3, e4, f1, g2, H⟩ := H
  refine ea_deref0 e4 ?_
  refine ea_getR (pc := 58) dX12_stop_58 ec_12 (k := 4) (Nat.le_of_ble_eq_true rfl) rfl (Or.inl ew_1349) f1 g2 rfl ?_
  refine ea_iload_n (pc := 61) dX12_stop_61 rfl 1 rfl ?_
  obtain ⟨a7, e8, f5, g6, H⟩ := H
  refine ea_deref1 e8 ?_
  obtain ⟨z9, H⟩ := H
  refine ea_iald (pc := 62) dX12_stop_62 f5 g6 z9 ?_
  refine ea_bipush (pc := 63) dX12_stop_63 (v := 8) rfl ?_
  refine ea_icmp_ne (pc := 65) (tgt := 70) dX12_stop_65 rfl (fun c37 => ?_) (fun c37 => ?_)
  · have H := H.1 c37
    refine ea_bipush (pc := 70) dX12_stop_70 (v := 8) rfl ?_
    refine ea_iload_n (pc := 72) dX12_stop_72 rfl 1 rfl ?_
    refine ea_imul (pc := 73) dX12_stop_73 ?_
    refine ea_aload_n (pc := 74) dX12_stop_74 rfl 0 rfl ?_
    obtain ⟨f10, g11, H⟩ := H
    refine ea_deref0 e4 ?_
    refine ea_getR (pc := 75) dX12_stop_75 ec_12 (k := 4) (Nat.le_of_ble_eq_true rfl) rfl (Or.inl ew_1349) f10 g11 rfl ?_
    refine ea_iload_n (pc := 78) dX12_stop_78 rfl 1 rfl ?_
    obtain ⟨f12, g13, H⟩ := H
    refine ea_deref1 e8 ?_
    obtain ⟨z14, H⟩ := H
    refine ea_iald (pc := 79) dX12_stop_79 f12 g13 z14 ?_
    refine ea_iadd (pc := 80) dX12_stop_80 ?_
    refine ea_istore (pc := 81) (lv' := [(0, vR r0), (1, vI x1), (2, vI x2), (3, vI x3), (4, vI x4), (5, vI x5), (6, vI (((8 : Int32) * x1) + (ea_i h a7 (Int32.toNatClampNeg x1))))]) dX12_stop_81 (Nat.le_of_ble_eq_true rfl) [1, 2, 3, 4, 5, 6, 0] rfl ?_
    refine ea_aload_n (pc := 83) dX12_stop_83 rfl 0 rfl ?_
    obtain ⟨f15, g16, H⟩ := H
    refine ea_deref0 e4 ?_
    refine ea_getR (pc := 84) dX12_stop_84 ec_12 (k := 4) (Nat.le_of_ble_eq_true rfl) rfl (Or.inl ew_1349) f15 g16 rfl ?_
    refine ea_iload_n (pc := 87) dX12_stop_87 rfl 1 rfl ?_
    obtain ⟨f17, g18, H⟩ := H
    refine ea_deref1 e8 ?_
    obtain ⟨z19, H⟩ := H
    refine ea_iald (pc := 88) dX12_stop_88 f17 g18 z19 ?_
    refine ea_if_le (pc := 89) (tgt := 120) dX12_stop_89 rfl (fun c36 => ?_) (fun c36 => ?_)
    · have H := H.1 c36
      exact H
    · have H := H.2 c36
      refine ea_aload_n (pc := 92) dX12_stop_92 rfl 0 rfl ?_
      obtain ⟨f20, g21, H⟩ := H
      refine ea_deref0 e4 ?_
      refine ea_getR (pc := 93) dX12_stop_93 ec_12 (k := 5) (Nat.le_of_ble_eq_true rfl) rfl (Or.inl ew_1350) f20 g21 rfl ?_
      refine ea_iload (pc := 96) dX12_stop_96 6 rfl ?_
      refine ea_iconst (pc := 98) dX12_stop_98 (v := 1) rfl ?_
      refine ea_isub (pc := 99) dX12_stop_99 ?_
      obtain ⟨a24, e25, f22, g23, H⟩ := H
      refine ea_deref1 e25 ?_
      obtain ⟨z26, H⟩ := H
      refine ea_iald (pc := 100) dX12_stop_100 f22 g23 z26 ?_
      refine ea_iload_n (pc := 101) dX12_stop_101 rfl 2 rfl ?_
      refine ea_icmp_eq (pc := 102) (tgt := 118) dX12_stop_102 rfl (fun c35 => ?_) (fun c35 => ?_)
      · have H := H.1 c35
        refine ea_iconst (pc := 118) dX12_stop_118 (v := (-1)) rfl ?_
        obtain ⟨rfl, rfl⟩ := H
        exact ea_ireturn (pc := 119) dX12_stop_119 rfl rfl
      · have H := H.2 c35
        refine ea_iload_n (pc := 105) dX12_stop_105 rfl 3 rfl ?_
        refine ea_aload_n (pc := 106) dX12_stop_106 rfl 0 rfl ?_
        obtain ⟨f27, g28, H⟩ := H
        refine ea_deref0 e4 ?_
        refine ea_getR (pc := 107) dX12_stop_107 ec_12 (k := 7) (Nat.le_of_ble_eq_true rfl) rfl (Or.inl ew_1352) f27 g28 rfl ?_
        refine ea_iload (pc := 110) dX12_stop_110 6 rfl ?_
        refine ea_iconst (pc := 112) dX12_stop_112 (v := 1) rfl ?_
        refine ea_isub (pc := 113) dX12_stop_113 ?_
        obtain ⟨a31, e32, f29, g30, H⟩ := H
        refine ea_deref1 e32 ?_
        obtain ⟨z33, H⟩ := H
        refine ea_iald (pc := 114) dX12_stop_114 f29 g30 z33 ?_
        refine ea_icmp_gt (pc := 115) (tgt := 120) dX12_stop_115 rfl (fun c34 => ?_) (fun c34 => ?_)
        · have H := H.1 c34
          exact H
        · have H := H.2 c34
          refine ea_iconst (pc := 118) dX12_stop_118 (v := (-1)) rfl ?_
          obtain ⟨rfl, rfl⟩ := H
          exact ea_ireturn (pc := 119) dX12_stop_119 rfl rfl
  · have H := H.2 c37
    refine ea_iconst (pc := 68) dX12_stop_68 (v := (-1)) rfl ?_
    obtain ⟨rfl, rfl⟩ := H
    exact ea_ireturn (pc := 69) dX12_stop_69 rfl rfl
theorem bX12_stop_120 {d : Nat} {h0 hE h : ea_H} {rv : Option ea_V} {r0 : Option Nat} {x1 : Int32} {x2 : Int32} {x3 : Int32} {x4 : Int32} {x5 : Int32} {x6 : Int32} (H : ∃ a3, r0 = some a3 ∧ a3 < ea_n h ∧ ea_c h a3 = 12 ∧ ∃ a7, (ea_r h a3 5) = some a7 ∧ a7 < ea_n h ∧ ea_c h a7 = 20 ∧ vp_in x6 (ea_l h a7) ∧ ∀ h10, h10 = ea_wi h a7 (Int32.toNatClampNeg x6) x2 → a3 < ea_n h10 ∧ ea_c h10 a3 = 12 ∧ ∃ a16, (ea_r h10 a3 6) = some a16 ∧ a16 < ea_n h10 ∧ ea_c h10 a16 = 20 ∧ vp_in x6 (ea_l h10 a16) ∧ ∀ h19, h19 = ea_wi h10 a16 (Int32.toNatClampNeg x6) x3 → a3 < ea_n h19 ∧ ea_c h19 a3 = 12 ∧ ∃ a25, (ea_r h19 a3 7) = some a25 ∧ a25 < ea_n h19 ∧ ea_c h19 a25 = 20 ∧ vp_in x6 (ea_l h19 a25) ∧ ∀ h28, h28 = ea_wi h19 a25 (Int32.toNatClampNeg x6) x4 → a3 < ea_n h28 ∧ ea_c h28 a3 = 12 ∧ ∃ a34, (ea_r h28 a3 9) = some a34 ∧ a34 < ea_n h28 ∧ ea_c h28 a34 = 21 ∧ vp_in x6 (ea_l h28 a34) ∧ (x5 = 0 ∨ x5 = 1) ∧ ∀ h37, h37 = ea_wi h28 a34 (Int32.toNatClampNeg x6) x5 → a3 < ea_n h37 ∧ ea_c h37 a3 = 12 ∧ ∃ a44, (ea_r h37 a3 4) = some a44 ∧ a44 < ea_n h37 ∧ ea_c h37 a44 = 20 ∧ vp_in x1 (ea_l h37 a44) ∧ a44 < ea_n h37 ∧ ea_c h37 a44 = 20 ∧ vp_in x1 (ea_l h37 a44) ∧ ∀ h50, h50 = ea_wi h37 a44 (Int32.toNatClampNeg x1) ((ea_i h37 a44 (Int32.toNatClampNeg x1)) + (1 : Int32)) → a3 < ea_n h50 ∧ ea_c h50 a3 = 12 ∧ ∀ h54, h54 = ea_wi h50 a3 12 0 → a3 < ea_n h54 ∧ ea_c h54 a3 = 12 ∧ ∃ a60, (ea_r h54 a3 4) = some a60 ∧ a60 < ea_n h54 ∧ ea_c h54 a60 = 20 ∧ vp_in x1 (ea_l h54 a60) ∧ rv = some (vI ((ea_i h54 a60 (Int32.toNatClampNeg x1)) - (1 : Int32))) ∧ hE = h54) : ea_W mX12_stop d h0 rv hE 120 [(0, vR r0), (1, vI x1), (2, vI x2), (3, vI x3), (4, vI x4), (5, vI x5), (6, vI x6)] [] h := by
  refine ea_aload_n (pc := 120) dX12_stop_120 rfl 0 rfl ?_
  obtain ⟨a3, e4, f1, g2, H⟩ := H
  refine ea_deref0 e4 ?_
  refine ea_getR (pc := 121) dX12_stop_121 ec_12 (k := 5) (Nat.le_of_ble_eq_true rfl) rfl (Or.inl ew_1350) f1 g2 rfl ?_
  refine ea_iload (pc := 124) dX12_stop_124 6 rfl ?_
  refine ea_iload_n (pc := 126) dX12_stop_126 rfl 2 rfl ?_
  obtain ⟨a7, e8, f5, g6, H⟩ := H
  refine ea_deref2 e8 ?_
  obtain ⟨z9, H⟩ := H
  refine ea_iast (pc := 127) dX12_stop_127 f5 g6 z9 ?_
  obtain ⟨h10, E11⟩ : ∃ z, z = ea_wi h a7 (Int32.toNatClampNeg x6) x2 := ⟨_, rfl⟩
  have H := H h10 E11
  refine ea_nm E11 ?_
  refine ea_aload_n (pc := 128) dX12_stop_128 rfl 0 rfl ?_
  obtain ⟨f12, g13, H⟩ := H
  refine ea_deref0 e4 ?_
  refine ea_getR (pc := 129) dX12_stop_129 ec_12 (k := 6) (Nat.le_of_ble_eq_true rfl) rfl (Or.inl ew_1351) f12 g13 rfl ?_
  refine ea_iload (pc := 132) dX12_stop_132 6 rfl ?_
  refine ea_iload_n (pc := 134) dX12_stop_134 rfl 3 rfl ?_
  obtain ⟨a16, e17, f14, g15, H⟩ := H
  refine ea_deref2 e17 ?_
  obtain ⟨z18, H⟩ := H
  refine ea_iast (pc := 135) dX12_stop_135 f14 g15 z18 ?_
  obtain ⟨h19, E20⟩ : ∃ z, z = ea_wi h10 a16 (Int32.toNatClampNeg x6) x3 := ⟨_, rfl⟩
  have H := H h19 E20
  refine ea_nm E20 ?_
  refine ea_aload_n (pc := 136) dX12_stop_136 rfl 0 rfl ?_
  obtain ⟨f21, g22, H⟩ := H
  refine ea_deref0 e4 ?_
  refine ea_getR (pc := 137) dX12_stop_137 ec_12 (k := 7) (Nat.le_of_ble_eq_true rfl) rfl (Or.inl ew_1352) f21 g22 rfl ?_
  refine ea_iload (pc := 140) dX12_stop_140 6 rfl ?_
  refine ea_iload (pc := 142) dX12_stop_142 4 rfl ?_
  obtain ⟨a25, e26, f23, g24, H⟩ := H
  refine ea_deref2 e26 ?_
  obtain ⟨z27, H⟩ := H
  refine ea_iast (pc := 144) dX12_stop_144 f23 g24 z27 ?_
  obtain ⟨h28, E29⟩ : ∃ z, z = ea_wi h19 a25 (Int32.toNatClampNeg x6) x4 := ⟨_, rfl⟩
  have H := H h28 E29
  refine ea_nm E29 ?_
  refine ea_aload_n (pc := 145) dX12_stop_145 rfl 0 rfl ?_
  obtain ⟨f30, g31, H⟩ := H
  refine ea_deref0 e4 ?_
  refine ea_getR (pc := 146) dX12_stop_146 ec_12 (k := 9) (Nat.le_of_ble_eq_true rfl) rfl (Or.inl ew_1354) f30 g31 rfl ?_
  refine ea_iload (pc := 149) dX12_stop_149 6 rfl ?_
  refine ea_iload (pc := 151) dX12_stop_151 5 rfl ?_
  obtain ⟨a34, e35, f32, g33, H⟩ := H
  refine ea_deref2 e35 ?_
  obtain ⟨z36, H⟩ := H
  obtain ⟨z39, H⟩ := H
  refine ea_zast (pc := 153) dX12_stop_153 (y := x5) (ea_bn z39) f32 g33 z36 ?_
  obtain ⟨h37, E38⟩ : ∃ z, z = ea_wi h28 a34 (Int32.toNatClampNeg x6) x5 := ⟨_, rfl⟩
  have H := H h37 E38
  refine ea_nm E38 ?_
  refine ea_aload_n (pc := 154) dX12_stop_154 rfl 0 rfl ?_
  obtain ⟨f40, g41, H⟩ := H
  refine ea_deref0 e4 ?_
  refine ea_getR (pc := 155) dX12_stop_155 ec_12 (k := 4) (Nat.le_of_ble_eq_true rfl) rfl (Or.inl ew_1349) f40 g41 rfl ?_
  refine ea_iload_n (pc := 158) dX12_stop_158 rfl 1 rfl ?_
  refine ea_dup2 (pc := 159) dX12_stop_159 rfl rfl ?_
  obtain ⟨a44, e45, f42, g43, H⟩ := H
  refine ea_deref1 e45 ?_
  obtain ⟨z46, H⟩ := H
  refine ea_iald (pc := 160) dX12_stop_160 f42 g43 z46 ?_
  refine ea_iconst (pc := 161) dX12_stop_161 (v := 1) rfl ?_
  refine ea_iadd (pc := 162) dX12_stop_162 ?_
  obtain ⟨f47, g48, H⟩ := H
  refine ea_deref2 e45 ?_
  obtain ⟨z49, H⟩ := H
  refine ea_iast (pc := 163) dX12_stop_163 f47 g48 z49 ?_
  obtain ⟨h50, E51⟩ : ∃ z, z = ea_wi h37 a44 (Int32.toNatClampNeg x1) ((ea_i h37 a44 (Int32.toNatClampNeg x1)) + (1 : Int32)) := ⟨_, rfl⟩
  have H := H h50 E51
  refine ea_nm E51 ?_
  refine ea_aload_n (pc := 164) dX12_stop_164 rfl 0 rfl ?_
  refine ea_iconst (pc := 165) dX12_stop_165 (v := 0) rfl ?_
  obtain ⟨f52, g53, H⟩ := H
  refine ea_deref1 e4 ?_
  refine ea_putI (pc := 166) dX12_stop_166 ec_12 (k := 12) (Nat.le_of_ble_eq_true rfl) rfl (Or.inl ⟨rfl, Or.inl ew_1357⟩) (ea_bn (Or.inl rfl)) (ea_bf (Or.inl rfl)) f52 g53 ?_
  obtain ⟨h54, E55⟩ : ∃ z, z = ea_wi h50 a3 12 0 := ⟨_, rfl⟩
  have H := H h54 E55
  refine ea_nm E55 ?_
  refine ea_aload_n (pc := 169) dX12_stop_169 rfl 0 rfl ?_
  obtain ⟨f56, g57, H⟩ := H
  refine ea_deref0 e4 ?_
  refine ea_getR (pc := 170) dX12_stop_170 ec_12 (k := 4) (Nat.le_of_ble_eq_true rfl) rfl (Or.inl ew_1349) f56 g57 rfl ?_
  refine ea_iload_n (pc := 173) dX12_stop_173 rfl 1 rfl ?_
  obtain ⟨a60, e61, f58, g59, H⟩ := H
  refine ea_deref1 e61 ?_
  obtain ⟨z62, H⟩ := H
  refine ea_iald (pc := 174) dX12_stop_174 f58 g59 z62 ?_
  refine ea_iconst (pc := 175) dX12_stop_175 (v := 1) rfl ?_
  refine ea_isub (pc := 176) dX12_stop_176 ?_
  obtain ⟨rfl, rfl⟩ := H
  exact ea_ireturn (pc := 177) dX12_stop_177 rfl rfl
