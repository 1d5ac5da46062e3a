/-! blocks -/
theorem dX12_stopOf_0 : decode cX12_stopOf 0 = .ok (.aload_n 0, 1) := by decide +kernel
theorem dX12_stopOf_1 : decode cX12_stopOf 1 = .ok (.iload_n 1, 1) := by decide +kernel
theorem dX12_stopOf_2 : decode cX12_stopOf 2 = .ok (.invokevirtual 310, 3) := by decide +kernel
theorem dX12_stopOf_5 : decode cX12_stopOf 5 = .ok (.ifCond .ne 5, 3) := by decide +kernel
theorem dX12_stopOf_8 : decode cX12_stopOf 8 = .ok (.iconst (-1), 1) := by decide +kernel
theorem dX12_stopOf_9 : decode cX12_stopOf 9 = .ok (.ireturn, 1) := by decide +kernel
theorem dX12_stopOf_10 : decode cX12_stopOf 10 = .ok (.iload_n 2, 1) := by decide +kernel
theorem dX12_stopOf_11 : decode cX12_stopOf 11 = .ok (.iconst (-1), 1) := by decide +kernel
theorem dX12_stopOf_12 : decode cX12_stopOf 12 = .ok (.if_icmp .ne 18, 3) := by decide +kernel
theorem dX12_stopOf_15 : decode cX12_stopOf 15 = .ok (.iload_n 3, 1) := by decide +kernel
theorem dX12_stopOf_16 : decode cX12_stopOf 16 = .ok (.ifCond .ne 12, 3) := by decide +kernel
theorem dX12_stopOf_19 : decode cX12_stopOf 19 = .ok (.aload_n 0, 1) := by decide +kernel
theorem dX12_stopOf_20 : decode cX12_stopOf 20 = .ok (.getfield 13, 3) := by decide +kernel
theorem dX12_stopOf_23 : decode cX12_stopOf 23 = .ok (.iload_n 1, 1) := by decide +kernel
theorem dX12_stopOf_24 : decode cX12_stopOf 24 = .ok (.iaload, 1) := by decide +kernel
theorem dX12_stopOf_25 : decode cX12_stopOf 25 = .ok (.goto 4, 3) := by decide +kernel
theorem dX12_stopOf_28 : decode cX12_stopOf 28 = .ok (.iconst (-1), 1) := by decide +kernel
theorem dX12_stopOf_29 : decode cX12_stopOf 29 = .ok (.ireturn, 1) := by decide +kernel
theorem dX12_stopOf_30 : decode cX12_stopOf 30 = .ok (.iload_n 2, 1) := by decide +kernel
theorem dX12_stopOf_31 : decode cX12_stopOf 31 = .ok (.iconst 0, 1) := by decide +kernel
theorem dX12_stopOf_32 : decode cX12_stopOf 32 = .ok (.aload_n 0, 1) := by decide +kernel
theorem dX12_stopOf_33 : decode cX12_stopOf 33 = .ok (.getfield 13, 3) := by decide +kernel
theorem dX12_stopOf_36 : decode cX12_stopOf 36 = .ok (.iload_n 1, 1) := by decide +kernel
theorem dX12_stopOf_37 : decode cX12_stopOf 37 = .ok (.iaload, 1) := by decide +kernel
theorem dX12_stopOf_38 : decode cX12_stopOf 38 = .ok (.iconst 1, 1) := by decide +kernel
theorem dX12_stopOf_39 : decode cX12_stopOf 39 = .ok (.isub, 1) := by decide +kernel
theorem dX12_stopOf_40 : decode cX12_stopOf 40 = .ok (.invokestatic 286, 3) := by decide +kernel
theorem dX12_stopOf_43 : decode cX12_stopOf 43 = .ok (.ifCond .ne 5, 3) := by decide +kernel
theorem dX12_stopOf_46 : decode cX12_stopOf 46 = .ok (.iconst (-1), 1) := by decide +kernel
theorem dX12_stopOf_47 : decode cX12_stopOf 47 = .ok (.ireturn, 1) := by decide +kernel
theorem dX12_stopOf_48 : decode cX12_stopOf 48 = .ok (.bipush 8, 2) := by decide +kernel
theorem dX12_stopOf_50 : decode cX12_stopOf 50 = .ok (.iload_n 1, 1) := by decide +kernel
theorem dX12_stopOf_51 : decode cX12_stopOf 51 = .ok (.imul, 1) := by decide +kernel
theorem dX12_stopOf_52 : decode cX12_stopOf 52 = .ok (.iload_n 2, 1) := by decide +kernel
theorem dX12_stopOf_53 : decode cX12_stopOf 53 = .ok (.iadd, 1) := by decide +kernel
theorem dX12_stopOf_54 : decode cX12_stopOf 54 = .ok (.istore 4, 2) := by decide +kernel
theorem dX12_stopOf_56 : decode cX12_stopOf 56 = .ok (.iload_n 3, 1) := by decide +kernel
theorem dX12_stopOf_57 : decode cX12_stopOf 57 = .ok (.ifCond .ne 13, 3) := by decide +kernel
theorem dX12_stopOf_60 : decode cX12_stopOf 60 = .ok (.aload_n 0, 1) := by decide +kernel
theorem dX12_stopOf_61 : decode cX12_stopOf 61 = .ok (.getfield 16, 3) := by decide +kernel
theorem dX12_stopOf_64 : decode cX12_stopOf 64 = .ok (.iload 4, 2) := by decide +kernel
theorem dX12_stopOf_66 : decode cX12_stopOf 66 = .ok (.iaload, 1) := by decide +kernel
theorem dX12_stopOf_67 : decode cX12_stopOf 67 = .ok (.goto 57, 3) := by decide +kernel
theorem dX12_stopOf_70 : decode cX12_stopOf 70 = .ok (.iload_n 3, 1) := by decide +kernel
theorem dX12_stopOf_71 : decode cX12_stopOf 71 = .ok (.iconst 1, 1) := by decide +kernel
theorem dX12_stopOf_72 : decode cX12_stopOf 72 = .ok (.if_icmp .ne 13, 3) := by decide +kernel
theorem dX12_stopOf_75 : decode cX12_stopOf 75 = .ok (.aload_n 0, 1) := by decide +kernel
theorem dX12_stopOf_76 : decode cX12_stopOf 76 = .ok (.getfield 19, 3) := by decide +kernel
theorem dX12_stopOf_79 : decode cX12_stopOf 79 = .ok (.iload 4, 2) := by decide +kernel
theorem dX12_stopOf_81 : decode cX12_stopOf 81 = .ok (.iaload, 1) := by decide +kernel
theorem dX12_stopOf_82 : decode cX12_stopOf 82 = .ok (.goto 42, 3) := by decide +kernel
theorem dX12_stopOf_85 : decode cX12_stopOf 85 = .ok (.iload_n 3, 1) := by decide +kernel
theorem dX12_stopOf_86 : decode cX12_stopOf 86 = .ok (.iconst 2, 1) := by decide +kernel
theorem dX12_stopOf_87 : decode cX12_stopOf 87 = .ok (.if_icmp .ne 13, 3) := by decide +kernel
theorem dX12_stopOf_90 : decode cX12_stopOf 90 = .ok (.aload_n 0, 1) := by decide +kernel
theorem dX12_stopOf_91 : decode cX12_stopOf 91 = .ok (.getfield 22, 3) := by decide +kernel
theorem dX12_stopOf_94 : decode cX12_stopOf 94 = .ok (.iload 4, 2) := by decide +kernel
theorem dX12_stopOf_96 : decode cX12_stopOf 96 = .ok (.iaload, 1) := by decide +kernel
theorem dX12_stopOf_97 : decode cX12_stopOf 97 = .ok (.goto 27, 3) := by decide +kernel
theorem dX12_stopOf_100 : decode cX12_stopOf 100 = .ok (.iload_n 3, 1) := by decide +kernel
theorem dX12_stopOf_101 : decode cX12_stopOf 101 = .ok (.iconst 3, 1) := by decide +kernel
theorem dX12_stopOf_102 : decode cX12_stopOf 102 = .ok (.if_icmp .ne 21, 3) := by decide +kernel
theorem dX12_stopOf_105 : decode cX12_stopOf 105 = .ok (.aload_n 0, 1) := by decide +kernel
theorem dX12_stopOf_106 : decode cX12_stopOf 106 = .ok (.getfield 28, 3) := by decide +kernel
theorem dX12_stopOf_109 : decode cX12_stopOf 109 = .ok (.iload 4, 2) := by decide +kernel
theorem dX12_stopOf_111 : decode cX12_stopOf 111 = .ok (.baload, 1) := by decide +kernel
theorem dX12_stopOf_112 : decode cX12_stopOf 112 = .ok (.ifCond .eq 7, 3) := by decide +kernel
theorem dX12_stopOf_115 : decode cX12_stopOf 115 = .ok (.iconst 1, 1) := by decide +kernel
theorem dX12_stopOf_116 : decode cX12_stopOf 116 = .ok (.goto 8, 3) := by decide +kernel
theorem dX12_stopOf_119 : decode cX12_stopOf 119 = .ok (.iconst 0, 1) := by decide +kernel
theorem dX12_stopOf_120 : decode cX12_stopOf 120 = .ok (.goto 4, 3) := by decide +kernel
theorem dX12_stopOf_123 : decode cX12_stopOf 123 = .ok (.iconst (-1), 1) := by decide +kernel
theorem dX12_stopOf_124 : decode cX12_stopOf 124 = .ok (.ireturn, 1) := by decide +kernel
theorem bX12_stopOf_0 {d : Nat} {h0 hE h : ea_H} {rv : Option ea_V} {r0 : Option Nat} {x1 : Int32} {x2 : Int32} {x3 : Int32} (H : ∃ a7, r0 = some a7 ∧ a7 < ea_n h ∧ ea_c h a7 = 12 ∧ ∃ (d1 : Nat) (xc9 : Int32) (h2 : ea_H), ea_Met mX12_isTrain d1 [vR (some a7), vI x1] h (some (vI xc9)) h2 ∧ d1 + 1 ≤ d ∧ (¬ xc9 = (0 : Int32) → (¬ x2 = ((-1) : Int32) → a7 < ea_n h2 ∧ ea_c h2 a7 = 12 ∧ ∃ a14, (ea_r h2 a7 4) = some a14 ∧ a14 < ea_n h2 ∧ ea_c h2 a14 = 20 ∧ vp_in x1 (ea_l h2 a14) ∧ ∃ (d17 : Nat) (xc21 : Int32) (h18 : ea_H), ea_Met mX12_isIn d17 [vI x2, vI 0, vI ((ea_i h2 a14 (Int32.toNatClampNeg x1)) - (1 : Int32))] h2 (some (vI xc21)) h18 ∧ d17 + 1 ≤ d ∧ (¬ xc21 = (0 : Int32) → (¬ x3 = (0 : Int32) → (¬ x3 = (1 : Int32) → (¬ x3 = (2 : Int32) → (¬ x3 = (3 : Int32) → rv = some (vI (-1)) ∧ hE = h18) ∧ (x3 = (3 : Int32) → a7 < ea_n h18 ∧ ea_c h18 a7 = 12 ∧ ∃ a26, (ea_r h18 a7 9) = some a26 ∧ a26 < ea_n h18 ∧ ea_c h18 a26 = 21 ∧ vp_in (((8 : Int32) * x1) + x2) (ea_l h18 a26) ∧ ((ea_i h18 a26 (Int32.toNatClampNeg (((8 : Int32) * x1) + x2))) = (0 : Int32) → rv = some (vI 0) ∧ hE = h18) ∧ (¬ (ea_i h18 a26 (Int32.toNatClampNeg (((8 : Int32) * x1) + x2))) = (0 : Int32) → rv = some (vI 1) ∧ hE = h18))) ∧ (x3 = (2 : Int32) → a7 < ea_n h18 ∧ ea_c h18 a7 = 12 ∧ ∃ a35, (ea_r h18 a7 7) = some a35 ∧ a35 < ea_n h18 ∧ ea_c h18 a35 = 20 ∧ vp_in (((8 : Int32) * x1) + x2) (ea_l h18 a35) ∧ rv = some (vI (ea_i h18 a35 (Int32.toNatClampNeg (((8 : Int32) * x1) + x2)))) ∧ hE = h18)) ∧ (x3 = (1 : Int32) → a7 < ea_n h18 ∧ ea_c h18 a7 = 12 ∧ ∃ a43, (ea_r h18 a7 6) = some a43 ∧ a43 < ea_n h18 ∧ ea_c h18 a43 = 20 ∧ vp_in (((8 : Int32) * x1) + x2) (ea_l h18 a43) ∧ rv = some (vI (ea_i h18 a43 (Int32.toNatClampNeg (((8 : Int32) * x1) + x2)))) ∧ hE = h18)) ∧ (x3 = (0 : Int32) → a7 < ea_n h18 ∧ ea_c h18 a7 = 12 ∧ ∃ a51, (ea_r h18 a7 5) = some a51 ∧ a51 < ea_n h18 ∧ ea_c h18 a51 = 20 ∧ vp_in (((8 : Int32) * x1) + x2) (ea_l h18 a51) ∧ rv = some (vI (ea_i h18 a51 (Int32.toNatClampNeg (((8 : Int32) * x1) + x2)))) ∧ hE = h18)) ∧ (xc21 = (0 : Int32) → rv = some (vI (-1)) ∧ hE = h18)) ∧ (x2 = ((-1) : Int32) → (¬ x3 = (0 : Int32) → rv = some (vI (-1)) ∧ hE = h2) ∧ (x3 = (0 : Int32) → a7 < ea_n h2 ∧ ea_c h2 a7 = 12 ∧ ∃ a60, (ea_r h2 a7 4) = some a60 ∧ a60 < ea_n h2 ∧ ea_c h2 a60 = 20 ∧ vp_in x1 (ea_l h2 a60) ∧ rv = some (vI (ea_i h2 a60 (Int32.toNatClampNeg x1))) ∧ hE = h2))) ∧ (xc9 = (0 : Int32) → rv = some (vI (-1)) ∧ hE = h2)) : ea_W mX12_stopOf d h0 rv hE 0 [(0, vR r0), (1, vI x1), (2, vI x2), (3, vI x3)] [] h := by
  refine ea_aload_n (pc := 0) dX12_stopOf_0 rfl 0 rfl ?_
  refine ea_iload_n (pc := 1) dX12_stopOf_1 rfl 1 rfl ?_
  obtain ⟨a7, e8, f5, g6, H⟩ := H
  refine ea_deref1 e8 ?_
  obtain ⟨d1, xc9, h2, m3, q4, H⟩ := H
  refine ea_callV (pc := 2) (As := [vI x1]) (st := []) dX12_stopOf_2 kX12_isTrain m3 q4 rfl (Nat.le_of_ble_eq_true rfl) ew_1736 ew_1738 ew_50 (ci := 12) rfl (by decide) f5 g6 ?_
  refine ea_if_ne (pc := 5) (tgt := 10) dX12_stopOf_5 rfl (fun c65 => ?_) (fun c65 => ?_)
  · have H := H.1 c65
    refine ea_iload_n (pc := 10) dX12_stopOf_10 rfl 2 rfl ?_
    refine ea_iconst (pc := 11) dX12_stopOf_11 (v := (-1)) rfl ?_
    refine ea_icmp_ne (pc := 12) (tgt := 30) dX12_stopOf_12 rfl (fun c64 => ?_) (fun c64 => ?_)
    · have H := H.1 c64
      refine ea_iload_n (pc := 30) dX12_stopOf_30 rfl 2 rfl ?_
      refine ea_iconst (pc := 31) dX12_stopOf_31 (v := 0) rfl ?_
      refine ea_aload_n (pc := 32) dX12_stopOf_32 rfl 0 rfl ?_
      obtain ⟨f10, g11, H⟩ := H
      refine ea_deref0 e8 ?_
      refine ea_getR (pc := 33) dX12_stopOf_33 ec_12 (k := 4) (Nat.le_of_ble_eq_true rfl) rfl (Or.inl ew_1349) f10 g11 rfl ?_
      refine ea_iload_n (pc := 36) dX12_stopOf_36 rfl 1 rfl ?_
      obtain ⟨a14, e15, f12, g13, H⟩ := H
      refine ea_deref1 e15 ?_
      obtain ⟨z16, H⟩ := H
      refine ea_iald (pc := 37) dX12_stopOf_37 f12 g13 z16 ?_
      refine ea_iconst (pc := 38) dX12_stopOf_38 (v := 1) rfl ?_
      refine ea_isub (pc := 39) dX12_stopOf_39 ?_
      obtain ⟨d17, xc21, h18, m19, q20, H⟩ := H
      refine ea_callS (pc := 40) (As := [vI x2, vI 0, vI ((ea_i h2 a14 (Int32.toNatClampNeg x1)) - (1 : Int32))]) (st := []) dX12_stopOf_40 kX12_isIn m19 q20 rfl (Nat.le_of_ble_eq_true rfl) ew_1712 ew_1713 ?_
      refine ea_if_ne (pc := 43) (tgt := 48) dX12_stopOf_43 rfl (fun c55 => ?_) (fun c55 => ?_)
      · have H := H.1 c55
        refine ea_bipush (pc := 48) dX12_stopOf_48 (v := 8) rfl ?_
        refine ea_iload_n (pc := 50) dX12_stopOf_50 rfl 1 rfl ?_
        refine ea_imul (pc := 51) dX12_stopOf_51 ?_
        refine ea_iload_n (pc := 52) dX12_stopOf_52 rfl 2 rfl ?_
        refine ea_iadd (pc := 53) dX12_stopOf_53 ?_
        refine ea_istore (pc := 54) (lv' := [(0, vR r0), (3, vI x3), (4, vI (((8 : Int32) * x1) + x2))]) dX12_stopOf_54 (Nat.le_of_ble_eq_true rfl) [1, 4, 0] rfl ?_
        refine ea_iload_n (pc := 56) dX12_stopOf_56 rfl 1 rfl ?_
        refine ea_if_ne (pc := 57) (tgt := 70) dX12_stopOf_57 rfl (fun c54 => ?_) (fun c54 => ?_)
        · have H := H.1 c54
          refine ea_iload_n (pc := 70) dX12_stopOf_70 rfl 1 rfl ?_
          refine ea_iconst (pc := 71) dX12_stopOf_71 (v := 1) rfl ?_
          refine ea_icmp_ne (pc := 72) (tgt := 85) dX12_stopOf_72 rfl (fun c46 => ?_) (fun c46 => ?_)
          · have H := H.1 c46
            refine ea_iload_n (pc := 85) dX12_stopOf_85 rfl 1 rfl ?_
            refine ea_iconst (pc := 86) dX12_stopOf_86 (v := 2) rfl ?_
            refine ea_icmp_ne (pc := 87) (tgt := 100) dX12_stopOf_87 rfl (fun c38 => ?_) (fun c38 => ?_)
            · have H := H.1 c38
              refine ea_iload_n (pc := 100) dX12_stopOf_100 rfl 1 rfl ?_
              refine ea_iconst (pc := 101) dX12_stopOf_101 (v := 3) rfl ?_
              refine ea_icmp_ne (pc := 102) (tgt := 123) dX12_stopOf_102 rfl (fun c30 => ?_) (fun c30 => ?_)
              · have H := H.1 c30
                refine ea_iconst (pc := 123) dX12_stopOf_123 (v := (-1)) rfl ?_
                obtain ⟨rfl, rfl⟩ := H
                exact ea_ireturn (pc := 124) dX12_stopOf_124 rfl rfl
              · have H := H.2 c30
                refine ea_aload_n (pc := 105) dX12_stopOf_105 rfl 0 rfl ?_
                obtain ⟨f22, g23, H⟩ := H
                refine ea_deref0 e8 ?_
                refine ea_getR (pc := 106) dX12_stopOf_106 ec_12 (k := 9) (Nat.le_of_ble_eq_true rfl) rfl (Or.inl ew_1354) f22 g23 rfl ?_
                refine ea_iload (pc := 109) dX12_stopOf_109 2 rfl ?_
                obtain ⟨a26, e27, f24, g25, H⟩ := H
                refine ea_deref1 e27 ?_
                obtain ⟨z28, H⟩ := H
                refine ea_zald (pc := 111) dX12_stopOf_111 f24 g25 z28 ?_
                refine ea_if_eq (pc := 112) (tgt := 119) dX12_stopOf_112 rfl (fun c29 => ?_) (fun c29 => ?_)
                · have H := H.1 c29
                  refine ea_iconst (pc := 119) dX12_stopOf_119 (v := 0) rfl ?_
                  refine ea_goto (pc := 120) (tgt := 124) dX12_stopOf_120 rfl ?_
                  obtain ⟨rfl, rfl⟩ := H
                  exact ea_ireturn (pc := 124) dX12_stopOf_124 rfl rfl
                · have H := H.2 c29
                  refine ea_iconst (pc := 115) dX12_stopOf_115 (v := 1) rfl ?_
                  refine ea_goto (pc := 116) (tgt := 124) dX12_stopOf_116 rfl ?_
                  obtain ⟨rfl, rfl⟩ := H
                  exact ea_ireturn (pc := 124) dX12_stopOf_124 rfl rfl
            · have H := H.2 c38
              refine ea_aload_n (pc := 90) dX12_stopOf_90 rfl 0 rfl ?_
              obtain ⟨f31, g32, H⟩ := H
              refine ea_deref0 e8 ?_
              refine ea_getR (pc := 91) dX12_stopOf_91 ec_12 (k := 7) (Nat.le_of_ble_eq_true rfl) rfl (Or.inl ew_1352) f31 g32 rfl ?_
              refine ea_iload (pc := 94) dX12_stopOf_94 2 rfl ?_
              obtain ⟨a35, e36, f33, g34, H⟩ := H
              refine ea_deref1 e36 ?_
              obtain ⟨z37, H⟩ := H
              refine ea_iald (pc := 96) dX12_stopOf_96 f33 g34 z37 ?_
              refine ea_goto (pc := 97) (tgt := 124) dX12_stopOf_97 rfl ?_
              obtain ⟨rfl, rfl⟩ := H
              exact ea_ireturn (pc := 124) dX12_stopOf_124 rfl rfl
          · have H := H.2 c46
            refine ea_aload_n (pc := 75) dX12_stopOf_75 rfl 0 rfl ?_
            obtain ⟨f39, g40, H⟩ := H
            refine ea_deref0 e8 ?_
            refine ea_getR (pc := 76) dX12_stopOf_76 ec_12 (k := 6) (Nat.le_of_ble_eq_true rfl) rfl (Or.inl ew_1351) f39 g40 rfl ?_
            refine ea_iload (pc := 79) dX12_stopOf_79 2 rfl ?_
            obtain ⟨a43, e44, f41, g42, H⟩ := H
            refine ea_deref1 e44 ?_
            obtain ⟨z45, H⟩ := H
            refine ea_iald (pc := 81) dX12_stopOf_81 f41 g42 z45 ?_
            refine ea_goto (pc := 82) (tgt := 124) dX12_stopOf_82 rfl ?_
            obtain ⟨rfl, rfl⟩ := H
            exact ea_ireturn (pc := 124) dX12_stopOf_124 rfl rfl
        · have H := H.2 c54
          refine ea_aload_n (pc := 60) dX12_stopOf_60 rfl 0 rfl ?_
          obtain ⟨f47, g48, H⟩ := H
          refine ea_deref0 e8 ?_
          refine ea_getR (pc := 61) dX12_stopOf_61 ec_12 (k := 5) (Nat.le_of_ble_eq_true rfl) rfl (Or.inl ew_1350) f47 g48 rfl ?_
          refine ea_iload (pc := 64) dX12_stopOf_64 2 rfl ?_
          obtain ⟨a51, e52, f49, g50, H⟩ := H
          refine ea_deref1 e52 ?_
          obtain ⟨z53, H⟩ := H
          refine ea_iald (pc := 66) dX12_stopOf_66 f49 g50 z53 ?_
          refine ea_goto (pc := 67) (tgt := 124) dX12_stopOf_67 rfl ?_
          obtain ⟨rfl, rfl⟩ := H
          exact ea_ireturn (pc := 124) dX12_stopOf_124 rfl rfl
      · have H := H.2 c55
        refine ea_iconst (pc := 46) dX12_stopOf_46 (v := (-1)) rfl ?_
        obtain ⟨rfl, rfl⟩ := H
        exact ea_ireturn (pc := 47) dX12_stopOf_47 rfl rfl
    · have H := H.2 c64
      refine ea_iload_n (pc := 15) dX12_stopOf_15 rfl 3 rfl ?_
      refine ea_if_ne (pc := 16) (tgt := 28) dX12_stopOf_16 rfl (fun c63 => ?_) (fun c63 => ?_)
      · have H := H.1 c63
        refine ea_iconst (pc := 28) dX12_stopOf_28 (v := (-1)) rfl ?_
        obtain ⟨rfl, rfl⟩ := H
        exact ea_ireturn (pc := 29) dX12_stopOf_29 rfl rfl
      · have H := H.2 c63
        refine ea_aload_n (pc := 19) dX12_stopOf_19 rfl 0 rfl ?_
        obtain ⟨f56, g57, H⟩ := H
        refine ea_deref0 e8 ?_
        refine ea_getR (pc := 20) dX12_stopOf_20 ec_12 (k := 4) (Nat.le_of_ble_eq_true rfl) rfl (Or.inl ew_1349) f56 g57 rfl ?_
        refine ea_iload_n (pc := 23) dX12_stopOf_23 rfl 1 rfl ?_
        obtain ⟨a60, e61, f58, g59, H⟩ := H
        refine ea_deref1 e61 ?_
        obtain ⟨z62, H⟩ := H
        refine ea_iald (pc := 24) dX12_stopOf_24 f58 g59 z62 ?_
        refine ea_goto (pc := 25) (tgt := 29) dX12_stopOf_25 rfl ?_
        obtain ⟨rfl, rfl⟩ := H
        exact ea_ireturn (pc := 29) dX12_stopOf_29 rfl rfl
  · have H := H.2 c65
    refine ea_iconst (pc := 8) dX12_stopOf_8 (v := (-1)) rfl ?_
    obtain ⟨rfl, rfl⟩ := H
    exact ea_ireturn (pc := 9) dX12_stopOf_9 rfl rfl
theorem dX12_run_0 : decode cX12_run 0 = .ok (.bipush 7, 2) := by decide +kernel
theorem dX12_run_2 : decode cX12_run 2 = .ok (.iload_n 0, 1) := by decide +kernel
theorem dX12_run_3 : decode cX12_run 3 = .ok (.imul, 1) := by decide +kernel
theorem dX12_run_4 : decode cX12_run 4 = .ok (.iload_n 1, 1) := by decide +kernel
theorem dX12_run_5 : decode cX12_run 5 = .ok (.iadd, 1) := by decide +kernel
theorem dX12_run_6 : decode cX12_run 6 = .ok (.ireturn, 1) := by decide +kernel
theorem bX12_run_0 {d : Nat} {h0 hE h : ea_H} {rv : Option ea_V} {x0 : Int32} {x1 : Int32} (H : rv = some (vI (((7 : Int32) * x0) + x1)) ∧ hE = h) : ea_W mX12_run d h0 rv hE 0 [(0, vI x0), (1, vI x1)] [] h := by
  refine ea_bipush (pc := 0) dX12_run_0 (v := 7) rfl ?_
  refine ea_iload_n (pc := 2) dX12_run_2 rfl 0 rfl ?_
  refine ea_imul (pc := 3) dX12_run_3 ?_
  refine ea_iload_n (pc := 4) dX12_run_4 rfl 1 rfl ?_
  refine ea_iadd (pc := 5) dX12_run_5 ?_
  obtain ⟨rfl, rfl⟩ := H
  exact ea_ireturn (pc := 6) dX12_run_6 rfl rfl
theorem dX12_comesAt_0 : decode cX12_comesAt 0 = .ok (.sipush 1440, 3) := by decide +kernel
theorem dX12_comesAt_3 : decode cX12_comesAt 3 = .ok (.iload_n 1, 1) := by decide +kernel
theorem dX12_comesAt_4 : decode cX12_comesAt 4 = .ok (.bipush 7, 2) := by decide +kernel
theorem dX12_comesAt_6 : decode cX12_comesAt 6 = .ok (.irem, 1) := by decide +kernel
theorem dX12_comesAt_7 : decode cX12_comesAt 7 = .ok (.imul, 1) := by decide +kernel
theorem dX12_comesAt_8 : decode cX12_comesAt 8 = .ok (.aload_n 0, 1) := by decide +kernel
theorem dX12_comesAt_9 : decode cX12_comesAt 9 = .ok (.getfield 19, 3) := by decide +kernel
theorem dX12_comesAt_12 : decode cX12_comesAt 12 = .ok (.bipush 8, 2) := by decide +kernel
theorem dX12_comesAt_14 : decode cX12_comesAt 14 = .ok (.iload_n 1, 1) := by decide +kernel
theorem dX12_comesAt_15 : decode cX12_comesAt 15 = .ok (.bipush 7, 2) := by decide +kernel
theorem dX12_comesAt_17 : decode cX12_comesAt 17 = .ok (.idiv, 1) := by decide +kernel
theorem dX12_comesAt_18 : decode cX12_comesAt 18 = .ok (.imul, 1) := by decide +kernel
theorem dX12_comesAt_19 : decode cX12_comesAt 19 = .ok (.iload_n 2, 1) := by decide +kernel
theorem dX12_comesAt_20 : decode cX12_comesAt 20 = .ok (.iadd, 1) := by decide +kernel
theorem dX12_comesAt_21 : decode cX12_comesAt 21 = .ok (.iaload, 1) := by decide +kernel
theorem dX12_comesAt_22 : decode cX12_comesAt 22 = .ok (.iadd, 1) := by decide +kernel
theorem dX12_comesAt_23 : decode cX12_comesAt 23 = .ok (.aload_n 0, 1) := by decide +kernel
theorem dX12_comesAt_24 : decode cX12_comesAt 24 = .ok (.getfield 25, 3) := by decide +kernel
theorem dX12_comesAt_27 : decode cX12_comesAt 27 = .ok (.iload_n 1, 1) := by decide +kernel
theorem dX12_comesAt_28 : decode cX12_comesAt 28 = .ok (.iaload, 1) := by decide +kernel
theorem dX12_comesAt_29 : decode cX12_comesAt 29 = .ok (.iadd, 1) := by decide +kernel
theorem dX12_comesAt_30 : decode cX12_comesAt 30 = .ok (.ireturn, 1) := by decide +kernel
theorem bX12_comesAt_0 {d : Nat} {h0 hE h : ea_H} {rv : Option ea_V} {r0 : Option Nat} {x1 : Int32} {x2 : Int32} (H : ∃ a3, r0 = some a3 ∧ a3 < ea_n h ∧ ea_c h a3 = 12 ∧ ∃ a7, (ea_r h a3 6) = some a7 ∧ a7 < ea_n h ∧ ea_c h a7 = 20 ∧ vp_in (((8 : Int32) * (x1 / (7 : Int32))) + x2) (ea_l h a7) ∧ a3 < ea_n h ∧ ea_c h a3 = 12 ∧ ∃ a14, (ea_r h a3 8) = some a14 ∧ a14 < ea_n h ∧ ea_c h a14 = 20 ∧ vp_in x1 (ea_l h a14) ∧ rv = some (vI ((((1440 : Int32) * (x1 - x1 / (7 : Int32) * (7 : Int32))) + (ea_i h a7 (Int32.toNatClampNeg (((8 : Int32) * (x1 / (7 : Int32))) + x2)))) + (ea_i h a14 (Int32.toNatClampNeg x1)))) ∧ hE = h) : ea_W mX12_comesAt d h0 rv hE 0 [(0, vR r0), (1, vI x1), (2, vI x2)] [] h := by
  refine ea_sipush (pc := 0) dX12_comesAt_0 (v := 1440) rfl ?_
  refine ea_iload_n (pc := 3) dX12_comesAt_3 rfl 1 rfl ?_
  refine ea_bipush (pc := 4) dX12_comesAt_4 (v := 7) rfl ?_
  refine ea_irem (pc := 6) dX12_comesAt_6 (by decide) ?_
  refine ea_imul (pc := 7) dX12_comesAt_7 ?_
  refine ea_aload_n (pc := 8) dX12_comesAt_8 rfl 0 rfl ?_
  obtain ⟨a3, e4, f1, g2, H⟩ := H
  refine ea_deref0 e4 ?_
  refine ea_getR (pc := 9) dX12_comesAt_9 ec_12 (k := 6) (Nat.le_of_ble_eq_true rfl) rfl (Or.inl ew_1351) f1 g2 rfl ?_
  refine ea_bipush (pc := 12) dX12_comesAt_12 (v := 8) rfl ?_
  refine ea_iload_n (pc := 14) dX12_comesAt_14 rfl 1 rfl ?_
  refine ea_bipush (pc := 15) dX12_comesAt_15 (v := 7) rfl ?_
  refine ea_idiv (pc := 17) dX12_comesAt_17 (by decide) ?_
  refine ea_imul (pc := 18) dX12_comesAt_18 ?_
  refine ea_iload_n (pc := 19) dX12_comesAt_19 rfl 2 rfl ?_
  refine ea_iadd (pc := 20) dX12_comesAt_20 ?_
  obtain ⟨a7, e8, f5, g6, H⟩ := H
  refine ea_deref1 e8 ?_
  obtain ⟨z9, H⟩ := H
  refine ea_iald (pc := 21) dX12_comesAt_21 f5 g6 z9 ?_
  refine ea_iadd (pc := 22) dX12_comesAt_22 ?_
  refine ea_aload_n (pc := 23) dX12_comesAt_23 rfl 0 rfl ?_
  obtain ⟨f10, g11, H⟩ := H
  refine ea_deref0 e4 ?_
  refine ea_getR (pc := 24) dX12_comesAt_24 ec_12 (k := 8) (Nat.le_of_ble_eq_true rfl) rfl (Or.inl ew_1353) f10 g11 rfl ?_
  refine ea_iload_n (pc := 27) dX12_comesAt_27 rfl 1 rfl ?_
  obtain ⟨a14, e15, f12, g13, H⟩ := H
  refine ea_deref1 e15 ?_
  obtain ⟨z16, H⟩ := H
  refine ea_iald (pc := 28) dX12_comesAt_28 f12 g13 z16 ?_
  refine ea_iadd (pc := 29) dX12_comesAt_29 ?_
  obtain ⟨rfl, rfl⟩ := H
  exact ea_ireturn (pc := 30) dX12_comesAt_30 rfl rfl
theorem dX12_goesAt_0 : decode cX12_goesAt 0 = .ok (.sipush 1440, 3) := by decide +kernel
theorem dX12_goesAt_3 : decode cX12_goesAt 3 = .ok (.iload_n 1, 1) := by decide +kernel
theorem dX12_goesAt_4 : decode cX12_goesAt 4 = .ok (.bipush 7, 2) := by decide +kernel
theorem dX12_goesAt_6 : decode cX12_goesAt 6 = .ok (.irem, 1) := by decide +kernel
theorem dX12_goesAt_7 : decode cX12_goesAt 7 = .ok (.imul, 1) := by decide +kernel
theorem dX12_goesAt_8 : decode cX12_goesAt 8 = .ok (.aload_n 0, 1) := by decide +kernel
theorem dX12_goesAt_9 : decode cX12_goesAt 9 = .ok (.getfield 22, 3) := by decide +kernel
theorem dX12_goesAt_12 : decode cX12_goesAt 12 = .ok (.bipush 8, 2) := by decide +kernel
theorem dX12_goesAt_14 : decode cX12_goesAt 14 = .ok (.iload_n 1, 1) := by decide +kernel
theorem dX12_goesAt_15 : decode cX12_goesAt 15 = .ok (.bipush 7, 2) := by decide +kernel
theorem dX12_goesAt_17 : decode cX12_goesAt 17 = .ok (.idiv, 1) := by decide +kernel
theorem dX12_goesAt_18 : decode cX12_goesAt 18 = .ok (.imul, 1) := by decide +kernel
theorem dX12_goesAt_19 : decode cX12_goesAt 19 = .ok (.iload_n 2, 1) := by decide +kernel
theorem dX12_goesAt_20 : decode cX12_goesAt 20 = .ok (.iadd, 1) := by decide +kernel
theorem dX12_goesAt_21 : decode cX12_goesAt 21 = .ok (.iaload, 1) := by decide +kernel
theorem dX12_goesAt_22 : decode cX12_goesAt 22 = .ok (.iadd, 1) := by decide +kernel
theorem dX12_goesAt_23 : decode cX12_goesAt 23 = .ok (.aload_n 0, 1) := by decide +kernel
theorem dX12_goesAt_24 : decode cX12_goesAt 24 = .ok (.getfield 25, 3) := by decide +kernel
theorem dX12_goesAt_27 : decode cX12_goesAt 27 = .ok (.iload_n 1, 1) := by decide +kernel
theorem dX12_goesAt_28 : decode cX12_goesAt 28 = .ok (.iaload, 1) := by decide +kernel
theorem dX12_goesAt_29 : decode cX12_goesAt 29 = .ok (.iadd, 1) := by decide +kernel
theorem dX12_goesAt_30 : decode cX12_goesAt 30 = .ok (.ireturn, 1) := by decide +kernel
theorem bX12_goesAt_0 {d : Nat} {h0 hE h : ea_H} {rv : Option ea_V} {r0 : Option Nat} {x1 : Int32} {x2 : Int32} (H : ∃ a3, r0 = some a3 ∧ a3 < ea_n h ∧ ea_c h a3 = 12 ∧ ∃ a7, (ea_r h a3 7) = some a7 ∧ a7 < ea_n h ∧ ea_c h a7 = 20 ∧ vp_in (((8 : Int32) * (x1 / (7 : Int32))) + x2) (ea_l h a7) ∧ a3 < ea_n h ∧ ea_c h a3 = 12 ∧ ∃ a14, (ea_r h a3 8) = some a14 ∧ a14 < ea_n h ∧ ea_c h a14 = 20 ∧ vp_in x1 (ea_l h a14) ∧ rv = some (vI ((((1440 : Int32) * (x1 - x1 / (7 : Int32) * (7 : Int32))) + (ea_i h a7 (Int32.toNatClampNeg (((8 : Int32) * (x1 / (7 : Int32))) + x2)))) + (ea_i h a14 (Int32.toNatClampNeg x1)))) ∧ hE = h) : ea_W mX12_goesAt d h0 rv hE 0 [(0, vR r0), (1, vI x1), (2, vI x2)] [] h := by
  refine ea_sipush (pc := 0) dX12_goesAt_0 (v := 1440) rfl ?_
  refine ea_iload_n (pc := 3) dX12_goesAt_3 rfl 1 rfl ?_
  refine ea_bipush (pc := 4) dX12_goesAt_4 (v := 7) rfl ?_
  refine ea_irem (pc := 6) dX12_goesAt_6 (by decide) ?_
  refine ea_imul (pc := 7) dX12_goesAt_7 ?_
  refine ea_aload_n (pc := 8) dX12_goesAt_8 rfl 0 rfl ?_
  obtain ⟨a3, e4, f1, g2, H⟩ := H
  refine ea_deref0 e4 ?_
  refine ea_getR (pc := 9) dX12_goesAt_9 ec_12 (k := 7) (Nat.le_of_ble_eq_true rfl) rfl (Or.inl ew_1352) f1 g2 rfl ?_
  refine ea_bipush (pc := 12) dX12_goesAt_12 (v := 8) rfl ?_
  refine ea_iload_n (pc := 14) dX12_goesAt_14 rfl 1 rfl ?_
  refine ea_bipush (pc := 15) dX12_goesAt_15 (v := 7) rfl ?_
  refine ea_idiv (pc := 17) dX12_goesAt_17 (by decide) ?_
  refine ea_imul (pc := 18) dX12_goesAt_18 ?_
  refine ea_iload_n (pc := 19) dX12_goesAt_19 rfl 2 rfl ?_
  refine ea_iadd (pc := 20) dX12_goesAt_20 ?_
  obtain ⟨a7, e8, f5, g6, H⟩ := H
  refine ea_deref1 e8 ?_
  obtain ⟨z9, H⟩ := H
  refine ea_iald (pc := 21) dX12_goesAt_21 f5 g6 z9 ?_
  refine ea_iadd (pc := 22) dX12_goesAt_22 ?_
  refine ea_aload_n (pc := 23) dX12_goesAt_23 rfl 0 rfl ?_
  obtain ⟨f10, g11, H⟩ := H
  refine ea_deref0 e4 ?_
  refine ea_getR (pc := 24) dX12_goesAt_24 ec_12 (k := 8) (Nat.le_of_ble_eq_true rfl) rfl (Or.inl ew_1353) f10 g11 rfl ?_
  refine ea_iload_n (pc := 27) dX12_goesAt_27 rfl 1 rfl ?_
  obtain ⟨a14, e15, f12, g13, H⟩ := H
  refine ea_deref1 e15 ?_
  obtain ⟨z16, H⟩ := H
  refine ea_iald (pc := 28) dX12_goesAt_28 f12 g13 z16 ?_
  refine ea_iadd (pc := 29) dX12_goesAt_29 ?_
  obtain ⟨rfl, rfl⟩ := H
  exact ea_ireturn (pc := 30) dX12_goesAt_30 rfl rfl
theorem dX12_canBeLate_0 : decode cX12_canBeLate 0 = .ok (.aload_n 0, 1) := by decide +kernel
theorem dX12_canBeLate_1 : decode cX12_canBeLate 1 = .ok (.iload_n 1, 1) := by decide +kernel
theorem dX12_canBeLate_2 : decode cX12_canBeLate 2 = .ok (.invokevirtual 310, 3) := by decide +kernel
theorem dX12_canBeLate_5 : decode cX12_canBeLate 5 = .ok (.ifCond .eq 56, 3) := by decide +kernel
theorem dX12_canBeLate_8 : decode cX12_canBeLate 8 = .ok (.iload_n 2, 1) := by decide +kernel
theorem dX12_canBeLate_9 : decode cX12_canBeLate 9 = .ok (.invokestatic 316, 3) := by decide +kernel
theorem dX12_canBeLate_12 : decode cX12_canBeLate 12 = .ok (.ifCond .eq 49, 3) := by decide +kernel
theorem dX12_canBeLate_15 : decode cX12_canBeLate 15 = .ok (.iload_n 3, 1) := by decide +kernel
theorem dX12_canBeLate_16 : decode cX12_canBeLate 16 = .ok (.iconst 0, 1) := by decide +kernel
theorem dX12_canBeLate_17 : decode cX12_canBeLate 17 = .ok (.sipush 300, 3) := by decide +kernel
theorem dX12_canBeLate_20 : decode cX12_canBeLate 20 = .ok (.invokestatic 286, 3) := by decide +kernel
theorem dX12_canBeLate_23 : decode cX12_canBeLate 23 = .ok (.ifCond .eq 38, 3) := by decide +kernel
theorem dX12_canBeLate_26 : decode cX12_canBeLate 26 = .ok (.aload_n 0, 1) := by decide +kernel
theorem dX12_canBeLate_27 : decode cX12_canBeLate 27 = .ok (.getfield 13, 3) := by decide +kernel
theorem dX12_canBeLate_30 : decode cX12_canBeLate 30 = .ok (.iload_n 1, 1) := by decide +kernel
theorem dX12_canBeLate_31 : decode cX12_canBeLate 31 = .ok (.iaload, 1) := by decide +kernel
theorem dX12_canBeLate_32 : decode cX12_canBeLate 32 = .ok (.ifCond .le 29, 3) := by decide +kernel
theorem dX12_canBeLate_35 : decode cX12_canBeLate 35 = .ok (.sipush 1440, 3) := by decide +kernel
theorem dX12_canBeLate_38 : decode cX12_canBeLate 38 = .ok (.iload_n 2, 1) := by decide +kernel
theorem dX12_canBeLate_39 : decode cX12_canBeLate 39 = .ok (.imul, 1) := by decide +kernel
theorem dX12_canBeLate_40 : decode cX12_canBeLate 40 = .ok (.aload_n 0, 1) := by decide +kernel
theorem dX12_canBeLate_41 : decode cX12_canBeLate 41 = .ok (.getfield 22, 3) := by decide +kernel
theorem dX12_canBeLate_44 : decode cX12_canBeLate 44 = .ok (.bipush 8, 2) := by decide +kernel
theorem dX12_canBeLate_46 : decode cX12_canBeLate 46 = .ok (.iload_n 1, 1) := by decide +kernel
theorem dX12_canBeLate_47 : decode cX12_canBeLate 47 = .ok (.imul, 1) := by decide +kernel
theorem dX12_canBeLate_48 : decode cX12_canBeLate 48 = .ok (.iaload, 1) := by decide +kernel
theorem dX12_canBeLate_49 : decode cX12_canBeLate 49 = .ok (.iadd, 1) := by decide +kernel
theorem dX12_canBeLate_50 : decode cX12_canBeLate 50 = .ok (.aload_n 0, 1) := by decide +kernel
theorem dX12_canBeLate_51 : decode cX12_canBeLate 51 = .ok (.getfield 313, 3) := by decide +kernel
theorem dX12_canBeLate_54 : decode cX12_canBeLate 54 = .ok (.if_icmp .le 7, 3) := by decide +kernel
theorem dX12_canBeLate_57 : decode cX12_canBeLate 57 = .ok (.iconst 1, 1) := by decide +kernel
theorem dX12_canBeLate_58 : decode cX12_canBeLate 58 = .ok (.goto 4, 3) := by decide +kernel
theorem dX12_canBeLate_61 : decode cX12_canBeLate 61 = .ok (.iconst 0, 1) := by decide +kernel
theorem dX12_canBeLate_62 : decode cX12_canBeLate 62 = .ok (.ireturn, 1) := by decide +kernel
theorem bX12_canBeLate_0 {d : Nat} {h0 hE h : ea_H} {rv : Option ea_V} {r0 : Option Nat} {x1 : Int32} {x2 : Int32} {x3 : Int32} (H : ∃ a7, r0 = some a7 ∧ a7 < ea_n h ∧ ea_c h a7 = 12 ∧ ∃ (d1 : Nat) (xc9 : Int32) (h2 : ea_H), ea_Met mX12_isTrain d1 [vR (some a7), vI x1] h (some (vI xc9)) h2 ∧ d1 + 1 ≤ d ∧ (xc9 = (0 : Int32) → rv = some (vI 0) ∧ hE = h2) ∧ (¬ xc9 = (0 : Int32) → ∃ (d10 : Nat) (xc14 : Int32) (h11 : ea_H), ea_Met mX12_isDay d10 [vI x2] h2 (some (vI xc14)) h11 ∧ d10 + 1 ≤ d ∧ (xc14 = (0 : Int32) → rv = some (vI 0) ∧ hE = h11) ∧ (¬ xc14 = (0 : Int32) → ∃ (d15 : Nat) (xc19 : Int32) (h16 : ea_H), ea_Met mX12_isIn d15 [vI x3, vI 0, vI 300] h11 (some (vI xc19)) h16 ∧ d15 + 1 ≤ d ∧ (xc19 = (0 : Int32) → rv = some (vI 0) ∧ hE = h16) ∧ (¬ xc19 = (0 : Int32) → a7 < ea_n h16 ∧ ea_c h16 a7 = 12 ∧ ∃ a24, (ea_r h16 a7 4) = some a24 ∧ a24 < ea_n h16 ∧ ea_c h16 a24 = 20 ∧ vp_in x1 (ea_l h16 a24) ∧ ((ea_i h16 a24 (Int32.toNatClampNeg x1)) ≤ (0 : Int32) → rv = some (vI 0) ∧ hE = h16) ∧ (¬ (ea_i h16 a24 (Int32.toNatClampNeg x1)) ≤ (0 : Int32) → a7 < ea_n h16 ∧ ea_c h16 a7 = 12 ∧ ∃ a31, (ea_r h16 a7 7) = some a31 ∧ a31 < ea_n h16 ∧ ea_c h16 a31 = 20 ∧ vp_in ((8 : Int32) * x1) (ea_l h16 a31) ∧ a7 < ea_n h16 ∧ ea_c h16 a7 = 12 ∧ ((((1440 : Int32) * x2) + (ea_i h16 a31 (Int32.toNatClampNeg ((8 : Int32) * x1)))) ≤ (ea_i h16 a7 0) → rv = some (vI 0) ∧ hE = h16) ∧ (¬ (((1440 : Int32) * x2) + (ea_i h16 a31 (Int32.toNatClampNeg ((8 : Int32) * x1)))) ≤ (ea_i h16 a7 0) → rv = some (vI 1) ∧ hE = h16)))))) : ea_W mX12_canBeLate d h0 rv hE 0 [(0, vR r0), (1, vI x1), (2, vI x2), (3, vI x3)] [] h := by
  refine ea_aload_n (pc := 0) dX12_canBeLate_0 rfl 0 rfl ?_
  refine ea_iload_n (pc := 1) dX12_canBeLate_1 rfl 1 rfl ?_
  obtain ⟨a7, e8, f5, g6, H⟩ := H
  refine ea_deref1 e8 ?_
  obtain ⟨d1, xc9, h2, m3, q4, H⟩ := H
  refine ea_callV (pc := 2) (As := [vI x1]) (st := []) dX12_canBeLate_2 kX12_isTrain m3 q4 rfl (Nat.le_of_ble_eq_true rfl) ew_1736 ew_1738 ew_50 (ci := 12) rfl (by decide) f5 g6 ?_
  refine ea_if_eq (pc := 5) (tgt := 61) dX12_canBeLate_5 rfl (fun c40 => ?_) (fun c40 => ?_)
  · have H := H.1 c40
    refine ea_iconst (pc := 61) dX12_canBeLate_61 (v := 0) rfl ?_
    obtain ⟨rfl, rfl⟩ := H
    exact ea_ireturn (pc := 62) dX12_canBeLate_62 rfl (ea_bn (Or.inl rfl))
  · have H := H.2 c40
    refine ea_iload_n (pc := 8) dX12_canBeLate_8 rfl 2 rfl ?_
    obtain ⟨d10, xc14, h11, m12, q13, H⟩ := H
    refine ea_callS (pc := 9) (As := [vI x2]) (st := []) dX12_canBeLate_9 kX12_isDay m12 q13 rfl (Nat.le_of_ble_eq_true rfl) ew_1752 ew_1753 ?_
    refine ea_if_eq (pc := 12) (tgt := 61) dX12_canBeLate_12 rfl (fun c39 => ?_) (fun c39 => ?_)
    · have H := H.1 c39
      refine ea_iconst (pc := 61) dX12_canBeLate_61 (v := 0) rfl ?_
      obtain ⟨rfl, rfl⟩ := H
      exact ea_ireturn (pc := 62) dX12_canBeLate_62 rfl (ea_bn (Or.inl rfl))
    · have H := H.2 c39
      refine ea_iload_n (pc := 15) dX12_canBeLate_15 rfl 3 rfl ?_
      refine ea_iconst (pc := 16) dX12_canBeLate_16 (v := 0) rfl ?_
      refine ea_sipush (pc := 17) dX12_canBeLate_17 (v := 300) rfl ?_
      obtain ⟨d15, xc19, h16, m17, q18, H⟩ := H
      refine ea_callS (pc := 20) (As := [vI x3, vI 0, vI 300]) (st := []) dX12_canBeLate_20 kX12_isIn m17 q18 rfl (Nat.le_of_ble_eq_true rfl) ew_1712 ew_1713 ?_
      refine ea_if_eq (pc := 23) (tgt := 61) dX12_canBeLate_23 rfl (fun c38 => ?_) (fun c38 => ?_)
      · have H := H.1 c38
        refine ea_iconst (pc := 61) dX12_canBeLate_61 (v := 0) rfl ?_
        obtain ⟨rfl, rfl⟩ := H
        exact ea_ireturn (pc := 62) dX12_canBeLate_62 rfl (ea_bn (Or.inl rfl))
      · have H := H.2 c38
        refine ea_aload_n (pc := 26) dX12_canBeLate_26 rfl 0 rfl ?_
        obtain ⟨f20, g21, H⟩ := H
        refine ea_deref0 e8 ?_
        refine ea_getR (pc := 27) dX12_canBeLate_27 ec_12 (k := 4) (Nat.le_of_ble_eq_true rfl) rfl (Or.inl ew_1349) f20 g21 rfl ?_
        refine ea_iload_n (pc := 30) dX12_canBeLate_30 rfl 1 rfl ?_
        obtain ⟨a24, e25, f22, g23, H⟩ := H
        refine ea_deref1 e25 ?_
        obtain ⟨z26, H⟩ := H
        refine ea_iald (pc := 31) dX12_canBeLate_31 f22 g23 z26 ?_
        refine ea_if_le (pc := 32) (tgt := 61) dX12_canBeLate_32 rfl (fun c37 => ?_) (fun c37 => ?_)
        · have H := H.1 c37
          refine ea_iconst (pc := 61) dX12_canBeLate_61 (v := 0) rfl ?_
          obtain ⟨rfl, rfl⟩ := H
          exact ea_ireturn (pc := 62) dX12_canBeLate_62 rfl (ea_bn (Or.inl rfl))
        · have H := H.2 c37
          refine ea_sipush (pc := 35) dX12_canBeLate_35 (v := 1440) rfl ?_
          refine ea_iload_n (pc := 38) dX12_canBeLate_38 rfl 2 rfl ?_
          refine ea_imul (pc := 39) dX12_canBeLate_39 ?_
          refine ea_aload_n (pc := 40) dX12_canBeLate_40 rfl 0 rfl ?_
          obtain ⟨f27, g28, H⟩ := H
          refine ea_deref0 e8 ?_
          refine ea_getR (pc := 41) dX12_canBeLate_41 ec_12 (k := 7) (Nat.le_of_ble_eq_true rfl) rfl (Or.inl ew_1352) f27 g28 rfl ?_
          refine ea_bipush (pc := 44) dX12_canBeLate_44 (v := 8) rfl ?_
          refine ea_iload_n (pc := 46) dX12_canBeLate_46 rfl 1 rfl ?_
          refine ea_imul (pc := 47) dX12_canBeLate_47 ?_
          obtain ⟨a31, e32, f29, g30, H⟩ := H
          refine ea_deref1 e32 ?_
          obtain ⟨z33, H⟩ := H
          refine ea_iald (pc := 48) dX12_canBeLate_48 f29 g30 z33 ?_
          refine ea_iadd (pc := 49) dX12_canBeLate_49 ?_
          refine ea_aload_n (pc := 50) dX12_canBeLate_50 rfl 0 rfl ?_
          obtain ⟨f34, g35, H⟩ := H
          refine ea_deref0 e8 ?_
          refine ea_getI (pc := 51) dX12_canBeLate_51 ec_12 (k := 0) (Nat.le_of_ble_eq_true rfl) rfl (Or.inl ew_1345) f34 g35 ?_
          refine ea_icmp_le (pc := 54) (tgt := 61) dX12_canBeLate_54 rfl (fun c36 => ?_) (fun c36 => ?_)
          · have H := H.1 c36
            refine ea_iconst (pc := 61) dX12_canBeLate_61 (v := 0) rfl ?_
            obtain ⟨rfl, rfl⟩ := H
            exact ea_ireturn (pc := 62) dX12_canBeLate_62 rfl (ea_bn (Or.inl rfl))
          · have H := H.2 c36
            refine ea_iconst (pc := 57) dX12_canBeLate_57 (v := 1) rfl ?_
            refine ea_goto (pc := 58) (tgt := 62) dX12_canBeLate_58 rfl ?_
            obtain ⟨rfl, rfl⟩ := H
            exact ea_ireturn (pc := 62) dX12_canBeLate_62 rfl (ea_bn (Or.inr rfl))
theorem dX12_late_0 : decode cX12_late 0 = .ok (.aload_n 0, 1) := by decide +kernel
theorem dX12_late_1 : decode cX12_late 1 = .ok (.iload_n 1, 1) := by decide +kernel
theorem dX12_late_2 : decode cX12_late 2 = .ok (.iload_n 2, 1) := by decide +kernel
theorem dX12_late_3 : decode cX12_late 3 = .ok (.iload_n 3, 1) := by decide +kernel
theorem dX12_late_4 : decode cX12_late 4 = .ok (.invokevirtual 319, 3) := by decide +kernel
theorem dX12_late_7 : decode cX12_late 7 = .ok (.ifCond .ne 5, 3) := by decide +kernel
theorem dX12_late_10 : decode cX12_late 10 = .ok (.iconst 0, 1) := by decide +kernel
theorem dX12_late_11 : decode cX12_late 11 = .ok (.ireturn, 1) := by decide +kernel
theorem dX12_late_12 : decode cX12_late 12 = .ok (.aload_n 0, 1) := by decide +kernel
theorem dX12_late_13 : decode cX12_late 13 = .ok (.getfield 25, 3) := by decide +kernel
theorem dX12_late_16 : decode cX12_late 16 = .ok (.iload_n 1, 1) := by decide +kernel
theorem dX12_late_17 : decode cX12_late 17 = .ok (.iload_n 2, 1) := by decide +kernel
theorem dX12_late_18 : decode cX12_late 18 = .ok (.invokestatic 322, 3) := by decide +kernel
theorem dX12_late_21 : decode cX12_late 21 = .ok (.iload_n 3, 1) := by decide +kernel
theorem dX12_late_22 : decode cX12_late 22 = .ok (.iastore, 1) := by decide +kernel
theorem dX12_late_23 : decode cX12_late 23 = .ok (.aload_n 0, 1) := by decide +kernel
theorem dX12_late_24 : decode cX12_late 24 = .ok (.iconst 0, 1) := by decide +kernel
theorem dX12_late_25 : decode cX12_late 25 = .ok (.putfield 293, 3) := by decide +kernel
theorem dX12_late_28 : decode cX12_late 28 = .ok (.iconst 1, 1) := by decide +kernel
theorem dX12_late_29 : decode cX12_late 29 = .ok (.ireturn, 1) := by decide +kernel
theorem bX12_late_0 {d : Nat} {h0 hE h : ea_H} {rv : Option ea_V} {r0 : Option Nat} {x1 : Int32} {x2 : Int32} {x3 : Int32} (H : ∃ a7, r0 = some a7 ∧ a7 < ea_n h ∧ ea_c h a7 = 12 ∧ ∃ (d1 : Nat) (xc9 : Int32) (h2 : ea_H), ea_Met mX12_canBeLate d1 [vR (some a7), vI x1, vI x2, vI x3] h (some (vI xc9)) h2 ∧ d1 + 1 ≤ d ∧ (¬ xc9 = (0 : Int32) → a7 < ea_n h2 ∧ ea_c h2 a7 = 12 ∧ ∃ (d12 : Nat) (xc16 : Int32) (h13 : ea_H), ea_Met mX12_run d12 [vI x1, vI x2] h2 (some (vI xc16)) h13 ∧ d12 + 1 ≤ d ∧ ∃ a19, (ea_r h2 a7 8) = some a19 ∧ a19 < ea_n h13 ∧ ea_c h13 a19 = 20 ∧ vp_in xc16 (ea_l h13 a19) ∧ ∀ h22, h22 = ea_wi h13 a19 (Int32.toNatClampNeg xc16) x3 → a7 < ea_n h22 ∧ ea_c h22 a7 = 12 ∧ ∀ h26, h26 = ea_wi h22 a7 12 0 → rv = some (vI 1) ∧ hE = h26) ∧ (xc9 = (0 : Int32) → rv = some (vI 0) ∧ hE = h2)) : ea_W mX12_late d h0 rv hE 0 [(0, vR r0), (1, vI x1), (2, vI x2), (3, vI x3)] [] h := by
  refine ea_aload_n (pc := 0) dX12_late_0 rfl 0 rfl ?_
  refine ea_iload_n (pc := 1) dX12_late_1 rfl 1 rfl ?_
  refine ea_iload_n (pc := 2) dX12_late_2 rfl 2 rfl ?_
  refine ea_iload_n (pc := 3) dX12_late_3 rfl 3 rfl ?_
  obtain ⟨a7, e8, f5, g6, H⟩ := H
  refine ea_deref3 e8 ?_
  obtain ⟨d1, xc9, h2, m3, q4, H⟩ := H
  refine ea_callV (pc := 4) (As := [vI x1, vI x2, vI x3]) (st := []) dX12_late_4 kX12_canBeLate m3 q4 rfl (Nat.le_of_ble_eq_true rfl) ew_1748 ew_1750 ew_51 (ci := 12) rfl (by decide) f5 g6 ?_
  refine ea_if_ne (pc := 7) (tgt := 12) dX12_late_7 rfl (fun c28 => ?_) (fun c28 => ?_)
  · have H := H.1 c28
    refine ea_aload_n (pc := 12) dX12_late_12 rfl 0 rfl ?_
    obtain ⟨f10, g11, H⟩ := H
    refine ea_deref0 e8 ?_
    refine ea_getR (pc := 13) dX12_late_13 ec_12 (k := 8) (Nat.le_of_ble_eq_true rfl) rfl (Or.inl ew_1353) f10 g11 rfl ?_
    refine ea_iload_n (pc := 16) dX12_late_16 rfl 1 rfl ?_
    refine ea_iload_n (pc := 17) dX12_late_17 rfl 2 rfl ?_
    obtain ⟨d12, xc16, h13, m14, q15, H⟩ := H
    refine ea_callS (pc := 18) (As := [vI x1, vI x2]) (st := [vR (ea_r h2 a7 8)]) dX12_late_18 kX12_run m14 q15 rfl (Nat.le_of_ble_eq_true rfl) ew_1755 ew_1756 ?_
    refine ea_iload_n (pc := 21) dX12_late_21 rfl 3 rfl ?_
    obtain ⟨a19, e20, f17, g18, H⟩ := H
    refine ea_deref2 e20 ?_
    obtain ⟨z21, H⟩ := H
    refine ea_iast (pc := 22) dX12_late_22 f17 g18 z21 ?_
    obtain ⟨h22, E23⟩ : ∃ z, z = ea_wi h13 a19 (Int32.toNatClampNeg xc16) x3 := ⟨_, rfl⟩
    have H := H h22 E23
    refine ea_nm E23 ?_
    refine ea_aload_n (pc := 23) dX12_late_23 rfl 0 rfl ?_
    refine ea_iconst (pc := 24) dX12_late_24 (v := 0) rfl ?_
    obtain ⟨f24, g25, H⟩ := H
    refine ea_deref1 e8 ?_
    refine ea_putI (pc := 25) dX12_late_25 ec_12 (k := 12) (Nat.le_of_ble_eq_true rfl) rfl (Or.inl ⟨rfl, Or.inl ew_1357⟩) (ea_bn (Or.inl rfl)) (ea_bf (Or.inl rfl)) f24 g25 ?_
    obtain ⟨h26, E27⟩ : ∃ z, z = ea_wi h22 a7 12 0 := ⟨_, rfl⟩
    have H := H h26 E27
    refine ea_nm E27 ?_
    refine ea_iconst (pc := 28) dX12_late_28 (v := 1) rfl ?_
    obtain ⟨rfl, rfl⟩ := H
    exact ea_ireturn (pc := 29) dX12_late_29 rfl (ea_bn (Or.inr rfl))
  · have H := H.2 c28
    refine ea_iconst (pc := 10) dX12_late_10 (v := 0) rfl ?_
    obtain ⟨rfl, rfl⟩ := H
    exact ea_ireturn (pc := 11) dX12_late_11 rfl (ea_bn (Or.inl rfl))
theorem dX12_miss_0 : decode cX12_miss 0 = .ok (.aload_n 0, 1) := by decide +kernel
theorem dX12_miss_1 : decode cX12_miss 1 = .ok (.iload_n 1, 1) := by decide +kernel
theorem dX12_miss_2 : decode cX12_miss 2 = .ok (.invokevirtual 310, 3) := by decide +kernel
theorem dX12_miss_5 : decode cX12_miss 5 = .ok (.ifCond .eq 75, 3) := by decide +kernel
theorem dX12_miss_8 : decode cX12_miss 8 = .ok (.iload_n 2, 1) := by decide +kernel
theorem dX12_miss_9 : decode cX12_miss 9 = .ok (.invokestatic 316, 3) := by decide +kernel
theorem dX12_miss_12 : decode cX12_miss 12 = .ok (.ifCond .eq 68, 3) := by decide +kernel
theorem dX12_miss_15 : decode cX12_miss 15 = .ok (.iload_n 3, 1) := by decide +kernel
theorem dX12_miss_16 : decode cX12_miss 16 = .ok (.iconst 0, 1) := by decide +kernel
theorem dX12_miss_17 : decode cX12_miss 17 = .ok (.aload_n 0, 1) := by decide +kernel
theorem dX12_miss_18 : decode cX12_miss 18 = .ok (.getfield 13, 3) := by decide +kernel
theorem dX12_miss_21 : decode cX12_miss 21 = .ok (.iload_n 1, 1) := by decide +kernel
theorem dX12_miss_22 : decode cX12_miss 22 = .ok (.iaload, 1) := by decide +kernel
theorem dX12_miss_23 : decode cX12_miss 23 = .ok (.iconst 2, 1) := by decide +kernel
theorem dX12_miss_24 : decode cX12_miss 24 = .ok (.isub, 1) := by decide +kernel
theorem dX12_miss_25 : decode cX12_miss 25 = .ok (.invokestatic 286, 3) := by decide +kernel
theorem dX12_miss_28 : decode cX12_miss 28 = .ok (.ifCond .eq 52, 3) := by decide +kernel
theorem dX12_miss_31 : decode cX12_miss 31 = .ok (.aload_n 0, 1) := by decide +kernel
theorem dX12_miss_32 : decode cX12_miss 32 = .ok (.getfield 28, 3) := by decide +kernel
theorem dX12_miss_35 : decode cX12_miss 35 = .ok (.bipush 8, 2) := by decide +kernel
theorem dX12_miss_37 : decode cX12_miss 37 = .ok (.iload_n 1, 1) := by decide +kernel
theorem dX12_miss_38 : decode cX12_miss 38 = .ok (.imul, 1) := by decide +kernel
theorem dX12_miss_39 : decode cX12_miss 39 = .ok (.iload_n 3, 1) := by decide +kernel
theorem dX12_miss_40 : decode cX12_miss 40 = .ok (.iadd, 1) := by decide +kernel
theorem dX12_miss_41 : decode cX12_miss 41 = .ok (.baload, 1) := by decide +kernel
theorem dX12_miss_42 : decode cX12_miss 42 = .ok (.ifCond .eq 38, 3) := by decide +kernel
theorem dX12_miss_45 : decode cX12_miss 45 = .ok (.aload_n 0, 1) := by decide +kernel
theorem dX12_miss_46 : decode cX12_miss 46 = .ok (.getfield 32, 3) := by decide +kernel
theorem dX12_miss_49 : decode cX12_miss 49 = .ok (.bipush 8, 2) := by decide +kernel
theorem dX12_miss_51 : decode cX12_miss 51 = .ok (.iload_n 1, 1) := by decide +kernel
theorem dX12_miss_52 : decode cX12_miss 52 = .ok (.iload_n 2, 1) := by decide +kernel
theorem dX12_miss_53 : decode cX12_miss 53 = .ok (.invokestatic 322, 3) := by decide +kernel
theorem dX12_miss_56 : decode cX12_miss 56 = .ok (.imul, 1) := by decide +kernel
theorem dX12_miss_57 : decode cX12_miss 57 = .ok (.iload_n 3, 1) := by decide +kernel
theorem dX12_miss_58 : decode cX12_miss 58 = .ok (.iadd, 1) := by decide +kernel
theorem dX12_miss_59 : decode cX12_miss 59 = .ok (.baload, 1) := by decide +kernel
theorem dX12_miss_60 : decode cX12_miss 60 = .ok (.ifCond .ne 20, 3) := by decide +kernel
theorem dX12_miss_63 : decode cX12_miss 63 = .ok (.aload_n 0, 1) := by decide +kernel
theorem dX12_miss_64 : decode cX12_miss 64 = .ok (.iload_n 1, 1) := by decide +kernel
theorem dX12_miss_65 : decode cX12_miss 65 = .ok (.iload_n 2, 1) := by decide +kernel
theorem dX12_miss_66 : decode cX12_miss 66 = .ok (.invokestatic 322, 3) := by decide +kernel
theorem dX12_miss_69 : decode cX12_miss 69 = .ok (.iload_n 3, 1) := by decide +kernel
theorem dX12_miss_70 : decode cX12_miss 70 = .ok (.invokevirtual 326, 3) := by decide +kernel
theorem dX12_miss_73 : decode cX12_miss 73 = .ok (.aload_n 0, 1) := by decide +kernel
theorem dX12_miss_74 : decode cX12_miss 74 = .ok (.getfield 313, 3) := by decide +kernel
theorem dX12_miss_77 : decode cX12_miss 77 = .ok (.if_icmp .gt 5, 3) := by decide +kernel
theorem dX12_miss_80 : decode cX12_miss 80 = .ok (.iconst 0, 1) := by decide +kernel
theorem dX12_miss_81 : decode cX12_miss 81 = .ok (.ireturn, 1) := by decide +kernel
theorem dX12_miss_82 : decode cX12_miss 82 = .ok (.aload_n 0, 1) := by decide +kernel
theorem dX12_miss_83 : decode cX12_miss 83 = .ok (.getfield 32, 3) := by decide +kernel
theorem dX12_miss_86 : decode cX12_miss 86 = .ok (.bipush 8, 2) := by decide +kernel
theorem dX12_miss_88 : decode cX12_miss 88 = .ok (.iload_n 1, 1) := by decide +kernel
theorem dX12_miss_89 : decode cX12_miss 89 = .ok (.iload_n 2, 1) := by decide +kernel
theorem dX12_miss_90 : decode cX12_miss 90 = .ok (.invokestatic 322, 3) := by decide +kernel
theorem dX12_miss_93 : decode cX12_miss 93 = .ok (.imul, 1) := by decide +kernel
theorem dX12_miss_94 : decode cX12_miss 94 = .ok (.iload_n 3, 1) := by decide +kernel
theorem dX12_miss_95 : decode cX12_miss 95 = .ok (.iadd, 1) := by decide +kernel
theorem dX12_miss_96 : decode cX12_miss 96 = .ok (.iconst 1, 1) := by decide +kernel
theorem dX12_miss_97 : decode cX12_miss 97 = .ok (.bastore, 1) := by decide +kernel
theorem dX12_miss_98 : decode cX12_miss 98 = .ok (.iconst 1, 1) := by decide +kernel
theorem dX12_miss_99 : decode cX12_miss 99 = .ok (.ireturn, 1) := by decide +kernel
theorem bX12_miss_0 {d : Nat} {h0 hE h : ea_H} {rv : Option ea_V} {r0 : Option Nat} {x1 : Int32} {x2 : Int32} {x3 : Int32} (H : ∃ a7, r0 = some a7 ∧ a7 < ea_n h ∧ ea_c h a7 = 12 ∧ ∃ (d1 : Nat) (xc9 : Int32) (h2 : ea_H), ea_Met mX12_isTrain d1 [vR (some a7), vI x1] h (some (vI xc9)) h2 ∧ d1 + 1 ≤ d ∧ (xc9 = (0 : Int32) → rv = some (vI 0) ∧ hE = h2) ∧ (¬ xc9 = (0 : Int32) → ∃ (d10 : Nat) (xc14 : Int32) (h11 : ea_H), ea_Met mX12_isDay d10 [vI x2] h2 (some (vI xc14)) h11 ∧ d10 + 1 ≤ d ∧ (xc14 = (0 : Int32) → rv = some (vI 0) ∧ hE = h11) ∧ (¬ xc14 = (0 : Int32) → a7 < ea_n h11 ∧ ea_c h11 a7 = 12 ∧ ∃ a19, (ea_r h11 a7 4) = some a19 ∧ a19 < ea_n h11 ∧ ea_c h11 a19 = 20 ∧ vp_in x1 (ea_l h11 a19) ∧ ∃ (d22 : Nat) (xc26 : Int32) (h23 : ea_H), ea_Met mX12_isIn d22 [vI x3, vI 0, vI ((ea_i h11 a19 (Int32.toNatClampNeg x1)) - (2 : Int32))] h11 (some (vI xc26)) h23 ∧ d22 + 1 ≤ d ∧ (xc26 = (0 : Int32) → rv = some (vI 0) ∧ hE = h23) ∧ (¬ xc26 = (0 : Int32) → a7 < ea_n h23 ∧ ea_c h23 a7 = 12 ∧ ∃ a31, (ea_r h23 a7 9) = some a31 ∧ a31 < ea_n h23 ∧ ea_c h23 a31 = 21 ∧ vp_in (((8 : Int32) * x1) + x3) (ea_l h23 a31) ∧ ((ea_i h23 a31 (Int32.toNatClampNeg (((8 : Int32) * x1) + x3))) = (0 : Int32) → rv = some (vI 0) ∧ hE = h23) ∧ (¬ (ea_i h23 a31 (Int32.toNatClampNeg (((8 : Int32) * x1) + x3))) = (0 : Int32) → a7 < ea_n h23 ∧ ea_c h23 a7 = 12 ∧ ∃ (d36 : Nat) (xc40 : Int32) (h37 : ea_H), ea_Met mX12_run d36 [vI x1, vI x2] h23 (some (vI xc40)) h37 ∧ d36 + 1 ≤ d ∧ ∃ a43, (ea_r h23 a7 10) = some a43 ∧ a43 < ea_n h37 ∧ ea_c h37 a43 = 21 ∧ vp_in (((8 : Int32) * xc40) + x3) (ea_l h37 a43) ∧ (¬ (ea_i h37 a43 (Int32.toNatClampNeg (((8 : Int32) * xc40) + x3))) = (0 : Int32) → rv = some (vI 0) ∧ hE = h37) ∧ ((ea_i h37 a43 (Int32.toNatClampNeg (((8 : Int32) * xc40) + x3))) = (0 : Int32) → ∃ (d46 : Nat) (xc50 : Int32) (h47 : ea_H), ea_Met mX12_run d46 [vI x1, vI x2] h37 (some (vI xc50)) h47 ∧ d46 + 1 ≤ d ∧ a7 < ea_n h47 ∧ ea_c h47 a7 = 12 ∧ ∃ (d51 : Nat) (xc57 : Int32) (h52 : ea_H), ea_Met mX12_comesAt d51 [vR (some a7), vI xc50, vI x3] h47 (some (vI xc57)) h52 ∧ d51 + 1 ≤ d ∧ a7 < ea_n h52 ∧ ea_c h52 a7 = 12 ∧ ((ea_i h52 a7 0) < xc57 → a7 < ea_n h52 ∧ ea_c h52 a7 = 12 ∧ ∃ (d62 : Nat) (xc66 : Int32) (h63 : ea_H), ea_Met mX12_run d62 [vI x1, vI x2] h52 (some (vI xc66)) h63 ∧ d62 + 1 ≤ d ∧ ∃ a69, (ea_r h52 a7 10) = some a69 ∧ a69 < ea_n h63 ∧ ea_c h63 a69 = 21 ∧ vp_in (((8 : Int32) * xc66) + x3) (ea_l h63 a69) ∧ ∀ h72, h72 = ea_wi h63 a69 (Int32.toNatClampNeg (((8 : Int32) * xc66) + x3)) 1 → rv = some (vI 1) ∧ hE = h72) ∧ (¬ (ea_i h52 a7 0) < xc57 → rv = some (vI 0) ∧ hE = h52))))))) : ea_W mX12_miss d h0 rv hE 0 [(0, vR r0), (1, vI x1), (2, vI x2), (3, vI x3)] [] h := by
  refine ea_aload_n (pc := 0) dX12_miss_0 rfl 0 rfl ?_
  refine ea_iload_n (pc := 1) dX12_miss_1 rfl 1 rfl ?_
  obtain ⟨a7, e8, f5, g6, H⟩ := H
  refine ea_deref1 e8 ?_
  obtain ⟨d1, xc9, h2, m3, q4, H⟩ := H
  refine ea_callV (pc := 2) (As := [vI x1]) (st := []) dX12_miss_2 kX12_isTrain m3 q4 rfl (Nat.le_of_ble_eq_true rfl) ew_1736 ew_1738 ew_50 (ci := 12) rfl (by decide) f5 g6 ?_
  refine ea_if_eq (pc := 5) (tgt := 80) dX12_miss_5 rfl (fun c79 => ?_) (fun c79 => ?_)
  · have H := H.1 c79
    refine ea_iconst (pc := 80) dX12_miss_80 (v := 0) rfl ?_
    obtain ⟨rfl, rfl⟩ := H
    exact ea_ireturn (pc := 81) dX12_miss_81 rfl (ea_bn (Or.inl rfl))
  · have H := H.2 c79
    refine ea_iload_n (pc := 8) dX12_miss_8 rfl 2 rfl ?_
    obtain ⟨d10, xc14, h11, m12, q13, H⟩ := H
    refine ea_callS (pc := 9) (As := [vI x2]) (st := []) dX12_miss_9 kX12_isDay m12 q13 rfl (Nat.le_of_ble_eq_true rfl) ew_1752 ew_1753 ?_
    refine ea_if_eq (pc := 12) (tgt := 80) dX12_miss_12 rfl (fun c78 => ?_) (fun c78 => ?_)
    · have H := H.1 c78
      refine ea_iconst (pc := 80) dX12_miss_80 (v := 0) rfl ?_
      obtain ⟨rfl, rfl⟩ := H
      exact ea_ireturn (pc := 81) dX12_miss_81 rfl (ea_bn (Or.inl rfl))
    · have H := H.2 c78
      refine ea_iload_n (pc := 15) dX12_miss_15 rfl 3 rfl ?_
      refine ea_iconst (pc := 16) dX12_miss_16 (v := 0) rfl ?_
      refine ea_aload_n (pc := 17) dX12_miss_17 rfl 0 rfl ?_
      obtain ⟨f15, g16, H⟩ := H
      refine ea_deref0 e8 ?_
      refine ea_getR (pc := 18) dX12_miss_18 ec_12 (k := 4) (Nat.le_of_ble_eq_true rfl) rfl (Or.inl ew_1349) f15 g16 rfl ?_
      refine ea_iload_n (pc := 21) dX12_miss_21 rfl 1 rfl ?_
      obtain ⟨a19, e20, f17, g18, H⟩ := H
      refine ea_deref1 e20 ?_
      obtain ⟨z21, H⟩ := H
      refine ea_iald (pc := 22) dX12_miss_22 f17 g18 z21 ?_
      refine ea_iconst (pc := 23) dX12_miss_23 (v := 2) rfl ?_
      refine ea_isub (pc := 24) dX12_miss_24 ?_
      obtain ⟨d22, xc26, h23, m24, q25, H⟩ := H
      refine ea_callS (pc := 25) (As := [vI x3, vI 0, vI ((ea_i h11 a19 (Int32.toNatClampNeg x1)) - (2 : Int32))]) (st := []) dX12_miss_25 kX12_isIn m24 q25 rfl (Nat.le_of_ble_eq_true rfl) ew_1712 ew_1713 ?_
      refine ea_if_eq (pc := 28) (tgt := 80) dX12_miss_28 rfl (fun c77 => ?_) (fun c77 => ?_)
      · have H := H.1 c77
        refine ea_iconst (pc := 80) dX12_miss_80 (v := 0) rfl ?_
        obtain ⟨rfl, rfl⟩ := H
        exact ea_ireturn (pc := 81) dX12_miss_81 rfl (ea_bn (Or.inl rfl))
      · have H := H.2 c77
        refine ea_aload_n (pc := 31) dX12_miss_31 rfl 0 rfl ?_
        obtain ⟨f27, g28, H⟩ := H
        refine ea_deref0 e8 ?_
        refine ea_getR (pc := 32) dX12_miss_32 ec_12 (k := 9) (Nat.le_of_ble_eq_true rfl) rfl (Or.inl ew_1354) f27 g28 rfl ?_
        refine ea_bipush (pc := 35) dX12_miss_35 (v := 8) rfl ?_
        refine ea_iload_n (pc := 37) dX12_miss_37 rfl 1 rfl ?_
        refine ea_imul (pc := 38) dX12_miss_38 ?_
        refine ea_iload_n (pc := 39) dX12_miss_39 rfl 3 rfl ?_
        refine ea_iadd (pc := 40) dX12_miss_40 ?_
        obtain ⟨a31, e32, f29, g30, H⟩ := H
        refine ea_deref1 e32 ?_
        obtain ⟨z33, H⟩ := H
        refine ea_zald (pc := 41) dX12_miss_41 f29 g30 z33 ?_
        refine ea_if_eq (pc := 42) (tgt := 80) dX12_miss_42 rfl (fun c76 => ?_) (fun c76 => ?_)
        · have H := H.1 c76
          refine ea_iconst (pc := 80) dX12_miss_80 (v := 0) rfl ?_
          obtain ⟨rfl, rfl⟩ := H
          exact ea_ireturn (pc := 81) dX12_miss_81 rfl (ea_bn (Or.inl rfl))
        · have H := H.2 c76
          refine ea_aload_n (pc := 45) dX12_miss_45 rfl 0 rfl ?_
          obtain ⟨f34, g35, H⟩ := H
          refine ea_deref0 e8 ?_
          refine ea_getR (pc := 46) dX12_miss_46 ec_12 (k := 10) (Nat.le_of_ble_eq_true rfl) rfl (Or.inl ew_1355) f34 g35 rfl ?_
          refine ea_bipush (pc := 49) dX12_miss_49 (v := 8) rfl ?_
          refine ea_iload_n (pc := 51) dX12_miss_51 rfl 1 rfl ?_
          refine ea_iload_n (pc := 52) dX12_miss_52 rfl 2 rfl ?_
          obtain ⟨d36, xc40, h37, m38, q39, H⟩ := H
          refine ea_callS (pc := 53) (As := [vI x1, vI x2]) (st := [vI 8, vR (ea_r h23 a7 10)]) dX12_miss_53 kX12_run m38 q39 rfl (Nat.le_of_ble_eq_true rfl) ew_1755 ew_1756 ?_
          refine ea_imul (pc := 56) dX12_miss_56 ?_
          refine ea_iload_n (pc := 57) dX12_miss_57 rfl 3 rfl ?_
          refine ea_iadd (pc := 58) dX12_miss_58 ?_
          obtain ⟨a43, e44, f41, g42, H⟩ := H
          refine ea_deref1 e44 ?_
          obtain ⟨z45, H⟩ := H
          refine ea_zald (pc := 59) dX12_miss_59 f41 g42 z45 ?_
          refine ea_if_ne (pc := 60) (tgt := 80) dX12_miss_60 rfl (fun c75 => ?_) (fun c75 => ?_)
          · have H := H.1 c75
            refine ea_iconst (pc := 80) dX12_miss_80 (v := 0) rfl ?_
            obtain ⟨rfl, rfl⟩ := H
            exact ea_ireturn (pc := 81) dX12_miss_81 rfl (ea_bn (Or.inl rfl))
          · have H := H.2 c75
            refine ea_aload_n (pc := 63) dX12_miss_63 rfl 0 rfl ?_
            refine ea_iload_n (pc := 64) dX12_miss_64 rfl 1 rfl ?_
            refine ea_iload_n (pc := 65) dX12_miss_65 rfl 2 rfl ?_
            obtain ⟨d46, xc50, h47, m48, q49, H⟩ := H
            refine ea_callS (pc := 66) (As := [vI x1, vI x2]) (st := [vR r0]) dX12_miss_66 kX12_run m48 q49 rfl (Nat.le_of_ble_eq_true rfl) ew_1755 ew_1756 ?_
            refine ea_iload_n (pc := 69) dX12_miss_69 rfl 3 rfl ?_
            obtain ⟨f55, g56, H⟩ := H
            refine ea_deref2 e8 ?_
            obtain ⟨d51, xc57, h52, m53, q54, H⟩ := H
            refine ea_callV (pc := 70) (As := [vI xc50, vI x3]) (st := []) dX12_miss_70 kX12_comesAt m53 q54 rfl (Nat.le_of_ble_eq_true rfl) ew_1762 ew_1764 ew_52 (ci := 12) rfl (by decide) f55 g56 ?_
            refine ea_aload_n (pc := 73) dX12_miss_73 rfl 0 rfl ?_
            obtain ⟨f58, g59, H⟩ := H
            refine ea_deref0 e8 ?_
            refine ea_getI (pc := 74) dX12_miss_74 ec_12 (k := 0) (Nat.le_of_ble_eq_true rfl) rfl (Or.inl ew_1345) f58 g59 ?_
            refine ea_icmp_gt (pc := 77) (tgt := 82) dX12_miss_77 rfl (fun c74 => ?_) (fun c74 => ?_)
            · have H := H.1 c74
              refine ea_aload_n (pc := 82) dX12_miss_82 rfl 0 rfl ?_
              obtain ⟨f60, g61, H⟩ := H
              refine ea_deref0 e8 ?_
              refine ea_getR (pc := 83) dX12_miss_83 ec_12 (k := 10) (Nat.le_of_ble_eq_true rfl) rfl (Or.inl ew_1355) f60 g61 rfl ?_
              refine ea_bipush (pc := 86) dX12_miss_86 (v := 8) rfl ?_
              refine ea_iload_n (pc := 88) dX12_miss_88 rfl 1 rfl ?_
              refine ea_iload_n (pc := 89) dX12_miss_89 rfl 2 rfl ?_
              obtain ⟨d62, xc66, h63, m64, q65, H⟩ := H
              refine ea_callS (pc := 90) (As := [vI x1, vI x2]) (st := [vI 8, vR (ea_r h52 a7 10)]) dX12_miss_90 kX12_run m64 q65 rfl (Nat.le_of_ble_eq_true rfl) ew_1755 ew_1756 ?_
              refine ea_imul (pc := 93) dX12_miss_93 ?_
              refine ea_iload_n (pc := 94) dX12_miss_94 rfl 3 rfl ?_
              refine ea_iadd (pc := 95) dX12_miss_95 ?_
              refine ea_iconst (pc := 96) dX12_miss_96 (v := 1) rfl ?_
              obtain ⟨a69, e70, f67, g68, H⟩ := H
              refine ea_deref2 e70 ?_
              obtain ⟨z71, H⟩ := H
              refine ea_zast (pc := 97) dX12_miss_97 (y := 1) (ea_bn (Or.inr rfl)) f67 g68 z71 ?_
              obtain ⟨h72, E73⟩ : ∃ z, z = ea_wi h63 a69 (Int32.toNatClampNeg (((8 : Int32) * xc66) + x3)) 1 := ⟨_, rfl⟩
              have H := H h72 E73
              refine ea_nm E73 ?_
              refine ea_iconst (pc := 98) dX12_miss_98 (v := 1) rfl ?_
              obtain ⟨rfl, rfl⟩ := H
              exact ea_ireturn (pc := 99) dX12_miss_99 rfl (ea_bn (Or.inr rfl))
            · have H := H.2 c74
              refine ea_iconst (pc := 80) dX12_miss_80 (v := 0) rfl ?_
              obtain ⟨rfl, rfl⟩ := H
              exact ea_ireturn (pc := 81) dX12_miss_81 rfl (ea_bn (Or.inl rfl))
theorem dX12_minuteOf_0 : decode cX12_minuteOf 0 = .ok (.iload_n 2, 1) := by decide +kernel
theorem dX12_minuteOf_1 : decode cX12_minuteOf 1 = .ok (.iconst 2, 1) := by decide +kernel
theorem dX12_minuteOf_2 : decode cX12_minuteOf 2 = .ok (.irem, 1) := by decide +kernel
theorem dX12_minuteOf_3 : decode cX12_minuteOf 3 = .ok (.ifCond .ne 14, 3) := by decide +kernel
theorem dX12_minuteOf_6 : decode cX12_minuteOf 6 = .ok (.aload_n 0, 1) := by decide +kernel
theorem dX12_minuteOf_7 : decode cX12_minuteOf 7 = .ok (.iload_n 1, 1) := by decide +kernel
theorem dX12_minuteOf_8 : decode cX12_minuteOf 8 = .ok (.iload_n 2, 1) := by decide +kernel
theorem dX12_minuteOf_9 : decode cX12_minuteOf 9 = .ok (.iconst 2, 1) := by decide +kernel
theorem dX12_minuteOf_10 : decode cX12_minuteOf 10 = .ok (.idiv, 1) := by decide +kernel
theorem dX12_minuteOf_11 : decode cX12_minuteOf 11 = .ok (.invokevirtual 329, 3) := by decide +kernel
theorem dX12_minuteOf_14 : decode cX12_minuteOf 14 = .ok (.goto 13, 3) := by decide +kernel
theorem dX12_minuteOf_17 : decode cX12_minuteOf 17 = .ok (.aload_n 0, 1) := by decide +kernel
theorem dX12_minuteOf_18 : decode cX12_minuteOf 18 = .ok (.iload_n 1, 1) := by decide +kernel
theorem dX12_minuteOf_19 : decode cX12_minuteOf 19 = .ok (.iload_n 2, 1) := by decide +kernel
theorem dX12_minuteOf_20 : decode cX12_minuteOf 20 = .ok (.iconst 2, 1) := by decide +kernel
theorem dX12_minuteOf_21 : decode cX12_minuteOf 21 = .ok (.idiv, 1) := by decide +kernel
theorem dX12_minuteOf_22 : decode cX12_minuteOf 22 = .ok (.iconst 1, 1) := by decide +kernel
theorem dX12_minuteOf_23 : decode cX12_minuteOf 23 = .ok (.iadd, 1) := by decide +kernel
theorem dX12_minuteOf_24 : decode cX12_minuteOf 24 = .ok (.invokevirtual 326, 3) := by decide +kernel
theorem dX12_minuteOf_27 : decode cX12_minuteOf 27 = .ok (.ireturn, 1) := by decide +kernel
theorem bX12_minuteOf_0 {d : Nat} {h0 hE h : ea_H} {rv : Option ea_V} {r0 : Option Nat} {x1 : Int32} {x2 : Int32} (H : (¬ (x2 - x2 / (2 : Int32) * (2 : Int32)) = (0 : Int32) → ∃ a7, r0 = some a7 ∧ a7 < ea_n h ∧ ea_c h a7 = 12 ∧ ∃ (d1 : Nat) (xc9 : Int32) (h2 : ea_H), ea_Met mX12_comesAt d1 [vR (some a7), vI x1, vI ((x2 / (2 : Int32)) + (1 : Int32))] h (some (vI xc9)) h2 ∧ d1 + 1 ≤ d ∧ rv = some (vI xc9) ∧ hE = h2) ∧ ((x2 - x2 / (2 : Int32) * (2 : Int32)) = (0 : Int32) → ∃ a16, r0 = some a16 ∧ a16 < ea_n h ∧ ea_c h a16 = 12 ∧ ∃ (d10 : Nat) (xc18 : Int32) (h11 : ea_H), ea_Met mX12_goesAt d10 [vR (some a16), vI x1, vI (x2 / (2 : Int32))] h (some (vI xc18)) h11 ∧ d10 + 1 ≤ d ∧ rv = some (vI xc18) ∧ hE = h11)) : ea_W mX12_minuteOf d h0 rv hE 0 [(0, vR r0), (1, vI x1), (2, vI x2)] [] h := by
  refine ea_iload_n (pc := 0) dX12_minuteOf_0 rfl 2 rfl ?_
  refine ea_iconst (pc := 1) dX12_minuteOf_1 (v := 2) rfl ?_
  refine ea_irem (pc := 2) dX12_minuteOf_2 (by decide) ?_
  refine ea_if_ne (pc := 3) (tgt := 17) dX12_minuteOf_3 rfl (fun c19 => ?_) (fun c19 => ?_)
  · have H := H.1 c19
    refine ea_aload_n (pc := 17) dX12_minuteOf_17 rfl 0 rfl ?_
    refine ea_iload_n (pc := 18) dX12_minuteOf_18 rfl 1 rfl ?_
    refine ea_iload_n (pc := 19) dX12_minuteOf_19 rfl 2 rfl ?_
    refine ea_iconst (pc := 20) dX12_minuteOf_20 (v := 2) rfl ?_
    refine ea_idiv (pc := 21) dX12_minuteOf_21 (by decide) ?_
    refine ea_iconst (pc := 22) dX12_minuteOf_22 (v := 1) rfl ?_
    refine ea_iadd (pc := 23) dX12_minuteOf_23 ?_
    obtain ⟨a7, e8, f5, g6, H⟩ := H
    refine ea_deref2 e8 ?_
    obtain ⟨d1, xc9, h2, m3, q4, H⟩ := H
    refine ea_callV (pc := 24) (As := [vI x1, vI ((x2 / (2 : Int32)) + (1 : Int32))]) (st := []) dX12_minuteOf_24 kX12_comesAt m3 q4 rfl (Nat.le_of_ble_eq_true rfl) ew_1762 ew_1764 ew_52 (ci := 12) rfl (by decide) f5 g6 ?_
    obtain ⟨rfl, rfl⟩ := H
    exact ea_ireturn (pc := 27) dX12_minuteOf_27 rfl rfl
  · have H := H.2 c19
    refine ea_aload_n (pc := 6) dX12_minuteOf_6 rfl 0 rfl ?_
    refine ea_iload_n (pc := 7) dX12_minuteOf_7 rfl 1 rfl ?_
    refine ea_iload_n (pc := 8) dX12_minuteOf_8 rfl 2 rfl ?_
    refine ea_iconst (pc := 9) dX12_minuteOf_9 (v := 2) rfl ?_
    refine ea_idiv (pc := 10) dX12_minuteOf_10 (by decide) ?_
    obtain ⟨a16, e17, f14, g15, H⟩ := H
    refine ea_deref2 e17 ?_
    obtain ⟨d10, xc18, h11, m12, q13, H⟩ := H
    refine ea_callV (pc := 11) (As := [vI x1, vI (x2 / (2 : Int32))]) (st := []) dX12_minuteOf_11 kX12_goesAt m12 q13 rfl (Nat.le_of_ble_eq_true rfl) ew_1786 ew_1788 ew_57 (ci := 12) rfl (by decide) f14 g15 ?_
    refine ea_goto (pc := 14) (tgt := 27) dX12_minuteOf_14 rfl ?_
    obtain ⟨rfl, rfl⟩ := H
    exact ea_ireturn (pc := 27) dX12_minuteOf_27 rfl rfl
theorem dX12_isAheadOf_0 : decode cX12_isAheadOf 0 = .ok (.iconst 2, 1) := by decide +kernel
theorem dX12_isAheadOf_1 : decode cX12_isAheadOf 1 = .ok (.aload_n 0, 1) := by decide +kernel
theorem dX12_isAheadOf_2 : decode cX12_isAheadOf 2 = .ok (.iload_n 1, 1) := by decide +kernel
theorem dX12_isAheadOf_3 : decode cX12_isAheadOf 3 = .ok (.aload_n 0, 1) := by decide +kernel
theorem dX12_isAheadOf_4 : decode cX12_isAheadOf 4 = .ok (.getfield 50, 3) := by decide +kernel
theorem dX12_isAheadOf_7 : decode cX12_isAheadOf 7 = .ok (.iload_n 1, 1) := by decide +kernel
theorem dX12_isAheadOf_8 : decode cX12_isAheadOf 8 = .ok (.iaload, 1) := by decide +kernel
theorem dX12_isAheadOf_9 : decode cX12_isAheadOf 9 = .ok (.invokevirtual 332, 3) := by decide +kernel
theorem dX12_isAheadOf_12 : decode cX12_isAheadOf 12 = .ok (.imul, 1) := by decide +kernel
theorem dX12_isAheadOf_13 : decode cX12_isAheadOf 13 = .ok (.aload_n 0, 1) := by decide +kernel
theorem dX12_isAheadOf_14 : decode cX12_isAheadOf 14 = .ok (.getfield 50, 3) := by decide +kernel
theorem dX12_isAheadOf_17 : decode cX12_isAheadOf 17 = .ok (.iload_n 1, 1) := by decide +kernel
theorem dX12_isAheadOf_18 : decode cX12_isAheadOf 18 = .ok (.iaload, 1) := by decide +kernel
theorem dX12_isAheadOf_19 : decode cX12_isAheadOf 19 = .ok (.iconst 2, 1) := by decide +kernel
theorem dX12_isAheadOf_20 : decode cX12_isAheadOf 20 = .ok (.irem, 1) := by decide +kernel
theorem dX12_isAheadOf_21 : decode cX12_isAheadOf 21 = .ok (.ifCond .ne 7, 3) := by decide +kernel
theorem dX12_isAheadOf_24 : decode cX12_isAheadOf 24 = .ok (.iconst 1, 1) := by decide +kernel
theorem dX12_isAheadOf_25 : decode cX12_isAheadOf 25 = .ok (.goto 4, 3) := by decide +kernel
theorem dX12_isAheadOf_28 : decode cX12_isAheadOf 28 = .ok (.iconst 0, 1) := by decide +kernel
theorem dX12_isAheadOf_29 : decode cX12_isAheadOf 29 = .ok (.iadd, 1) := by decide +kernel
theorem dX12_isAheadOf_30 : decode cX12_isAheadOf 30 = .ok (.istore_n 3, 1) := by decide +kernel
theorem dX12_isAheadOf_31 : decode cX12_isAheadOf 31 = .ok (.iconst 2, 1) := by decide +kernel
theorem dX12_isAheadOf_32 : decode cX12_isAheadOf 32 = .ok (.aload_n 0, 1) := by decide +kernel
theorem dX12_isAheadOf_33 : decode cX12_isAheadOf 33 = .ok (.iload_n 2, 1) := by decide +kernel
theorem dX12_isAheadOf_34 : decode cX12_isAheadOf 34 = .ok (.aload_n 0, 1) := by decide +kernel
theorem dX12_isAheadOf_35 : decode cX12_isAheadOf 35 = .ok (.getfield 50, 3) := by decide +kernel
theorem dX12_isAheadOf_38 : decode cX12_isAheadOf 38 = .ok (.iload_n 2, 1) := by decide +kernel
theorem dX12_isAheadOf_39 : decode cX12_isAheadOf 39 = .ok (.iaload, 1) := by decide +kernel
theorem dX12_isAheadOf_40 : decode cX12_isAheadOf 40 = .ok (.invokevirtual 332, 3) := by decide +kernel
theorem dX12_isAheadOf_43 : decode cX12_isAheadOf 43 = .ok (.imul, 1) := by decide +kernel
theorem dX12_isAheadOf_44 : decode cX12_isAheadOf 44 = .ok (.aload_n 0, 1) := by decide +kernel
theorem dX12_isAheadOf_45 : decode cX12_isAheadOf 45 = .ok (.getfield 50, 3) := by decide +kernel
theorem dX12_isAheadOf_48 : decode cX12_isAheadOf 48 = .ok (.iload_n 2, 1) := by decide +kernel
theorem dX12_isAheadOf_49 : decode cX12_isAheadOf 49 = .ok (.iaload, 1) := by decide +kernel
theorem dX12_isAheadOf_50 : decode cX12_isAheadOf 50 = .ok (.iconst 2, 1) := by decide +kernel
theorem dX12_isAheadOf_51 : decode cX12_isAheadOf 51 = .ok (.irem, 1) := by decide +kernel
theorem dX12_isAheadOf_52 : decode cX12_isAheadOf 52 = .ok (.ifCond .ne 7, 3) := by decide +kernel
theorem dX12_isAheadOf_55 : decode cX12_isAheadOf 55 = .ok (.iconst 1, 1) := by decide +kernel
theorem dX12_isAheadOf_56 : decode cX12_isAheadOf 56 = .ok (.goto 4, 3) := by decide +kernel
theorem dX12_isAheadOf_59 : decode cX12_isAheadOf 59 = .ok (.iconst 0, 1) := by decide +kernel
theorem dX12_isAheadOf_60 : decode cX12_isAheadOf 60 = .ok (.iadd, 1) := by decide +kernel
theorem dX12_isAheadOf_61 : decode cX12_isAheadOf 61 = .ok (.istore 4, 2) := by decide +kernel
theorem dX12_isAheadOf_63 : decode cX12_isAheadOf 63 = .ok (.iload_n 3, 1) := by decide +kernel
theorem dX12_isAheadOf_64 : decode cX12_isAheadOf 64 = .ok (.iload 4, 2) := by decide +kernel
theorem dX12_isAheadOf_66 : decode cX12_isAheadOf 66 = .ok (.if_icmp .lt 14, 3) := by decide +kernel
theorem dX12_isAheadOf_69 : decode cX12_isAheadOf 69 = .ok (.iload_n 3, 1) := by decide +kernel
theorem dX12_isAheadOf_70 : decode cX12_isAheadOf 70 = .ok (.iload 4, 2) := by decide +kernel
theorem dX12_isAheadOf_72 : decode cX12_isAheadOf 72 = .ok (.if_icmp .ne 12, 3) := by decide +kernel
theorem dX12_isAheadOf_75 : decode cX12_isAheadOf 75 = .ok (.iload_n 1, 1) := by decide +kernel
theorem dX12_isAheadOf_76 : decode cX12_isAheadOf 76 = .ok (.iload_n 2, 1) := by decide +kernel
theorem dX12_isAheadOf_77 : decode cX12_isAheadOf 77 = .ok (.if_icmp .ge 7, 3) := by decide +kernel
theorem dX12_isAheadOf_80 : decode cX12_isAheadOf 80 = .ok (.iconst 1, 1) := by decide +kernel
theorem dX12_isAheadOf_81 : decode cX12_isAheadOf 81 = .ok (.goto 4, 3) := by decide +kernel
theorem dX12_isAheadOf_84 : decode cX12_isAheadOf 84 = .ok (.iconst 0, 1) := by decide +kernel
theorem dX12_isAheadOf_85 : decode cX12_isAheadOf 85 = .ok (.ireturn, 1) := by decide +kernel
theorem bX12_isAheadOf_0 {d : Nat} {h0 hE h : ea_H} {rv : Option ea_V} {r0 : Option Nat} {x1 : Int32} {x2 : Int32} (H : ∃ a3, r0 = some a3 ∧ a3 < ea_n h ∧ ea_c h a3 = 12 ∧ ∃ a7, (ea_r h a3 18) = some a7 ∧ a7 < ea_n h ∧ ea_c h a7 = 20 ∧ vp_in x1 (ea_l h a7) ∧ a3 < ea_n h ∧ ea_c h a3 = 12 ∧ ∃ (d10 : Nat) (xc16 : Int32) (h11 : ea_H), ea_Met mX12_minuteOf d10 [vR (some a3), vI x1, vI (ea_i h a7 (Int32.toNatClampNeg x1))] h (some (vI xc16)) h11 ∧ d10 + 1 ≤ d ∧ a3 < ea_n h11 ∧ ea_c h11 a3 = 12 ∧ ∃ a21, (ea_r h11 a3 18) = some a21 ∧ a21 < ea_n h11 ∧ ea_c h11 a21 = 20 ∧ vp_in x1 (ea_l h11 a21) ∧ (¬ ((ea_i h11 a21 (Int32.toNatClampNeg x1)) - (ea_i h11 a21 (Int32.toNatClampNeg x1)) / (2 : Int32) * (2 : Int32)) = (0 : Int32) → ea_W mX12_isAheadOf d h0 rv hE 29 [(0, vR r0), (1, vI x1), (2, vI x2)] [vI 0, vI ((2 : Int32) * xc16)] h11) ∧ (((ea_i h11 a21 (Int32.toNatClampNeg x1)) - (ea_i h11 a21 (Int32.toNatClampNeg x1)) / (2 : Int32) * (2 : Int32)) = (0 : Int32) → ea_W mX12_isAheadOf d h0 rv hE 29 [(0, vR r0), (1, vI x1), (2, vI x2)] [vI 1, vI ((2 : Int32) * xc16)] h11)) : ea_W mX12_isAheadOf d h0 rv hE 0 [(0, vR r0), (1, vI x1), (2, vI x2)] [] h := by
  refine ea_iconst (pc := 0) dX12_isAheadOf_0 (v := 2) rfl ?_
  refine ea_aload_n (pc := 1) dX12_isAheadOf_1 rfl 0 rfl ?_
  refine ea_iload_n (pc := 2) dX12_isAheadOf_2 rfl 1 rfl ?_
  refine ea_aload_n (pc := 3) dX12_isAheadOf_3 rfl 0 rfl ?_
  obtain ⟨a3, e4, f1, g2, H⟩ := H
  refine ea_deref0 e4 ?_
  refine ea_getR (pc := 4) dX12_isAheadOf_4 ec_12 (k := 18) (Nat.le_of_ble_eq_true rfl) rfl (Or.inl ew_1363) f1 g2 rfl ?_
  refine ea_iload_n (pc := 7) dX12_isAheadOf_7 rfl 1 rfl ?_
  obtain ⟨a7, e8, f5, g6, H⟩ := H
  refine ea_deref1 e8 ?_
  obtain ⟨z9, H⟩ := H
  refine ea_iald (pc := 8) dX12_isAheadOf_8 f5 g6 z9 ?_
  obtain ⟨f14, g15, H⟩ := H
  refine ea_deref2 e4 ?_
  obtain ⟨d10, xc16, h11, m12, q13, H⟩ := H
  refine ea_callV (pc := 9) (As := [vI x1, vI (ea_i h a7 (Int32.toNatClampNeg x1))]) (st := [vI 2]) dX12_isAheadOf_9 kX12_minuteOf m12 q13 rfl (Nat.le_of_ble_eq_true rfl) ew_1782 ew_1784 ew_56 (ci := 12) rfl (by decide) f14 g15 ?_
  refine ea_imul (pc := 12) dX12_isAheadOf_12 ?_
  refine ea_aload_n (pc := 13) dX12_isAheadOf_13 rfl 0 rfl ?_
  obtain ⟨f17, g18, H⟩ := H
  refine ea_deref0 e4 ?_
  refine ea_getR (pc := 14) dX12_isAheadOf_14 ec_12 (k := 18) (Nat.le_of_ble_eq_true rfl) rfl (Or.inl ew_1363) f17 g18 rfl ?_
  refine ea_iload_n (pc := 17) dX12_isAheadOf_17 rfl 1 rfl ?_
  obtain ⟨a21, e22, f19, g20, H⟩ := H
  refine ea_deref1 e22 ?_
  obtain ⟨z23, H⟩ := H
  refine ea_iald (pc := 18) dX12_isAheadOf_18 f19 g20 z23 ?_
  refine ea_iconst (pc := 19) dX12_isAheadOf_19 (v := 2) rfl ?_
  refine ea_irem (pc := 20) dX12_isAheadOf_20 (by decide) ?_
  refine ea_if_ne (pc := 21) (tgt := 28) dX12_isAheadOf_21 rfl (fun c24 => ?_) (fun c24 => ?_)
  · have H := H.1 c24
    refine ea_iconst (pc := 28) dX12_isAheadOf_28 (v := 0) rfl ?_
    exact H
  · have H := H.2 c24
    refine ea_iconst (pc := 24) dX12_isAheadOf_24 (v := 1) rfl ?_
    refine ea_goto (pc := 25) (tgt := 29) dX12_isAheadOf_25 rfl ?_
    exact H
theorem bX12_isAheadOf_29 {d : Nat} {h0 hE h : ea_H} {rv : Option ea_V} {r0 : Option Nat} {x1 : Int32} {x2 : Int32} {sx0 : Int32} {sx1 : Int32} (H : ∃ a3, r0 = some a3 ∧ a3 < ea_n h ∧ ea_c h a3 = 12 ∧ ∃ a7, (ea_r h a3 18) = some a7 ∧ a7 < ea_n h ∧ ea_c h a7 = 20 ∧ vp_in x2 (ea_l h a7) ∧ a3 < ea_n h ∧ ea_c h a3 = 12 ∧ ∃ (d10 : Nat) (xc16 : Int32) (h11 : ea_H), ea_Met mX12_minuteOf d10 [vR (some a3), vI x2, vI (ea_i h a7 (Int32.toNatClampNeg x2))] h (some (vI xc16)) h11 ∧ d10 + 1 ≤ d ∧ a3 < ea_n h11 ∧ ea_c h11 a3 = 12 ∧ ∃ a21, (ea_r h11 a3 18) = some a21 ∧ a21 < ea_n h11 ∧ ea_c h11 a21 = 20 ∧ vp_in x2 (ea_l h11 a21) ∧ (¬ ((ea_i h11 a21 (Int32.toNatClampNeg x2)) - (ea_i h11 a21 (Int32.toNatClampNeg x2)) / (2 : Int32) * (2 : Int32)) = (0 : Int32) → ea_W mX12_isAheadOf d h0 rv hE 60 [(1, vI x1), (2, vI x2), (3, vI (sx1 + sx0))] [vI 0, vI ((2 : Int32) * xc16)] h11) ∧ (((ea_i h11 a21 (Int32.toNatClampNeg x2)) - (ea_i h11 a21 (Int32.toNatClampNeg x2)) / (2 : Int32) * (2 : Int32)) = (0 : Int32) → ea_W mX12_isAheadOf d h0 rv hE 60 [(1, vI x1), (2, vI x2), (3, vI (sx1 + sx0))] [vI 1, vI ((2 : Int32) * xc16)] h11)) : ea_W mX12_isAheadOf d h0 rv hE 29 [(0, vR r0), (1, vI x1), (2, vI x2)] [vI sx0, vI sx1] h := by
  refine ea_iadd (pc := 29) dX12_isAheadOf_29 ?_
  refine ea_istore_n (pc := 30) (lv' := [(0, vR r0), (1, vI x1), (2, vI x2), (3, vI (sx1 + sx0))]) dX12_isAheadOf_30 rfl (Nat.le_of_ble_eq_true rfl) [1, 2, 3, 0] rfl ?_
  refine ea_iconst (pc := 31) dX12_isAheadOf_31 (v := 2) rfl ?_
  refine ea_aload_n (pc := 32) dX12_isAheadOf_32 rfl 0 rfl ?_
  refine ea_iload_n (pc := 33) dX12_isAheadOf_33 rfl 2 rfl ?_
  refine ea_aload_n (pc := 34) dX12_isAheadOf_34 rfl 0 rfl ?_
  obtain ⟨a3, e4, f1, g2, H⟩ := H
  refine ea_deref0 e4 ?_
  refine ea_getR (pc := 35) dX12_isAheadOf_35 ec_12 (k := 18) (Nat.le_of_ble_eq_true rfl) rfl (Or.inl ew_1363) f1 g2 rfl ?_
  refine ea_iload_n (pc := 38) dX12_isAheadOf_38 rfl 2 rfl ?_
  obtain ⟨a7, e8, f5, g6, H⟩ := H
  refine ea_deref1 e8 ?_
  obtain ⟨z9, H⟩ := H
  refine ea_iald (pc := 39) dX12_isAheadOf_39 f5 g6 z9 ?_
  obtain ⟨f14, g15, H⟩ := H
  refine ea_deref2 e4 ?_
  obtain ⟨d10, xc16, h11, m12, q13, H⟩ := H
  refine ea_callV (pc := 40) (As := [vI x2, vI (ea_i h a7 (Int32.toNatClampNeg x2))]) (st := [vI 2]) dX12_isAheadOf_40 kX12_minuteOf m12 q13 rfl (Nat.le_of_ble_eq_true rfl) ew_1782 ew_1784 ew_56 (ci := 12) rfl (by decide) f14 g15 ?_
  refine ea_imul (pc := 43) dX12_isAheadOf_43 ?_
  refine ea_aload_n (pc := 44) dX12_isAheadOf_44 rfl 0 rfl ?_
  obtain ⟨f17, g18, H⟩ := H
  refine ea_deref0 e4 ?_
  refine ea_getR (pc := 45) dX12_isAheadOf_45 ec_12 (k := 18) (Nat.le_of_ble_eq_true rfl) rfl (Or.inl ew_1363) f17 g18 rfl ?_
  refine ea_iload_n (pc := 48) dX12_isAheadOf_48 rfl 2 rfl ?_
  obtain ⟨a21, e22, f19, g20, H⟩ := H
  refine ea_deref1 e22 ?_
  obtain ⟨z23, H⟩ := H
  refine ea_iald (pc := 49) dX12_isAheadOf_49 f19 g20 z23 ?_
  refine ea_iconst (pc := 50) dX12_isAheadOf_50 (v := 2) rfl ?_
  refine ea_irem (pc := 51) dX12_isAheadOf_51 (by decide) ?_
  refine ea_if_ne (pc := 52) (tgt := 59) dX12_isAheadOf_52 rfl (fun c24 => ?_) (fun c24 => ?_)
  · have H := H.1 c24
    refine ea_iconst (pc := 59) dX12_isAheadOf_59 (v := 0) rfl ?_
    exact ea_fewer [1, 2, 3] rfl H
  · have H := H.2 c24
    refine ea_iconst (pc := 55) dX12_isAheadOf_55 (v := 1) rfl ?_
    refine ea_goto (pc := 56) (tgt := 60) dX12_isAheadOf_56 rfl ?_
    exact ea_fewer [1, 2, 3] rfl H
theorem bX12_isAheadOf_60 {d : Nat} {h0 hE h : ea_H} {rv : Option ea_V} {x1 : Int32} {x2 : Int32} {x3 : Int32} {sx0 : Int32} {sx1 : Int32} (H : (x3 < (sx1 + sx0) → rv = some (vI 1) ∧ hE = h) ∧ (¬ x3 < (sx1 + sx0) → (¬ x3 = (sx1 + sx0) → rv = some (vI 0) ∧ hE = h) ∧ (x3 = (sx1 + sx0) → (x2 ≤ x1 → rv = some (vI 0) ∧ hE = h) ∧ (¬ x2 ≤ x1 → rv = some (vI 1) ∧ hE = h)))) : ea_W mX12_isAheadOf d h0 rv hE 60 [(1, vI x1), (2, vI x2), (3, vI x3)] [vI sx0, vI sx1] h := by
  refine ea_iadd (pc := 60) dX12_isAheadOf_60 ?_
  refine ea_istore (pc := 61) (lv' := [(1, vI x1), (2, vI x2), (3, vI x3), (4, vI (sx1 + sx0))]) dX12_isAheadOf_61 (Nat.le_of_ble_eq_true rfl) [1, 2, 3, 0] rfl ?_
  refine ea_iload_n (pc := 63) dX12_isAheadOf_63 rfl 2 rfl ?_
  refine ea_iload (pc := 64) dX12_isAheadOf_64 3 rfl ?_
  refine ea_icmp_lt (pc := 66) (tgt := 80) dX12_isAheadOf_66 rfl (fun c3 => ?_) (fun c3 => ?_)
  · have H := H.1 c3
    refine ea_iconst (pc := 80) dX12_isAheadOf_80 (v := 1) rfl ?_
    refine ea_goto (pc := 81) (tgt := 85) dX12_isAheadOf_81 rfl ?_
    obtain ⟨rfl, rfl⟩ := H
    exact ea_ireturn (pc := 85) dX12_isAheadOf_85 rfl (ea_bn (Or.inr rfl))
  · have H := H.2 c3
    refine ea_iload_n (pc := 69) dX12_isAheadOf_69 rfl 2 rfl ?_
    refine ea_iload (pc := 70) dX12_isAheadOf_70 3 rfl ?_
    refine ea_icmp_ne (pc := 72) (tgt := 84) dX12_isAheadOf_72 rfl (fun c2 => ?_) (fun c2 => ?_)
    · have H := H.1 c2
      refine ea_iconst (pc := 84) dX12_isAheadOf_84 (v := 0) rfl ?_
      obtain ⟨rfl, rfl⟩ := H
      exact ea_ireturn (pc := 85) dX12_isAheadOf_85 rfl (ea_bn (Or.inl rfl))
    · have H := H.2 c2
      refine ea_iload_n (pc := 75) dX12_isAheadOf_75 rfl 0 rfl ?_
      refine ea_iload_n (pc := 76) dX12_isAheadOf_76 rfl 1 rfl ?_
      refine ea_icmp_ge (pc := 77) (tgt := 84) dX12_isAheadOf_77 rfl (fun c1 => ?_) (fun c1 => ?_)
      · have H := H.1 c1
        refine ea_iconst (pc := 84) dX12_isAheadOf_84 (v := 0) rfl ?_
        obtain ⟨rfl, rfl⟩ := H
        exact ea_ireturn (pc := 85) dX12_isAheadOf_85 rfl (ea_bn (Or.inl rfl))
      · have H := H.2 c1
        refine ea_iconst (pc := 80) dX12_isAheadOf_80 (v := 1) rfl ?_
        refine ea_goto (pc := 81) (tgt := 85) dX12_isAheadOf_81 rfl ?_
        obtain ⟨rfl, rfl⟩ := H
        exact ea_ireturn (pc := 85) dX12_isAheadOf_85 rfl (ea_bn (Or.inr rfl))
theorem dX12_isMore_0 : decode cX12_isMore 0 = .ok (.aload_n 0, 1) := by decide +kernel
theorem dX12_isMore_1 : decode cX12_isMore 1 = .ok (.getfield 50, 3) := by decide +kernel
theorem dX12_isMore_4 : decode cX12_isMore 4 = .ok (.iload_n 1, 1) := by decide +kernel
theorem dX12_isMore_5 : decode cX12_isMore 5 = .ok (.iaload, 1) := by decide +kernel
theorem dX12_isMore_6 : decode cX12_isMore 6 = .ok (.iconst 2, 1) := by decide +kernel
theorem dX12_isMore_7 : decode cX12_isMore 7 = .ok (.aload_n 0, 1) := by decide +kernel
theorem dX12_isMore_8 : decode cX12_isMore 8 = .ok (.getfield 13, 3) := by decide +kernel
theorem dX12_isMore_11 : decode cX12_isMore 11 = .ok (.iload_n 1, 1) := by decide +kernel
theorem dX12_isMore_12 : decode cX12_isMore 12 = .ok (.bipush 7, 2) := by decide +kernel
theorem dX12_isMore_14 : decode cX12_isMore 14 = .ok (.idiv, 1) := by decide +kernel
theorem dX12_isMore_15 : decode cX12_isMore 15 = .ok (.iaload, 1) := by decide +kernel
theorem dX12_isMore_16 : decode cX12_isMore 16 = .ok (.iconst 1, 1) := by decide +kernel
theorem dX12_isMore_17 : decode cX12_isMore 17 = .ok (.isub, 1) := by decide +kernel
theorem dX12_isMore_18 : decode cX12_isMore 18 = .ok (.imul, 1) := by decide +kernel
theorem dX12_isMore_19 : decode cX12_isMore 19 = .ok (.if_icmp .ge 24, 3) := by decide +kernel
theorem dX12_isMore_22 : decode cX12_isMore 22 = .ok (.aload_n 0, 1) := by decide +kernel
theorem dX12_isMore_23 : decode cX12_isMore 23 = .ok (.iload_n 1, 1) := by decide +kernel
theorem dX12_isMore_24 : decode cX12_isMore 24 = .ok (.aload_n 0, 1) := by decide +kernel
theorem dX12_isMore_25 : decode cX12_isMore 25 = .ok (.getfield 50, 3) := by decide +kernel
theorem dX12_isMore_28 : decode cX12_isMore 28 = .ok (.iload_n 1, 1) := by decide +kernel
theorem dX12_isMore_29 : decode cX12_isMore 29 = .ok (.iaload, 1) := by decide +kernel
theorem dX12_isMore_30 : decode cX12_isMore 30 = .ok (.invokevirtual 332, 3) := by decide +kernel
theorem dX12_isMore_33 : decode cX12_isMore 33 = .ok (.sipush 10079, 3) := by decide +kernel
theorem dX12_isMore_36 : decode cX12_isMore 36 = .ok (.if_icmp .gt 7, 3) := by decide +kernel
theorem dX12_isMore_39 : decode cX12_isMore 39 = .ok (.iconst 1, 1) := by decide +kernel
theorem dX12_isMore_40 : decode cX12_isMore 40 = .ok (.goto 4, 3) := by decide +kernel
theorem dX12_isMore_43 : decode cX12_isMore 43 = .ok (.iconst 0, 1) := by decide +kernel
theorem dX12_isMore_44 : decode cX12_isMore 44 = .ok (.ireturn, 1) := by decide +kernel
theorem bX12_isMore_0 {d : Nat} {h0 hE h : ea_H} {rv : Option ea_V} {r0 : Option Nat} {x1 : Int32} (H : ∃ a3, r0 = some a3 ∧ a3 < ea_n h ∧ ea_c h a3 = 12 ∧ ∃ a7, (ea_r h a3 18) = some a7 ∧ a7 < ea_n h ∧ ea_c h a7 = 20 ∧ vp_in x1 (ea_l h a7) ∧ a3 < ea_n h ∧ ea_c h a3 = 12 ∧ ∃ a14, (ea_r h a3 4) = some a14 ∧ a14 < ea_n h ∧ ea_c h a14 = 20 ∧ vp_in (x1 / (7 : Int32)) (ea_l h a14) ∧ (((2 : Int32) * ((ea_i h a14 (Int32.toNatClampNeg (x1 / (7 : Int32)))) - (1 : Int32))) ≤ (ea_i h a7 (Int32.toNatClampNeg x1)) → rv = some (vI 0) ∧ hE = h) ∧ (¬ ((2 : Int32) * ((ea_i h a14 (Int32.toNatClampNeg (x1 / (7 : Int32)))) - (1 : Int32))) ≤ (ea_i h a7 (Int32.toNatClampNeg x1)) → a3 < ea_n h ∧ ea_c h a3 = 12 ∧ a7 < ea_n h ∧ ea_c h a7 = 20 ∧ vp_in x1 (ea_l h a7) ∧ a3 < ea_n h ∧ ea_c h a3 = 12 ∧ ∃ (d22 : Nat) (xc28 : Int32) (h23 : ea_H), ea_Met mX12_minuteOf d22 [vR (some a3), vI x1, vI (ea_i h a7 (Int32.toNatClampNeg x1))] h (some (vI xc28)) h23 ∧ d22 + 1 ≤ d ∧ ((10079 : Int32) < xc28 → rv = some (vI 0) ∧ hE = h23) ∧ (¬ (10079 : Int32) < xc28 → rv = some (vI 1) ∧ hE = h23))) : ea_W mX12_isMore d h0 rv hE 0 [(0, vR r0), (1, vI x1)] [] h := by
  refine ea_aload_n (pc := 0) dX12_isMore_0 rfl 0 rfl ?_
  obtain ⟨a3, e4, f1, g2, H⟩ := H
  refine ea_deref0 e4 ?_
  refine ea_getR (pc := 1) dX12_isMore_1 ec_12 (k := 18) (Nat.le_of_ble_eq_true rfl) rfl (Or.inl ew_1363) f1 g2 rfl ?_
  refine ea_iload_n (pc := 4) dX12_isMore_4 rfl 1 rfl ?_
  obtain ⟨a7, e8, f5, g6, H⟩ := H
  refine ea_deref1 e8 ?_
  obtain ⟨z9, H⟩ := H
  refine ea_iald (pc := 5) dX12_isMore_5 f5 g6 z9 ?_
  refine ea_iconst (pc := 6) dX12_isMore_6 (v := 2) rfl ?_
  refine ea_aload_n (pc := 7) dX12_isMore_7 rfl 0 rfl ?_
  obtain ⟨f10, g11, H⟩ := H
  refine ea_deref0 e4 ?_
  refine ea_getR (pc := 8) dX12_isMore_8 ec_12 (k := 4) (Nat.le_of_ble_eq_true rfl) rfl (Or.inl ew_1349) f10 g11 rfl ?_
  refine ea_iload_n (pc := 11) dX12_isMore_11 rfl 1 rfl ?_
  refine ea_bipush (pc := 12) dX12_isMore_12 (v := 7) rfl ?_
  refine ea_idiv (pc := 14) dX12_isMore_14 (by decide) ?_
  obtain ⟨a14, e15, f12, g13, H⟩ := H
  refine ea_deref1 e15 ?_
  obtain ⟨z16, H⟩ := H
  refine ea_iald (pc := 15) dX12_isMore_15 f12 g13 z16 ?_
  refine ea_iconst (pc := 16) dX12_isMore_16 (v := 1) rfl ?_
  refine ea_isub (pc := 17) dX12_isMore_17 ?_
  refine ea_imul (pc := 18) dX12_isMore_18 ?_
  refine ea_icmp_ge (pc := 19) (tgt := 43) dX12_isMore_19 rfl (fun c30 => ?_) (fun c30 => ?_)
  · have H := H.1 c30
    refine ea_iconst (pc := 43) dX12_isMore_43 (v := 0) rfl ?_
    obtain ⟨rfl, rfl⟩ := H
    exact ea_ireturn (pc := 44) dX12_isMore_44 rfl (ea_bn (Or.inl rfl))
  · have H := H.2 c30
    refine ea_aload_n (pc := 22) dX12_isMore_22 rfl 0 rfl ?_
    refine ea_iload_n (pc := 23) dX12_isMore_23 rfl 1 rfl ?_
    refine ea_aload_n (pc := 24) dX12_isMore_24 rfl 0 rfl ?_
    obtain ⟨f17, g18, H⟩ := H
    refine ea_deref0 e4 ?_
    refine ea_getR (pc := 25) dX12_isMore_25 ec_12 (k := 18) (Nat.le_of_ble_eq_true rfl) rfl (Or.inl ew_1363) f17 g18 rfl ?_
    refine ea_iload_n (pc := 28) dX12_isMore_28 rfl 1 rfl ?_
    obtain ⟨f19, g20, H⟩ := H
    refine ea_deref1 e8 ?_
    obtain ⟨z21, H⟩ := H
    refine ea_iald (pc := 29) dX12_isMore_29 f19 g20 z21 ?_
    obtain ⟨f26, g27, H⟩ := H
    refine ea_deref2 e4 ?_
    obtain ⟨d22, xc28, h23, m24, q25, H⟩ := H
    refine ea_callV (pc := 30) (As := [vI x1, vI (ea_i h a7 (Int32.toNatClampNeg x1))]) (st := []) dX12_isMore_30 kX12_minuteOf m24 q25 rfl (Nat.le_of_ble_eq_true rfl) ew_1782 ew_1784 ew_56 (ci := 12) rfl (by decide) f26 g27 ?_
    refine ea_sipush (pc := 33) dX12_isMore_33 (v := 10079) rfl ?_
    refine ea_icmp_gt (pc := 36) (tgt := 43) dX12_isMore_36 rfl (fun c29 => ?_) (fun c29 => ?_)
    · have H := H.1 c29
      refine ea_iconst (pc := 43) dX12_isMore_43 (v := 0) rfl ?_
      obtain ⟨rfl, rfl⟩ := H
      exact ea_ireturn (pc := 44) dX12_isMore_44 rfl (ea_bn (Or.inl rfl))
    · have H := H.2 c29
      refine ea_iconst (pc := 39) dX12_isMore_39 (v := 1) rfl ?_
      refine ea_goto (pc := 40) (tgt := 44) dX12_isMore_40 rfl ?_
      obtain ⟨rfl, rfl⟩ := H
      exact ea_ireturn (pc := 44) dX12_isMore_44 rfl (ea_bn (Or.inr rfl))
theorem dX12_table_0 : decode cX12_table 0 = .ok (.aload_n 0, 1) := by decide +kernel
theorem dX12_table_1 : decode cX12_table 1 = .ok (.getfield 293, 3) := by decide +kernel
theorem dX12_table_4 : decode cX12_table 4 = .ok (.ifCond .eq 4, 3) := by decide +kernel
theorem dX12_table_7 : decode cX12_table 7 = .ok (.return_, 1) := by decide +kernel
theorem dX12_table_8 : decode cX12_table 8 = .ok (.aload_n 0, 1) := by decide +kernel
theorem dX12_table_9 : decode cX12_table 9 = .ok (.iconst 1, 1) := by decide +kernel
theorem dX12_table_10 : decode cX12_table 10 = .ok (.putfield 293, 3) := by decide +kernel
theorem dX12_table_13 : decode cX12_table 13 = .ok (.aload_n 0, 1) := by decide +kernel
theorem dX12_table_14 : decode cX12_table 14 = .ok (.iconst 0, 1) := by decide +kernel
theorem dX12_table_15 : decode cX12_table 15 = .ok (.putfield 335, 3) := by decide +kernel
theorem dX12_table_18 : decode cX12_table 18 = .ok (.iconst 0, 1) := by decide +kernel
theorem dX12_table_19 : decode cX12_table 19 = .ok (.istore_n 1, 1) := by decide +kernel
theorem dX12_table_20 : decode cX12_table 20 = .ok (.iload_n 1, 1) := by decide +kernel
theorem dX12_table_21 : decode cX12_table 21 = .ok (.bipush 70, 2) := by decide +kernel
theorem dX12_table_23 : decode cX12_table 23 = .ok (.if_icmp .ge 16, 3) := by decide +kernel
theorem dX12_table_26 : decode cX12_table 26 = .ok (.aload_n 0, 1) := by decide +kernel
theorem dX12_table_27 : decode cX12_table 27 = .ok (.getfield 50, 3) := by decide +kernel
theorem dX12_table_30 : decode cX12_table 30 = .ok (.iload_n 1, 1) := by decide +kernel
theorem dX12_table_31 : decode cX12_table 31 = .ok (.iconst 0, 1) := by decide +kernel
theorem dX12_table_32 : decode cX12_table 32 = .ok (.iastore, 1) := by decide +kernel
theorem dX12_table_33 : decode cX12_table 33 = .ok (.iinc 1 1, 3) := by decide +kernel
theorem dX12_table_36 : decode cX12_table 36 = .ok (.goto (-16), 3) := by decide +kernel
theorem dX12_table_39 : decode cX12_table 39 = .ok (.iconst (-1), 1) := by decide +kernel
theorem dX12_table_40 : decode cX12_table 40 = .ok (.istore_n 1, 1) := by decide +kernel
theorem dX12_table_41 : decode cX12_table 41 = .ok (.iconst (-1), 1) := by decide +kernel
theorem dX12_table_42 : decode cX12_table 42 = .ok (.istore_n 1, 1) := by decide +kernel
theorem dX12_table_43 : decode cX12_table 43 = .ok (.iconst 0, 1) := by decide +kernel
theorem dX12_table_44 : decode cX12_table 44 = .ok (.istore_n 2, 1) := by decide +kernel
theorem dX12_table_45 : decode cX12_table 45 = .ok (.iload_n 2, 1) := by decide +kernel
theorem dX12_table_46 : decode cX12_table 46 = .ok (.bipush 7, 2) := by decide +kernel
theorem dX12_table_48 : decode cX12_table 48 = .ok (.aload_n 0, 1) := by decide +kernel
theorem dX12_table_49 : decode cX12_table 49 = .ok (.getfield 290, 3) := by decide +kernel
theorem dX12_table_52 : decode cX12_table 52 = .ok (.imul, 1) := by decide +kernel
theorem dX12_table_53 : decode cX12_table 53 = .ok (.if_icmp .ge 33, 3) := by decide +kernel
theorem dX12_table_56 : decode cX12_table 56 = .ok (.aload_n 0, 1) := by decide +kernel
theorem dX12_table_57 : decode cX12_table 57 = .ok (.iload_n 2, 1) := by decide +kernel
theorem dX12_table_58 : decode cX12_table 58 = .ok (.invokevirtual 338, 3) := by decide +kernel
theorem dX12_table_61 : decode cX12_table 61 = .ok (.ifCond .eq 19, 3) := by decide +kernel
theorem dX12_table_64 : decode cX12_table 64 = .ok (.iload_n 1, 1) := by decide +kernel
theorem dX12_table_65 : decode cX12_table 65 = .ok (.iconst (-1), 1) := by decide +kernel
theorem dX12_table_66 : decode cX12_table 66 = .ok (.if_icmp .eq 12, 3) := by decide +kernel
theorem dX12_table_69 : decode cX12_table 69 = .ok (.aload_n 0, 1) := by decide +kernel
theorem dX12_table_70 : decode cX12_table 70 = .ok (.iload_n 2, 1) := by decide +kernel
theorem dX12_table_71 : decode cX12_table 71 = .ok (.iload_n 1, 1) := by decide +kernel
theorem dX12_table_72 : decode cX12_table 72 = .ok (.invokevirtual 341, 3) := by decide +kernel
theorem dX12_table_75 : decode cX12_table 75 = .ok (.ifCond .eq 5, 3) := by decide +kernel
theorem dX12_table_78 : decode cX12_table 78 = .ok (.iload_n 2, 1) := by decide +kernel
theorem dX12_table_79 : decode cX12_table 79 = .ok (.istore_n 1, 1) := by decide +kernel
theorem dX12_table_80 : decode cX12_table 80 = .ok (.iinc 2 1, 3) := by decide +kernel
theorem dX12_table_83 : decode cX12_table 83 = .ok (.goto (-38), 3) := by decide +kernel
theorem dX12_table_86 : decode cX12_table 86 = .ok (.iload_n 1, 1) := by decide +kernel
theorem dX12_table_87 : decode cX12_table 87 = .ok (.iconst (-1), 1) := by decide +kernel
theorem dX12_table_88 : decode cX12_table 88 = .ok (.if_icmp .ne 6, 3) := by decide +kernel
theorem dX12_table_91 : decode cX12_table 91 = .ok (.goto 97, 3) := by decide +kernel
theorem dX12_table_94 : decode cX12_table 94 = .ok (.aload_n 0, 1) := by decide +kernel
theorem dX12_table_95 : decode cX12_table 95 = .ok (.getfield 38, 3) := by decide +kernel
theorem dX12_table_98 : decode cX12_table 98 = .ok (.aload_n 0, 1) := by decide +kernel
theorem dX12_table_99 : decode cX12_table 99 = .ok (.getfield 335, 3) := by decide +kernel
theorem dX12_table_102 : decode cX12_table 102 = .ok (.aload_n 0, 1) := by decide +kernel
theorem dX12_table_103 : decode cX12_table 103 = .ok (.iload_n 1, 1) := by decide +kernel
theorem dX12_table_104 : decode cX12_table 104 = .ok (.aload_n 0, 1) := by decide +kernel
theorem dX12_table_105 : decode cX12_table 105 = .ok (.getfield 50, 3) := by decide +kernel
theorem dX12_table_108 : decode cX12_table 108 = .ok (.iload_n 1, 1) := by decide +kernel
theorem dX12_table_109 : decode cX12_table 109 = .ok (.iaload, 1) := by decide +kernel
theorem dX12_table_110 : decode cX12_table 110 = .ok (.invokevirtual 332, 3) := by decide +kernel
theorem dX12_table_113 : decode cX12_table 113 = .ok (.iastore, 1) := by decide +kernel
theorem dX12_table_114 : decode cX12_table 114 = .ok (.aload_n 0, 1) := by decide +kernel
theorem dX12_table_115 : decode cX12_table 115 = .ok (.getfield 41, 3) := by decide +kernel
theorem dX12_table_118 : decode cX12_table 118 = .ok (.aload_n 0, 1) := by decide +kernel
theorem dX12_table_119 : decode cX12_table 119 = .ok (.getfield 335, 3) := by decide +kernel
theorem dX12_table_122 : decode cX12_table 122 = .ok (.aload_n 0, 1) := by decide +kernel
theorem dX12_table_123 : decode cX12_table 123 = .ok (.getfield 50, 3) := by decide +kernel
theorem dX12_table_126 : decode cX12_table 126 = .ok (.iload_n 1, 1) := by decide +kernel
theorem dX12_table_127 : decode cX12_table 127 = .ok (.iaload, 1) := by decide +kernel
theorem dX12_table_128 : decode cX12_table 128 = .ok (.iconst 2, 1) := by decide +kernel
theorem dX12_table_129 : decode cX12_table 129 = .ok (.irem, 1) := by decide +kernel
theorem dX12_table_130 : decode cX12_table 130 = .ok (.ifCond .ne 7, 3) := by decide +kernel
theorem dX12_table_133 : decode cX12_table 133 = .ok (.iconst 1, 1) := by decide +kernel
theorem dX12_table_134 : decode cX12_table 134 = .ok (.goto 4, 3) := by decide +kernel
theorem dX12_table_137 : decode cX12_table 137 = .ok (.iconst 0, 1) := by decide +kernel
theorem dX12_table_138 : decode cX12_table 138 = .ok (.iastore, 1) := by decide +kernel
theorem dX12_table_139 : decode cX12_table 139 = .ok (.aload_n 0, 1) := by decide +kernel
theorem dX12_table_140 : decode cX12_table 140 = .ok (.getfield 44, 3) := by decide +kernel
theorem dX12_table_143 : decode cX12_table 143 = .ok (.aload_n 0, 1) := by decide +kernel
theorem dX12_table_144 : decode cX12_table 144 = .ok (.getfield 335, 3) := by decide +kernel
theorem dX12_table_147 : decode cX12_table 147 = .ok (.iload_n 1, 1) := by decide +kernel
theorem dX12_table_148 : decode cX12_table 148 = .ok (.iastore, 1) := by decide +kernel
theorem dX12_table_149 : decode cX12_table 149 = .ok (.aload_n 0, 1) := by decide +kernel
theorem dX12_table_150 : decode cX12_table 150 = .ok (.getfield 47, 3) := by decide +kernel
theorem dX12_table_153 : decode cX12_table 153 = .ok (.aload_n 0, 1) := by decide +kernel
theorem dX12_table_154 : decode cX12_table 154 = .ok (.getfield 335, 3) := by decide +kernel
theorem dX12_table_157 : decode cX12_table 157 = .ok (.aload_n 0, 1) := by decide +kernel
theorem dX12_table_158 : decode cX12_table 158 = .ok (.getfield 50, 3) := by decide +kernel
theorem dX12_table_161 : decode cX12_table 161 = .ok (.iload_n 1, 1) := by decide +kernel
theorem dX12_table_162 : decode cX12_table 162 = .ok (.iaload, 1) := by decide +kernel
theorem dX12_table_163 : decode cX12_table 163 = .ok (.iconst 1, 1) := by decide +kernel
theorem dX12_table_164 : decode cX12_table 164 = .ok (.iadd, 1) := by decide +kernel
theorem dX12_table_165 : decode cX12_table 165 = .ok (.iconst 2, 1) := by decide +kernel
theorem dX12_table_166 : decode cX12_table 166 = .ok (.idiv, 1) := by decide +kernel
theorem dX12_table_167 : decode cX12_table 167 = .ok (.iastore, 1) := by decide +kernel
theorem dX12_table_168 : decode cX12_table 168 = .ok (.aload_n 0, 1) := by decide +kernel
theorem dX12_table_169 : decode cX12_table 169 = .ok (.dup, 1) := by decide +kernel
theorem dX12_table_170 : decode cX12_table 170 = .ok (.getfield 335, 3) := by decide +kernel
theorem dX12_table_173 : decode cX12_table 173 = .ok (.iconst 1, 1) := by decide +kernel
theorem dX12_table_174 : decode cX12_table 174 = .ok (.iadd, 1) := by decide +kernel
theorem dX12_table_175 : decode cX12_table 175 = .ok (.putfield 335, 3) := by decide +kernel
theorem dX12_table_178 : decode cX12_table 178 = .ok (.aload_n 0, 1) := by decide +kernel
theorem dX12_table_179 : decode cX12_table 179 = .ok (.getfield 50, 3) := by decide +kernel
theorem dX12_table_182 : decode cX12_table 182 = .ok (.iload_n 1, 1) := by decide +kernel
theorem dX12_table_183 : decode cX12_table 183 = .ok (.dup2, 1) := by decide +kernel
theorem dX12_table_184 : decode cX12_table 184 = .ok (.iaload, 1) := by decide +kernel
theorem dX12_table_185 : decode cX12_table 185 = .ok (.iconst 1, 1) := by decide +kernel
theorem dX12_table_186 : decode cX12_table 186 = .ok (.iadd, 1) := by decide +kernel
theorem dX12_table_187 : decode cX12_table 187 = .ok (.iastore, 1) := by decide +kernel
theorem dX12_table_188 : decode cX12_table 188 = .ok (.iload_n 1, 1) := by decide +kernel
theorem dX12_table_189 : decode cX12_table 189 = .ok (.iconst (-1), 1) := by decide +kernel
theorem dX12_table_190 : decode cX12_table 190 = .ok (.if_icmp .ne (-149), 3) := by decide +kernel
theorem dX12_table_193 : decode cX12_table 193 = .ok (.iconst 0, 1) := by decide +kernel
theorem dX12_table_194 : decode cX12_table 194 = .ok (.istore_n 2, 1) := by decide +kernel
theorem dX12_table_195 : decode cX12_table 195 = .ok (.iload_n 2, 1) := by decide +kernel
theorem dX12_table_196 : decode cX12_table 196 = .ok (.bipush 12, 2) := by decide +kernel
theorem dX12_table_198 : decode cX12_table 198 = .ok (.if_icmp .ge 16, 3) := by decide +kernel
theorem dX12_table_201 : decode cX12_table 201 = .ok (.aload_n 0, 1) := by decide +kernel
theorem dX12_table_202 : decode cX12_table 202 = .ok (.getfield 68, 3) := by decide +kernel
theorem dX12_table_205 : decode cX12_table 205 = .ok (.iload_n 2, 1) := by decide +kernel
theorem dX12_table_206 : decode cX12_table 206 = .ok (.iconst (-1), 1) := by decide +kernel
theorem dX12_table_207 : decode cX12_table 207 = .ok (.iastore, 1) := by decide +kernel
theorem dX12_table_208 : decode cX12_table 208 = .ok (.iinc 2 1, 3) := by decide +kernel
theorem dX12_table_211 : decode cX12_table 211 = .ok (.goto (-16), 3) := by decide +kernel
theorem dX12_table_214 : decode cX12_table 214 = .ok (.aload_n 0, 1) := by decide +kernel
theorem dX12_table_215 : decode cX12_table 215 = .ok (.getfield 335, 3) := by decide +kernel
theorem dX12_table_218 : decode cX12_table 218 = .ok (.iconst 1, 1) := by decide +kernel
theorem dX12_table_219 : decode cX12_table 219 = .ok (.isub, 1) := by decide +kernel
theorem dX12_table_220 : decode cX12_table 220 = .ok (.istore_n 2, 1) := by decide +kernel
theorem dX12_table_221 : decode cX12_table 221 = .ok (.iload_n 2, 1) := by decide +kernel
theorem dX12_table_222 : decode cX12_table 222 = .ok (.ifCond .lt 24, 3) := by decide +kernel
theorem dX12_table_225 : decode cX12_table 225 = .ok (.aload_n 0, 1) := by decide +kernel
theorem dX12_table_226 : decode cX12_table 226 = .ok (.getfield 41, 3) := by decide +kernel
theorem dX12_table_229 : decode cX12_table 229 = .ok (.iload_n 2, 1) := by decide +kernel
theorem dX12_table_230 : decode cX12_table 230 = .ok (.iaload, 1) := by decide +kernel
theorem dX12_table_231 : decode cX12_table 231 = .ok (.iconst 1, 1) := by decide +kernel
theorem dX12_table_232 : decode cX12_table 232 = .ok (.if_icmp .ne 8, 3) := by decide +kernel
theorem dX12_table_235 : decode cX12_table 235 = .ok (.aload_n 0, 1) := by decide +kernel
theorem dX12_table_236 : decode cX12_table 236 = .ok (.iload_n 2, 1) := by decide +kernel
theorem dX12_table_237 : decode cX12_table 237 = .ok (.invokevirtual 345, 3) := by decide +kernel
theorem dX12_table_240 : decode cX12_table 240 = .ok (.iinc 2 (-1), 3) := by decide +kernel
theorem dX12_table_243 : decode cX12_table 243 = .ok (.goto (-22), 3) := by decide +kernel
theorem dX12_table_246 : decode cX12_table 246 = .ok (.return_, 1) := by decide +kernel
theorem bX12_table_0 {d : Nat} {h0 hE h : ea_H} {rv : Option ea_V} {r0 : Option Nat} (H : ∃ a3, r0 = some a3 ∧ a3 < ea_n h ∧ ea_c h a3 = 12 ∧ ((ea_i h a3 12) = (0 : Int32) → a3 < ea_n h ∧ ea_c h a3 = 12 ∧ ∀ h7, h7 = ea_wi h a3 12 1 → a3 < ea_n h7 ∧ ea_c h7 a3 = 12 ∧ ∀ h11, h11 = ea_wi h7 a3 13 0 → ea_W mX12_table d h0 rv hE 20 [(0, vR r0), (1, vI 0)] [] h11) ∧ (¬ (ea_i h a3 12) = (0 : Int32) → rv = none ∧ hE = h)) : ea_W mX12_table d h0 rv hE 0 [(0, vR r0)] [] h := by
  refine ea_aload_n (pc := 0) dX12_table_0 rfl 0 rfl ?_
  obtain ⟨a3, e4, f1, g2, H⟩ := H
  refine ea_deref0 e4 ?_
  refine ea_getI (pc := 1) dX12_table_1 ec_12 (k := 12) (Nat.le_of_ble_eq_true rfl) rfl (Or.inl ew_1357) f1 g2 ?_
  refine ea_if_eq (pc := 4) (tgt := 8) dX12_table_4 rfl (fun c13 => ?_) (fun c13 => ?_)
  · have H := H.1 c13
    refine ea_aload_n (pc := 8) dX12_table_8 rfl 0 rfl ?_
    refine ea_iconst (pc := 9) dX12_table_9 (v := 1) rfl ?_
    obtain ⟨f5, g6, H⟩ := H
    refine ea_deref1 e4 ?_
    refine ea_putI (pc := 10) dX12_table_10 ec_12 (k := 12) (Nat.le_of_ble_eq_true rfl) rfl (Or.inl ⟨rfl, Or.inl ew_1357⟩) (ea_bn (Or.inr rfl)) (ea_bf (Or.inr rfl)) f5 g6 ?_
    obtain ⟨h7, E8⟩ : ∃ z, z = ea_wi h a3 12 1 := ⟨_, rfl⟩
    have H := H h7 E8
    refine ea_nm E8 ?_
    refine ea_aload_n (pc := 13) dX12_table_13 rfl 0 rfl ?_
    refine ea_iconst (pc := 14) dX12_table_14 (v := 0) rfl ?_
    obtain ⟨f9, g10, H⟩ := H
    refine ea_deref1 e4 ?_
    refine ea_putI (pc := 15) dX12_table_15 ec_12 (k := 13) (Nat.le_of_ble_eq_true rfl) rfl (Or.inl ⟨rfl, Or.inl ew_1358⟩) rfl rfl f9 g10 ?_
    obtain ⟨h11, E12⟩ : ∃ z, z = ea_wi h7 a3 13 0 := ⟨_, rfl⟩
    have H := H h11 E12
    refine ea_nm E12 ?_
    refine ea_iconst (pc := 18) dX12_table_18 (v := 0) rfl ?_
    refine ea_istore_n (pc := 19) (lv' := [(0, vR r0), (1, vI 0)]) dX12_table_19 rfl (Nat.le_of_ble_eq_true rfl) [1, 0] rfl ?_
    exact H
  · have H := H.2 c13
    obtain ⟨rfl, rfl⟩ := H
    exact ea_return (pc := 7) dX12_table_7 rfl
theorem bX12_table_20 {d : Nat} {h0 hE h : ea_H} {rv : Option ea_V} {r0 : Option Nat} {x1 : Int32} (H : ((70 : Int32) ≤ x1 → ea_W mX12_table d h0 rv hE 41 [(0, vR r0)] [] h) ∧ (¬ (70 : Int32) ≤ x1 → ∃ a3, r0 = some a3 ∧ a3 < ea_n h ∧ ea_c h a3 = 12 ∧ ∃ a7, (ea_r h a3 18) = some a7 ∧ a7 < ea_n h ∧ ea_c h a7 = 20 ∧ vp_in x1 (ea_l h a7) ∧ ∀ h10, h10 = ea_wi h a7 (Int32.toNatClampNeg x1) 0 → ea_W mX12_table d h0 rv hE 20 [(0, vR r0), (1, vI (x1 + 1))] [] h10)) : ea_W mX12_table d h0 rv hE 20 [(0, vR r0), (1, vI x1)] [] h := by
  refine ea_iload_n (pc := 20) dX12_table_20 rfl 1 rfl ?_
  refine ea_bipush (pc := 21) dX12_table_21 (v := 70) rfl ?_
  refine ea_icmp_ge (pc := 23) (tgt := 39) dX12_table_23 rfl (fun c12 => ?_) (fun c12 => ?_)
  · have H := H.1 c12
    refine ea_iconst (pc := 39) dX12_table_39 (v := (-1)) rfl ?_
    refine ea_istore_n (pc := 40) (lv' := [(0, vR r0)]) dX12_table_40 rfl (Nat.le_of_ble_eq_true rfl) [1] rfl ?_
    exact H
  · have H := H.2 c12
    refine ea_aload_n (pc := 26) dX12_table_26 rfl 0 rfl ?_
    obtain ⟨a3, e4, f1, g2, H⟩ := H
    refine ea_deref0 e4 ?_
    refine ea_getR (pc := 27) dX12_table_27 ec_12 (k := 18) (Nat.le_of_ble_eq_true rfl) rfl (Or.inl ew_1363) f1 g2 rfl ?_
    refine ea_iload_n (pc := 30) dX12_table_30 rfl 1 rfl ?_
    refine ea_iconst (pc := 31) dX12_table_31 (v := 0) rfl ?_
    obtain ⟨a7, e8, f5, g6, H⟩ := H
    refine ea_deref2 e8 ?_
    obtain ⟨z9, H⟩ := H
    refine ea_iast (pc := 32) dX12_table_32 f5 g6 z9 ?_
    obtain ⟨h10, E11⟩ : ∃ z, z = ea_wi h a7 (Int32.toNatClampNeg x1) 0 := ⟨_, rfl⟩
    have H := H h10 E11
    refine ea_nm E11 ?_
    refine ea_iinc (pc := 33) (v := 1) (lv' := [(0, vR r0), (1, vI (x1 + 1))]) dX12_table_33 1 rfl rfl (Nat.le_of_ble_eq_true rfl) [1, 0] rfl ?_
    refine ea_goto (pc := 36) (tgt := 20) dX12_table_36 rfl ?_
    exact H
theorem bX12_table_41 {d : Nat} {h0 hE h : ea_H} {rv : Option ea_V} {r0 : Option Nat} (H : ea_W mX12_table d h0 rv hE 45 [(0, vR r0), (1, vI (-1)), (2, vI 0)] [] h) : ea_W mX12_table d h0 rv hE 41 [(0, vR r0)] [] h := by
  refine ea_iconst (pc := 41) dX12_table_41 (v := (-1)) rfl ?_
  refine ea_istore_n (pc := 42) (lv' := [(0, vR r0), (1, vI (-1))]) dX12_table_42 rfl (Nat.le_of_ble_eq_true rfl) [1, 0] rfl ?_
  refine ea_iconst (pc := 43) dX12_table_43 (v := 0) rfl ?_
  refine ea_istore_n (pc := 44) (lv' := [(0, vR r0), (1, vI (-1)), (2, vI 0)]) dX12_table_44 rfl (Nat.le_of_ble_eq_true rfl) [1, 2, 0] rfl ?_
  exact H
theorem bX12_table_45 {d : Nat} {h0 hE h : ea_H} {rv : Option ea_V} {r0 : Option Nat} {x1 : Int32} {x2 : Int32} (H : ∃ a3, r0 = some a3 ∧ a3 < ea_n h ∧ ea_c h a3 = 12 ∧ (((7 : Int32) * (ea_i h a3 2)) ≤ x2 → (¬ x1 = ((-1) : Int32) → a3 < ea_n h ∧ ea_c h a3 = 12 ∧ a3 < ea_n h ∧ ea_c h a3 = 12 ∧ a3 < ea_n h ∧ ea_c h a3 = 12 ∧ ∃ a13, (ea_r h a3 18) = some a13 ∧ a13 < ea_n h ∧ ea_c h a13 = 20 ∧ vp_in x1 (ea_l h a13) ∧ a3 < ea_n h ∧ ea_c h a3 = 12 ∧ ∃ (d16 : Nat) (xc22 : Int32) (h17 : ea_H), ea_Met mX12_minuteOf d16 [vR (some a3), vI x1, vI (ea_i h a13 (Int32.toNatClampNeg x1))] h (some (vI xc22)) h17 ∧ d16 + 1 ≤ d ∧ ∃ a25, (ea_r h a3 14) = some a25 ∧ a25 < ea_n h17 ∧ ea_c h17 a25 = 20 ∧ vp_in (ea_i h a3 13) (ea_l h17 a25) ∧ ∀ h28, h28 = ea_wi h17 a25 (Int32.toNatClampNeg (ea_i h a3 13)) xc22 → a3 < ea_n h28 ∧ ea_c h28 a3 = 12 ∧ a3 < ea_n h28 ∧ ea_c h28 a3 = 12 ∧ a3 < ea_n h28 ∧ ea_c h28 a3 = 12 ∧ ∃ a38, (ea_r h28 a3 18) = some a38 ∧ a38 < ea_n h28 ∧ ea_c h28 a38 = 20 ∧ vp_in x1 (ea_l h28 a38) ∧ (¬ ((ea_i h28 a38 (Int32.toNatClampNeg x1)) - (ea_i h28 a38 (Int32.toNatClampNeg x1)) / (2 : Int32) * (2 : Int32)) = (0 : Int32) → ea_W mX12_table d h0 rv hE 138 [(0, vR r0), (1, vI x1)] [vI 0, vI (ea_i h28 a3 13), vR (ea_r h28 a3 15)] h28) ∧ (((ea_i h28 a38 (Int32.toNatClampNeg x1)) - (ea_i h28 a38 (Int32.toNatClampNeg x1)) / (2 : Int32) * (2 : Int32)) = (0 : Int32) → ea_W mX12_table d h0 rv hE 138 [(0, vR r0), (1, vI x1)] [vI 1, vI (ea_i h28 a3 13), vR (ea_r h28 a3 15)] h28)) ∧ (x1 = ((-1) : Int32) → ea_W mX12_table d h0 rv hE 188 [(0, vR r0), (1, vI x1)] [] h)) ∧ (¬ ((7 : Int32) * (ea_i h a3 2)) ≤ x2 → a3 < ea_n h ∧ ea_c h a3 = 12 ∧ ∃ (d43 : Nat) (xc49 : Int32) (h44 : ea_H), ea_Met mX12_isMore d43 [vR (some a3), vI x2] h (some (vI xc49)) h44 ∧ d43 + 1 ≤ d ∧ (xc49 = (0 : Int32) → ea_W mX12_table d h0 rv hE 45 [(0, vR r0), (1, vI x1), (2, vI (x2 + 1))] [] h44) ∧ (¬ xc49 = (0 : Int32) → (x1 = ((-1) : Int32) → ea_W mX12_table d h0 rv hE 45 [(0, vR r0), (1, vI x2), (2, vI (x2 + 1))] [] h44) ∧ (¬ x1 = ((-1) : Int32) → a3 < ea_n h44 ∧ ea_c h44 a3 = 12 ∧ ∃ (d50 : Nat) (xc56 : Int32) (h51 : ea_H), ea_Met mX12_isAheadOf d50 [vR (some a3), vI x2, vI x1] h44 (some (vI xc56)) h51 ∧ d50 + 1 ≤ d ∧ (xc56 = (0 : Int32) → ea_W mX12_table d h0 rv hE 45 [(0, vR r0), (1, vI x1), (2, vI (x2 + 1))] [] h51) ∧ (¬ xc56 = (0 : Int32) → ea_W mX12_table d h0 rv hE 45 [(0, vR r0), (1, vI x2), (2, vI (x2 + 1))] [] h51))))) : ea_W mX12_table d h0 rv hE 45 [(0, vR r0), (1, vI x1), (2, vI x2)] [] h := by
  refine ea_iload_n (pc := 45) dX12_table_45 rfl 2 rfl ?_
  refine ea_bipush (pc := 46) dX12_table_46 (v := 7) rfl ?_
  refine ea_aload_n (pc := 48) dX12_table_48 rfl 0 rfl ?_
  obtain ⟨a3, e4, f1, g2, H⟩ := H
  refine ea_deref0 e4 ?_
  refine ea_getI (pc := 49) dX12_table_49 ec_12 (k := 2) (Nat.le_of_ble_eq_true rfl) rfl (Or.inl ew_1347) f1 g2 ?_
  refine ea_imul (pc := 52) dX12_table_52 ?_
  refine ea_icmp_ge (pc := 53) (tgt := 86) dX12_table_53 rfl (fun c60 => ?_) (fun c60 => ?_)
  · have H := H.1 c60
    refine ea_iload_n (pc := 86) dX12_table_86 rfl 1 rfl ?_
    refine ea_iconst (pc := 87) dX12_table_87 (v := (-1)) rfl ?_
    refine ea_icmp_ne (pc := 88) (tgt := 94) dX12_table_88 rfl (fun c42 => ?_) (fun c42 => ?_)
    · have H := H.1 c42
      refine ea_aload_n (pc := 94) dX12_table_94 rfl 0 rfl ?_
      obtain ⟨f5, g6, H⟩ := H
      refine ea_deref0 e4 ?_
      refine ea_getR (pc := 95) dX12_table_95 ec_12 (k := 14) (Nat.le_of_ble_eq_true rfl) rfl (Or.inl ew_1359) f5 g6 rfl ?_
      refine ea_aload_n (pc := 98) dX12_table_98 rfl 0 rfl ?_
      obtain ⟨f7, g8, H⟩ := H
      refine ea_deref0 e4 ?_
      refine ea_getI (pc := 99) dX12_table_99 ec_12 (k := 13) (Nat.le_of_ble_eq_true rfl) rfl (Or.inl ew_1358) f7 g8 ?_
      refine ea_aload_n (pc := 102) dX12_table_102 rfl 0 rfl ?_
      refine ea_iload_n (pc := 103) dX12_table_103 rfl 1 rfl ?_
      refine ea_aload_n (pc := 104) dX12_table_104 rfl 0 rfl ?_
      obtain ⟨f9, g10, H⟩ := H
      refine ea_deref0 e4 ?_
      refine ea_getR (pc := 105) dX12_table_105 ec_12 (k := 18) (Nat.le_of_ble_eq_true rfl) rfl (Or.inl ew_1363) f9 g10 rfl ?_
      refine ea_iload_n (pc := 108) dX12_table_108 rfl 1 rfl ?_
      obtain ⟨a13, e14, f11, g12, H⟩ := H
      refine ea_deref1 e14 ?_
      obtain ⟨z15, H⟩ := H
      refine ea_iald (pc := 109) dX12_table_109 f11 g12 z15 ?_
      obtain ⟨f20, g21, H⟩ := H
      refine ea_deref2 e4 ?_
      obtain ⟨d16, xc22, h17, m18, q19, H⟩ := H
      refine ea_callV (pc := 110) (As := [vI x1, vI (ea_i h a13 (Int32.toNatClampNeg x1))]) (st := [vI (ea_i h a3 13), vR (ea_r h a3 14)]) dX12_table_110 kX12_minuteOf m18 q19 rfl (Nat.le_of_ble_eq_true rfl) ew_1782 ew_1784 ew_56 (ci := 12) rfl (by decide) f20 g21 ?_
      obtain ⟨a25, e26, f23, g24, H⟩ := H
      refine ea_deref2 e26 ?_
      obtain ⟨z27, H⟩ := H
      refine ea_iast (pc := 113) dX12_table_113 f23 g24 z27 ?_
      obtain ⟨h28, E29⟩ : ∃ z, z = ea_wi h17 a25 (Int32.toNatClampNeg (ea_i h a3 13)) xc22 := ⟨_, rfl⟩
      have H := H h28 E29
      refine ea_nm E29 ?_
      refine ea_aload_n (pc := 114) dX12_table_114 rfl 0 rfl ?_
      obtain ⟨f30, g31, H⟩ := H
      refine ea_deref0 e4 ?_
      refine ea_getR (pc := 115) dX12_table_115 ec_12 (k := 15) (Nat.le_of_ble_eq_true rfl) rfl (Or.inl ew_1360) f30 g31 rfl ?_
      refine ea_aload_n (pc := 118) dX12_table_118 rfl 0 rfl ?_
      obtain ⟨f32, g33, H⟩ := H
      refine ea_deref0 e4 ?_
      refine ea_getI (pc := 119) dX12_table_119 ec_12 (k := 13) (Nat.le_of_ble_eq_true rfl) rfl (Or.inl ew_1358) f32 g33 ?_
      refine ea_aload_n (pc := 122) dX12_table_122 rfl 0 rfl ?_
      obtain ⟨f34, g35, H⟩ := H
      refine ea_deref0 e4 ?_
      refine ea_getR (pc := 123) dX12_table_123 ec_12 (k := 18) (Nat.le_of_ble_eq_true rfl) rfl (Or.inl ew_1363) f34 g35 rfl ?_
      refine ea_iload_n (pc := 126) dX12_table_126 rfl 1 rfl ?_
      obtain ⟨a38, e39, f36, g37, H⟩ := H
      refine ea_deref1 e39 ?_
      obtain ⟨z40, H⟩ := H
      refine ea_iald (pc := 127) dX12_table_127 f36 g37 z40 ?_
      refine ea_iconst (pc := 128) dX12_table_128 (v := 2) rfl ?_
      refine ea_irem (pc := 129) dX12_table_129 (by decide) ?_
      refine ea_if_ne (pc := 130) (tgt := 137) dX12_table_130 rfl (fun c41 => ?_) (fun c41 => ?_)
      · have H := H.1 c41
        refine ea_iconst (pc := 137) dX12_table_137 (v := 0) rfl ?_
        exact ea_fewer [0, 1] rfl H
      · have H := H.2 c41
        refine ea_iconst (pc := 133) dX12_table_133 (v := 1) rfl ?_
        refine ea_goto (pc := 134) (tgt := 138) dX12_table_134 rfl ?_
        exact ea_fewer [0, 1] rfl H
    · have H := H.2 c42
      refine ea_goto (pc := 91) (tgt := 188) dX12_table_91 rfl ?_
      exact ea_fewer [0, 1] rfl H
  · have H := H.2 c60
    refine ea_aload_n (pc := 56) dX12_table_56 rfl 0 rfl ?_
    refine ea_iload_n (pc := 57) dX12_table_57 rfl 2 rfl ?_
    obtain ⟨f47, g48, H⟩ := H
    refine ea_deref1 e4 ?_
    obtain ⟨d43, xc49, h44, m45, q46, H⟩ := H
    refine ea_callV (pc := 58) (As := [vI x2]) (st := []) dX12_table_58 kX12_isMore m45 q46 rfl (Nat.le_of_ble_eq_true rfl) ew_1778 ew_1780 ew_55 (ci := 12) rfl (by decide) f47 g48 ?_
    refine ea_if_eq (pc := 61) (tgt := 80) dX12_table_61 rfl (fun c59 => ?_) (fun c59 => ?_)
    · have H := H.1 c59
      refine ea_iinc (pc := 80) (v := 1) (lv' := [(0, vR r0), (1, vI x1), (2, vI (x2 + 1))]) dX12_table_80 2 rfl rfl (Nat.le_of_ble_eq_true rfl) [1, 2, 0] rfl ?_
      refine ea_goto (pc := 83) (tgt := 45) dX12_table_83 rfl ?_
      exact H
    · have H := H.2 c59
      refine ea_iload_n (pc := 64) dX12_table_64 rfl 1 rfl ?_
      refine ea_iconst (pc := 65) dX12_table_65 (v := (-1)) rfl ?_
      refine ea_icmp_eq (pc := 66) (tgt := 78) dX12_table_66 rfl (fun c58 => ?_) (fun c58 => ?_)
      · have H := H.1 c58
        refine ea_iload_n (pc := 78) dX12_table_78 rfl 2 rfl ?_
        refine ea_istore_n (pc := 79) (lv' := [(0, vR r0), (1, vI x2), (2, vI x2)]) dX12_table_79 rfl (Nat.le_of_ble_eq_true rfl) [1, 0, 2] rfl ?_
        refine ea_iinc (pc := 80) (v := 1) (lv' := [(0, vR r0), (1, vI x2), (2, vI (x2 + 1))]) dX12_table_80 2 rfl rfl (Nat.le_of_ble_eq_true rfl) [1, 2, 0] rfl ?_
        refine ea_goto (pc := 83) (tgt := 45) dX12_table_83 rfl ?_
        exact H
      · have H := H.2 c58
        refine ea_aload_n (pc := 69) dX12_table_69 rfl 0 rfl ?_
        refine ea_iload_n (pc := 70) dX12_table_70 rfl 2 rfl ?_
        refine ea_iload_n (pc := 71) dX12_table_71 rfl 1 rfl ?_
        obtain ⟨f54, g55, H⟩ := H
        refine ea_deref2 e4 ?_
        obtain ⟨d50, xc56, h51, m52, q53, H⟩ := H
        refine ea_callV (pc := 72) (As := [vI x2, vI x1]) (st := []) dX12_table_72 kX12_isAheadOf m52 q53 rfl (Nat.le_of_ble_eq_true rfl) ew_1790 ew_1792 ew_58 (ci := 12) rfl (by decide) f54 g55 ?_
        refine ea_if_eq (pc := 75) (tgt := 80) dX12_table_75 rfl (fun c57 => ?_) (fun c57 => ?_)
        · have H := H.1 c57
          refine ea_iinc (pc := 80) (v := 1) (lv' := [(0, vR r0), (1, vI x1), (2, vI (x2 + 1))]) dX12_table_80 2 rfl rfl (Nat.le_of_ble_eq_true rfl) [1, 2, 0] rfl ?_
          refine ea_goto (pc := 83) (tgt := 45) dX12_table_83 rfl ?_
          exact H
        · have H := H.2 c57
          refine ea_iload_n (pc := 78) dX12_table_78 rfl 2 rfl ?_
          refine ea_istore_n (pc := 79) (lv' := [(0, vR r0), (1, vI x2), (2, vI x2)]) dX12_table_79 rfl (Nat.le_of_ble_eq_true rfl) [1, 0, 2] rfl ?_
          refine ea_iinc (pc := 80) (v := 1) (lv' := [(0, vR r0), (1, vI x2), (2, vI (x2 + 1))]) dX12_table_80 2 rfl rfl (Nat.le_of_ble_eq_true rfl) [1, 2, 0] rfl ?_
          refine ea_goto (pc := 83) (tgt := 45) dX12_table_83 rfl ?_
          exact H
theorem bX12_table_138 {d : Nat} {h0 hE h : ea_H} {rv : Option ea_V} {r0 : Option Nat} {x1 : Int32} {sx0 : Int32} {sx1 : Int32} {sr2 : Option Nat} (H : ∃ a3, sr2 = some a3 ∧ a3 < ea_n h ∧ ea_c h a3 = 20 ∧ vp_in sx1 (ea_l h a3) ∧ ∀ h6, h6 = ea_wi h a3 (Int32.toNatClampNeg sx1) sx0 → ∃ a10, r0 = some a10 ∧ a10 < ea_n h6 ∧ ea_c h6 a10 = 12 ∧ a10 < ea_n h6 ∧ ea_c h6 a10 = 12 ∧ ∃ a16, (ea_r h6 a10 16) = some a16 ∧ a16 < ea_n h6 ∧ ea_c h6 a16 = 20 ∧ vp_in (ea_i h6 a10 13) (ea_l h6 a16) ∧ ∀ h19, h19 = ea_wi h6 a16 (Int32.toNatClampNeg (ea_i h6 a10 13)) x1 → a10 < ea_n h19 ∧ ea_c h19 a10 = 12 ∧ a10 < ea_n h19 ∧ ea_c h19 a10 = 12 ∧ a10 < ea_n h19 ∧ ea_c h19 a10 = 12 ∧ ∃ a29, (ea_r h19 a10 18) = some a29 ∧ a29 < ea_n h19 ∧ ea_c h19 a29 = 20 ∧ vp_in x1 (ea_l h19 a29) ∧ ∃ a34, (ea_r h19 a10 17) = some a34 ∧ a34 < ea_n h19 ∧ ea_c h19 a34 = 20 ∧ vp_in (ea_i h19 a10 13) (ea_l h19 a34) ∧ ∀ h37, h37 = ea_wi h19 a34 (Int32.toNatClampNeg (ea_i h19 a10 13)) (((ea_i h19 a29 (Int32.toNatClampNeg x1)) + (1 : Int32)) / (2 : Int32)) → a10 < ea_n h37 ∧ ea_c h37 a10 = 12 ∧ a10 < ea_n h37 ∧ ea_c h37 a10 = 12 ∧ ∀ h43, h43 = ea_wi h37 a10 13 ((ea_i h37 a10 13) + (1 : Int32)) → a10 < ea_n h43 ∧ ea_c h43 a10 = 12 ∧ ∃ a49, (ea_r h43 a10 18) = some a49 ∧ a49 < ea_n h43 ∧ ea_c h43 a49 = 20 ∧ vp_in x1 (ea_l h43 a49) ∧ a49 < ea_n h43 ∧ ea_c h43 a49 = 20 ∧ vp_in x1 (ea_l h43 a49) ∧ ∀ h55, h55 = ea_wi h43 a49 (Int32.toNatClampNeg x1) ((ea_i h43 a49 (Int32.toNatClampNeg x1)) + (1 : Int32)) → ea_W mX12_table d h0 rv hE 188 [(0, vR r0), (1, vI x1)] [] h55) : ea_W mX12_table d h0 rv hE 138 [(0, vR r0), (1, vI x1)] [vI sx0, vI sx1, vR sr2] h := by
  obtain ⟨a3, e4, f1, g2, H⟩ := H
  refine ea_deref2 e4 ?_
  obtain ⟨z5, H⟩ := H
  refine ea_iast (pc := 138) dX12_table_138 f1 g2 z5 ?_
  obtain ⟨h6, E7⟩ : ∃ z, z = ea_wi h a3 (Int32.toNatClampNeg sx1) sx0 := ⟨_, rfl⟩
  have H := H h6 E7
  refine ea_nm E7 ?_
  refine ea_aload_n (pc := 139) dX12_table_139 rfl 0 rfl ?_
  obtain ⟨a10, e11, f8, g9, H⟩ := H
  refine ea_deref0 e11 ?_
  refine ea_getR (pc := 140) dX12_table_140 ec_12 (k := 16) (Nat.le_of_ble_eq_true rfl) rfl (Or.inl ew_1361) f8 g9 rfl ?_
  refine ea_aload_n (pc := 143) dX12_table_143 rfl 0 rfl ?_
  obtain ⟨f12, g13, H⟩ := H
  refine ea_deref0 e11 ?_
  refine ea_getI (pc := 144) dX12_table_144 ec_12 (k := 13) (Nat.le_of_ble_eq_true rfl) rfl (Or.inl ew_1358) f12 g13 ?_
  refine ea_iload_n (pc := 147) dX12_table_147 rfl 1 rfl ?_
  obtain ⟨a16, e17, f14, g15, H⟩ := H
  refine ea_deref2 e17 ?_
  obtain ⟨z18, H⟩ := H
  refine ea_iast (pc := 148) dX12_table_148 f14 g15 z18 ?_
  obtain ⟨h19, E20⟩ : ∃ z, z = ea_wi h6 a16 (Int32.toNatClampNeg (ea_i h6 a10 13)) x1 := ⟨_, rfl⟩
  have H := H h19 E20
  refine ea_nm E20 ?_
  refine ea_aload_n (pc := 149) dX12_table_149 rfl 0 rfl ?_
  obtain ⟨f21, g22, H⟩ := H
  refine ea_deref0 e11 ?_
  refine ea_getR (pc := 150) dX12_table_150 ec_12 (k := 17) (Nat.le_of_ble_eq_true rfl) rfl (Or.inl ew_1362) f21 g22 rfl ?_
  refine ea_aload_n (pc := 153) dX12_table_153 rfl 0 rfl ?_
  obtain ⟨f23, g24, H⟩ := H
  refine ea_deref0 e11 ?_
  refine ea_getI (pc := 154) dX12_table_154 ec_12 (k := 13) (Nat.le_of_ble_eq_true rfl) rfl (Or.inl ew_1358) f23 g24 ?_
  refine ea_aload_n (pc := 157) dX12_table_157 rfl 0 rfl ?_
  obtain ⟨f25, g26, H⟩ := H
  refine ea_deref0 e11 ?_
  refine ea_getR (pc := 158) dX12_table_158 ec_12 (k := 18) (Nat.le_of_ble_eq_true rfl) rfl (Or.inl ew_1363) f25 g26 rfl ?_
  refine ea_iload_n (pc := 161) dX12_table_161 rfl 1 rfl ?_
  obtain ⟨a29, e30, f27, g28, H⟩ := H
  refine ea_deref1 e30 ?_
  obtain ⟨z31, H⟩ := H
  refine ea_iald (pc := 162) dX12_table_162 f27 g28 z31 ?_
  refine ea_iconst (pc := 163) dX12_table_163 (v := 1) rfl ?_
  refine ea_iadd (pc := 164) dX12_table_164 ?_
  refine ea_iconst (pc := 165) dX12_table_165 (v := 2) rfl ?_
  refine ea_idiv (pc := 166) dX12_table_166 (by decide) ?_
  obtain ⟨a34, e35, f32, g33, H⟩ := H
  refine ea_deref2 e35 ?_
  obtain ⟨z36, H⟩ := H
  refine ea_iast (pc := 167) dX12_table_167 f32 g33 z36 ?_
  obtain ⟨h37, E38⟩ : ∃ z, z = ea_wi h19 a34 (Int32.toNatClampNeg (ea_i h19 a10 13)) (((ea_i h19 a29 (Int32.toNatClampNeg x1)) + (1 : Int32)) / (2 : Int32)) := ⟨_, rfl⟩
  have H := H h37 E38
  refine ea_nm E38 ?_
  refine ea_aload_n (pc := 168) dX12_table_168 rfl 0 rfl ?_
  refine ea_dup (pc := 169) dX12_table_169 rfl ?_
  obtain ⟨f39, g40, H⟩ := H
  refine ea_deref0 e11 ?_
  refine ea_getI (pc := 170) dX12_table_170 ec_12 (k := 13) (Nat.le_of_ble_eq_true rfl) rfl (Or.inl ew_1358) f39 g40 ?_
  refine ea_iconst (pc := 173) dX12_table_173 (v := 1) rfl ?_
  refine ea_iadd (pc := 174) dX12_table_174 ?_
  obtain ⟨f41, g42, H⟩ := H
  refine ea_deref1 e11 ?_
  refine ea_putI (pc := 175) dX12_table_175 ec_12 (k := 13) (Nat.le_of_ble_eq_true rfl) rfl (Or.inl ⟨rfl, Or.inl ew_1358⟩) rfl rfl f41 g42 ?_
  obtain ⟨h43, E44⟩ : ∃ z, z = ea_wi h37 a10 13 ((ea_i h37 a10 13) + (1 : Int32)) := ⟨_, rfl⟩
  have H := H h43 E44
  refine ea_nm E44 ?_
  refine ea_aload_n (pc := 178) dX12_table_178 rfl 0 rfl ?_
  obtain ⟨f45, g46, H⟩ := H
  refine ea_deref0 e11 ?_
  refine ea_getR (pc := 179) dX12_table_179 ec_12 (k := 18) (Nat.le_of_ble_eq_true rfl) rfl (Or.inl ew_1363) f45 g46 rfl ?_
  refine ea_iload_n (pc := 182) dX12_table_182 rfl 1 rfl ?_
  refine ea_dup2 (pc := 183) dX12_table_183 rfl rfl ?_
  obtain ⟨a49, e50, f47, g48, H⟩ := H
  refine ea_deref1 e50 ?_
  obtain ⟨z51, H⟩ := H
  refine ea_iald (pc := 184) dX12_table_184 f47 g48 z51 ?_
  refine ea_iconst (pc := 185) dX12_table_185 (v := 1) rfl ?_
  refine ea_iadd (pc := 186) dX12_table_186 ?_
  obtain ⟨f52, g53, H⟩ := H
  refine ea_deref2 e50 ?_
  obtain ⟨z54, H⟩ := H
  refine ea_iast (pc := 187) dX12_table_187 f52 g53 z54 ?_
  obtain ⟨h55, E56⟩ : ∃ z, z = ea_wi h43 a49 (Int32.toNatClampNeg x1) ((ea_i h43 a49 (Int32.toNatClampNeg x1)) + (1 : Int32)) := ⟨_, rfl⟩
  have H := H h55 E56
  refine ea_nm E56 ?_
  exact H
theorem bX12_table_188 {d : Nat} {h0 hE h : ea_H} {rv : Option ea_V} {r0 : Option Nat} {x1 : Int32} (H : (¬ x1 = ((-1) : Int32) → ea_W mX12_table d h0 rv hE 41 [(0, vR r0)] [] h) ∧ (x1 = ((-1) : Int32) → ea_W mX12_table d h0 rv hE 195 [(0, vR r0), (2, vI 0)] [] h)) : ea_W mX12_table d h0 rv hE 188 [(0, vR r0), (1, vI x1)] [] h := by
  refine ea_iload_n (pc := 188) dX12_table_188 rfl 1 rfl ?_
  refine ea_iconst (pc := 189) dX12_table_189 (v := (-1)) rfl ?_
  refine ea_icmp_ne (pc := 190) (tgt := 41) dX12_table_190 rfl (fun c1 => ?_) (fun c1 => ?_)
  · have H := H.1 c1
    exact ea_fewer [0] rfl H
  · have H := H.2 c1
    refine ea_iconst (pc := 193) dX12_table_193 (v := 0) rfl ?_
    refine ea_istore_n (pc := 194) (lv' := [(0, vR r0), (2, vI 0)]) dX12_table_194 rfl (Nat.le_of_ble_eq_true rfl) [1, 0] rfl ?_
    exact H
theorem bX12_table_195 {d : Nat} {h0 hE h : ea_H} {rv : Option ea_V} {r0 : Option Nat} {x2 : Int32} (H : ((12 : Int32) ≤ x2 → ∃ a3, r0 = some a3 ∧ a3 < ea_n h ∧ ea_c h a3 = 12 ∧ ea_W mX12_table d h0 rv hE 221 [(0, vR r0), (2, vI ((ea_i h a3 13) - (1 : Int32)))] [] h) ∧ (¬ (12 : Int32) ≤ x2 → ∃ a7, r0 = some a7 ∧ a7 < ea_n h ∧ ea_c h a7 = 12 ∧ ∃ a11, (ea_r h a7 24) = some a11 ∧ a11 < ea_n h ∧ ea_c h a11 = 20 ∧ vp_in x2 (ea_l h a11) ∧ ∀ h14, h14 = ea_wi h a11 (Int32.toNatClampNeg x2) (-1) → ea_W mX12_table d h0 rv hE 195 [(0, vR r0), (2, vI (x2 + 1))] [] h14)) : ea_W mX12_table d h0 rv hE 195 [(0, vR r0), (2, vI x2)] [] h := by
  refine ea_iload_n (pc := 195) dX12_table_195 rfl 1 rfl ?_
  refine ea_bipush (pc := 196) dX12_table_196 (v := 12) rfl ?_
  refine ea_icmp_ge (pc := 198) (tgt := 214) dX12_table_198 rfl (fun c16 => ?_) (fun c16 => ?_)
  · have H := H.1 c16
    refine ea_aload_n (pc := 214) dX12_table_214 rfl 0 rfl ?_
    obtain ⟨a3, e4, f1, g2, H⟩ := H
    refine ea_deref0 e4 ?_
    refine ea_getI (pc := 215) dX12_table_215 ec_12 (k := 13) (Nat.le_of_ble_eq_true rfl) rfl (Or.inl ew_1358) f1 g2 ?_
    refine ea_iconst (pc := 218) dX12_table_218 (v := 1) rfl ?_
    refine ea_isub (pc := 219) dX12_table_219 ?_
    refine ea_istore_n (pc := 220) (lv' := [(0, vR r0), (2, vI ((ea_i h a3 13) - (1 : Int32)))]) dX12_table_220 rfl (Nat.le_of_ble_eq_true rfl) [1, 0] rfl ?_
    exact H
  · have H := H.2 c16
    refine ea_aload_n (pc := 201) dX12_table_201 rfl 0 rfl ?_
    obtain ⟨a7, e8, f5, g6, H⟩ := H
    refine ea_deref0 e8 ?_
    refine ea_getR (pc := 202) dX12_table_202 ec_12 (k := 24) (Nat.le_of_ble_eq_true rfl) rfl (Or.inl ew_1369) f5 g6 rfl ?_
    refine ea_iload_n (pc := 205) dX12_table_205 rfl 1 rfl ?_
    refine ea_iconst (pc := 206) dX12_table_206 (v := (-1)) rfl ?_
    obtain ⟨a11, e12, f9, g10, H⟩ := H
    refine ea_deref2 e12 ?_
    obtain ⟨z13, H⟩ := H
    refine ea_iast (pc := 207) dX12_table_207 f9 g10 z13 ?_
    obtain ⟨h14, E15⟩ : ∃ z, z = ea_wi h a11 (Int32.toNatClampNeg x2) (-1) := ⟨_, rfl⟩
    have H := H h14 E15
    refine ea_nm E15 ?_
    refine ea_iinc (pc := 208) (v := 1) (lv' := [(0, vR r0), (2, vI (x2 + 1))]) dX12_table_208 1 rfl rfl (Nat.le_of_ble_eq_true rfl) [1, 0] rfl ?_
    refine ea_goto (pc := 211) (tgt := 195) dX12_table_211 rfl ?_
    exact H
theorem bX12_table_221 {d : Nat} {h0 hE h : ea_H} {rv : Option ea_V} {r0 : Option Nat} {x2 : Int32} (H : (x2 < (0 : Int32) → rv = none ∧ hE = h) ∧ (¬ x2 < (0 : Int32) → ∃ a3, r0 = some a3 ∧ a3 < ea_n h ∧ ea_c h a3 = 12 ∧ ∃ a7, (ea_r h a3 15) = some a7 ∧ a7 < ea_n h ∧ ea_c h a7 = 20 ∧ vp_in x2 (ea_l h a7) ∧ (¬ (ea_i h a7 (Int32.toNatClampNeg x2)) = (1 : Int32) → ea_W mX12_table d h0 rv hE 221 [(0, vR r0), (2, vI (x2 + (-1)))] [] h) ∧ ((ea_i h a7 (Int32.toNatClampNeg x2)) = (1 : Int32) → a3 < ea_n h ∧ ea_c h a3 = 12 ∧ ∃ (d10 : Nat) (h11 : ea_H), ea_Met mX12_goings d10 [vR (some a3), vI x2] h none h11 ∧ d10 + 1 ≤ d ∧ ea_W mX12_table d h0 rv hE 221 [(0, vR r0), (2, vI (x2 + (-1)))] [] h11))) : ea_W mX12_table d h0 rv hE 221 [(0, vR r0), (2, vI x2)] [] h := by
  refine ea_iload_n (pc := 221) dX12_table_221 rfl 1 rfl ?_
  refine ea_if_lt (pc := 222) (tgt := 246) dX12_table_222 rfl (fun c17 => ?_) (fun c17 => ?_)
  · have H := H.1 c17
    obtain ⟨rfl, rfl⟩ := H
    exact ea_return (pc := 246) dX12_table_246 rfl
  · have H := H.2 c17
    refine ea_aload_n (pc := 225) dX12_table_225 rfl 0 rfl ?_
    obtain ⟨a3, e4, f1, g2, H⟩ := H
    refine ea_deref0 e4 ?_
    refine ea_getR (pc := 226) dX12_table_226 ec_12 (k := 15) (Nat.le_of_ble_eq_true rfl) rfl (Or.inl ew_1360) f1 g2 rfl ?_
    refine ea_iload_n (pc := 229) dX12_table_229 rfl 1 rfl ?_
    obtain ⟨a7, e8, f5, g6, H⟩ := H
    refine ea_deref1 e8 ?_
    obtain ⟨z9, H⟩ := H
    refine ea_iald (pc := 230) dX12_table_230 f5 g6 z9 ?_
    refine ea_iconst (pc := 231) dX12_table_231 (v := 1) rfl ?_
    refine ea_icmp_ne (pc := 232) (tgt := 240) dX12_table_232 rfl (fun c16 => ?_) (fun c16 => ?_)
    · have H := H.1 c16
      refine ea_iinc (pc := 240) (v := (-1)) (lv' := [(0, vR r0), (2, vI (x2 + (-1)))]) dX12_table_240 1 rfl rfl (Nat.le_of_ble_eq_true rfl) [1, 0] rfl ?_
      refine ea_goto (pc := 243) (tgt := 221) dX12_table_243 rfl ?_
      exact H
    · have H := H.2 c16
      refine ea_aload_n (pc := 235) dX12_table_235 rfl 0 rfl ?_
      refine ea_iload_n (pc := 236) dX12_table_236 rfl 1 rfl ?_
      obtain ⟨f14, g15, H⟩ := H
      refine ea_deref1 e4 ?_
      obtain ⟨d10, h11, m12, q13, H⟩ := H
      refine ea_callV (pc := 237) (As := [vI x2]) (st := []) dX12_table_237 kX12_goings m12 q13 rfl (Nat.le_of_ble_eq_true rfl) ew_1794 ew_1796 ew_59 (ci := 12) rfl (by decide) f14 g15 ?_
      refine ea_iinc (pc := 240) (v := (-1)) (lv' := [(0, vR r0), (2, vI (x2 + (-1)))]) dX12_table_240 1 rfl rfl (Nat.le_of_ble_eq_true rfl) [1, 0] rfl ?_
      refine ea_goto (pc := 243) (tgt := 221) dX12_table_243 rfl ?_
      exact H
theorem dX12_townOf_0 : decode cX12_townOf 0 = .ok (.aload_n 0, 1) := by decide +kernel
theorem dX12_townOf_1 : decode cX12_townOf 1 = .ok (.getfield 16, 3) := by decide +kernel
theorem dX12_townOf_4 : decode cX12_townOf 4 = .ok (.bipush 8, 2) := by decide +kernel
theorem dX12_townOf_6 : decode cX12_townOf 6 = .ok (.iload_n 1, 1) := by decide +kernel
theorem dX12_townOf_7 : decode cX12_townOf 7 = .ok (.bipush 7, 2) := by decide +kernel
theorem dX12_townOf_9 : decode cX12_townOf 9 = .ok (.idiv, 1) := by decide +kernel
theorem dX12_townOf_10 : decode cX12_townOf 10 = .ok (.imul, 1) := by decide +kernel
theorem dX12_townOf_11 : decode cX12_townOf 11 = .ok (.iload_n 2, 1) := by decide +kernel
theorem dX12_townOf_12 : decode cX12_townOf 12 = .ok (.iadd, 1) := by decide +kernel
theorem dX12_townOf_13 : decode cX12_townOf 13 = .ok (.iaload, 1) := by decide +kernel
theorem dX12_townOf_14 : decode cX12_townOf 14 = .ok (.ireturn, 1) := by decide +kernel
theorem bX12_townOf_0 {d : Nat} {h0 hE h : ea_H} {rv : Option ea_V} {r0 : Option Nat} {x1 : Int32} {x2 : Int32} (H : ∃ a3, r0 = some a3 ∧ a3 < ea_n h ∧ ea_c h a3 = 12 ∧ ∃ a7, (ea_r h a3 5) = some a7 ∧ a7 < ea_n h ∧ ea_c h a7 = 20 ∧ vp_in (((8 : Int32) * (x1 / (7 : Int32))) + x2) (ea_l h a7) ∧ rv = some (vI (ea_i h a7 (Int32.toNatClampNeg (((8 : Int32) * (x1 / (7 : Int32))) + x2)))) ∧ hE = h) : ea_W mX12_townOf d h0 rv hE 0 [(0, vR r0), (1, vI x1), (2, vI x2)] [] h := by
  refine ea_aload_n (pc := 0) dX12_townOf_0 rfl 0 rfl ?_
  obtain ⟨a3, e4, f1, g2, H⟩ := H
  refine ea_deref0 e4 ?_
  refine ea_getR (pc := 1) dX12_townOf_1 ec_12 (k := 5) (Nat.le_of_ble_eq_true rfl) rfl (Or.inl ew_1350) f1 g2 rfl ?_
  refine ea_bipush (pc := 4) dX12_townOf_4 (v := 8) rfl ?_
  refine ea_iload_n (pc := 6) dX12_townOf_6 rfl 1 rfl ?_
  refine ea_bipush (pc := 7) dX12_townOf_7 (v := 7) rfl ?_
  refine ea_idiv (pc := 9) dX12_townOf_9 (by decide) ?_
  refine ea_imul (pc := 10) dX12_townOf_10 ?_
  refine ea_iload_n (pc := 11) dX12_townOf_11 rfl 2 rfl ?_
  refine ea_iadd (pc := 12) dX12_townOf_12 ?_
  obtain ⟨a7, e8, f5, g6, H⟩ := H
  refine ea_deref1 e8 ?_
  obtain ⟨z9, H⟩ := H
  refine ea_iald (pc := 13) dX12_townOf_13 f5 g6 z9 ?_
  obtain ⟨rfl, rfl⟩ := H
  exact ea_ireturn (pc := 14) dX12_townOf_14 rfl rfl
theorem dX12_going_0 : decode cX12_going 0 = .ok (.aload_n 0, 1) := by decide +kernel
theorem dX12_going_1 : decode cX12_going 1 = .ok (.getfield 68, 3) := by decide +kernel
theorem dX12_going_4 : decode cX12_going 4 = .ok (.iload_n 1, 1) := by decide +kernel
theorem dX12_going_5 : decode cX12_going 5 = .ok (.iaload, 1) := by decide +kernel
theorem dX12_going_6 : decode cX12_going 6 = .ok (.istore_n 3, 1) := by decide +kernel
theorem dX12_going_7 : decode cX12_going 7 = .ok (.iload_n 3, 1) := by decide +kernel
theorem dX12_going_8 : decode cX12_going 8 = .ok (.iconst (-1), 1) := by decide +kernel
theorem dX12_going_9 : decode cX12_going 9 = .ok (.if_icmp .eq 23, 3) := by decide +kernel
theorem dX12_going_12 : decode cX12_going 12 = .ok (.aload_n 0, 1) := by decide +kernel
theorem dX12_going_13 : decode cX12_going 13 = .ok (.getfield 38, 3) := by decide +kernel
theorem dX12_going_16 : decode cX12_going 16 = .ok (.iload_n 3, 1) := by decide +kernel
theorem dX12_going_17 : decode cX12_going 17 = .ok (.iaload, 1) := by decide +kernel
theorem dX12_going_18 : decode cX12_going 18 = .ok (.iload_n 2, 1) := by decide +kernel
theorem dX12_going_19 : decode cX12_going 19 = .ok (.if_icmp .ge 13, 3) := by decide +kernel
theorem dX12_going_22 : decode cX12_going 22 = .ok (.aload_n 0, 1) := by decide +kernel
theorem dX12_going_23 : decode cX12_going 23 = .ok (.getfield 65, 3) := by decide +kernel
theorem dX12_going_26 : decode cX12_going 26 = .ok (.iload_n 3, 1) := by decide +kernel
theorem dX12_going_27 : decode cX12_going 27 = .ok (.iaload, 1) := by decide +kernel
theorem dX12_going_28 : decode cX12_going 28 = .ok (.istore_n 3, 1) := by decide +kernel
theorem dX12_going_29 : decode cX12_going 29 = .ok (.goto (-22), 3) := by decide +kernel
theorem dX12_going_32 : decode cX12_going 32 = .ok (.iload_n 3, 1) := by decide +kernel
theorem dX12_going_33 : decode cX12_going 33 = .ok (.ireturn, 1) := by decide +kernel
theorem bX12_going_0 {d : Nat} {h0 hE h : ea_H} {rv : Option ea_V} {r0 : Option Nat} {x1 : Int32} {x2 : Int32} (H : ∃ a3, r0 = some a3 ∧ a3 < ea_n h ∧ ea_c h a3 = 12 ∧ ∃ a7, (ea_r h a3 24) = some a7 ∧ a7 < ea_n h ∧ ea_c h a7 = 20 ∧ vp_in x1 (ea_l h a7) ∧ ea_W mX12_going d h0 rv hE 7 [(0, vR r0), (2, vI x2), (3, vI (ea_i h a7 (Int32.toNatClampNeg x1)))] [] h) : ea_W mX12_going d h0 rv hE 0 [(0, vR r0), (1, vI x1), (2, vI x2)] [] h := by
  refine ea_aload_n (pc := 0) dX12_going_0 rfl 0 rfl ?_
  obtain ⟨a3, e4, f1, g2, H⟩ := H
  refine ea_deref0 e4 ?_
  refine ea_getR (pc := 1) dX12_going_1 ec_12 (k := 24) (Nat.le_of_ble_eq_true rfl) rfl (Or.inl ew_1369) f1 g2 rfl ?_
  refine ea_iload_n (pc := 4) dX12_going_4 rfl 1 rfl ?_
  obtain ⟨a7, e8, f5, g6, H⟩ := H
  refine ea_deref1 e8 ?_
  obtain ⟨z9, H⟩ := H
  refine ea_iald (pc := 5) dX12_going_5 f5 g6 z9 ?_
  refine ea_istore_n (pc := 6) (lv' := [(0, vR r0), (2, vI x2), (3, vI (ea_i h a7 (Int32.toNatClampNeg x1)))]) dX12_going_6 rfl (Nat.le_of_ble_eq_true rfl) [1, 3, 0] rfl ?_
  exact H
theorem bX12_going_7 {d : Nat} {h0 hE h : ea_H} {rv : Option ea_V} {r0 : Option Nat} {x2 : Int32} {x3 : Int32} (H : (x3 = ((-1) : Int32) → rv = some (vI x3) ∧ hE = h) ∧ (¬ x3 = ((-1) : Int32) → ∃ a3, r0 = some a3 ∧ a3 < ea_n h ∧ ea_c h a3 = 12 ∧ ∃ a7, (ea_r h a3 14) = some a7 ∧ a7 < ea_n h ∧ ea_c h a7 = 20 ∧ vp_in x3 (ea_l h a7) ∧ (x2 ≤ (ea_i h a7 (Int32.toNatClampNeg x3)) → rv = some (vI x3) ∧ hE = h) ∧ (¬ x2 ≤ (ea_i h a7 (Int32.toNatClampNeg x3)) → a3 < ea_n h ∧ ea_c h a3 = 12 ∧ ∃ a14, (ea_r h a3 23) = some a14 ∧ a14 < ea_n h ∧ ea_c h a14 = 20 ∧ vp_in x3 (ea_l h a14) ∧ ea_W mX12_going d h0 rv hE 7 [(0, vR r0), (2, vI x2), (3, vI (ea_i h a14 (Int32.toNatClampNeg x3)))] [] h))) : ea_W mX12_going d h0 rv hE 7 [(0, vR r0), (2, vI x2), (3, vI x3)] [] h := by
  refine ea_iload_n (pc := 7) dX12_going_7 rfl 2 rfl ?_
  refine ea_iconst (pc := 8) dX12_going_8 (v := (-1)) rfl ?_
  refine ea_icmp_eq (pc := 9) (tgt := 32) dX12_going_9 rfl (fun c18 => ?_) (fun c18 => ?_)
  · have H := H.1 c18
    refine ea_iload_n (pc := 32) dX12_going_32 rfl 2 rfl ?_
    obtain ⟨rfl, rfl⟩ := H
    exact ea_ireturn (pc := 33) dX12_going_33 rfl rfl
  · have H := H.2 c18
    refine ea_aload_n (pc := 12) dX12_going_12 rfl 0 rfl ?_
    obtain ⟨a3, e4, f1, g2, H⟩ := H
    refine ea_deref0 e4 ?_
    refine ea_getR (pc := 13) dX12_going_13 ec_12 (k := 14) (Nat.le_of_ble_eq_true rfl) rfl (Or.inl ew_1359) f1 g2 rfl ?_
    refine ea_iload_n (pc := 16) dX12_going_16 rfl 2 rfl ?_
    obtain ⟨a7, e8, f5, g6, H⟩ := H
    refine ea_deref1 e8 ?_
    obtain ⟨z9, H⟩ := H
    refine ea_iald (pc := 17) dX12_going_17 f5 g6 z9 ?_
    refine ea_iload_n (pc := 18) dX12_going_18 rfl 1 rfl ?_
    refine ea_icmp_ge (pc := 19) (tgt := 32) dX12_going_19 rfl (fun c17 => ?_) (fun c17 => ?_)
    · have H := H.1 c17
      refine ea_iload_n (pc := 32) dX12_going_32 rfl 2 rfl ?_
      obtain ⟨rfl, rfl⟩ := H
      exact ea_ireturn (pc := 33) dX12_going_33 rfl rfl
    · have H := H.2 c17
      refine ea_aload_n (pc := 22) dX12_going_22 rfl 0 rfl ?_
      obtain ⟨f10, g11, H⟩ := H
      refine ea_deref0 e4 ?_
      refine ea_getR (pc := 23) dX12_going_23 ec_12 (k := 23) (Nat.le_of_ble_eq_true rfl) rfl (Or.inl ew_1368) f10 g11 rfl ?_
      refine ea_iload_n (pc := 26) dX12_going_26 rfl 2 rfl ?_
      obtain ⟨a14, e15, f12, g13, H⟩ := H
      refine ea_deref1 e15 ?_
      obtain ⟨z16, H⟩ := H
      refine ea_iald (pc := 27) dX12_going_27 f12 g13 z16 ?_
      refine ea_istore_n (pc := 28) (lv' := [(0, vR r0), (2, vI x2), (3, vI (ea_i h a14 (Int32.toNatClampNeg x3)))]) dX12_going_28 rfl (Nat.le_of_ble_eq_true rfl) [1, 2, 0] rfl ?_
      refine ea_goto (pc := 29) (tgt := 7) dX12_going_29 rfl ?_
      exact H
theorem dX12_goings_0 : decode cX12_goings 0 = .ok (.aload_n 0, 1) := by decide +kernel
theorem dX12_goings_1 : decode cX12_goings 1 = .ok (.getfield 44, 3) := by decide +kernel
theorem dX12_goings_4 : decode cX12_goings 4 = .ok (.iload_n 1, 1) := by decide +kernel
theorem dX12_goings_5 : decode cX12_goings 5 = .ok (.iaload, 1) := by decide +kernel
theorem dX12_goings_6 : decode cX12_goings 6 = .ok (.istore_n 2, 1) := by decide +kernel
theorem dX12_goings_7 : decode cX12_goings 7 = .ok (.aload_n 0, 1) := by decide +kernel
theorem dX12_goings_8 : decode cX12_goings 8 = .ok (.iload_n 2, 1) := by decide +kernel
theorem dX12_goings_9 : decode cX12_goings 9 = .ok (.aload_n 0, 1) := by decide +kernel
theorem dX12_goings_10 : decode cX12_goings 10 = .ok (.getfield 47, 3) := by decide +kernel
theorem dX12_goings_13 : decode cX12_goings 13 = .ok (.iload_n 1, 1) := by decide +kernel
theorem dX12_goings_14 : decode cX12_goings 14 = .ok (.iaload, 1) := by decide +kernel
theorem dX12_goings_15 : decode cX12_goings 15 = .ok (.invokevirtual 349, 3) := by decide +kernel
theorem dX12_goings_18 : decode cX12_goings 18 = .ok (.istore_n 3, 1) := by decide +kernel
theorem dX12_goings_19 : decode cX12_goings 19 = .ok (.iconst 0, 1) := by decide +kernel
theorem dX12_goings_20 : decode cX12_goings 20 = .ok (.istore 4, 2) := by decide +kernel
theorem dX12_goings_22 : decode cX12_goings 22 = .ok (.iload 4, 2) := by decide +kernel
theorem dX12_goings_24 : decode cX12_goings 24 = .ok (.aload_n 0, 1) := by decide +kernel
theorem dX12_goings_25 : decode cX12_goings 25 = .ok (.getfield 283, 3) := by decide +kernel
theorem dX12_goings_28 : decode cX12_goings 28 = .ok (.if_icmp .ge 270, 3) := by decide +kernel
theorem dX12_goings_31 : decode cX12_goings 31 = .ok (.bipush 12, 2) := by decide +kernel
theorem dX12_goings_33 : decode cX12_goings 33 = .ok (.iload_n 1, 1) := by decide +kernel
theorem dX12_goings_34 : decode cX12_goings 34 = .ok (.imul, 1) := by decide +kernel
theorem dX12_goings_35 : decode cX12_goings 35 = .ok (.iload 4, 2) := by decide +kernel
theorem dX12_goings_37 : decode cX12_goings 37 = .ok (.iadd, 1) := by decide +kernel
theorem dX12_goings_38 : decode cX12_goings 38 = .ok (.istore 5, 2) := by decide +kernel
theorem dX12_goings_40 : decode cX12_goings 40 = .ok (.aload_n 0, 1) := by decide +kernel
theorem dX12_goings_41 : decode cX12_goings 41 = .ok (.getfield 53, 3) := by decide +kernel
theorem dX12_goings_44 : decode cX12_goings 44 = .ok (.iload 5, 2) := by decide +kernel
theorem dX12_goings_46 : decode cX12_goings 46 = .ok (.ldc_w 301, 3) := by decide +kernel
theorem dX12_goings_49 : decode cX12_goings 49 = .ok (.iastore, 1) := by decide +kernel
theorem dX12_goings_50 : decode cX12_goings 50 = .ok (.aload_n 0, 1) := by decide +kernel
theorem dX12_goings_51 : decode cX12_goings 51 = .ok (.getfield 47, 3) := by decide +kernel
theorem dX12_goings_54 : decode cX12_goings 54 = .ok (.iload_n 1, 1) := by decide +kernel
theorem dX12_goings_55 : decode cX12_goings 55 = .ok (.iaload, 1) := by decide +kernel
theorem dX12_goings_56 : decode cX12_goings 56 = .ok (.iconst 1, 1) := by decide +kernel
theorem dX12_goings_57 : decode cX12_goings 57 = .ok (.iadd, 1) := by decide +kernel
theorem dX12_goings_58 : decode cX12_goings 58 = .ok (.istore 6, 2) := by decide +kernel
theorem dX12_goings_60 : decode cX12_goings 60 = .ok (.iload 6, 2) := by decide +kernel
theorem dX12_goings_62 : decode cX12_goings 62 = .ok (.aload_n 0, 1) := by decide +kernel
theorem dX12_goings_63 : decode cX12_goings 63 = .ok (.getfield 13, 3) := by decide +kernel
theorem dX12_goings_66 : decode cX12_goings 66 = .ok (.iload_n 2, 1) := by decide +kernel
theorem dX12_goings_67 : decode cX12_goings 67 = .ok (.bipush 7, 2) := by decide +kernel
theorem dX12_goings_69 : decode cX12_goings 69 = .ok (.idiv, 1) := by decide +kernel
theorem dX12_goings_70 : decode cX12_goings 70 = .ok (.iaload, 1) := by decide +kernel
theorem dX12_goings_71 : decode cX12_goings 71 = .ok (.if_icmp .ge 221, 3) := by decide +kernel
theorem dX12_goings_74 : decode cX12_goings 74 = .ok (.aload_n 0, 1) := by decide +kernel
theorem dX12_goings_75 : decode cX12_goings 75 = .ok (.iload_n 2, 1) := by decide +kernel
theorem dX12_goings_76 : decode cX12_goings 76 = .ok (.iload 6, 2) := by decide +kernel
theorem dX12_goings_78 : decode cX12_goings 78 = .ok (.invokevirtual 326, 3) := by decide +kernel
theorem dX12_goings_81 : decode cX12_goings 81 = .ok (.istore 7, 2) := by decide +kernel
theorem dX12_goings_83 : decode cX12_goings 83 = .ok (.iload 7, 2) := by decide +kernel
theorem dX12_goings_85 : decode cX12_goings 85 = .ok (.sipush 10079, 3) := by decide +kernel
theorem dX12_goings_88 : decode cX12_goings 88 = .ok (.if_icmp .le 6, 3) := by decide +kernel
theorem dX12_goings_91 : decode cX12_goings 91 = .ok (.goto 201, 3) := by decide +kernel
theorem dX12_goings_94 : decode cX12_goings 94 = .ok (.aload_n 0, 1) := by decide +kernel
theorem dX12_goings_95 : decode cX12_goings 95 = .ok (.iload_n 2, 1) := by decide +kernel
theorem dX12_goings_96 : decode cX12_goings 96 = .ok (.iload 6, 2) := by decide +kernel
theorem dX12_goings_98 : decode cX12_goings 98 = .ok (.invokevirtual 349, 3) := by decide +kernel
theorem dX12_goings_101 : decode cX12_goings 101 = .ok (.istore 8, 2) := by decide +kernel
theorem dX12_goings_103 : decode cX12_goings 103 = .ok (.iload 8, 2) := by decide +kernel
theorem dX12_goings_105 : decode cX12_goings 105 = .ok (.iload 4, 2) := by decide +kernel
theorem dX12_goings_107 : decode cX12_goings 107 = .ok (.if_icmp .ne 7, 3) := by decide +kernel
theorem dX12_goings_110 : decode cX12_goings 110 = .ok (.iconst (-1), 1) := by decide +kernel
theorem dX12_goings_111 : decode cX12_goings 111 = .ok (.goto 11, 3) := by decide +kernel
theorem dX12_goings_114 : decode cX12_goings 114 = .ok (.aload_n 0, 1) := by decide +kernel
theorem dX12_goings_115 : decode cX12_goings 115 = .ok (.iload 8, 2) := by decide +kernel
theorem dX12_goings_117 : decode cX12_goings 117 = .ok (.iload 7, 2) := by decide +kernel
theorem dX12_goings_119 : decode cX12_goings 119 = .ok (.invokevirtual 352, 3) := by decide +kernel
theorem dX12_goings_122 : decode cX12_goings 122 = .ok (.istore 9, 2) := by decide +kernel
theorem dX12_goings_124 : decode cX12_goings 124 = .ok (.iload 9, 2) := by decide +kernel
theorem dX12_goings_126 : decode cX12_goings 126 = .ok (.iconst (-1), 1) := by decide +kernel
theorem dX12_goings_127 : decode cX12_goings 127 = .ok (.if_icmp .ne 7, 3) := by decide +kernel
theorem dX12_goings_130 : decode cX12_goings 130 = .ok (.iconst (-1), 1) := by decide +kernel
theorem dX12_goings_131 : decode cX12_goings 131 = .ok (.goto 16, 3) := by decide +kernel
theorem dX12_goings_134 : decode cX12_goings 134 = .ok (.aload_n 0, 1) := by decide +kernel
theorem dX12_goings_135 : decode cX12_goings 135 = .ok (.getfield 62, 3) := by decide +kernel
theorem dX12_goings_138 : decode cX12_goings 138 = .ok (.bipush 12, 2) := by decide +kernel
theorem dX12_goings_140 : decode cX12_goings 140 = .ok (.iload 9, 2) := by decide +kernel
theorem dX12_goings_142 : decode cX12_goings 142 = .ok (.imul, 1) := by decide +kernel
theorem dX12_goings_143 : decode cX12_goings 143 = .ok (.iload 4, 2) := by decide +kernel
theorem dX12_goings_145 : decode cX12_goings 145 = .ok (.iadd, 1) := by decide +kernel
theorem dX12_goings_146 : decode cX12_goings 146 = .ok (.iaload, 1) := by decide +kernel
theorem dX12_goings_147 : decode cX12_goings 147 = .ok (.istore 10, 2) := by decide +kernel
theorem dX12_goings_149 : decode cX12_goings 149 = .ok (.iload 8, 2) := by decide +kernel
theorem dX12_goings_151 : decode cX12_goings 151 = .ok (.iload 4, 2) := by decide +kernel
theorem dX12_goings_153 : decode cX12_goings 153 = .ok (.if_icmp .eq 12, 3) := by decide +kernel
theorem dX12_goings_156 : decode cX12_goings 156 = .ok (.iload 10, 2) := by decide +kernel
theorem dX12_goings_158 : decode cX12_goings 158 = .ok (.iconst (-1), 1) := by decide +kernel
theorem dX12_goings_159 : decode cX12_goings 159 = .ok (.if_icmp .ne 6, 3) := by decide +kernel
theorem dX12_goings_162 : decode cX12_goings 162 = .ok (.goto 124, 3) := by decide +kernel
theorem dX12_goings_165 : decode cX12_goings 165 = .ok (.iload 8, 2) := by decide +kernel
theorem dX12_goings_167 : decode cX12_goings 167 = .ok (.iload 4, 2) := by decide +kernel
theorem dX12_goings_169 : decode cX12_goings 169 = .ok (.if_icmp .ne 8, 3) := by decide +kernel
theorem dX12_goings_172 : decode cX12_goings 172 = .ok (.iload 7, 2) := by decide +kernel
theorem dX12_goings_174 : decode cX12_goings 174 = .ok (.goto 16, 3) := by decide +kernel
theorem dX12_goings_177 : decode cX12_goings 177 = .ok (.aload_n 0, 1) := by decide +kernel
theorem dX12_goings_178 : decode cX12_goings 178 = .ok (.getfield 53, 3) := by decide +kernel
theorem dX12_goings_181 : decode cX12_goings 181 = .ok (.bipush 12, 2) := by decide +kernel
theorem dX12_goings_183 : decode cX12_goings 183 = .ok (.iload 10, 2) := by decide +kernel
theorem dX12_goings_185 : decode cX12_goings 185 = .ok (.imul, 1) := by decide +kernel
theorem dX12_goings_186 : decode cX12_goings 186 = .ok (.iload 4, 2) := by decide +kernel
theorem dX12_goings_188 : decode cX12_goings 188 = .ok (.iadd, 1) := by decide +kernel
theorem dX12_goings_189 : decode cX12_goings 189 = .ok (.iaload, 1) := by decide +kernel
theorem dX12_goings_190 : decode cX12_goings 190 = .ok (.istore 11, 2) := by decide +kernel
theorem dX12_goings_192 : decode cX12_goings 192 = .ok (.iload 8, 2) := by decide +kernel
theorem dX12_goings_194 : decode cX12_goings 194 = .ok (.iload 4, 2) := by decide +kernel
theorem dX12_goings_196 : decode cX12_goings 196 = .ok (.if_icmp .ne 7, 3) := by decide +kernel
theorem dX12_goings_199 : decode cX12_goings 199 = .ok (.iconst 1, 1) := by decide +kernel
theorem dX12_goings_200 : decode cX12_goings 200 = .ok (.goto 18, 3) := by decide +kernel
theorem dX12_goings_203 : decode cX12_goings 203 = .ok (.aload_n 0, 1) := by decide +kernel
theorem dX12_goings_204 : decode cX12_goings 204 = .ok (.getfield 56, 3) := by decide +kernel
theorem dX12_goings_207 : decode cX12_goings 207 = .ok (.bipush 12, 2) := by decide +kernel
theorem dX12_goings_209 : decode cX12_goings 209 = .ok (.iload 10, 2) := by decide +kernel
theorem dX12_goings_211 : decode cX12_goings 211 = .ok (.imul, 1) := by decide +kernel
theorem dX12_goings_212 : decode cX12_goings 212 = .ok (.iload 4, 2) := by decide +kernel
theorem dX12_goings_214 : decode cX12_goings 214 = .ok (.iadd, 1) := by decide +kernel
theorem dX12_goings_215 : decode cX12_goings 215 = .ok (.iaload, 1) := by decide +kernel
theorem dX12_goings_216 : decode cX12_goings 216 = .ok (.iconst 1, 1) := by decide +kernel
theorem dX12_goings_217 : decode cX12_goings 217 = .ok (.iadd, 1) := by decide +kernel
theorem dX12_goings_218 : decode cX12_goings 218 = .ok (.istore 12, 2) := by decide +kernel
theorem dX12_goings_220 : decode cX12_goings 220 = .ok (.iload 11, 2) := by decide +kernel
theorem dX12_goings_222 : decode cX12_goings 222 = .ok (.aload_n 0, 1) := by decide +kernel
theorem dX12_goings_223 : decode cX12_goings 223 = .ok (.getfield 53, 3) := by decide +kernel
theorem dX12_goings_226 : decode cX12_goings 226 = .ok (.iload 5, 2) := by decide +kernel
theorem dX12_goings_228 : decode cX12_goings 228 = .ok (.iaload, 1) := by decide +kernel
theorem dX12_goings_229 : decode cX12_goings 229 = .ok (.if_icmp .gt 57, 3) := by decide +kernel
theorem dX12_goings_232 : decode cX12_goings 232 = .ok (.iload 11, 2) := by decide +kernel
theorem dX12_goings_234 : decode cX12_goings 234 = .ok (.aload_n 0, 1) := by decide +kernel
theorem dX12_goings_235 : decode cX12_goings 235 = .ok (.getfield 53, 3) := by decide +kernel
theorem dX12_goings_238 : decode cX12_goings 238 = .ok (.iload 5, 2) := by decide +kernel
theorem dX12_goings_240 : decode cX12_goings 240 = .ok (.iaload, 1) := by decide +kernel
theorem dX12_goings_241 : decode cX12_goings 241 = .ok (.if_icmp .ne 18, 3) := by decide +kernel
theorem dX12_goings_244 : decode cX12_goings 244 = .ok (.iload 12, 2) := by decide +kernel
theorem dX12_goings_246 : decode cX12_goings 246 = .ok (.aload_n 0, 1) := by decide +kernel
theorem dX12_goings_247 : decode cX12_goings 247 = .ok (.getfield 56, 3) := by decide +kernel
theorem dX12_goings_250 : decode cX12_goings 250 = .ok (.iload 5, 2) := by decide +kernel
theorem dX12_goings_252 : decode cX12_goings 252 = .ok (.iaload, 1) := by decide +kernel
theorem dX12_goings_253 : decode cX12_goings 253 = .ok (.if_icmp .lt 6, 3) := by decide +kernel
theorem dX12_goings_256 : decode cX12_goings 256 = .ok (.goto 30, 3) := by decide +kernel
theorem dX12_goings_259 : decode cX12_goings 259 = .ok (.aload_n 0, 1) := by decide +kernel
theorem dX12_goings_260 : decode cX12_goings 260 = .ok (.getfield 53, 3) := by decide +kernel
theorem dX12_goings_263 : decode cX12_goings 263 = .ok (.iload 5, 2) := by decide +kernel
theorem dX12_goings_265 : decode cX12_goings 265 = .ok (.iload 11, 2) := by decide +kernel
theorem dX12_goings_267 : decode cX12_goings 267 = .ok (.iastore, 1) := by decide +kernel
theorem dX12_goings_268 : decode cX12_goings 268 = .ok (.aload_n 0, 1) := by decide +kernel
theorem dX12_goings_269 : decode cX12_goings 269 = .ok (.getfield 56, 3) := by decide +kernel
theorem dX12_goings_272 : decode cX12_goings 272 = .ok (.iload 5, 2) := by decide +kernel
theorem dX12_goings_274 : decode cX12_goings 274 = .ok (.iload 12, 2) := by decide +kernel
theorem dX12_goings_276 : decode cX12_goings 276 = .ok (.iastore, 1) := by decide +kernel
theorem dX12_goings_277 : decode cX12_goings 277 = .ok (.aload_n 0, 1) := by decide +kernel
theorem dX12_goings_278 : decode cX12_goings 278 = .ok (.getfield 59, 3) := by decide +kernel
theorem dX12_goings_281 : decode cX12_goings 281 = .ok (.iload 5, 2) := by decide +kernel
theorem dX12_goings_283 : decode cX12_goings 283 = .ok (.iload 6, 2) := by decide +kernel
theorem dX12_goings_285 : decode cX12_goings 285 = .ok (.iastore, 1) := by decide +kernel
theorem dX12_goings_286 : decode cX12_goings 286 = .ok (.iinc 6 1, 3) := by decide +kernel
theorem dX12_goings_289 : decode cX12_goings 289 = .ok (.goto (-229), 3) := by decide +kernel
theorem dX12_goings_292 : decode cX12_goings 292 = .ok (.iinc 4 1, 3) := by decide +kernel
theorem dX12_goings_295 : decode cX12_goings 295 = .ok (.goto (-273), 3) := by decide +kernel
theorem dX12_goings_298 : decode cX12_goings 298 = .ok (.aload_n 0, 1) := by decide +kernel
theorem dX12_goings_299 : decode cX12_goings 299 = .ok (.getfield 65, 3) := by decide +kernel
theorem dX12_goings_302 : decode cX12_goings 302 = .ok (.iload_n 1, 1) := by decide +kernel
theorem dX12_goings_303 : decode cX12_goings 303 = .ok (.aload_n 0, 1) := by decide +kernel
theorem dX12_goings_304 : decode cX12_goings 304 = .ok (.getfield 68, 3) := by decide +kernel
theorem dX12_goings_307 : decode cX12_goings 307 = .ok (.iload_n 3, 1) := by decide +kernel
theorem dX12_goings_308 : decode cX12_goings 308 = .ok (.iaload, 1) := by decide +kernel
theorem dX12_goings_309 : decode cX12_goings 309 = .ok (.iastore, 1) := by decide +kernel
theorem dX12_goings_310 : decode cX12_goings 310 = .ok (.aload_n 0, 1) := by decide +kernel
theorem dX12_goings_311 : decode cX12_goings 311 = .ok (.getfield 68, 3) := by decide +kernel
theorem dX12_goings_314 : decode cX12_goings 314 = .ok (.iload_n 3, 1) := by decide +kernel
theorem dX12_goings_315 : decode cX12_goings 315 = .ok (.iload_n 1, 1) := by decide +kernel
theorem dX12_goings_316 : decode cX12_goings 316 = .ok (.iastore, 1) := by decide +kernel
theorem dX12_goings_317 : decode cX12_goings 317 = .ok (.iconst 0, 1) := by decide +kernel
theorem dX12_goings_318 : decode cX12_goings 318 = .ok (.istore 4, 2) := by decide +kernel
theorem dX12_goings_320 : decode cX12_goings 320 = .ok (.iload 4, 2) := by decide +kernel
theorem dX12_goings_322 : decode cX12_goings 322 = .ok (.aload_n 0, 1) := by decide +kernel
theorem dX12_goings_323 : decode cX12_goings 323 = .ok (.getfield 283, 3) := by decide +kernel
theorem dX12_goings_326 : decode cX12_goings 326 = .ok (.if_icmp .ge 101, 3) := by decide +kernel
theorem dX12_goings_329 : decode cX12_goings 329 = .ok (.aload_n 0, 1) := by decide +kernel
theorem dX12_goings_330 : decode cX12_goings 330 = .ok (.getfield 65, 3) := by decide +kernel
theorem dX12_goings_333 : decode cX12_goings 333 = .ok (.iload_n 1, 1) := by decide +kernel
theorem dX12_goings_334 : decode cX12_goings 334 = .ok (.iaload, 1) := by decide +kernel
theorem dX12_goings_335 : decode cX12_goings 335 = .ok (.iconst (-1), 1) := by decide +kernel
theorem dX12_goings_336 : decode cX12_goings 336 = .ok (.if_icmp .ne 7, 3) := by decide +kernel
theorem dX12_goings_339 : decode cX12_goings 339 = .ok (.iconst (-1), 1) := by decide +kernel
theorem dX12_goings_340 : decode cX12_goings 340 = .ok (.goto 20, 3) := by decide +kernel
theorem dX12_goings_343 : decode cX12_goings 343 = .ok (.aload_n 0, 1) := by decide +kernel
theorem dX12_goings_344 : decode cX12_goings 344 = .ok (.getfield 62, 3) := by decide +kernel
theorem dX12_goings_347 : decode cX12_goings 347 = .ok (.bipush 12, 2) := by decide +kernel
theorem dX12_goings_349 : decode cX12_goings 349 = .ok (.aload_n 0, 1) := by decide +kernel
theorem dX12_goings_350 : decode cX12_goings 350 = .ok (.getfield 65, 3) := by decide +kernel
theorem dX12_goings_353 : decode cX12_goings 353 = .ok (.iload_n 1, 1) := by decide +kernel
theorem dX12_goings_354 : decode cX12_goings 354 = .ok (.iaload, 1) := by decide +kernel
theorem dX12_goings_355 : decode cX12_goings 355 = .ok (.imul, 1) := by decide +kernel
theorem dX12_goings_356 : decode cX12_goings 356 = .ok (.iload 4, 2) := by decide +kernel
theorem dX12_goings_358 : decode cX12_goings 358 = .ok (.iadd, 1) := by decide +kernel
theorem dX12_goings_359 : decode cX12_goings 359 = .ok (.iaload, 1) := by decide +kernel
theorem dX12_goings_360 : decode cX12_goings 360 = .ok (.istore 5, 2) := by decide +kernel
theorem dX12_goings_362 : decode cX12_goings 362 = .ok (.aload_n 0, 1) := by decide +kernel
theorem dX12_goings_363 : decode cX12_goings 363 = .ok (.getfield 62, 3) := by decide +kernel
theorem dX12_goings_366 : decode cX12_goings 366 = .ok (.bipush 12, 2) := by decide +kernel
theorem dX12_goings_368 : decode cX12_goings 368 = .ok (.iload_n 1, 1) := by decide +kernel
theorem dX12_goings_369 : decode cX12_goings 369 = .ok (.imul, 1) := by decide +kernel
theorem dX12_goings_370 : decode cX12_goings 370 = .ok (.iload 4, 2) := by decide +kernel
theorem dX12_goings_372 : decode cX12_goings 372 = .ok (.iadd, 1) := by decide +kernel
theorem dX12_goings_373 : decode cX12_goings 373 = .ok (.aload_n 0, 1) := by decide +kernel
theorem dX12_goings_374 : decode cX12_goings 374 = .ok (.getfield 53, 3) := by decide +kernel
theorem dX12_goings_377 : decode cX12_goings 377 = .ok (.bipush 12, 2) := by decide +kernel
theorem dX12_goings_379 : decode cX12_goings 379 = .ok (.iload_n 1, 1) := by decide +kernel
theorem dX12_goings_380 : decode cX12_goings 380 = .ok (.imul, 1) := by decide +kernel
theorem dX12_goings_381 : decode cX12_goings 381 = .ok (.iload 4, 2) := by decide +kernel
theorem dX12_goings_383 : decode cX12_goings 383 = .ok (.iadd, 1) := by decide +kernel
theorem dX12_goings_384 : decode cX12_goings 384 = .ok (.iaload, 1) := by decide +kernel
theorem dX12_goings_385 : decode cX12_goings 385 = .ok (.ldc_w 301, 3) := by decide +kernel
theorem dX12_goings_388 : decode cX12_goings 388 = .ok (.if_icmp .ne 8, 3) := by decide +kernel
theorem dX12_goings_391 : decode cX12_goings 391 = .ok (.iload 5, 2) := by decide +kernel
theorem dX12_goings_393 : decode cX12_goings 393 = .ok (.goto 27, 3) := by decide +kernel
theorem dX12_goings_396 : decode cX12_goings 396 = .ok (.iload 5, 2) := by decide +kernel
theorem dX12_goings_398 : decode cX12_goings 398 = .ok (.iconst (-1), 1) := by decide +kernel
theorem dX12_goings_399 : decode cX12_goings 399 = .ok (.if_icmp .eq 15, 3) := by decide +kernel
theorem dX12_goings_402 : decode cX12_goings 402 = .ok (.aload_n 0, 1) := by decide +kernel
theorem dX12_goings_403 : decode cX12_goings 403 = .ok (.iload_n 1, 1) := by decide +kernel
theorem dX12_goings_404 : decode cX12_goings 404 = .ok (.iload 5, 2) := by decide +kernel
theorem dX12_goings_406 : decode cX12_goings 406 = .ok (.iload 4, 2) := by decide +kernel
theorem dX12_goings_408 : decode cX12_goings 408 = .ok (.invokevirtual 355, 3) := by decide +kernel
theorem dX12_goings_411 : decode cX12_goings 411 = .ok (.ifCond .eq 7, 3) := by decide +kernel
theorem dX12_goings_414 : decode cX12_goings 414 = .ok (.iload_n 1, 1) := by decide +kernel
theorem dX12_goings_415 : decode cX12_goings 415 = .ok (.goto 5, 3) := by decide +kernel
theorem dX12_goings_418 : decode cX12_goings 418 = .ok (.iload 5, 2) := by decide +kernel
theorem dX12_goings_420 : decode cX12_goings 420 = .ok (.iastore, 1) := by decide +kernel
theorem dX12_goings_421 : decode cX12_goings 421 = .ok (.iinc 4 1, 3) := by decide +kernel
theorem dX12_goings_424 : decode cX12_goings 424 = .ok (.goto (-104), 3) := by decide +kernel
theorem dX12_goings_427 : decode cX12_goings 427 = .ok (.return_, 1) := by decide +kernel
theorem bX12_goings_0 {d : Nat} {h0 hE h : ea_H} {rv : Option ea_V} {r0 : Option Nat} {x1 : Int32} (H : ∃ a3, r0 = some a3 ∧ a3 < ea_n h ∧ ea_c h a3 = 12 ∧ ∃ a7, (ea_r h a3 16) = some a7 ∧ a7 < ea_n h ∧ ea_c h a7 = 20 ∧ vp_in x1 (ea_l h a7) ∧ a3 < ea_n h ∧ ea_c h a3 = 12 ∧ ∃ a14, (ea_r h a3 17) = some a14 ∧ a14 < ea_n h ∧ ea_c h a14 = 20 ∧ vp_in x1 (ea_l h a14) ∧ a3 < ea_n h ∧ ea_c h a3 = 12 ∧ ∃ (d17 : Nat) (xc23 : Int32) (h18 : ea_H), ea_Met mX12_townOf d17 [vR (some a3), vI (ea_i h a7 (Int32.toNatClampNeg x1)), vI (ea_i h a14 (Int32.toNatClampNeg x1))] h (some (vI xc23)) h18 ∧ d17 + 1 ≤ d ∧ ea_W mX12_goings d h0 rv hE 22 [(0, vR r0), (1, vI x1), (2, vI (ea_i h a7 (Int32.toNatClampNeg x1))), (3, vI xc23), (4, vI 0)] [] h18) : ea_W mX12_goings d h0 rv hE 0 [(0, vR r0), (1, vI x1)] [] h := by
  refine ea_aload_n (pc := 0) dX12_goings_0 rfl 0 rfl ?_
  obtain ⟨a3, e4, f1, g2, H⟩ := H
  refine ea_deref0 e4 ?_
  refine ea_getR (pc := 1) dX12_goings_1 ec_12 (k := 16) (Nat.le_of_ble_eq_true rfl) rfl (Or.inl ew_1361) f1 g2 rfl ?_
  refine ea_iload_n (pc := 4) dX12_goings_4 rfl 1 rfl ?_
  obtain ⟨a7, e8, f5, g6, H⟩ := H
  refine ea_deref1 e8 ?_
  obtain ⟨z9, H⟩ := H
  refine ea_iald (pc := 5) dX12_goings_5 f5 g6 z9 ?_
  refine ea_istore_n (pc := 6) (lv' := [(0, vR r0), (1, vI x1), (2, vI (ea_i h a7 (Int32.toNatClampNeg x1)))]) dX12_goings_6 rfl (Nat.le_of_ble_eq_true rfl) [1, 2, 0] rfl ?_
  refine ea_aload_n (pc := 7) dX12_goings_7 rfl 0 rfl ?_
  refine ea_iload_n (pc := 8) dX12_goings_8 rfl 2 rfl ?_
  refine ea_aload_n (pc := 9) dX12_goings_9 rfl 0 rfl ?_
  obtain ⟨f10, g11, H⟩ := H
  refine ea_deref0 e4 ?_
  refine ea_getR (pc := 10) dX12_goings_10 ec_12 (k := 17) (Nat.le_of_ble_eq_true rfl) rfl (Or.inl ew_1362) f10 g11 rfl ?_
  refine ea_iload_n (pc := 13) dX12_goings_13 rfl 1 rfl ?_
  obtain ⟨a14, e15, f12, g13, H⟩ := H
  refine ea_deref1 e15 ?_
  obtain ⟨z16, H⟩ := H
  refine ea_iald (pc := 14) dX12_goings_14 f12 g13 z16 ?_
  obtain ⟨f21, g22, H⟩ := H
  refine ea_deref2 e4 ?_
  obtain ⟨d17, xc23, h18, m19, q20, H⟩ := H
  refine ea_callV (pc := 15) (As := [vI (ea_i h a7 (Int32.toNatClampNeg x1)), vI (ea_i h a14 (Int32.toNatClampNeg x1))]) (st := []) dX12_goings_15 kX12_townOf m19 q20 rfl (Nat.le_of_ble_eq_true rfl) ew_1798 ew_1800 ew_60 (ci := 12) rfl (by decide) f21 g22 ?_
  refine ea_istore_n (pc := 18) (lv' := [(0, vR r0), (1, vI x1), (2, vI (ea_i h a7 (Int32.toNatClampNeg x1))), (3, vI xc23)]) dX12_goings_18 rfl (Nat.le_of_ble_eq_true rfl) [1, 2, 3, 0] rfl ?_
  refine ea_iconst (pc := 19) dX12_goings_19 (v := 0) rfl ?_
  refine ea_istore (pc := 20) (lv' := [(0, vR r0), (1, vI x1), (2, vI (ea_i h a7 (Int32.toNatClampNeg x1))), (3, vI xc23), (4, vI 0)]) dX12_goings_20 (Nat.le_of_ble_eq_true rfl) [1, 2, 3, 4, 0] rfl ?_
  exact H
theorem bX12_goings_22 {d : Nat} {h0 hE h : ea_H} {rv : Option ea_V} {r0 : Option Nat} {x1 : Int32} {x2 : Int32} {x3 : Int32} {x4 : Int32} (H : ∃ a3, r0 = some a3 ∧ a3 < ea_n h ∧ ea_c h a3 = 12 ∧ ((ea_i h a3 1) ≤ x4 → a3 < ea_n h ∧ ea_c h a3 = 12 ∧ a3 < ea_n h ∧ ea_c h a3 = 12 ∧ ∃ a11, (ea_r h a3 24) = some a11 ∧ a11 < ea_n h ∧ ea_c h a11 = 20 ∧ vp_in x3 (ea_l h a11) ∧ ∃ a16, (ea_r h a3 23) = some a16 ∧ a16 < ea_n h ∧ ea_c h a16 = 20 ∧ vp_in x1 (ea_l h a16) ∧ ∀ h19, h19 = ea_wi h a16 (Int32.toNatClampNeg x1) (ea_i h a11 (Int32.toNatClampNeg x3)) → a3 < ea_n h19 ∧ ea_c h19 a3 = 12 ∧ ∃ a25, (ea_r h19 a3 24) = some a25 ∧ a25 < ea_n h19 ∧ ea_c h19 a25 = 20 ∧ vp_in x3 (ea_l h19 a25) ∧ ∀ h28, h28 = ea_wi h19 a25 (Int32.toNatClampNeg x3) x1 → ea_W mX12_goings d h0 rv hE 320 [(0, vR r0), (1, vI x1), (4, vI 0)] [] h28) ∧ (¬ (ea_i h a3 1) ≤ x4 → a3 < ea_n h ∧ ea_c h a3 = 12 ∧ ∃ a34, (ea_r h a3 19) = some a34 ∧ a34 < ea_n h ∧ ea_c h a34 = 20 ∧ vp_in (((12 : Int32) * x1) + x4) (ea_l h a34) ∧ ∀ h37, h37 = ea_wi h a34 (Int32.toNatClampNeg (((12 : Int32) * x1) + x4)) 1000000 → a3 < ea_n h37 ∧ ea_c h37 a3 = 12 ∧ ∃ a43, (ea_r h37 a3 17) = some a43 ∧ a43 < ea_n h37 ∧ ea_c h37 a43 = 20 ∧ vp_in x1 (ea_l h37 a43) ∧ ea_W mX12_goings d h0 rv hE 60 [(0, vR r0), (1, vI x1), (2, vI x2), (3, vI x3), (4, vI x4), (5, vI (((12 : Int32) * x1) + x4)), (6, vI ((ea_i h37 a43 (Int32.toNatClampNeg x1)) + (1 : Int32)))] [] h37)) : ea_W mX12_goings d h0 rv hE 22 [(0, vR r0), (1, vI x1), (2, vI x2), (3, vI x3), (4, vI x4)] [] h := by
  refine ea_iload (pc := 22) dX12_goings_22 4 rfl ?_
  refine ea_aload_n (pc := 24) dX12_goings_24 rfl 0 rfl ?_
  obtain ⟨a3, e4, f1, g2, H⟩ := H
  refine ea_deref0 e4 ?_
  refine ea_getI (pc := 25) dX12_goings_25 ec_12 (k := 1) (Nat.le_of_ble_eq_true rfl) rfl (Or.inl ew_1346) f1 g2 ?_
  refine ea_icmp_ge (pc := 28) (tgt := 298) dX12_goings_28 rfl (fun c46 => ?_) (fun c46 => ?_)
  · have H := H.1 c46
    refine ea_aload_n (pc := 298) dX12_goings_298 rfl 0 rfl ?_
    obtain ⟨f5, g6, H⟩ := H
    refine ea_deref0 e4 ?_
    refine ea_getR (pc := 299) dX12_goings_299 ec_12 (k := 23) (Nat.le_of_ble_eq_true rfl) rfl (Or.inl ew_1368) f5 g6 rfl ?_
    refine ea_iload_n (pc := 302) dX12_goings_302 rfl 1 rfl ?_
    refine ea_aload_n (pc := 303) dX12_goings_303 rfl 0 rfl ?_
    obtain ⟨f7, g8, H⟩ := H
    refine ea_deref0 e4 ?_
    refine ea_getR (pc := 304) dX12_goings_304 ec_12 (k := 24) (Nat.le_of_ble_eq_true rfl) rfl (Or.inl ew_1369) f7 g8 rfl ?_
    refine ea_iload_n (pc := 307) dX12_goings_307 rfl 3 rfl ?_
    obtain ⟨a11, e12, f9, g10, H⟩ := H
    refine ea_deref1 e12 ?_
    obtain ⟨z13, H⟩ := H
    refine ea_iald (pc := 308) dX12_goings_308 f9 g10 z13 ?_
    obtain ⟨a16, e17, f14, g15, H⟩ := H
    refine ea_deref2 e17 ?_
    obtain ⟨z18, H⟩ := H
    refine ea_iast (pc := 309) dX12_goings_309 f14 g15 z18 ?_
    obtain ⟨h19, E20⟩ : ∃ z, z = ea_wi h a16 (Int32.toNatClampNeg x1) (ea_i h a11 (Int32.toNatClampNeg x3)) := ⟨_, rfl⟩
    have H := H h19 E20
    refine ea_nm E20 ?_
    refine ea_aload_n (pc := 310) dX12_goings_310 rfl 0 rfl ?_
    obtain ⟨f21, g22, H⟩ := H
    refine ea_deref0 e4 ?_
    refine ea_getR (pc := 311) dX12_goings_311 ec_12 (k := 24) (Nat.le_of_ble_eq_true rfl) rfl (Or.inl ew_1369) f21 g22 rfl ?_
    refine ea_iload_n (pc := 314) dX12_goings_314 rfl 3 rfl ?_
    refine ea_iload_n (pc := 315) dX12_goings_315 rfl 1 rfl ?_
    obtain ⟨a25, e26, f23, g24, H⟩ := H
    refine ea_deref2 e26 ?_
    obtain ⟨z27, H⟩ := H
    refine ea_iast (pc := 316) dX12_goings_316 f23 g24 z27 ?_
    obtain ⟨h28, E29⟩ : ∃ z, z = ea_wi h19 a25 (Int32.toNatClampNeg x3) x1 := ⟨_, rfl⟩
    have H := H h28 E29
    refine ea_nm E29 ?_
    refine ea_iconst (pc := 317) dX12_goings_317 (v := 0) rfl ?_
    refine ea_istore (pc := 318) (lv' := [(0, vR r0), (1, vI x1), (4, vI 0)]) dX12_goings_318 (Nat.le_of_ble_eq_true rfl) [1, 2, 0] rfl ?_
    exact H
  · have H := H.2 c46
    refine ea_bipush (pc := 31) dX12_goings_31 (v := 12) rfl ?_
    refine ea_iload_n (pc := 33) dX12_goings_33 rfl 1 rfl ?_
    refine ea_imul (pc := 34) dX12_goings_34 ?_
    refine ea_iload (pc := 35) dX12_goings_35 4 rfl ?_
    refine ea_iadd (pc := 37) dX12_goings_37 ?_
    refine ea_istore (pc := 38) (lv' := [(0, vR r0), (1, vI x1), (2, vI x2), (3, vI x3), (4, vI x4), (5, vI (((12 : Int32) * x1) + x4))]) dX12_goings_38 (Nat.le_of_ble_eq_true rfl) [1, 2, 3, 4, 5, 0] rfl ?_
    refine ea_aload_n (pc := 40) dX12_goings_40 rfl 0 rfl ?_
    obtain ⟨f30, g31, H⟩ := H
    refine ea_deref0 e4 ?_
    refine ea_getR (pc := 41) dX12_goings_41 ec_12 (k := 19) (Nat.le_of_ble_eq_true rfl) rfl (Or.inl ew_1364) f30 g31 rfl ?_
    refine ea_iload (pc := 44) dX12_goings_44 5 rfl ?_
    refine ea_ldcw (pc := 46) dX12_goings_46 ew_1727 ?_
    obtain ⟨a34, e35, f32, g33, H⟩ := H
    refine ea_deref2 e35 ?_
    obtain ⟨z36, H⟩ := H
    refine ea_iast (pc := 49) dX12_goings_49 f32 g33 z36 ?_
    obtain ⟨h37, E38⟩ : ∃ z, z = ea_wi h a34 (Int32.toNatClampNeg (((12 : Int32) * x1) + x4)) 1000000 := ⟨_, rfl⟩
    have H := H h37 E38
    refine ea_nm E38 ?_
    refine ea_aload_n (pc := 50) dX12_goings_50 rfl 0 rfl ?_
    obtain ⟨f39, g40, H⟩ := H
    refine ea_deref0 e4 ?_
    refine ea_getR (pc := 51) dX12_goings_51 ec_12 (k := 17) (Nat.le_of_ble_eq_true rfl) rfl (Or.inl ew_1362) f39 g40 rfl ?_
    refine ea_iload_n (pc := 54) dX12_goings_54 rfl 1 rfl ?_
    obtain ⟨a43, e44, f41, g42, H⟩ := H
    refine ea_deref1 e44 ?_
    obtain ⟨z45, H⟩ := H
    refine ea_iald (pc := 55) dX12_goings_55 f41 g42 z45 ?_
    refine ea_iconst (pc := 56) dX12_goings_56 (v := 1) rfl ?_
    refine ea_iadd (pc := 57) dX12_goings_57 ?_
    refine ea_istore (pc := 58) (lv' := [(0, vR r0), (1, vI x1), (2, vI x2), (3, vI x3), (4, vI x4), (5, vI (((12 : Int32) * x1) + x4)), (6, vI ((ea_i h37 a43 (Int32.toNatClampNeg x1)) + (1 : Int32)))]) dX12_goings_58 (Nat.le_of_ble_eq_true rfl) [1, 2, 3, 4, 5, 6, 0] rfl ?_
    exact H
theorem bX12_goings_60 {d : Nat} {h0 hE h : ea_H} {rv : Option ea_V} {r0 : Option Nat} {x1 : Int32} {x2 : Int32} {x3 : Int32} {x4 : Int32} {x5 : Int32} {x6 : Int32} (H : ∃ a3, r0 = some a3 ∧ a3 < ea_n h ∧ ea_c h a3 = 12 ∧ ∃ a7, (ea_r h a3 4) = some a7 ∧ a7 < ea_n h ∧ ea_c h a7 = 20 ∧ vp_in (x2 / (7 : Int32)) (ea_l h a7) ∧ ((ea_i h a7 (Int32.toNatClampNeg (x2 / (7 : Int32)))) ≤ x6 → ea_W mX12_goings d h0 rv hE 22 [(0, vR r0), (1, vI x1), (2, vI x2), (3, vI x3), (4, vI (x4 + 1))] [] h) ∧ (¬ (ea_i h a7 (Int32.toNatClampNeg (x2 / (7 : Int32)))) ≤ x6 → a3 < ea_n h ∧ ea_c h a3 = 12 ∧ ∃ (d10 : Nat) (xc16 : Int32) (h11 : ea_H), ea_Met mX12_comesAt d10 [vR (some a3), vI x2, vI x6] h (some (vI xc16)) h11 ∧ d10 + 1 ≤ d ∧ (xc16 ≤ (10079 : Int32) → a3 < ea_n h11 ∧ ea_c h11 a3 = 12 ∧ ∃ (d17 : Nat) (xc23 : Int32) (h18 : ea_H), ea_Met mX12_townOf d17 [vR (some a3), vI x2, vI x6] h11 (some (vI xc23)) h18 ∧ d17 + 1 ≤ d ∧ (¬ xc23 = x4 → a3 < ea_n h18 ∧ ea_c h18 a3 = 12 ∧ ∃ (d24 : Nat) (xc30 : Int32) (h25 : ea_H), ea_Met mX12_going d24 [vR (some a3), vI xc23, vI xc16] h18 (some (vI xc30)) h25 ∧ d24 + 1 ≤ d ∧ ea_W mX12_goings d h0 rv hE 122 [(0, vR r0), (1, vI x1), (2, vI x2), (3, vI x3), (4, vI x4), (5, vI x5), (6, vI x6), (7, vI xc16), (8, vI xc23)] [vI xc30] h25) ∧ (xc23 = x4 → ea_W mX12_goings d h0 rv hE 122 [(0, vR r0), (1, vI x1), (2, vI x2), (3, vI x3), (4, vI x4), (5, vI x5), (6, vI x6), (7, vI xc16), (8, vI xc23)] [vI (-1)] h18)) ∧ (¬ xc16 ≤ (10079 : Int32) → ea_W mX12_goings d h0 rv hE 22 [(0, vR r0), (1, vI x1), (2, vI x2), (3, vI x3), (4, vI (x4 + 1))] [] h11))) : ea_W mX12_goings d h0 rv hE 60 [(0, vR r0), (1, vI x1), (2, vI x2), (3, vI x3), (4, vI x4), (5, vI x5), (6, vI x6)] [] h := by
  refine ea_iload (pc := 60) dX12_goings_60 6 rfl ?_
  refine ea_aload_n (pc := 62) dX12_goings_62 rfl 0 rfl ?_
  obtain ⟨a3, e4, f1, g2, H⟩ := H
  refine ea_deref0 e4 ?_
  refine ea_getR (pc := 63) dX12_goings_63 ec_12 (k := 4) (Nat.le_of_ble_eq_true rfl) rfl (Or.inl ew_1349) f1 g2 rfl ?_
  refine ea_iload_n (pc := 66) dX12_goings_66 rfl 2 rfl ?_
  refine ea_bipush (pc := 67) dX12_goings_67 (v := 7) rfl ?_
  refine ea_idiv (pc := 69) dX12_goings_69 (by decide) ?_
  obtain ⟨a7, e8, f5, g6, H⟩ := H
  refine ea_deref1 e8 ?_
  obtain ⟨z9, H⟩ := H
  refine ea_iald (pc := 70) dX12_goings_70 f5 g6 z9 ?_
  refine ea_icmp_ge (pc := 71) (tgt := 292) dX12_goings_71 rfl (fun c33 => ?_) (fun c33 => ?_)
  · have H := H.1 c33
    refine ea_iinc (pc := 292) (v := 1) (lv' := [(0, vR r0), (1, vI x1), (2, vI x2), (3, vI x3), (4, vI (x4 + 1))]) dX12_goings_292 4 rfl rfl (Nat.le_of_ble_eq_true rfl) [1, 2, 3, 4, 0] rfl ?_
    refine ea_goto (pc := 295) (tgt := 22) dX12_goings_295 rfl ?_
    exact H
  · have H := H.2 c33
    refine ea_aload_n (pc := 74) dX12_goings_74 rfl 0 rfl ?_
    refine ea_iload_n (pc := 75) dX12_goings_75 rfl 2 rfl ?_
    refine ea_iload (pc := 76) dX12_goings_76 6 rfl ?_
    obtain ⟨f14, g15, H⟩ := H
    refine ea_deref2 e4 ?_
    obtain ⟨d10, xc16, h11, m12, q13, H⟩ := H
    refine ea_callV (pc := 78) (As := [vI x2, vI x6]) (st := []) dX12_goings_78 kX12_comesAt m12 q13 rfl (Nat.le_of_ble_eq_true rfl) ew_1762 ew_1764 ew_52 (ci := 12) rfl (by decide) f14 g15 ?_
    refine ea_istore (pc := 81) (lv' := [(0, vR r0), (1, vI x1), (2, vI x2), (3, vI x3), (4, vI x4), (5, vI x5), (6, vI x6), (7, vI xc16)]) dX12_goings_81 (Nat.le_of_ble_eq_true rfl) [1, 2, 3, 4, 5, 6, 7, 0] rfl ?_
    refine ea_iload (pc := 83) dX12_goings_83 7 rfl ?_
    refine ea_sipush (pc := 85) dX12_goings_85 (v := 10079) rfl ?_
    refine ea_icmp_le (pc := 88) (tgt := 94) dX12_goings_88 rfl (fun c32 => ?_) (fun c32 => ?_)
    · have H := H.1 c32
      refine ea_aload_n (pc := 94) dX12_goings_94 rfl 0 rfl ?_
      refine ea_iload_n (pc := 95) dX12_goings_95 rfl 2 rfl ?_
      refine ea_iload (pc := 96) dX12_goings_96 6 rfl ?_
      obtain ⟨f21, g22, H⟩ := H
      refine ea_deref2 e4 ?_
      obtain ⟨d17, xc23, h18, m19, q20, H⟩ := H
      refine ea_callV (pc := 98) (As := [vI x2, vI x6]) (st := []) dX12_goings_98 kX12_townOf m19 q20 rfl (Nat.le_of_ble_eq_true rfl) ew_1798 ew_1800 ew_60 (ci := 12) rfl (by decide) f21 g22 ?_
      refine ea_istore (pc := 101) (lv' := [(0, vR r0), (1, vI x1), (2, vI x2), (3, vI x3), (4, vI x4), (5, vI x5), (6, vI x6), (7, vI xc16), (8, vI xc23)]) dX12_goings_101 (Nat.le_of_ble_eq_true rfl) [1, 2, 3, 4, 5, 6, 7, 8, 0] rfl ?_
      refine ea_iload (pc := 103) dX12_goings_103 8 rfl ?_
      refine ea_iload (pc := 105) dX12_goings_105 4 rfl ?_
      refine ea_icmp_ne (pc := 107) (tgt := 114) dX12_goings_107 rfl (fun c31 => ?_) (fun c31 => ?_)
      · have H := H.1 c31
        refine ea_aload_n (pc := 114) dX12_goings_114 rfl 0 rfl ?_
        refine ea_iload (pc := 115) dX12_goings_115 8 rfl ?_
        refine ea_iload (pc := 117) dX12_goings_117 7 rfl ?_
        obtain ⟨f28, g29, H⟩ := H
        refine ea_deref2 e4 ?_
        obtain ⟨d24, xc30, h25, m26, q27, H⟩ := H
        refine ea_callV (pc := 119) (As := [vI xc23, vI xc16]) (st := []) dX12_goings_119 kX12_going m26 q27 rfl (Nat.le_of_ble_eq_true rfl) ew_1802 ew_1804 ew_61 (ci := 12) rfl (by decide) f28 g29 ?_
        exact H
      · have H := H.2 c31
        refine ea_iconst (pc := 110) dX12_goings_110 (v := (-1)) rfl ?_
        refine ea_goto (pc := 111) (tgt := 122) dX12_goings_111 rfl ?_
        exact H
    · have H := H.2 c32
      refine ea_goto (pc := 91) (tgt := 292) dX12_goings_91 rfl ?_
      refine ea_iinc (pc := 292) (v := 1) (lv' := [(0, vR r0), (1, vI x1), (2, vI x2), (3, vI x3), (4, vI (x4 + 1))]) dX12_goings_292 4 rfl rfl (Nat.le_of_ble_eq_true rfl) [1, 2, 3, 4, 0] rfl ?_
      refine ea_goto (pc := 295) (tgt := 22) dX12_goings_295 rfl ?_
      exact H
theorem bX12_goings_122 {d : Nat} {h0 hE h : ea_H} {rv : Option ea_V} {r0 : Option Nat} {x1 : Int32} {x2 : Int32} {x3 : Int32} {x4 : Int32} {x5 : Int32} {x6 : Int32} {x7 : Int32} {x8 : Int32} {sx0 : Int32} (H : (¬ sx0 = ((-1) : Int32) → ∃ a3, r0 = some a3 ∧ a3 < ea_n h ∧ ea_c h a3 = 12 ∧ ∃ a7, (ea_r h a3 22) = some a7 ∧ a7 < ea_n h ∧ ea_c h a7 = 20 ∧ vp_in (((12 : Int32) * sx0) + x4) (ea_l h a7) ∧ ea_W mX12_goings d h0 rv hE 147 [(0, vR r0), (1, vI x1), (2, vI x2), (3, vI x3), (4, vI x4), (5, vI x5), (6, vI x6), (7, vI x7), (8, vI x8)] [vI (ea_i h a7 (Int32.toNatClampNeg (((12 : Int32) * sx0) + x4)))] h) ∧ (sx0 = ((-1) : Int32) → ea_W mX12_goings d h0 rv hE 147 [(0, vR r0), (1, vI x1), (2, vI x2), (3, vI x3), (4, vI x4), (5, vI x5), (6, vI x6), (7, vI x7), (8, vI x8)] [vI (-1)] h)) : ea_W mX12_goings d h0 rv hE 122 [(0, vR r0), (1, vI x1), (2, vI x2), (3, vI x3), (4, vI x4), (5, vI x5), (6, vI x6), (7, vI x7), (8, vI x8)] [vI sx0] h := by
  refine ea_istore (pc := 122) (lv' := [(0, vR r0), (1, vI x1), (2, vI x2), (3, vI x3), (4, vI x4), (5, vI x5), (6, vI x6), (7, vI x7), (8, vI x8), (9, vI sx0)]) dX12_goings_122 (Nat.le_of_ble_eq_true rfl) [1, 2, 3, 4, 5, 6, 7, 8, 9, 0] rfl ?_
  refine ea_iload (pc := 124) dX12_goings_124 9 rfl ?_
  refine ea_iconst (pc := 126) dX12_goings_126 (v := (-1)) rfl ?_
  refine ea_icmp_ne (pc := 127) (tgt := 134) dX12_goings_127 rfl (fun c10 => ?_) (fun c10 => ?_)
  · have H := H.1 c10
    refine ea_aload_n (pc := 134) dX12_goings_134 rfl 0 rfl ?_
    obtain ⟨a3, e4, f1, g2, H⟩ := H
    refine ea_deref0 e4 ?_
    refine ea_getR (pc := 135) dX12_goings_135 ec_12 (k := 22) (Nat.le_of_ble_eq_true rfl) rfl (Or.inl ew_1367) f1 g2 rfl ?_
    refine ea_bipush (pc := 138) dX12_goings_138 (v := 12) rfl ?_
    refine ea_iload (pc := 140) dX12_goings_140 9 rfl ?_
    refine ea_imul (pc := 142) dX12_goings_142 ?_
    refine ea_iload (pc := 143) dX12_goings_143 4 rfl ?_
    refine ea_iadd (pc := 145) dX12_goings_145 ?_
    obtain ⟨a7, e8, f5, g6, H⟩ := H
    refine ea_deref1 e8 ?_
    obtain ⟨z9, H⟩ := H
    refine ea_iald (pc := 146) dX12_goings_146 f5 g6 z9 ?_
    exact ea_fewer [0, 1, 2, 3, 4, 5, 6, 7, 8] rfl H
  · have H := H.2 c10
    refine ea_iconst (pc := 130) dX12_goings_130 (v := (-1)) rfl ?_
    refine ea_goto (pc := 131) (tgt := 147) dX12_goings_131 rfl ?_
    exact ea_fewer [0, 1, 2, 3, 4, 5, 6, 7, 8] rfl H
theorem bX12_goings_147 {d : Nat} {h0 hE h : ea_H} {rv : Option ea_V} {r0 : Option Nat} {x1 : Int32} {x2 : Int32} {x3 : Int32} {x4 : Int32} {x5 : Int32} {x6 : Int32} {x7 : Int32} {x8 : Int32} {sx0 : Int32} (H : (x8 = x4 → ea_W mX12_goings d h0 rv hE 165 [(0, vR r0), (1, vI x1), (2, vI x2), (3, vI x3), (4, vI x4), (5, vI x5), (6, vI x6), (7, vI x7), (8, vI x8), (10, vI sx0)] [] h) ∧ (¬ x8 = x4 → (¬ sx0 = ((-1) : Int32) → ea_W mX12_goings d h0 rv hE 165 [(0, vR r0), (1, vI x1), (2, vI x2), (3, vI x3), (4, vI x4), (5, vI x5), (6, vI x6), (7, vI x7), (8, vI x8), (10, vI sx0)] [] h) ∧ (sx0 = ((-1) : Int32) → ea_W mX12_goings d h0 rv hE 60 [(0, vR r0), (1, vI x1), (2, vI x2), (3, vI x3), (4, vI x4), (5, vI x5), (6, vI (x6 + 1))] [] h))) : ea_W mX12_goings d h0 rv hE 147 [(0, vR r0), (1, vI x1), (2, vI x2), (3, vI x3), (4, vI x4), (5, vI x5), (6, vI x6), (7, vI x7), (8, vI x8)] [vI sx0] h := by
  refine ea_istore (pc := 147) (lv' := [(0, vR r0), (1, vI x1), (2, vI x2), (3, vI x3), (4, vI x4), (5, vI x5), (6, vI x6), (7, vI x7), (8, vI x8), (10, vI sx0)]) dX12_goings_147 (Nat.le_of_ble_eq_true rfl) [1, 2, 3, 4, 5, 6, 7, 8, 9, 0] rfl ?_
  refine ea_iload (pc := 149) dX12_goings_149 8 rfl ?_
  refine ea_iload (pc := 151) dX12_goings_151 4 rfl ?_
  refine ea_icmp_eq (pc := 153) (tgt := 165) dX12_goings_153 rfl (fun c2 => ?_) (fun c2 => ?_)
  · have H := H.1 c2
    exact H
  · have H := H.2 c2
    refine ea_iload (pc := 156) dX12_goings_156 9 rfl ?_
    refine ea_iconst (pc := 158) dX12_goings_158 (v := (-1)) rfl ?_
    refine ea_icmp_ne (pc := 159) (tgt := 165) dX12_goings_159 rfl (fun c1 => ?_) (fun c1 => ?_)
    · have H := H.1 c1
      exact H
    · have H := H.2 c1
      refine ea_goto (pc := 162) (tgt := 286) dX12_goings_162 rfl ?_
      refine ea_iinc (pc := 286) (v := 1) (lv' := [(0, vR r0), (1, vI x1), (2, vI x2), (3, vI x3), (4, vI x4), (5, vI x5), (6, vI (x6 + 1))]) dX12_goings_286 6 rfl rfl (Nat.le_of_ble_eq_true rfl) [1, 2, 3, 4, 5, 6, 0] rfl ?_
      refine ea_goto (pc := 289) (tgt := 60) dX12_goings_289 rfl ?_
      exact H
theorem bX12_goings_165 {d : Nat} {h0 hE h : ea_H} {rv : Option ea_V} {r0 : Option Nat} {x1 : Int32} {x2 : Int32} {x3 : Int32} {x4 : Int32} {x5 : Int32} {x6 : Int32} {x7 : Int32} {x8 : Int32} {x10 : Int32} (H : (¬ x8 = x4 → ∃ a3, r0 = some a3 ∧ a3 < ea_n h ∧ ea_c h a3 = 12 ∧ ∃ a7, (ea_r h a3 19) = some a7 ∧ a7 < ea_n h ∧ ea_c h a7 = 20 ∧ vp_in (((12 : Int32) * x10) + x4) (ea_l h a7) ∧ ea_W mX12_goings d h0 rv hE 190 [(0, vR r0), (1, vI x1), (2, vI x2), (3, vI x3), (4, vI x4), (5, vI x5), (6, vI x6), (8, vI x8), (10, vI x10)] [vI (ea_i h a7 (Int32.toNatClampNeg (((12 : Int32) * x10) + x4)))] h) ∧ (x8 = x4 → ea_W mX12_goings d h0 rv hE 190 [(0, vR r0), (1, vI x1), (2, vI x2), (3, vI x3), (4, vI x4), (5, vI x5), (6, vI x6), (8, vI x8), (10, vI x10)] [vI x7] h)) : ea_W mX12_goings d h0 rv hE 165 [(0, vR r0), (1, vI x1), (2, vI x2), (3, vI x3), (4, vI x4), (5, vI x5), (6, vI x6), (7, vI x7), (8, vI x8), (10, vI x10)] [] h := by
  refine ea_iload (pc := 165) dX12_goings_165 8 rfl ?_
  refine ea_iload (pc := 167) dX12_goings_167 4 rfl ?_
  refine ea_icmp_ne (pc := 169) (tgt := 177) dX12_goings_169 rfl (fun c10 => ?_) (fun c10 => ?_)
  · have H := H.1 c10
    refine ea_aload_n (pc := 177) dX12_goings_177 rfl 0 rfl ?_
    obtain ⟨a3, e4, f1, g2, H⟩ := H
    refine ea_deref0 e4 ?_
    refine ea_getR (pc := 178) dX12_goings_178 ec_12 (k := 19) (Nat.le_of_ble_eq_true rfl) rfl (Or.inl ew_1364) f1 g2 rfl ?_
    refine ea_bipush (pc := 181) dX12_goings_181 (v := 12) rfl ?_
    refine ea_iload (pc := 183) dX12_goings_183 9 rfl ?_
    refine ea_imul (pc := 185) dX12_goings_185 ?_
    refine ea_iload (pc := 186) dX12_goings_186 4 rfl ?_
    refine ea_iadd (pc := 188) dX12_goings_188 ?_
    obtain ⟨a7, e8, f5, g6, H⟩ := H
    refine ea_deref1 e8 ?_
    obtain ⟨z9, H⟩ := H
    refine ea_iald (pc := 189) dX12_goings_189 f5 g6 z9 ?_
    exact ea_fewer [0, 1, 2, 3, 4, 5, 6, 8, 9] rfl H
  · have H := H.2 c10
    refine ea_iload (pc := 172) dX12_goings_172 7 rfl ?_
    refine ea_goto (pc := 174) (tgt := 190) dX12_goings_174 rfl ?_
    exact ea_fewer [0, 1, 2, 3, 4, 5, 6, 8, 9] rfl H
theorem bX12_goings_190 {d : Nat} {h0 hE h : ea_H} {rv : Option ea_V} {r0 : Option Nat} {x1 : Int32} {x2 : Int32} {x3 : Int32} {x4 : Int32} {x5 : Int32} {x6 : Int32} {x8 : Int32} {x10 : Int32} {sx0 : Int32} (H : (¬ x8 = x4 → ∃ a3, r0 = some a3 ∧ a3 < ea_n h ∧ ea_c h a3 = 12 ∧ ∃ a7, (ea_r h a3 20) = some a7 ∧ a7 < ea_n h ∧ ea_c h a7 = 20 ∧ vp_in (((12 : Int32) * x10) + x4) (ea_l h a7) ∧ ea_W mX12_goings d h0 rv hE 218 [(0, vR r0), (1, vI x1), (2, vI x2), (3, vI x3), (4, vI x4), (5, vI x5), (6, vI x6), (11, vI sx0)] [vI ((ea_i h a7 (Int32.toNatClampNeg (((12 : Int32) * x10) + x4))) + (1 : Int32))] h) ∧ (x8 = x4 → ea_W mX12_goings d h0 rv hE 218 [(0, vR r0), (1, vI x1), (2, vI x2), (3, vI x3), (4, vI x4), (5, vI x5), (6, vI x6), (11, vI sx0)] [vI 1] h)) : ea_W mX12_goings d h0 rv hE 190 [(0, vR r0), (1, vI x1), (2, vI x2), (3, vI x3), (4, vI x4), (5, vI x5), (6, vI x6), (8, vI x8), (10, vI x10)] [vI sx0] h := by
  refine ea_istore (pc := 190) (lv' := [(0, vR r0), (1, vI x1), (2, vI x2), (3, vI x3), (4, vI x4), (5, vI x5), (6, vI x6), (8, vI x8), (10, vI x10), (11, vI sx0)]) dX12_goings_190 (Nat.le_of_ble_eq_true rfl) [1, 2, 3, 4, 5, 6, 7, 8, 9, 0] rfl ?_
  refine ea_iload (pc := 192) dX12_goings_192 7 rfl ?_
  refine ea_iload (pc := 194) dX12_goings_194 4 rfl ?_
  refine ea_icmp_ne (pc := 196) (tgt := 203) dX12_goings_196 rfl (fun c10 => ?_) (fun c10 => ?_)
  · have H := H.1 c10
    refine ea_aload_n (pc := 203) dX12_goings_203 rfl 0 rfl ?_
    obtain ⟨a3, e4, f1, g2, H⟩ := H
    refine ea_deref0 e4 ?_
    refine ea_getR (pc := 204) dX12_goings_204 ec_12 (k := 20) (Nat.le_of_ble_eq_true rfl) rfl (Or.inl ew_1365) f1 g2 rfl ?_
    refine ea_bipush (pc := 207) dX12_goings_207 (v := 12) rfl ?_
    refine ea_iload (pc := 209) dX12_goings_209 8 rfl ?_
    refine ea_imul (pc := 211) dX12_goings_211 ?_
    refine ea_iload (pc := 212) dX12_goings_212 4 rfl ?_
    refine ea_iadd (pc := 214) dX12_goings_214 ?_
    obtain ⟨a7, e8, f5, g6, H⟩ := H
    refine ea_deref1 e8 ?_
    obtain ⟨z9, H⟩ := H
    refine ea_iald (pc := 215) dX12_goings_215 f5 g6 z9 ?_
    refine ea_iconst (pc := 216) dX12_goings_216 (v := 1) rfl ?_
    refine ea_iadd (pc := 217) dX12_goings_217 ?_
    exact ea_fewer [0, 1, 2, 3, 4, 5, 6, 9] rfl H
  · have H := H.2 c10
    refine ea_iconst (pc := 199) dX12_goings_199 (v := 1) rfl ?_
    refine ea_goto (pc := 200) (tgt := 218) dX12_goings_200 rfl ?_
    exact ea_fewer [0, 1, 2, 3, 4, 5, 6, 9] rfl H
theorem bX12_goings_218 {d : Nat} {h0 hE h : ea_H} {rv : Option ea_V} {r0 : Option Nat} {x1 : Int32} {x2 : Int32} {x3 : Int32} {x4 : Int32} {x5 : Int32} {x6 : Int32} {x11 : Int32} {sx0 : Int32} (H : ∃ a3, r0 = some a3 ∧ a3 < ea_n h ∧ ea_c h a3 = 12 ∧ ∃ a7, (ea_r h a3 19) = some a7 ∧ a7 < ea_n h ∧ ea_c h a7 = 20 ∧ vp_in x5 (ea_l h a7) ∧ ((ea_i h a7 (Int32.toNatClampNeg x5)) < x11 → ea_W mX12_goings d h0 rv hE 60 [(0, vR r0), (1, vI x1), (2, vI x2), (3, vI x3), (4, vI x4), (5, vI x5), (6, vI (x6 + 1))] [] h) ∧ (¬ (ea_i h a7 (Int32.toNatClampNeg x5)) < x11 → a3 < ea_n h ∧ ea_c h a3 = 12 ∧ a7 < ea_n h ∧ ea_c h a7 = 20 ∧ vp_in x5 (ea_l h a7) ∧ (¬ x11 = (ea_i h a7 (Int32.toNatClampNeg x5)) → ea_W mX12_goings d h0 rv hE 259 [(0, vR r0), (1, vI x1), (2, vI x2), (3, vI x3), (4, vI x4), (5, vI x5), (6, vI x6), (11, vI x11), (12, vI sx0)] [] h) ∧ (x11 = (ea_i h a7 (Int32.toNatClampNeg x5)) → a3 < ea_n h ∧ ea_c h a3 = 12 ∧ ∃ a19, (ea_r h a3 20) = some a19 ∧ a19 < ea_n h ∧ ea_c h a19 = 20 ∧ vp_in x5 (ea_l h a19) ∧ (sx0 < (ea_i h a19 (Int32.toNatClampNeg x5)) → ea_W mX12_goings d h0 rv hE 259 [(0, vR r0), (1, vI x1), (2, vI x2), (3, vI x3), (4, vI x4), (5, vI x5), (6, vI x6), (11, vI x11), (12, vI sx0)] [] h) ∧ (¬ sx0 < (ea_i h a19 (Int32.toNatClampNeg x5)) → ea_W mX12_goings d h0 rv hE 60 [(0, vR r0), (1, vI x1), (2, vI x2), (3, vI x3), (4, vI x4), (5, vI x5), (6, vI (x6 + 1))] [] h)))) : ea_W mX12_goings d h0 rv hE 218 [(0, vR r0), (1, vI x1), (2, vI x2), (3, vI x3), (4, vI x4), (5, vI x5), (6, vI x6), (11, vI x11)] [vI sx0] h := by
  refine ea_istore (pc := 218) (lv' := [(0, vR r0), (1, vI x1), (2, vI x2), (3, vI x3), (4, vI x4), (5, vI x5), (6, vI x6), (11, vI x11), (12, vI sx0)]) dX12_goings_218 (Nat.le_of_ble_eq_true rfl) [1, 2, 3, 4, 5, 6, 7, 8, 0] rfl ?_
  refine ea_iload (pc := 220) dX12_goings_220 7 rfl ?_
  refine ea_aload_n (pc := 222) dX12_goings_222 rfl 0 rfl ?_
  obtain ⟨a3, e4, f1, g2, H⟩ := H
  refine ea_deref0 e4 ?_
  refine ea_getR (pc := 223) dX12_goings_223 ec_12 (k := 19) (Nat.le_of_ble_eq_true rfl) rfl (Or.inl ew_1364) f1 g2 rfl ?_
  refine ea_iload (pc := 226) dX12_goings_226 5 rfl ?_
  obtain ⟨a7, e8, f5, g6, H⟩ := H
  refine ea_deref1 e8 ?_
  obtain ⟨z9, H⟩ := H
  refine ea_iald (pc := 228) dX12_goings_228 f5 g6 z9 ?_
  refine ea_icmp_gt (pc := 229) (tgt := 286) dX12_goings_229 rfl (fun c24 => ?_) (fun c24 => ?_)
  · have H := H.1 c24
    refine ea_iinc (pc := 286) (v := 1) (lv' := [(0, vR r0), (1, vI x1), (2, vI x2), (3, vI x3), (4, vI x4), (5, vI x5), (6, vI (x6 + 1))]) dX12_goings_286 6 rfl rfl (Nat.le_of_ble_eq_true rfl) [1, 2, 3, 4, 5, 6, 0] rfl ?_
    refine ea_goto (pc := 289) (tgt := 60) dX12_goings_289 rfl ?_
    exact H
  · have H := H.2 c24
    refine ea_iload (pc := 232) dX12_goings_232 7 rfl ?_
    refine ea_aload_n (pc := 234) dX12_goings_234 rfl 0 rfl ?_
    obtain ⟨f10, g11, H⟩ := H
    refine ea_deref0 e4 ?_
    refine ea_getR (pc := 235) dX12_goings_235 ec_12 (k := 19) (Nat.le_of_ble_eq_true rfl) rfl (Or.inl ew_1364) f10 g11 rfl ?_
    refine ea_iload (pc := 238) dX12_goings_238 5 rfl ?_
    obtain ⟨f12, g13, H⟩ := H
    refine ea_deref1 e8 ?_
    obtain ⟨z14, H⟩ := H
    refine ea_iald (pc := 240) dX12_goings_240 f12 g13 z14 ?_
    refine ea_icmp_ne (pc := 241) (tgt := 259) dX12_goings_241 rfl (fun c23 => ?_) (fun c23 => ?_)
    · have H := H.1 c23
      exact H
    · have H := H.2 c23
      refine ea_iload (pc := 244) dX12_goings_244 8 rfl ?_
      refine ea_aload_n (pc := 246) dX12_goings_246 rfl 0 rfl ?_
      obtain ⟨f15, g16, H⟩ := H
      refine ea_deref0 e4 ?_
      refine ea_getR (pc := 247) dX12_goings_247 ec_12 (k := 20) (Nat.le_of_ble_eq_true rfl) rfl (Or.inl ew_1365) f15 g16 rfl ?_
      refine ea_iload (pc := 250) dX12_goings_250 5 rfl ?_
      obtain ⟨a19, e20, f17, g18, H⟩ := H
      refine ea_deref1 e20 ?_
      obtain ⟨z21, H⟩ := H
      refine ea_iald (pc := 252) dX12_goings_252 f17 g18 z21 ?_
      refine ea_icmp_lt (pc := 253) (tgt := 259) dX12_goings_253 rfl (fun c22 => ?_) (fun c22 => ?_)
      · have H := H.1 c22
        exact H
      · have H := H.2 c22
        refine ea_goto (pc := 256) (tgt := 286) dX12_goings_256 rfl ?_
        refine ea_iinc (pc := 286) (v := 1) (lv' := [(0, vR r0), (1, vI x1), (2, vI x2), (3, vI x3), (4, vI x4), (5, vI x5), (6, vI (x6 + 1))]) dX12_goings_286 6 rfl rfl (Nat.le_of_ble_eq_true rfl) [1, 2, 3, 4, 5, 6, 0] rfl ?_
        refine ea_goto (pc := 289) (tgt := 60) dX12_goings_289 rfl ?_
        exact H
theorem bX12_goings_259 {d : Nat} {h0 hE h : ea_H} {rv : Option ea_V} {r0 : Option Nat} {x1 : Int32} {x2 : Int32} {x3 : Int32} {x4 : Int32} {x5 : Int32} {x6 : Int32} {x11 : Int32} {x12 : Int32} (H : ∃ a3, r0 = some a3 ∧ a3 < ea_n h ∧ ea_c h a3 = 12 ∧ ∃ a7, (ea_r h a3 19) = some a7 ∧ a7 < ea_n h ∧ ea_c h a7 = 20 ∧ vp_in x5 (ea_l h a7) ∧ ∀ h10, h10 = ea_wi h a7 (Int32.toNatClampNeg x5) x11 → a3 < ea_n h10 ∧ ea_c h10 a3 = 12 ∧ ∃ a16, (ea_r h10 a3 20) = some a16 ∧ a16 < ea_n h10 ∧ ea_c h10 a16 = 20 ∧ vp_in x5 (ea_l h10 a16) ∧ ∀ h19, h19 = ea_wi h10 a16 (Int32.toNatClampNeg x5) x12 → a3 < ea_n h19 ∧ ea_c h19 a3 = 12 ∧ ∃ a25, (ea_r h19 a3 21) = some a25 ∧ a25 < ea_n h19 ∧ ea_c h19 a25 = 20 ∧ vp_in x5 (ea_l h19 a25) ∧ ∀ h28, h28 = ea_wi h19 a25 (Int32.toNatClampNeg x5) x6 → ea_W mX12_goings d h0 rv hE 60 [(0, vR r0), (1, vI x1), (2, vI x2), (3, vI x3), (4, vI x4), (5, vI x5), (6, vI (x6 + 1))] [] h28) : ea_W mX12_goings d h0 rv hE 259 [(0, vR r0), (1, vI x1), (2, vI x2), (3, vI x3), (4, vI x4), (5, vI x5), (6, vI x6), (11, vI x11), (12, vI x12)] [] h := by
  refine ea_aload_n (pc := 259) dX12_goings_259 rfl 0 rfl ?_
  obtain ⟨a3, e4, f1, g2, H⟩ := H
  refine ea_deref0 e4 ?_
  refine ea_getR (pc := 260) dX12_goings_260 ec_12 (k := 19) (Nat.le_of_ble_eq_true rfl) rfl (Or.inl ew_1364) f1 g2 rfl ?_
  refine ea_iload (pc := 263) dX12_goings_263 5 rfl ?_
  refine ea_iload (pc := 265) dX12_goings_265 7 rfl ?_
  obtain ⟨a7, e8, f5, g6, H⟩ := H
  refine ea_deref2 e8 ?_
  obtain ⟨z9, H⟩ := H
  refine ea_iast (pc := 267) dX12_goings_267 f5 g6 z9 ?_
  obtain ⟨h10, E11⟩ : ∃ z, z = ea_wi h a7 (Int32.toNatClampNeg x5) x11 := ⟨_, rfl⟩
  have H := H h10 E11
  refine ea_nm E11 ?_
  refine ea_aload_n (pc := 268) dX12_goings_268 rfl 0 rfl ?_
  obtain ⟨f12, g13, H⟩ := H
  refine ea_deref0 e4 ?_
  refine ea_getR (pc := 269) dX12_goings_269 ec_12 (k := 20) (Nat.le_of_ble_eq_true rfl) rfl (Or.inl ew_1365) f12 g13 rfl ?_
  refine ea_iload (pc := 272) dX12_goings_272 5 rfl ?_
  refine ea_iload (pc := 274) dX12_goings_274 8 rfl ?_
  obtain ⟨a16, e17, f14, g15, H⟩ := H
  refine ea_deref2 e17 ?_
  obtain ⟨z18, H⟩ := H
  refine ea_iast (pc := 276) dX12_goings_276 f14 g15 z18 ?_
  obtain ⟨h19, E20⟩ : ∃ z, z = ea_wi h10 a16 (Int32.toNatClampNeg x5) x12 := ⟨_, rfl⟩
  have H := H h19 E20
  refine ea_nm E20 ?_
  refine ea_aload_n (pc := 277) dX12_goings_277 rfl 0 rfl ?_
  obtain ⟨f21, g22, H⟩ := H
  refine ea_deref0 e4 ?_
  refine ea_getR (pc := 278) dX12_goings_278 ec_12 (k := 21) (Nat.le_of_ble_eq_true rfl) rfl (Or.inl ew_1366) f21 g22 rfl ?_
  refine ea_iload (pc := 281) dX12_goings_281 5 rfl ?_
  refine ea_iload (pc := 283) dX12_goings_283 6 rfl ?_
  obtain ⟨a25, e26, f23, g24, H⟩ := H
  refine ea_deref2 e26 ?_
  obtain ⟨z27, H⟩ := H
  refine ea_iast (pc := 285) dX12_goings_285 f23 g24 z27 ?_
  obtain ⟨h28, E29⟩ : ∃ z, z = ea_wi h19 a25 (Int32.toNatClampNeg x5) x6 := ⟨_, rfl⟩
  have H := H h28 E29
  refine ea_nm E29 ?_
  refine ea_iinc (pc := 286) (v := 1) (lv' := [(0, vR r0), (1, vI x1), (2, vI x2), (3, vI x3), (4, vI x4), (5, vI x5), (6, vI (x6 + 1))]) dX12_goings_286 6 rfl rfl (Nat.le_of_ble_eq_true rfl) [1, 2, 3, 4, 5, 6, 0] rfl ?_
  refine ea_goto (pc := 289) (tgt := 60) dX12_goings_289 rfl ?_
  exact H
theorem bX12_goings_320 {d : Nat} {h0 hE h : ea_H} {rv : Option ea_V} {r0 : Option Nat} {x1 : Int32} {x4 : Int32} (H : ∃ a3, r0 = some a3 ∧ a3 < ea_n h ∧ ea_c h a3 = 12 ∧ ((ea_i h a3 1) ≤ x4 → rv = none ∧ hE = h) ∧ (¬ (ea_i h a3 1) ≤ x4 → a3 < ea_n h ∧ ea_c h a3 = 12 ∧ ∃ a9, (ea_r h a3 23) = some a9 ∧ a9 < ea_n h ∧ ea_c h a9 = 20 ∧ vp_in x1 (ea_l h a9) ∧ (¬ (ea_i h a9 (Int32.toNatClampNeg x1)) = ((-1) : Int32) → a3 < ea_n h ∧ ea_c h a3 = 12 ∧ a3 < ea_n h ∧ ea_c h a3 = 12 ∧ a9 < ea_n h ∧ ea_c h a9 = 20 ∧ vp_in x1 (ea_l h a9) ∧ ∃ a21, (ea_r h a3 22) = some a21 ∧ a21 < ea_n h ∧ ea_c h a21 = 20 ∧ vp_in (((12 : Int32) * (ea_i h a9 (Int32.toNatClampNeg x1))) + x4) (ea_l h a21) ∧ ea_W mX12_goings d h0 rv hE 360 [(0, vR r0), (1, vI x1), (4, vI x4)] [vI (ea_i h a21 (Int32.toNatClampNeg (((12 : Int32) * (ea_i h a9 (Int32.toNatClampNeg x1))) + x4)))] h) ∧ ((ea_i h a9 (Int32.toNatClampNeg x1)) = ((-1) : Int32) → ea_W mX12_goings d h0 rv hE 360 [(0, vR r0), (1, vI x1), (4, vI x4)] [vI (-1)] h))) : ea_W mX12_goings d h0 rv hE 320 [(0, vR r0), (1, vI x1), (4, vI x4)] [] h := by
  refine ea_iload (pc := 320) dX12_goings_320 2 rfl ?_
  refine ea_aload_n (pc := 322) dX12_goings_322 rfl 0 rfl ?_
  obtain ⟨a3, e4, f1, g2, H⟩ := H
  refine ea_deref0 e4 ?_
  refine ea_getI (pc := 323) dX12_goings_323 ec_12 (k := 1) (Nat.le_of_ble_eq_true rfl) rfl (Or.inl ew_1346) f1 g2 ?_
  refine ea_icmp_ge (pc := 326) (tgt := 427) dX12_goings_326 rfl (fun c25 => ?_) (fun c25 => ?_)
  · have H := H.1 c25
    obtain ⟨rfl, rfl⟩ := H
    exact ea_return (pc := 427) dX12_goings_427 rfl
  · have H := H.2 c25
    refine ea_aload_n (pc := 329) dX12_goings_329 rfl 0 rfl ?_
    obtain ⟨f5, g6, H⟩ := H
    refine ea_deref0 e4 ?_
    refine ea_getR (pc := 330) dX12_goings_330 ec_12 (k := 23) (Nat.le_of_ble_eq_true rfl) rfl (Or.inl ew_1368) f5 g6 rfl ?_
    refine ea_iload_n (pc := 333) dX12_goings_333 rfl 1 rfl ?_
    obtain ⟨a9, e10, f7, g8, H⟩ := H
    refine ea_deref1 e10 ?_
    obtain ⟨z11, H⟩ := H
    refine ea_iald (pc := 334) dX12_goings_334 f7 g8 z11 ?_
    refine ea_iconst (pc := 335) dX12_goings_335 (v := (-1)) rfl ?_
    refine ea_icmp_ne (pc := 336) (tgt := 343) dX12_goings_336 rfl (fun c24 => ?_) (fun c24 => ?_)
    · have H := H.1 c24
      refine ea_aload_n (pc := 343) dX12_goings_343 rfl 0 rfl ?_
      obtain ⟨f12, g13, H⟩ := H
      refine ea_deref0 e4 ?_
      refine ea_getR (pc := 344) dX12_goings_344 ec_12 (k := 22) (Nat.le_of_ble_eq_true rfl) rfl (Or.inl ew_1367) f12 g13 rfl ?_
      refine ea_bipush (pc := 347) dX12_goings_347 (v := 12) rfl ?_
      refine ea_aload_n (pc := 349) dX12_goings_349 rfl 0 rfl ?_
      obtain ⟨f14, g15, H⟩ := H
      refine ea_deref0 e4 ?_
      refine ea_getR (pc := 350) dX12_goings_350 ec_12 (k := 23) (Nat.le_of_ble_eq_true rfl) rfl (Or.inl ew_1368) f14 g15 rfl ?_
      refine ea_iload_n (pc := 353) dX12_goings_353 rfl 1 rfl ?_
      obtain ⟨f16, g17, H⟩ := H
      refine ea_deref1 e10 ?_
      obtain ⟨z18, H⟩ := H
      refine ea_iald (pc := 354) dX12_goings_354 f16 g17 z18 ?_
      refine ea_imul (pc := 355) dX12_goings_355 ?_
      refine ea_iload (pc := 356) dX12_goings_356 2 rfl ?_
      refine ea_iadd (pc := 358) dX12_goings_358 ?_
      obtain ⟨a21, e22, f19, g20, H⟩ := H
      refine ea_deref1 e22 ?_
      obtain ⟨z23, H⟩ := H
      refine ea_iald (pc := 359) dX12_goings_359 f19 g20 z23 ?_
      exact H
    · have H := H.2 c24
      refine ea_iconst (pc := 339) dX12_goings_339 (v := (-1)) rfl ?_
      refine ea_goto (pc := 340) (tgt := 360) dX12_goings_340 rfl ?_
      exact H
theorem bX12_goings_360 {d : Nat} {h0 hE h : ea_H} {rv : Option ea_V} {r0 : Option Nat} {x1 : Int32} {x4 : Int32} {sx0 : Int32} (H : ∃ a3, r0 = some a3 ∧ a3 < ea_n h ∧ ea_c h a3 = 12 ∧ a3 < ea_n h ∧ ea_c h a3 = 12 ∧ ∃ a9, (ea_r h a3 19) = some a9 ∧ a9 < ea_n h ∧ ea_c h a9 = 20 ∧ vp_in (((12 : Int32) * x1) + x4) (ea_l h a9) ∧ (¬ (ea_i h a9 (Int32.toNatClampNeg (((12 : Int32) * x1) + x4))) = (1000000 : Int32) → (sx0 = ((-1) : Int32) → ∃ a14, (ea_r h a3 22) = some a14 ∧ a14 < ea_n h ∧ ea_c h a14 = 20 ∧ vp_in (((12 : Int32) * x1) + x4) (ea_l h a14) ∧ ∀ h17, h17 = ea_wi h a14 (Int32.toNatClampNeg (((12 : Int32) * x1) + x4)) x1 → ea_W mX12_goings d h0 rv hE 320 [(0, vR r0), (1, vI x1), (4, vI (x4 + 1))] [] h17) ∧ (¬ sx0 = ((-1) : Int32) → a3 < ea_n h ∧ ea_c h a3 = 12 ∧ ∃ (d19 : Nat) (xc25 : Int32) (h20 : ea_H), ea_Met mX12_isBetter d19 [vR (some a3), vI x1, vI sx0, vI x4] h (some (vI xc25)) h20 ∧ d19 + 1 ≤ d ∧ (xc25 = (0 : Int32) → ∃ a28, (ea_r h a3 22) = some a28 ∧ a28 < ea_n h20 ∧ ea_c h20 a28 = 20 ∧ vp_in (((12 : Int32) * x1) + x4) (ea_l h20 a28) ∧ ∀ h31, h31 = ea_wi h20 a28 (Int32.toNatClampNeg (((12 : Int32) * x1) + x4)) sx0 → ea_W mX12_goings d h0 rv hE 320 [(0, vR r0), (1, vI x1), (4, vI (x4 + 1))] [] h31) ∧ (¬ xc25 = (0 : Int32) → ∃ a35, (ea_r h a3 22) = some a35 ∧ a35 < ea_n h20 ∧ ea_c h20 a35 = 20 ∧ vp_in (((12 : Int32) * x1) + x4) (ea_l h20 a35) ∧ ∀ h38, h38 = ea_wi h20 a35 (Int32.toNatClampNeg (((12 : Int32) * x1) + x4)) x1 → ea_W mX12_goings d h0 rv hE 320 [(0, vR r0), (1, vI x1), (4, vI (x4 + 1))] [] h38))) ∧ ((ea_i h a9 (Int32.toNatClampNeg (((12 : Int32) * x1) + x4))) = (1000000 : Int32) → ∃ a44, (ea_r h a3 22) = some a44 ∧ a44 < ea_n h ∧ ea_c h a44 = 20 ∧ vp_in (((12 : Int32) * x1) + x4) (ea_l h a44) ∧ ∀ h47, h47 = ea_wi h a44 (Int32.toNatClampNeg (((12 : Int32) * x1) + x4)) sx0 → ea_W mX12_goings d h0 rv hE 320 [(0, vR r0), (1, vI x1), (4, vI (x4 + 1))] [] h47)) : ea_W mX12_goings d h0 rv hE 360 [(0, vR r0), (1, vI x1), (4, vI x4)] [vI sx0] h := by
  refine ea_istore (pc := 360) (lv' := [(0, vR r0), (1, vI x1), (4, vI x4), (5, vI sx0)]) dX12_goings_360 (Nat.le_of_ble_eq_true rfl) [1, 2, 3, 0] rfl ?_
  refine ea_aload_n (pc := 362) dX12_goings_362 rfl 0 rfl ?_
  obtain ⟨a3, e4, f1, g2, H⟩ := H
  refine ea_deref0 e4 ?_
  refine ea_getR (pc := 363) dX12_goings_363 ec_12 (k := 22) (Nat.le_of_ble_eq_true rfl) rfl (Or.inl ew_1367) f1 g2 rfl ?_
  refine ea_bipush (pc := 366) dX12_goings_366 (v := 12) rfl ?_
  refine ea_iload_n (pc := 368) dX12_goings_368 rfl 1 rfl ?_
  refine ea_imul (pc := 369) dX12_goings_369 ?_
  refine ea_iload (pc := 370) dX12_goings_370 2 rfl ?_
  refine ea_iadd (pc := 372) dX12_goings_372 ?_
  refine ea_aload_n (pc := 373) dX12_goings_373 rfl 0 rfl ?_
  obtain ⟨f5, g6, H⟩ := H
  refine ea_deref0 e4 ?_
  refine ea_getR (pc := 374) dX12_goings_374 ec_12 (k := 19) (Nat.le_of_ble_eq_true rfl) rfl (Or.inl ew_1364) f5 g6 rfl ?_
  refine ea_bipush (pc := 377) dX12_goings_377 (v := 12) rfl ?_
  refine ea_iload_n (pc := 379) dX12_goings_379 rfl 1 rfl ?_
  refine ea_imul (pc := 380) dX12_goings_380 ?_
  refine ea_iload (pc := 381) dX12_goings_381 2 rfl ?_
  refine ea_iadd (pc := 383) dX12_goings_383 ?_
  obtain ⟨a9, e10, f7, g8, H⟩ := H
  refine ea_deref1 e10 ?_
  obtain ⟨z11, H⟩ := H
  refine ea_iald (pc := 384) dX12_goings_384 f7 g8 z11 ?_
  refine ea_ldcw (pc := 385) dX12_goings_385 ew_1727 ?_
  refine ea_icmp_ne (pc := 388) (tgt := 396) dX12_goings_388 rfl (fun c49 => ?_) (fun c49 => ?_)
  · have H := H.1 c49
    refine ea_iload (pc := 396) dX12_goings_396 3 rfl ?_
    refine ea_iconst (pc := 398) dX12_goings_398 (v := (-1)) rfl ?_
    refine ea_icmp_eq (pc := 399) (tgt := 414) dX12_goings_399 rfl (fun c41 => ?_) (fun c41 => ?_)
    · have H := H.1 c41
      refine ea_iload_n (pc := 414) dX12_goings_414 rfl 1 rfl ?_
      refine ea_goto (pc := 415) (tgt := 420) dX12_goings_415 rfl ?_
      obtain ⟨a14, e15, f12, g13, H⟩ := H
      refine ea_deref2 e15 ?_
      obtain ⟨z16, H⟩ := H
      refine ea_iast (pc := 420) dX12_goings_420 f12 g13 z16 ?_
      obtain ⟨h17, E18⟩ : ∃ z, z = ea_wi h a14 (Int32.toNatClampNeg (((12 : Int32) * x1) + x4)) x1 := ⟨_, rfl⟩
      have H := H h17 E18
      refine ea_nm E18 ?_
      refine ea_iinc (pc := 421) (v := 1) (lv' := [(0, vR r0), (1, vI x1), (4, vI (x4 + 1))]) dX12_goings_421 2 rfl rfl (Nat.le_of_ble_eq_true rfl) [1, 2, 0] rfl ?_
      refine ea_goto (pc := 424) (tgt := 320) dX12_goings_424 rfl ?_
      exact H
    · have H := H.2 c41
      refine ea_aload_n (pc := 402) dX12_goings_402 rfl 0 rfl ?_
      refine ea_iload_n (pc := 403) dX12_goings_403 rfl 1 rfl ?_
      refine ea_iload (pc := 404) dX12_goings_404 3 rfl ?_
      refine ea_iload (pc := 406) dX12_goings_406 2 rfl ?_
      obtain ⟨f23, g24, H⟩ := H
      refine ea_deref3 e4 ?_
      obtain ⟨d19, xc25, h20, m21, q22, H⟩ := H
      refine ea_callV (pc := 408) (As := [vI x1, vI sx0, vI x4]) (st := [vI (((12 : Int32) * x1) + x4), vR (ea_r h a3 22)]) dX12_goings_408 kX12_isBetter m21 q22 rfl (Nat.le_of_ble_eq_true rfl) ew_1806 ew_1808 ew_62 (ci := 12) rfl (by decide) f23 g24 ?_
      refine ea_if_eq (pc := 411) (tgt := 418) dX12_goings_411 rfl (fun c40 => ?_) (fun c40 => ?_)
      · have H := H.1 c40
        refine ea_iload (pc := 418) dX12_goings_418 3 rfl ?_
        obtain ⟨a28, e29, f26, g27, H⟩ := H
        refine ea_deref2 e29 ?_
        obtain ⟨z30, H⟩ := H
        refine ea_iast (pc := 420) dX12_goings_420 f26 g27 z30 ?_
        obtain ⟨h31, E32⟩ : ∃ z, z = ea_wi h20 a28 (Int32.toNatClampNeg (((12 : Int32) * x1) + x4)) sx0 := ⟨_, rfl⟩
        have H := H h31 E32
        refine ea_nm E32 ?_
        refine ea_iinc (pc := 421) (v := 1) (lv' := [(0, vR r0), (1, vI x1), (4, vI (x4 + 1))]) dX12_goings_421 2 rfl rfl (Nat.le_of_ble_eq_true rfl) [1, 2, 0] rfl ?_
        refine ea_goto (pc := 424) (tgt := 320) dX12_goings_424 rfl ?_
        exact H
      · have H := H.2 c40
        refine ea_iload_n (pc := 414) dX12_goings_414 rfl 1 rfl ?_
        refine ea_goto (pc := 415) (tgt := 420) dX12_goings_415 rfl ?_
        obtain ⟨a35, e36, f33, g34, H⟩ := H
        refine ea_deref2 e36 ?_
        obtain ⟨z37, H⟩ := H
        refine ea_iast (pc := 420) dX12_goings_420 f33 g34 z37 ?_
        obtain ⟨h38, E39⟩ : ∃ z, z = ea_wi h20 a35 (Int32.toNatClampNeg (((12 : Int32) * x1) + x4)) x1 := ⟨_, rfl⟩
        have H := H h38 E39
        refine ea_nm E39 ?_
        refine ea_iinc (pc := 421) (v := 1) (lv' := [(0, vR r0), (1, vI x1), (4, vI (x4 + 1))]) dX12_goings_421 2 rfl rfl (Nat.le_of_ble_eq_true rfl) [1, 2, 0] rfl ?_
        refine ea_goto (pc := 424) (tgt := 320) dX12_goings_424 rfl ?_
        exact H
  · have H := H.2 c49
    refine ea_iload (pc := 391) dX12_goings_391 3 rfl ?_
    refine ea_goto (pc := 393) (tgt := 420) dX12_goings_393 rfl ?_
    obtain ⟨a44, e45, f42, g43, H⟩ := H
    refine ea_deref2 e45 ?_
    obtain ⟨z46, H⟩ := H
    refine ea_iast (pc := 420) dX12_goings_420 f42 g43 z46 ?_
    obtain ⟨h47, E48⟩ : ∃ z, z = ea_wi h a44 (Int32.toNatClampNeg (((12 : Int32) * x1) + x4)) sx0 := ⟨_, rfl⟩
    have H := H h47 E48
    refine ea_nm E48 ?_
    refine ea_iinc (pc := 421) (v := 1) (lv' := [(0, vR r0), (1, vI x1), (4, vI (x4 + 1))]) dX12_goings_421 2 rfl rfl (Nat.le_of_ble_eq_true rfl) [1, 2, 0] rfl ?_
    refine ea_goto (pc := 424) (tgt := 320) dX12_goings_424 rfl ?_
    exact H
theorem dX12_isBetter_0 : decode cX12_isBetter 0 = .ok (.bipush 12, 2) := by decide +kernel
theorem dX12_isBetter_2 : decode cX12_isBetter 2 = .ok (.iload_n 1, 1) := by decide +kernel
theorem dX12_isBetter_3 : decode cX12_isBetter 3 = .ok (.imul, 1) := by decide +kernel
theorem dX12_isBetter_4 : decode cX12_isBetter 4 = .ok (.iload_n 3, 1) := by decide +kernel
theorem dX12_isBetter_5 : decode cX12_isBetter 5 = .ok (.iadd, 1) := by decide +kernel
theorem dX12_isBetter_6 : decode cX12_isBetter 6 = .ok (.istore 4, 2) := by decide +kernel
theorem dX12_isBetter_8 : decode cX12_isBetter 8 = .ok (.bipush 12, 2) := by decide +kernel
theorem dX12_isBetter_10 : decode cX12_isBetter 10 = .ok (.iload_n 2, 1) := by decide +kernel
theorem dX12_isBetter_11 : decode cX12_isBetter 11 = .ok (.imul, 1) := by decide +kernel
theorem dX12_isBetter_12 : decode cX12_isBetter 12 = .ok (.iload_n 3, 1) := by decide +kernel
theorem dX12_isBetter_13 : decode cX12_isBetter 13 = .ok (.iadd, 1) := by decide +kernel
theorem dX12_isBetter_14 : decode cX12_isBetter 14 = .ok (.istore 5, 2) := by decide +kernel
theorem dX12_isBetter_16 : decode cX12_isBetter 16 = .ok (.aload_n 0, 1) := by decide +kernel
theorem dX12_isBetter_17 : decode cX12_isBetter 17 = .ok (.getfield 53, 3) := by decide +kernel
theorem dX12_isBetter_20 : decode cX12_isBetter 20 = .ok (.iload 4, 2) := by decide +kernel
theorem dX12_isBetter_22 : decode cX12_isBetter 22 = .ok (.iaload, 1) := by decide +kernel
theorem dX12_isBetter_23 : decode cX12_isBetter 23 = .ok (.aload_n 0, 1) := by decide +kernel
theorem dX12_isBetter_24 : decode cX12_isBetter 24 = .ok (.getfield 53, 3) := by decide +kernel
theorem dX12_isBetter_27 : decode cX12_isBetter 27 = .ok (.iload 5, 2) := by decide +kernel
theorem dX12_isBetter_29 : decode cX12_isBetter 29 = .ok (.iaload, 1) := by decide +kernel
theorem dX12_isBetter_30 : decode cX12_isBetter 30 = .ok (.if_icmp .eq 26, 3) := by decide +kernel
theorem dX12_isBetter_33 : decode cX12_isBetter 33 = .ok (.aload_n 0, 1) := by decide +kernel
theorem dX12_isBetter_34 : decode cX12_isBetter 34 = .ok (.getfield 53, 3) := by decide +kernel
theorem dX12_isBetter_37 : decode cX12_isBetter 37 = .ok (.iload 4, 2) := by decide +kernel
theorem dX12_isBetter_39 : decode cX12_isBetter 39 = .ok (.iaload, 1) := by decide +kernel
theorem dX12_isBetter_40 : decode cX12_isBetter 40 = .ok (.aload_n 0, 1) := by decide +kernel
theorem dX12_isBetter_41 : decode cX12_isBetter 41 = .ok (.getfield 53, 3) := by decide +kernel
theorem dX12_isBetter_44 : decode cX12_isBetter 44 = .ok (.iload 5, 2) := by decide +kernel
theorem dX12_isBetter_46 : decode cX12_isBetter 46 = .ok (.iaload, 1) := by decide +kernel
theorem dX12_isBetter_47 : decode cX12_isBetter 47 = .ok (.if_icmp .ge 7, 3) := by decide +kernel
theorem dX12_isBetter_50 : decode cX12_isBetter 50 = .ok (.iconst 1, 1) := by decide +kernel
theorem dX12_isBetter_51 : decode cX12_isBetter 51 = .ok (.goto 4, 3) := by decide +kernel
theorem dX12_isBetter_54 : decode cX12_isBetter 54 = .ok (.iconst 0, 1) := by decide +kernel
theorem dX12_isBetter_55 : decode cX12_isBetter 55 = .ok (.ireturn, 1) := by decide +kernel
theorem dX12_isBetter_56 : decode cX12_isBetter 56 = .ok (.aload_n 0, 1) := by decide +kernel
theorem dX12_isBetter_57 : decode cX12_isBetter 57 = .ok (.getfield 56, 3) := by decide +kernel
theorem dX12_isBetter_60 : decode cX12_isBetter 60 = .ok (.iload 4, 2) := by decide +kernel
theorem dX12_isBetter_62 : decode cX12_isBetter 62 = .ok (.iaload, 1) := by decide +kernel
theorem dX12_isBetter_63 : decode cX12_isBetter 63 = .ok (.aload_n 0, 1) := by decide +kernel
theorem dX12_isBetter_64 : decode cX12_isBetter 64 = .ok (.getfield 56, 3) := by decide +kernel
theorem dX12_isBetter_67 : decode cX12_isBetter 67 = .ok (.iload 5, 2) := by decide +kernel
theorem dX12_isBetter_69 : decode cX12_isBetter 69 = .ok (.iaload, 1) := by decide +kernel
theorem dX12_isBetter_70 : decode cX12_isBetter 70 = .ok (.if_icmp .eq 26, 3) := by decide +kernel
theorem dX12_isBetter_73 : decode cX12_isBetter 73 = .ok (.aload_n 0, 1) := by decide +kernel
theorem dX12_isBetter_74 : decode cX12_isBetter 74 = .ok (.getfield 56, 3) := by decide +kernel
theorem dX12_isBetter_77 : decode cX12_isBetter 77 = .ok (.iload 4, 2) := by decide +kernel
theorem dX12_isBetter_79 : decode cX12_isBetter 79 = .ok (.iaload, 1) := by decide +kernel
theorem dX12_isBetter_80 : decode cX12_isBetter 80 = .ok (.aload_n 0, 1) := by decide +kernel
theorem dX12_isBetter_81 : decode cX12_isBetter 81 = .ok (.getfield 56, 3) := by decide +kernel
theorem dX12_isBetter_84 : decode cX12_isBetter 84 = .ok (.iload 5, 2) := by decide +kernel
theorem dX12_isBetter_86 : decode cX12_isBetter 86 = .ok (.iaload, 1) := by decide +kernel
theorem dX12_isBetter_87 : decode cX12_isBetter 87 = .ok (.if_icmp .ge 7, 3) := by decide +kernel
theorem dX12_isBetter_90 : decode cX12_isBetter 90 = .ok (.iconst 1, 1) := by decide +kernel
theorem dX12_isBetter_91 : decode cX12_isBetter 91 = .ok (.goto 4, 3) := by decide +kernel
theorem dX12_isBetter_94 : decode cX12_isBetter 94 = .ok (.iconst 0, 1) := by decide +kernel
theorem dX12_isBetter_95 : decode cX12_isBetter 95 = .ok (.ireturn, 1) := by decide +kernel
theorem dX12_isBetter_96 : decode cX12_isBetter 96 = .ok (.aload_n 0, 1) := by decide +kernel
theorem dX12_isBetter_97 : decode cX12_isBetter 97 = .ok (.getfield 44, 3) := by decide +kernel
theorem dX12_isBetter_100 : decode cX12_isBetter 100 = .ok (.iload_n 1, 1) := by decide +kernel
theorem dX12_isBetter_101 : decode cX12_isBetter 101 = .ok (.iaload, 1) := by decide +kernel
theorem dX12_isBetter_102 : decode cX12_isBetter 102 = .ok (.aload_n 0, 1) := by decide +kernel
theorem dX12_isBetter_103 : decode cX12_isBetter 103 = .ok (.getfield 44, 3) := by decide +kernel
theorem dX12_isBetter_106 : decode cX12_isBetter 106 = .ok (.iload_n 2, 1) := by decide +kernel
theorem dX12_isBetter_107 : decode cX12_isBetter 107 = .ok (.iaload, 1) := by decide +kernel
theorem dX12_isBetter_108 : decode cX12_isBetter 108 = .ok (.if_icmp .eq 24, 3) := by decide +kernel
theorem dX12_isBetter_111 : decode cX12_isBetter 111 = .ok (.aload_n 0, 1) := by decide +kernel
theorem dX12_isBetter_112 : decode cX12_isBetter 112 = .ok (.getfield 44, 3) := by decide +kernel
theorem dX12_isBetter_115 : decode cX12_isBetter 115 = .ok (.iload_n 1, 1) := by decide +kernel
theorem dX12_isBetter_116 : decode cX12_isBetter 116 = .ok (.iaload, 1) := by decide +kernel
theorem dX12_isBetter_117 : decode cX12_isBetter 117 = .ok (.aload_n 0, 1) := by decide +kernel
theorem dX12_isBetter_118 : decode cX12_isBetter 118 = .ok (.getfield 44, 3) := by decide +kernel
theorem dX12_isBetter_121 : decode cX12_isBetter 121 = .ok (.iload_n 2, 1) := by decide +kernel
theorem dX12_isBetter_122 : decode cX12_isBetter 122 = .ok (.iaload, 1) := by decide +kernel
theorem dX12_isBetter_123 : decode cX12_isBetter 123 = .ok (.if_icmp .ge 7, 3) := by decide +kernel
theorem dX12_isBetter_126 : decode cX12_isBetter 126 = .ok (.iconst 1, 1) := by decide +kernel
theorem dX12_isBetter_127 : decode cX12_isBetter 127 = .ok (.goto 4, 3) := by decide +kernel
theorem dX12_isBetter_130 : decode cX12_isBetter 130 = .ok (.iconst 0, 1) := by decide +kernel
theorem dX12_isBetter_131 : decode cX12_isBetter 131 = .ok (.ireturn, 1) := by decide +kernel
theorem dX12_isBetter_132 : decode cX12_isBetter 132 = .ok (.aload_n 0, 1) := by decide +kernel
theorem dX12_isBetter_133 : decode cX12_isBetter 133 = .ok (.getfield 47, 3) := by decide +kernel
theorem dX12_isBetter_136 : decode cX12_isBetter 136 = .ok (.iload_n 1, 1) := by decide +kernel
theorem dX12_isBetter_137 : decode cX12_isBetter 137 = .ok (.iaload, 1) := by decide +kernel
theorem dX12_isBetter_138 : decode cX12_isBetter 138 = .ok (.aload_n 0, 1) := by decide +kernel
theorem dX12_isBetter_139 : decode cX12_isBetter 139 = .ok (.getfield 47, 3) := by decide +kernel
theorem dX12_isBetter_142 : decode cX12_isBetter 142 = .ok (.iload_n 2, 1) := by decide +kernel
theorem dX12_isBetter_143 : decode cX12_isBetter 143 = .ok (.iaload, 1) := by decide +kernel
theorem dX12_isBetter_144 : decode cX12_isBetter 144 = .ok (.if_icmp .ge 7, 3) := by decide +kernel
theorem dX12_isBetter_147 : decode cX12_isBetter 147 = .ok (.iconst 1, 1) := by decide +kernel
theorem dX12_isBetter_148 : decode cX12_isBetter 148 = .ok (.goto 4, 3) := by decide +kernel
theorem dX12_isBetter_151 : decode cX12_isBetter 151 = .ok (.iconst 0, 1) := by decide +kernel
theorem dX12_isBetter_152 : decode cX12_isBetter 152 = .ok (.ireturn, 1) := by decide +kernel
theorem bX12_isBetter_0 {d : Nat} {h0 hE h : ea_H} {rv : Option ea_V} {r0 : Option Nat} {x1 : Int32} {x2 : Int32} {x3 : Int32} (H : ∃ a3, r0 = some a3 ∧ a3 < ea_n h ∧ ea_c h a3 = 12 ∧ ∃ a7, (ea_r h a3 19) = some a7 ∧ a7 < ea_n h ∧ ea_c h a7 = 20 ∧ vp_in (((12 : Int32) * x1) + x3) (ea_l h a7) ∧ a3 < ea_n h ∧ ea_c h a3 = 12 ∧ a7 < ea_n h ∧ ea_c h a7 = 20 ∧ vp_in (((12 : Int32) * x2) + x3) (ea_l h a7) ∧ ((ea_i h a7 (Int32.toNatClampNeg (((12 : Int32) * x1) + x3))) = (ea_i h a7 (Int32.toNatClampNeg (((12 : Int32) * x2) + x3))) → a3 < ea_n h ∧ ea_c h a3 = 12 ∧ ∃ a19, (ea_r h a3 20) = some a19 ∧ a19 < ea_n h ∧ ea_c h a19 = 20 ∧ vp_in (((12 : Int32) * x1) + x3) (ea_l h a19) ∧ a3 < ea_n h ∧ ea_c h a3 = 12 ∧ a19 < ea_n h ∧ ea_c h a19 = 20 ∧ vp_in (((12 : Int32) * x2) + x3) (ea_l h a19) ∧ ((ea_i h a19 (Int32.toNatClampNeg (((12 : Int32) * x1) + x3))) = (ea_i h a19 (Int32.toNatClampNeg (((12 : Int32) * x2) + x3))) → a3 < ea_n h ∧ ea_c h a3 = 12 ∧ ∃ a31, (ea_r h a3 16) = some a31 ∧ a31 < ea_n h ∧ ea_c h a31 = 20 ∧ vp_in x1 (ea_l h a31) ∧ a3 < ea_n h ∧ ea_c h a3 = 12 ∧ a31 < ea_n h ∧ ea_c h a31 = 20 ∧ vp_in x2 (ea_l h a31) ∧ ((ea_i h a31 (Int32.toNatClampNeg x1)) = (ea_i h a31 (Int32.toNatClampNeg x2)) → a3 < ea_n h ∧ ea_c h a3 = 12 ∧ ∃ a43, (ea_r h a3 17) = some a43 ∧ a43 < ea_n h ∧ ea_c h a43 = 20 ∧ vp_in x1 (ea_l h a43) ∧ a3 < ea_n h ∧ ea_c h a3 = 12 ∧ a43 < ea_n h ∧ ea_c h a43 = 20 ∧ vp_in x2 (ea_l h a43) ∧ ((ea_i h a43 (Int32.toNatClampNeg x2)) ≤ (ea_i h a43 (Int32.toNatClampNeg x1)) → rv = some (vI 0) ∧ hE = h) ∧ (¬ (ea_i h a43 (Int32.toNatClampNeg x2)) ≤ (ea_i h a43 (Int32.toNatClampNeg x1)) → rv = some (vI 1) ∧ hE = h)) ∧ (¬ (ea_i h a31 (Int32.toNatClampNeg x1)) = (ea_i h a31 (Int32.toNatClampNeg x2)) → a3 < ea_n h ∧ ea_c h a3 = 12 ∧ a31 < ea_n h ∧ ea_c h a31 = 20 ∧ vp_in x1 (ea_l h a31) ∧ a3 < ea_n h ∧ ea_c h a3 = 12 ∧ a31 < ea_n h ∧ ea_c h a31 = 20 ∧ vp_in x2 (ea_l h a31) ∧ ((ea_i h a31 (Int32.toNatClampNeg x2)) ≤ (ea_i h a31 (Int32.toNatClampNeg x1)) → rv = some (vI 0) ∧ hE = h) ∧ (¬ (ea_i h a31 (Int32.toNatClampNeg x2)) ≤ (ea_i h a31 (Int32.toNatClampNeg x1)) → rv = some (vI 1) ∧ hE = h))) ∧ (¬ (ea_i h a19 (Int32.toNatClampNeg (((12 : Int32) * x1) + x3))) = (ea_i h a19 (Int32.toNatClampNeg (((12 : Int32) * x2) + x3))) → a3 < ea_n h ∧ ea_c h a3 = 12 ∧ a19 < ea_n h ∧ ea_c h a19 = 20 ∧ vp_in (((12 : Int32) * x1) + x3) (ea_l h a19) ∧ a3 < ea_n h ∧ ea_c h a3 = 12 ∧ a19 < ea_n h ∧ ea_c h a19 = 20 ∧ vp_in (((12 : Int32) * x2) + x3) (ea_l h a19) ∧ ((ea_i h a19 (Int32.toNatClampNeg (((12 : Int32) * x2) + x3))) ≤ (ea_i h a19 (Int32.toNatClampNeg (((12 : Int32) * x1) + x3))) → rv = some (vI 0) ∧ hE = h) ∧ (¬ (ea_i h a19 (Int32.toNatClampNeg (((12 : Int32) * x2) + x3))) ≤ (ea_i h a19 (Int32.toNatClampNeg (((12 : Int32) * x1) + x3))) → rv = some (vI 1) ∧ hE = h))) ∧ (¬ (ea_i h a7 (Int32.toNatClampNeg (((12 : Int32) * x1) + x3))) = (ea_i h a7 (Int32.toNatClampNeg (((12 : Int32) * x2) + x3))) → a3 < ea_n h ∧ ea_c h a3 = 12 ∧ a7 < ea_n h ∧ ea_c h a7 = 20 ∧ vp_in (((12 : Int32) * x1) + x3) (ea_l h a7) ∧ a3 < ea_n h ∧ ea_c h a3 = 12 ∧ a7 < ea_n h ∧ ea_c h a7 = 20 ∧ vp_in (((12 : Int32) * x2) + x3) (ea_l h a7) ∧ ((ea_i h a7 (Int32.toNatClampNeg (((12 : Int32) * x2) + x3))) ≤ (ea_i h a7 (Int32.toNatClampNeg (((12 : Int32) * x1) + x3))) → rv = some (vI 0) ∧ hE = h) ∧ (¬ (ea_i h a7 (Int32.toNatClampNeg (((12 : Int32) * x2) + x3))) ≤ (ea_i h a7 (Int32.toNatClampNeg (((12 : Int32) * x1) + x3))) → rv = some (vI 1) ∧ hE = h))) : ea_W mX12_isBetter d h0 rv hE 0 [(0, vR r0), (1, vI x1), (2, vI x2), (3, vI x3)] [] h := by
  refine ea_bipush (pc := 0) dX12_isBetter_0 (v := 12) rfl ?_
  refine ea_iload_n (pc := 2) dX12_isBetter_2 rfl 1 rfl ?_
  refine ea_imul (pc := 3) dX12_isBetter_3 ?_
  refine ea_iload_n (pc := 4) dX12_isBetter_4 rfl 3 rfl ?_
  refine ea_iadd (pc := 5) dX12_isBetter_5 ?_
  refine ea_istore (pc := 6) (lv' := [(0, vR r0), (1, vI x1), (2, vI x2), (3, vI x3), (4, vI (((12 : Int32) * x1) + x3))]) dX12_isBetter_6 (Nat.le_of_ble_eq_true rfl) [1, 2, 3, 4, 0] rfl ?_
  refine ea_bipush (pc := 8) dX12_isBetter_8 (v := 12) rfl ?_
  refine ea_iload_n (pc := 10) dX12_isBetter_10 rfl 2 rfl ?_
  refine ea_imul (pc := 11) dX12_isBetter_11 ?_
  refine ea_iload_n (pc := 12) dX12_isBetter_12 rfl 3 rfl ?_
  refine ea_iadd (pc := 13) dX12_isBetter_13 ?_
  refine ea_istore (pc := 14) (lv' := [(0, vR r0), (1, vI x1), (2, vI x2), (4, vI (((12 : Int32) * x1) + x3)), (5, vI (((12 : Int32) * x2) + x3))]) dX12_isBetter_14 (Nat.le_of_ble_eq_true rfl) [1, 2, 3, 5, 0] rfl ?_
  refine ea_aload_n (pc := 16) dX12_isBetter_16 rfl 0 rfl ?_
  obtain ⟨a3, e4, f1, g2, H⟩ := H
  refine ea_deref0 e4 ?_
  refine ea_getR (pc := 17) dX12_isBetter_17 ec_12 (k := 19) (Nat.le_of_ble_eq_true rfl) rfl (Or.inl ew_1364) f1 g2 rfl ?_
  refine ea_iload (pc := 20) dX12_isBetter_20 3 rfl ?_
  obtain ⟨a7, e8, f5, g6, H⟩ := H
  refine ea_deref1 e8 ?_
  obtain ⟨z9, H⟩ := H
  refine ea_iald (pc := 22) dX12_isBetter_22 f5 g6 z9 ?_
  refine ea_aload_n (pc := 23) dX12_isBetter_23 rfl 0 rfl ?_
  obtain ⟨f10, g11, H⟩ := H
  refine ea_deref0 e4 ?_
  refine ea_getR (pc := 24) dX12_isBetter_24 ec_12 (k := 19) (Nat.le_of_ble_eq_true rfl) rfl (Or.inl ew_1364) f10 g11 rfl ?_
  refine ea_iload (pc := 27) dX12_isBetter_27 4 rfl ?_
  obtain ⟨f12, g13, H⟩ := H
  refine ea_deref1 e8 ?_
  obtain ⟨z14, H⟩ := H
  refine ea_iald (pc := 29) dX12_isBetter_29 f12 g13 z14 ?_
  refine ea_icmp_eq (pc := 30) (tgt := 56) dX12_isBetter_30 rfl (fun c87 => ?_) (fun c87 => ?_)
  · have H := H.1 c87
    refine ea_aload_n (pc := 56) dX12_isBetter_56 rfl 0 rfl ?_
    obtain ⟨f15, g16, H⟩ := H
    refine ea_deref0 e4 ?_
    refine ea_getR (pc := 57) dX12_isBetter_57 ec_12 (k := 20) (Nat.le_of_ble_eq_true rfl) rfl (Or.inl ew_1365) f15 g16 rfl ?_
    refine ea_iload (pc := 60) dX12_isBetter_60 3 rfl ?_
    obtain ⟨a19, e20, f17, g18, H⟩ := H
    refine ea_deref1 e20 ?_
    obtain ⟨z21, H⟩ := H
    refine ea_iald (pc := 62) dX12_isBetter_62 f17 g18 z21 ?_
    refine ea_aload_n (pc := 63) dX12_isBetter_63 rfl 0 rfl ?_
    obtain ⟨f22, g23, H⟩ := H
    refine ea_deref0 e4 ?_
    refine ea_getR (pc := 64) dX12_isBetter_64 ec_12 (k := 20) (Nat.le_of_ble_eq_true rfl) rfl (Or.inl ew_1365) f22 g23 rfl ?_
    refine ea_iload (pc := 67) dX12_isBetter_67 4 rfl ?_
    obtain ⟨f24, g25, H⟩ := H
    refine ea_deref1 e20 ?_
    obtain ⟨z26, H⟩ := H
    refine ea_iald (pc := 69) dX12_isBetter_69 f24 g25 z26 ?_
    refine ea_icmp_eq (pc := 70) (tgt := 96) dX12_isBetter_70 rfl (fun c75 => ?_) (fun c75 => ?_)
    · have H := H.1 c75
      refine ea_aload_n (pc := 96) dX12_isBetter_96 rfl 0 rfl ?_
      obtain ⟨f27, g28, H⟩ := H
      refine ea_deref0 e4 ?_
      refine ea_getR (pc := 97) dX12_isBetter_97 ec_12 (k := 16) (Nat.le_of_ble_eq_true rfl) rfl (Or.inl ew_1361) f27 g28 rfl ?_
      refine ea_iload_n (pc := 100) dX12_isBetter_100 rfl 1 rfl ?_
      obtain ⟨a31, e32, f29, g30, H⟩ := H
      refine ea_deref1 e32 ?_
      obtain ⟨z33, H⟩ := H
      refine ea_iald (pc := 101) dX12_isBetter_101 f29 g30 z33 ?_
      refine ea_aload_n (pc := 102) dX12_isBetter_102 rfl 0 rfl ?_
      obtain ⟨f34, g35, H⟩ := H
      refine ea_deref0 e4 ?_
      refine ea_getR (pc := 103) dX12_isBetter_103 ec_12 (k := 16) (Nat.le_of_ble_eq_true rfl) rfl (Or.inl ew_1361) f34 g35 rfl ?_
      refine ea_iload_n (pc := 106) dX12_isBetter_106 rfl 2 rfl ?_
      obtain ⟨f36, g37, H⟩ := H
      refine ea_deref1 e32 ?_
      obtain ⟨z38, H⟩ := H
      refine ea_iald (pc := 107) dX12_isBetter_107 f36 g37 z38 ?_
      refine ea_icmp_eq (pc := 108) (tgt := 132) dX12_isBetter_108 rfl (fun c63 => ?_) (fun c63 => ?_)
      · have H := H.1 c63
        refine ea_aload_n (pc := 132) dX12_isBetter_132 rfl 0 rfl ?_
        obtain ⟨f39, g40, H⟩ := H
        refine ea_deref0 e4 ?_
        refine ea_getR (pc := 133) dX12_isBetter_133 ec_12 (k := 17) (Nat.le_of_ble_eq_true rfl) rfl (Or.inl ew_1362) f39 g40 rfl ?_
        refine ea_iload_n (pc := 136) dX12_isBetter_136 rfl 1 rfl ?_
        obtain ⟨a43, e44, f41, g42, H⟩ := H
        refine ea_deref1 e44 ?_
        obtain ⟨z45, H⟩ := H
        refine ea_iald (pc := 137) dX12_isBetter_137 f41 g42 z45 ?_
        refine ea_aload_n (pc := 138) dX12_isBetter_138 rfl 0 rfl ?_
        obtain ⟨f46, g47, H⟩ := H
        refine ea_deref0 e4 ?_
        refine ea_getR (pc := 139) dX12_isBetter_139 ec_12 (k := 17) (Nat.le_of_ble_eq_true rfl) rfl (Or.inl ew_1362) f46 g47 rfl ?_
        refine ea_iload_n (pc := 142) dX12_isBetter_142 rfl 2 rfl ?_
        obtain ⟨f48, g49, H⟩ := H
        refine ea_deref1 e44 ?_
        obtain ⟨z50, H⟩ := H
        refine ea_iald (pc := 143) dX12_isBetter_143 f48 g49 z50 ?_
        refine ea_icmp_ge (pc := 144) (tgt := 151) dX12_isBetter_144 rfl (fun c51 => ?_) (fun c51 => ?_)
        · have H := H.1 c51
          refine ea_iconst (pc := 151) dX12_isBetter_151 (v := 0) rfl ?_
          obtain ⟨rfl, rfl⟩ := H
          exact ea_ireturn (pc := 152) dX12_isBetter_152 rfl (ea_bn (Or.inl rfl))
        · have H := H.2 c51
          refine ea_iconst (pc := 147) dX12_isBetter_147 (v := 1) rfl ?_
          refine ea_goto (pc := 148) (tgt := 152) dX12_isBetter_148 rfl ?_
          obtain ⟨rfl, rfl⟩ := H
          exact ea_ireturn (pc := 152) dX12_isBetter_152 rfl (ea_bn (Or.inr rfl))
      · have H := H.2 c63
        refine ea_aload_n (pc := 111) dX12_isBetter_111 rfl 0 rfl ?_
        obtain ⟨f52, g53, H⟩ := H
        refine ea_deref0 e4 ?_
        refine ea_getR (pc := 112) dX12_isBetter_112 ec_12 (k := 16) (Nat.le_of_ble_eq_true rfl) rfl (Or.inl ew_1361) f52 g53 rfl ?_
        refine ea_iload_n (pc := 115) dX12_isBetter_115 rfl 1 rfl ?_
        obtain ⟨f54, g55, H⟩ := H
        refine ea_deref1 e32 ?_
        obtain ⟨z56, H⟩ := H
        refine ea_iald (pc := 116) dX12_isBetter_116 f54 g55 z56 ?_
        refine ea_aload_n (pc := 117) dX12_isBetter_117 rfl 0 rfl ?_
        obtain ⟨f57, g58, H⟩ := H
        refine ea_deref0 e4 ?_
        refine ea_getR (pc := 118) dX12_isBetter_118 ec_12 (k := 16) (Nat.le_of_ble_eq_true rfl) rfl (Or.inl ew_1361) f57 g58 rfl ?_
        refine ea_iload_n (pc := 121) dX12_isBetter_121 rfl 2 rfl ?_
        obtain ⟨f59, g60, H⟩ := H
        refine ea_deref1 e32 ?_
        obtain ⟨z61, H⟩ := H
        refine ea_iald (pc := 122) dX12_isBetter_122 f59 g60 z61 ?_
        refine ea_icmp_ge (pc := 123) (tgt := 130) dX12_isBetter_123 rfl (fun c62 => ?_) (fun c62 => ?_)
        · have H := H.1 c62
          refine ea_iconst (pc := 130) dX12_isBetter_130 (v := 0) rfl ?_
          obtain ⟨rfl, rfl⟩ := H
          exact ea_ireturn (pc := 131) dX12_isBetter_131 rfl (ea_bn (Or.inl rfl))
        · have H := H.2 c62
          refine ea_iconst (pc := 126) dX12_isBetter_126 (v := 1) rfl ?_
          refine ea_goto (pc := 127) (tgt := 131) dX12_isBetter_127 rfl ?_
          obtain ⟨rfl, rfl⟩ := H
          exact ea_ireturn (pc := 131) dX12_isBetter_131 rfl (ea_bn (Or.inr rfl))
    · have H := H.2 c75
      refine ea_aload_n (pc := 73) dX12_isBetter_73 rfl 0 rfl ?_
      obtain ⟨f64, g65, H⟩ := H
      refine ea_deref0 e4 ?_
      refine ea_getR (pc := 74) dX12_isBetter_74 ec_12 (k := 20) (Nat.le_of_ble_eq_true rfl) rfl (Or.inl ew_1365) f64 g65 rfl ?_
      refine ea_iload (pc := 77) dX12_isBetter_77 3 rfl ?_
      obtain ⟨f66, g67, H⟩ := H
      refine ea_deref1 e20 ?_
      obtain ⟨z68, H⟩ := H
      refine ea_iald (pc := 79) dX12_isBetter_79 f66 g67 z68 ?_
      refine ea_aload_n (pc := 80) dX12_isBetter_80 rfl 0 rfl ?_
      obtain ⟨f69, g70, H⟩ := H
      refine ea_deref0 e4 ?_
      refine ea_getR (pc := 81) dX12_isBetter_81 ec_12 (k := 20) (Nat.le_of_ble_eq_true rfl) rfl (Or.inl ew_1365) f69 g70 rfl ?_
      refine ea_iload (pc := 84) dX12_isBetter_84 4 rfl ?_
      obtain ⟨f71, g72, H⟩ := H
      refine ea_deref1 e20 ?_
      obtain ⟨z73, H⟩ := H
      refine ea_iald (pc := 86) dX12_isBetter_86 f71 g72 z73 ?_
      refine ea_icmp_ge (pc := 87) (tgt := 94) dX12_isBetter_87 rfl (fun c74 => ?_) (fun c74 => ?_)
      · have H := H.1 c74
        refine ea_iconst (pc := 94) dX12_isBetter_94 (v := 0) rfl ?_
        obtain ⟨rfl, rfl⟩ := H
        exact ea_ireturn (pc := 95) dX12_isBetter_95 rfl (ea_bn (Or.inl rfl))
      · have H := H.2 c74
        refine ea_iconst (pc := 90) dX12_isBetter_90 (v := 1) rfl ?_
        refine ea_goto (pc := 91) (tgt := 95) dX12_isBetter_91 rfl ?_
        obtain ⟨rfl, rfl⟩ := H
        exact ea_ireturn (pc := 95) dX12_isBetter_95 rfl (ea_bn (Or.inr rfl))
  · have H := H.2 c87
    refine ea_aload_n (pc := 33) dX12_isBetter_33 rfl 0 rfl ?_
    obtain ⟨f76, g77, H⟩ := H
    refine ea_deref0 e4 ?_
    refine ea_getR (pc := 34) dX12_isBetter_34 ec_12 (k := 19) (Nat.le_of_ble_eq_true rfl) rfl (Or.inl ew_1364) f76 g77 rfl ?_
    refine ea_iload (pc := 37) dX12_isBetter_37 3 rfl ?_
    obtain ⟨f78, g79, H⟩ := H
    refine ea_deref1 e8 ?_
    obtain ⟨z80, H⟩ := H
    refine ea_iald (pc := 39) dX12_isBetter_39 f78 g79 z80 ?_
    refine ea_aload_n (pc := 40) dX12_isBetter_40 rfl 0 rfl ?_
    obtain ⟨f81, g82, H⟩ := H
    refine ea_deref0 e4 ?_
    refine ea_getR (pc := 41) dX12_isBetter_41 ec_12 (k := 19) (Nat.le_of_ble_eq_true rfl) rfl (Or.inl ew_1364) f81 g82 rfl ?_
    refine ea_iload (pc := 44) dX12_isBetter_44 4 rfl ?_
    obtain ⟨f83, g84, H⟩ := H
    refine ea_deref1 e8 ?_
    obtain ⟨z85, H⟩ := H
    refine ea_iald (pc := 46) dX12_isBetter_46 f83 g84 z85 ?_
    refine ea_icmp_ge (pc := 47) (tgt := 54) dX12_isBetter_47 rfl (fun c86 => ?_) (fun c86 => ?_)
    · have H := H.1 c86
      refine ea_iconst (pc := 54) dX12_isBetter_54 (v := 0) rfl ?_
      obtain ⟨rfl, rfl⟩ := H
      exact ea_ireturn (pc := 55) dX12_isBetter_55 rfl (ea_bn (Or.inl rfl))
    · have H := H.2 c86
      refine ea_iconst (pc := 50) dX12_isBetter_50 (v := 1) rfl ?_
      refine ea_goto (pc := 51) (tgt := 55) dX12_isBetter_51 rfl ?_
      obtain ⟨rfl, rfl⟩ := H
      exact ea_ireturn (pc := 55) dX12_isBetter_55 rfl (ea_bn (Or.inr rfl))
theorem dX12_bestFrom_0 : decode cX12_bestFrom 0 = .ok (.aload_n 0, 1) := by decide +kernel
theorem dX12_bestFrom_1 : decode cX12_bestFrom 1 = .ok (.invokevirtual 358, 3) := by decide +kernel
theorem dX12_bestFrom_4 : decode cX12_bestFrom 4 = .ok (.aload_n 0, 1) := by decide +kernel
theorem dX12_bestFrom_5 : decode cX12_bestFrom 5 = .ok (.iload_n 1, 1) := by decide +kernel
theorem dX12_bestFrom_6 : decode cX12_bestFrom 6 = .ok (.iload_n 2, 1) := by decide +kernel
theorem dX12_bestFrom_7 : decode cX12_bestFrom 7 = .ok (.invokevirtual 352, 3) := by decide +kernel
theorem dX12_bestFrom_10 : decode cX12_bestFrom 10 = .ok (.istore 4, 2) := by decide +kernel
theorem dX12_bestFrom_12 : decode cX12_bestFrom 12 = .ok (.iload 4, 2) := by decide +kernel
theorem dX12_bestFrom_14 : decode cX12_bestFrom 14 = .ok (.iconst (-1), 1) := by decide +kernel
theorem dX12_bestFrom_15 : decode cX12_bestFrom 15 = .ok (.if_icmp .ne 7, 3) := by decide +kernel
theorem dX12_bestFrom_18 : decode cX12_bestFrom 18 = .ok (.iconst (-1), 1) := by decide +kernel
theorem dX12_bestFrom_19 : decode cX12_bestFrom 19 = .ok (.goto 15, 3) := by decide +kernel
theorem dX12_bestFrom_22 : decode cX12_bestFrom 22 = .ok (.aload_n 0, 1) := by decide +kernel
theorem dX12_bestFrom_23 : decode cX12_bestFrom 23 = .ok (.getfield 62, 3) := by decide +kernel
theorem dX12_bestFrom_26 : decode cX12_bestFrom 26 = .ok (.bipush 12, 2) := by decide +kernel
theorem dX12_bestFrom_28 : decode cX12_bestFrom 28 = .ok (.iload 4, 2) := by decide +kernel
theorem dX12_bestFrom_30 : decode cX12_bestFrom 30 = .ok (.imul, 1) := by decide +kernel
theorem dX12_bestFrom_31 : decode cX12_bestFrom 31 = .ok (.iload_n 3, 1) := by decide +kernel
theorem dX12_bestFrom_32 : decode cX12_bestFrom 32 = .ok (.iadd, 1) := by decide +kernel
theorem dX12_bestFrom_33 : decode cX12_bestFrom 33 = .ok (.iaload, 1) := by decide +kernel
theorem dX12_bestFrom_34 : decode cX12_bestFrom 34 = .ok (.ireturn, 1) := by decide +kernel
theorem bX12_bestFrom_0 {d : Nat} {h0 hE h : ea_H} {rv : Option ea_V} {r0 : Option Nat} {x1 : Int32} {x2 : Int32} {x3 : Int32} (H : ∃ a7, r0 = some a7 ∧ a7 < ea_n h ∧ ea_c h a7 = 12 ∧ ∃ (d1 : Nat) (h2 : ea_H), ea_Met mX12_table d1 [vR (some a7)] h none h2 ∧ d1 + 1 ≤ d ∧ a7 < ea_n h2 ∧ ea_c h2 a7 = 12 ∧ ∃ (d9 : Nat) (xc15 : Int32) (h10 : ea_H), ea_Met mX12_going d9 [vR (some a7), vI x1, vI x2] h2 (some (vI xc15)) h10 ∧ d9 + 1 ≤ d ∧ (¬ xc15 = ((-1) : Int32) → a7 < ea_n h10 ∧ ea_c h10 a7 = 12 ∧ ∃ a20, (ea_r h10 a7 22) = some a20 ∧ a20 < ea_n h10 ∧ ea_c h10 a20 = 20 ∧ vp_in (((12 : Int32) * xc15) + x3) (ea_l h10 a20) ∧ rv = some (vI (ea_i h10 a20 (Int32.toNatClampNeg (((12 : Int32) * xc15) + x3)))) ∧ hE = h10) ∧ (xc15 = ((-1) : Int32) → rv = some (vI (-1)) ∧ hE = h10)) : ea_W mX12_bestFrom d h0 rv hE 0 [(0, vR r0), (1, vI x1), (2, vI x2), (3, vI x3)] [] h := by
  refine ea_aload_n (pc := 0) dX12_bestFrom_0 rfl 0 rfl ?_
  obtain ⟨a7, e8, f5, g6, H⟩ := H
  refine ea_deref0 e8 ?_
  obtain ⟨d1, h2, m3, q4, H⟩ := H
  refine ea_callV (pc := 1) (As := []) (st := []) dX12_bestFrom_1 kX12_table m3 q4 rfl (Nat.le_of_ble_eq_true rfl) ew_1774 ew_1776 ew_54 (ci := 12) rfl (by decide) f5 g6 ?_
  refine ea_aload_n (pc := 4) dX12_bestFrom_4 rfl 0 rfl ?_
  refine ea_iload_n (pc := 5) dX12_bestFrom_5 rfl 1 rfl ?_
  refine ea_iload_n (pc := 6) dX12_bestFrom_6 rfl 2 rfl ?_
  obtain ⟨f13, g14, H⟩ := H
  refine ea_deref2 e8 ?_
  obtain ⟨d9, xc15, h10, m11, q12, H⟩ := H
  refine ea_callV (pc := 7) (As := [vI x1, vI x2]) (st := []) dX12_bestFrom_7 kX12_going m11 q12 rfl (Nat.le_of_ble_eq_true rfl) ew_1802 ew_1804 ew_61 (ci := 12) rfl (by decide) f13 g14 ?_
  refine ea_istore (pc := 10) (lv' := [(0, vR r0), (3, vI x3), (4, vI xc15)]) dX12_bestFrom_10 (Nat.le_of_ble_eq_true rfl) [1, 4, 0] rfl ?_
  refine ea_iload (pc := 12) dX12_bestFrom_12 2 rfl ?_
  refine ea_iconst (pc := 14) dX12_bestFrom_14 (v := (-1)) rfl ?_
  refine ea_icmp_ne (pc := 15) (tgt := 22) dX12_bestFrom_15 rfl (fun c23 => ?_) (fun c23 => ?_)
  · have H := H.1 c23
    refine ea_aload_n (pc := 22) dX12_bestFrom_22 rfl 0 rfl ?_
    obtain ⟨f16, g17, H⟩ := H
    refine ea_deref0 e8 ?_
    refine ea_getR (pc := 23) dX12_bestFrom_23 ec_12 (k := 22) (Nat.le_of_ble_eq_true rfl) rfl (Or.inl ew_1367) f16 g17 rfl ?_
    refine ea_bipush (pc := 26) dX12_bestFrom_26 (v := 12) rfl ?_
    refine ea_iload (pc := 28) dX12_bestFrom_28 2 rfl ?_
    refine ea_imul (pc := 30) dX12_bestFrom_30 ?_
    refine ea_iload_n (pc := 31) dX12_bestFrom_31 rfl 1 rfl ?_
    refine ea_iadd (pc := 32) dX12_bestFrom_32 ?_
    obtain ⟨a20, e21, f18, g19, H⟩ := H
    refine ea_deref1 e21 ?_
    obtain ⟨z22, H⟩ := H
    refine ea_iald (pc := 33) dX12_bestFrom_33 f18 g19 z22 ?_
    obtain ⟨rfl, rfl⟩ := H
    exact ea_ireturn (pc := 34) dX12_bestFrom_34 rfl rfl
  · have H := H.2 c23
    refine ea_iconst (pc := 18) dX12_bestFrom_18 (v := (-1)) rfl ?_
    refine ea_goto (pc := 19) (tgt := 34) dX12_bestFrom_19 rfl ?_
    obtain ⟨rfl, rfl⟩ := H
    exact ea_ireturn (pc := 34) dX12_bestFrom_34 rfl rfl
theorem dX12_way_0 : decode cX12_way 0 = .ok (.aload_n 0, 1) := by decide +kernel
theorem dX12_way_1 : decode cX12_way 1 = .ok (.iload_n 1, 1) := by decide +kernel
theorem dX12_way_2 : decode cX12_way 2 = .ok (.invokevirtual 297, 3) := by decide +kernel
theorem dX12_way_5 : decode cX12_way 5 = .ok (.ifCond .eq 30, 3) := by decide +kernel
theorem dX12_way_8 : decode cX12_way 8 = .ok (.aload_n 0, 1) := by decide +kernel
theorem dX12_way_9 : decode cX12_way 9 = .ok (.iload_n 3, 1) := by decide +kernel
theorem dX12_way_10 : decode cX12_way 10 = .ok (.invokevirtual 297, 3) := by decide +kernel
theorem dX12_way_13 : decode cX12_way 13 = .ok (.ifCond .eq 22, 3) := by decide +kernel
theorem dX12_way_16 : decode cX12_way 16 = .ok (.iload_n 1, 1) := by decide +kernel
theorem dX12_way_17 : decode cX12_way 17 = .ok (.iload_n 3, 1) := by decide +kernel
theorem dX12_way_18 : decode cX12_way 18 = .ok (.if_icmp .eq 17, 3) := by decide +kernel
theorem dX12_way_21 : decode cX12_way 21 = .ok (.iload_n 2, 1) := by decide +kernel
theorem dX12_way_22 : decode cX12_way 22 = .ok (.aload_n 0, 1) := by decide +kernel
theorem dX12_way_23 : decode cX12_way 23 = .ok (.getfield 313, 3) := by decide +kernel
theorem dX12_way_26 : decode cX12_way 26 = .ok (.sipush 10079, 3) := by decide +kernel
theorem dX12_way_29 : decode cX12_way 29 = .ok (.invokestatic 286, 3) := by decide +kernel
theorem dX12_way_32 : decode cX12_way 32 = .ok (.ifCond .ne 5, 3) := by decide +kernel
theorem dX12_way_35 : decode cX12_way 35 = .ok (.iconst (-1), 1) := by decide +kernel
theorem dX12_way_36 : decode cX12_way 36 = .ok (.ireturn, 1) := by decide +kernel
theorem dX12_way_37 : decode cX12_way 37 = .ok (.aload_n 0, 1) := by decide +kernel
theorem dX12_way_38 : decode cX12_way 38 = .ok (.iload_n 1, 1) := by decide +kernel
theorem dX12_way_39 : decode cX12_way 39 = .ok (.iload_n 2, 1) := by decide +kernel
theorem dX12_way_40 : decode cX12_way 40 = .ok (.iload_n 3, 1) := by decide +kernel
theorem dX12_way_41 : decode cX12_way 41 = .ok (.invokevirtual 361, 3) := by decide +kernel
theorem dX12_way_44 : decode cX12_way 44 = .ok (.istore 5, 2) := by decide +kernel
theorem dX12_way_46 : decode cX12_way 46 = .ok (.iload 5, 2) := by decide +kernel
theorem dX12_way_48 : decode cX12_way 48 = .ok (.iconst (-1), 1) := by decide +kernel
theorem dX12_way_49 : decode cX12_way 49 = .ok (.if_icmp .ne 5, 3) := by decide +kernel
theorem dX12_way_52 : decode cX12_way 52 = .ok (.iconst (-1), 1) := by decide +kernel
theorem dX12_way_53 : decode cX12_way 53 = .ok (.ireturn, 1) := by decide +kernel
theorem dX12_way_54 : decode cX12_way 54 = .ok (.iload 4, 2) := by decide +kernel
theorem dX12_way_56 : decode cX12_way 56 = .ok (.tableswitch 109 0 5 #[40, 53, 66, 77, 88, 96], 40) := by decide +kernel
theorem dX12_way_96 : decode cX12_way 96 = .ok (.aload_n 0, 1) := by decide +kernel
theorem dX12_way_97 : decode cX12_way 97 = .ok (.getfield 53, 3) := by decide +kernel
theorem dX12_way_100 : decode cX12_way 100 = .ok (.bipush 12, 2) := by decide +kernel
theorem dX12_way_102 : decode cX12_way 102 = .ok (.iload 5, 2) := by decide +kernel
theorem dX12_way_104 : decode cX12_way 104 = .ok (.imul, 1) := by decide +kernel
theorem dX12_way_105 : decode cX12_way 105 = .ok (.iload_n 3, 1) := by decide +kernel
theorem dX12_way_106 : decode cX12_way 106 = .ok (.iadd, 1) := by decide +kernel
theorem dX12_way_107 : decode cX12_way 107 = .ok (.iaload, 1) := by decide +kernel
theorem dX12_way_108 : decode cX12_way 108 = .ok (.ireturn, 1) := by decide +kernel
theorem dX12_way_109 : decode cX12_way 109 = .ok (.aload_n 0, 1) := by decide +kernel
theorem dX12_way_110 : decode cX12_way 110 = .ok (.getfield 56, 3) := by decide +kernel
theorem dX12_way_113 : decode cX12_way 113 = .ok (.bipush 12, 2) := by decide +kernel
theorem dX12_way_115 : decode cX12_way 115 = .ok (.iload 5, 2) := by decide +kernel
theorem dX12_way_117 : decode cX12_way 117 = .ok (.imul, 1) := by decide +kernel
theorem dX12_way_118 : decode cX12_way 118 = .ok (.iload_n 3, 1) := by decide +kernel
theorem dX12_way_119 : decode cX12_way 119 = .ok (.iadd, 1) := by decide +kernel
theorem dX12_way_120 : decode cX12_way 120 = .ok (.iaload, 1) := by decide +kernel
theorem dX12_way_121 : decode cX12_way 121 = .ok (.ireturn, 1) := by decide +kernel
theorem dX12_way_122 : decode cX12_way 122 = .ok (.aload_n 0, 1) := by decide +kernel
theorem dX12_way_123 : decode cX12_way 123 = .ok (.getfield 44, 3) := by decide +kernel
theorem dX12_way_126 : decode cX12_way 126 = .ok (.iload 5, 2) := by decide +kernel
theorem dX12_way_128 : decode cX12_way 128 = .ok (.iaload, 1) := by decide +kernel
theorem dX12_way_129 : decode cX12_way 129 = .ok (.bipush 7, 2) := by decide +kernel
theorem dX12_way_131 : decode cX12_way 131 = .ok (.idiv, 1) := by decide +kernel
theorem dX12_way_132 : decode cX12_way 132 = .ok (.ireturn, 1) := by decide +kernel
theorem dX12_way_133 : decode cX12_way 133 = .ok (.aload_n 0, 1) := by decide +kernel
theorem dX12_way_134 : decode cX12_way 134 = .ok (.getfield 44, 3) := by decide +kernel
theorem dX12_way_137 : decode cX12_way 137 = .ok (.iload 5, 2) := by decide +kernel
theorem dX12_way_139 : decode cX12_way 139 = .ok (.iaload, 1) := by decide +kernel
theorem dX12_way_140 : decode cX12_way 140 = .ok (.bipush 7, 2) := by decide +kernel
theorem dX12_way_142 : decode cX12_way 142 = .ok (.irem, 1) := by decide +kernel
theorem dX12_way_143 : decode cX12_way 143 = .ok (.ireturn, 1) := by decide +kernel
theorem dX12_way_144 : decode cX12_way 144 = .ok (.aload_n 0, 1) := by decide +kernel
theorem dX12_way_145 : decode cX12_way 145 = .ok (.getfield 47, 3) := by decide +kernel
theorem dX12_way_148 : decode cX12_way 148 = .ok (.iload 5, 2) := by decide +kernel
theorem dX12_way_150 : decode cX12_way 150 = .ok (.iaload, 1) := by decide +kernel
theorem dX12_way_151 : decode cX12_way 151 = .ok (.ireturn, 1) := by decide +kernel
theorem dX12_way_152 : decode cX12_way 152 = .ok (.aload_n 0, 1) := by decide +kernel
theorem dX12_way_153 : decode cX12_way 153 = .ok (.getfield 59, 3) := by decide +kernel
theorem dX12_way_156 : decode cX12_way 156 = .ok (.bipush 12, 2) := by decide +kernel
theorem dX12_way_158 : decode cX12_way 158 = .ok (.iload 5, 2) := by decide +kernel
theorem dX12_way_160 : decode cX12_way 160 = .ok (.imul, 1) := by decide +kernel
theorem dX12_way_161 : decode cX12_way 161 = .ok (.iload_n 3, 1) := by decide +kernel
theorem dX12_way_162 : decode cX12_way 162 = .ok (.iadd, 1) := by decide +kernel
theorem dX12_way_163 : decode cX12_way 163 = .ok (.iaload, 1) := by decide +kernel
theorem dX12_way_164 : decode cX12_way 164 = .ok (.ireturn, 1) := by decide +kernel
theorem dX12_way_165 : decode cX12_way 165 = .ok (.iconst (-1), 1) := by decide +kernel
theorem dX12_way_166 : decode cX12_way 166 = .ok (.ireturn, 1) := by decide +kernel
theorem bX12_way_0 {d : Nat} {h0 hE h : ea_H} {rv : Option ea_V} {r0 : Option Nat} {x1 : Int32} {x2 : Int32} {x3 : Int32} {x4 : Int32} (H : ∃ a7, r0 = some a7 ∧ a7 < ea_n h ∧ ea_c h a7 = 12 ∧ ∃ (d1 : Nat) (xc9 : Int32) (h2 : ea_H), ea_Met mX12_isTown d1 [vR (some a7), vI x1] h (some (vI xc9)) h2 ∧ d1 + 1 ≤ d ∧ (xc9 = (0 : Int32) → rv = some (vI (-1)) ∧ hE = h2) ∧ (¬ xc9 = (0 : Int32) → a7 < ea_n h2 ∧ ea_c h2 a7 = 12 ∧ ∃ (d10 : Nat) (xc16 : Int32) (h11 : ea_H), ea_Met mX12_isTown d10 [vR (some a7), vI x3] h2 (some (vI xc16)) h11 ∧ d10 + 1 ≤ d ∧ (xc16 = (0 : Int32) → rv = some (vI (-1)) ∧ hE = h11) ∧ (¬ xc16 = (0 : Int32) → (x1 = x3 → rv = some (vI (-1)) ∧ hE = h11) ∧ (¬ x1 = x3 → a7 < ea_n h11 ∧ ea_c h11 a7 = 12 ∧ ∃ (d19 : Nat) (xc23 : Int32) (h20 : ea_H), ea_Met mX12_isIn d19 [vI x2, vI (ea_i h11 a7 0), vI 10079] h11 (some (vI xc23)) h20 ∧ d19 + 1 ≤ d ∧ (¬ xc23 = (0 : Int32) → a7 < ea_n h20 ∧ ea_c h20 a7 = 12 ∧ ∃ (d24 : Nat) (xc30 : Int32) (h25 : ea_H), ea_Met mX12_bestFrom d24 [vR (some a7), vI x1, vI x2, vI x3] h20 (some (vI xc30)) h25 ∧ d24 + 1 ≤ d ∧ (¬ xc30 = ((-1) : Int32) → (Int32.toInt x4 = 0 → a7 < ea_n h25 ∧ ea_c h25 a7 = 12 ∧ ∃ a35, (ea_r h25 a7 19) = some a35 ∧ a35 < ea_n h25 ∧ ea_c h25 a35 = 20 ∧ vp_in (((12 : Int32) * xc30) + x3) (ea_l h25 a35) ∧ rv = some (vI (ea_i h25 a35 (Int32.toNatClampNeg (((12 : Int32) * xc30) + x3)))) ∧ hE = h25) ∧ (Int32.toInt x4 = 1 → a7 < ea_n h25 ∧ ea_c h25 a7 = 12 ∧ ∃ a42, (ea_r h25 a7 20) = some a42 ∧ a42 < ea_n h25 ∧ ea_c h25 a42 = 20 ∧ vp_in (((12 : Int32) * xc30) + x3) (ea_l h25 a42) ∧ rv = some (vI (ea_i h25 a42 (Int32.toNatClampNeg (((12 : Int32) * xc30) + x3)))) ∧ hE = h25) ∧ (Int32.toInt x4 = 2 → a7 < ea_n h25 ∧ ea_c h25 a7 = 12 ∧ ∃ a49, (ea_r h25 a7 16) = some a49 ∧ a49 < ea_n h25 ∧ ea_c h25 a49 = 20 ∧ vp_in xc30 (ea_l h25 a49) ∧ rv = some (vI ((ea_i h25 a49 (Int32.toNatClampNeg xc30)) / (7 : Int32))) ∧ hE = h25) ∧ (Int32.toInt x4 = 3 → a7 < ea_n h25 ∧ ea_c h25 a7 = 12 ∧ ∃ a56, (ea_r h25 a7 16) = some a56 ∧ a56 < ea_n h25 ∧ ea_c h25 a56 = 20 ∧ vp_in xc30 (ea_l h25 a56) ∧ rv = some (vI ((ea_i h25 a56 (Int32.toNatClampNeg xc30)) - (ea_i h25 a56 (Int32.toNatClampNeg xc30)) / (7 : Int32) * (7 : Int32))) ∧ hE = h25) ∧ (Int32.toInt x4 = 4 → a7 < ea_n h25 ∧ ea_c h25 a7 = 12 ∧ ∃ a63, (ea_r h25 a7 17) = some a63 ∧ a63 < ea_n h25 ∧ ea_c h25 a63 = 20 ∧ vp_in xc30 (ea_l h25 a63) ∧ rv = some (vI (ea_i h25 a63 (Int32.toNatClampNeg xc30))) ∧ hE = h25) ∧ (Int32.toInt x4 = 5 → a7 < ea_n h25 ∧ ea_c h25 a7 = 12 ∧ ∃ a70, (ea_r h25 a7 21) = some a70 ∧ a70 < ea_n h25 ∧ ea_c h25 a70 = 20 ∧ vp_in (((12 : Int32) * xc30) + x3) (ea_l h25 a70) ∧ rv = some (vI (ea_i h25 a70 (Int32.toNatClampNeg (((12 : Int32) * xc30) + x3)))) ∧ hE = h25) ∧ (Int32.toInt x4 < 0 ∨ 5 < Int32.toInt x4 → rv = some (vI (-1)) ∧ hE = h25)) ∧ (xc30 = ((-1) : Int32) → rv = some (vI (-1)) ∧ hE = h25)) ∧ (xc23 = (0 : Int32) → rv = some (vI (-1)) ∧ hE = h20))))) : ea_W mX12_way d h0 rv hE 0 [(0, vR r0), (1, vI x1), (2, vI x2), (3, vI x3), (4, vI x4)] [] h := by
  refine ea_aload_n (pc := 0) dX12_way_0 rfl 0 rfl ?_
  refine ea_iload_n (pc := 1) dX12_way_1 rfl 1 rfl ?_
  obtain ⟨a7, e8, f5, g6, H⟩ := H
  refine ea_deref1 e8 ?_
  obtain ⟨d1, xc9, h2, m3, q4, H⟩ := H
  refine ea_callV (pc := 2) (As := [vI x1]) (st := []) dX12_way_2 kX12_isTown m3 q4 rfl (Nat.le_of_ble_eq_true rfl) ew_1708 ew_1710 ew_47 (ci := 12) rfl (by decide) f5 g6 ?_
  refine ea_if_eq (pc := 5) (tgt := 35) dX12_way_5 rfl (fun c77 => ?_) (fun c77 => ?_)
  · have H := H.1 c77
    refine ea_iconst (pc := 35) dX12_way_35 (v := (-1)) rfl ?_
    obtain ⟨rfl, rfl⟩ := H
    exact ea_ireturn (pc := 36) dX12_way_36 rfl rfl
  · have H := H.2 c77
    refine ea_aload_n (pc := 8) dX12_way_8 rfl 0 rfl ?_
    refine ea_iload_n (pc := 9) dX12_way_9 rfl 3 rfl ?_
    obtain ⟨f14, g15, H⟩ := H
    refine ea_deref1 e8 ?_
    obtain ⟨d10, xc16, h11, m12, q13, H⟩ := H
    refine ea_callV (pc := 10) (As := [vI x3]) (st := []) dX12_way_10 kX12_isTown m12 q13 rfl (Nat.le_of_ble_eq_true rfl) ew_1708 ew_1710 ew_47 (ci := 12) rfl (by decide) f14 g15 ?_
    refine ea_if_eq (pc := 13) (tgt := 35) dX12_way_13 rfl (fun c76 => ?_) (fun c76 => ?_)
    · have H := H.1 c76
      refine ea_iconst (pc := 35) dX12_way_35 (v := (-1)) rfl ?_
      obtain ⟨rfl, rfl⟩ := H
      exact ea_ireturn (pc := 36) dX12_way_36 rfl rfl
    · have H := H.2 c76
      refine ea_iload_n (pc := 16) dX12_way_16 rfl 1 rfl ?_
      refine ea_iload_n (pc := 17) dX12_way_17 rfl 3 rfl ?_
      refine ea_icmp_eq (pc := 18) (tgt := 35) dX12_way_18 rfl (fun c75 => ?_) (fun c75 => ?_)
      · have H := H.1 c75
        refine ea_iconst (pc := 35) dX12_way_35 (v := (-1)) rfl ?_
        obtain ⟨rfl, rfl⟩ := H
        exact ea_ireturn (pc := 36) dX12_way_36 rfl rfl
      · have H := H.2 c75
        refine ea_iload_n (pc := 21) dX12_way_21 rfl 2 rfl ?_
        refine ea_aload_n (pc := 22) dX12_way_22 rfl 0 rfl ?_
        obtain ⟨f17, g18, H⟩ := H
        refine ea_deref0 e8 ?_
        refine ea_getI (pc := 23) dX12_way_23 ec_12 (k := 0) (Nat.le_of_ble_eq_true rfl) rfl (Or.inl ew_1345) f17 g18 ?_
        refine ea_sipush (pc := 26) dX12_way_26 (v := 10079) rfl ?_
        obtain ⟨d19, xc23, h20, m21, q22, H⟩ := H
        refine ea_callS (pc := 29) (As := [vI x2, vI (ea_i h11 a7 0), vI 10079]) (st := []) dX12_way_29 kX12_isIn m21 q22 rfl (Nat.le_of_ble_eq_true rfl) ew_1712 ew_1713 ?_
        refine ea_if_ne (pc := 32) (tgt := 37) dX12_way_32 rfl (fun c74 => ?_) (fun c74 => ?_)
        · have H := H.1 c74
          refine ea_aload_n (pc := 37) dX12_way_37 rfl 0 rfl ?_
          refine ea_iload_n (pc := 38) dX12_way_38 rfl 1 rfl ?_
          refine ea_iload_n (pc := 39) dX12_way_39 rfl 2 rfl ?_
          refine ea_iload_n (pc := 40) dX12_way_40 rfl 3 rfl ?_
          obtain ⟨f28, g29, H⟩ := H
          refine ea_deref3 e8 ?_
          obtain ⟨d24, xc30, h25, m26, q27, H⟩ := H
          refine ea_callV (pc := 41) (As := [vI x1, vI x2, vI x3]) (st := []) dX12_way_41 kX12_bestFrom m26 q27 rfl (Nat.le_of_ble_eq_true rfl) ew_1770 ew_1772 ew_53 (ci := 12) rfl (by decide) f28 g29 ?_
          refine ea_istore (pc := 44) (lv' := [(0, vR r0), (3, vI x3), (4, vI x4), (5, vI xc30)]) dX12_way_44 (Nat.le_of_ble_eq_true rfl) [1, 4, 5, 0] rfl ?_
          refine ea_iload (pc := 46) dX12_way_46 3 rfl ?_
          refine ea_iconst (pc := 48) dX12_way_48 (v := (-1)) rfl ?_
          refine ea_icmp_ne (pc := 49) (tgt := 54) dX12_way_49 rfl (fun c73 => ?_) (fun c73 => ?_)
          · have H := H.1 c73
            refine ea_iload (pc := 54) dX12_way_54 2 rfl ?_
            by_cases qc1 : Int32.toInt x4 = 0
            · have H := H.1 qc1
              refine ea_tswIn (pc := 56) (tgt := 96) dX12_way_56 (by omega) (by omega) (by rw [qc1]; rfl) rfl ?_
              refine ea_aload_n (pc := 96) dX12_way_96 rfl 0 rfl ?_
              obtain ⟨f31, g32, H⟩ := H
              refine ea_deref0 e8 ?_
              refine ea_getR (pc := 97) dX12_way_97 ec_12 (k := 19) (Nat.le_of_ble_eq_true rfl) rfl (Or.inl ew_1364) f31 g32 rfl ?_
              refine ea_bipush (pc := 100) dX12_way_100 (v := 12) rfl ?_
              refine ea_iload (pc := 102) dX12_way_102 3 rfl ?_
              refine ea_imul (pc := 104) dX12_way_104 ?_
              refine ea_iload_n (pc := 105) dX12_way_105 rfl 1 rfl ?_
              refine ea_iadd (pc := 106) dX12_way_106 ?_
              obtain ⟨a35, e36, f33, g34, H⟩ := H
              refine ea_deref1 e36 ?_
              obtain ⟨z37, H⟩ := H
              refine ea_iald (pc := 107) dX12_way_107 f33 g34 z37 ?_
              obtain ⟨rfl, rfl⟩ := H
              exact ea_ireturn (pc := 108) dX12_way_108 rfl rfl
            by_cases qc2 : Int32.toInt x4 = 1
            · have H := H.2.1 qc2
              refine ea_tswIn (pc := 56) (tgt := 109) dX12_way_56 (by omega) (by omega) (by rw [qc2]; rfl) rfl ?_
              refine ea_aload_n (pc := 109) dX12_way_109 rfl 0 rfl ?_
              obtain ⟨f38, g39, H⟩ := H
              refine ea_deref0 e8 ?_
              refine ea_getR (pc := 110) dX12_way_110 ec_12 (k := 20) (Nat.le_of_ble_eq_true rfl) rfl (Or.inl ew_1365) f38 g39 rfl ?_
              refine ea_bipush (pc := 113) dX12_way_113 (v := 12) rfl ?_
              refine ea_iload (pc := 115) dX12_way_115 3 rfl ?_
              refine ea_imul (pc := 117) dX12_way_117 ?_
              refine ea_iload_n (pc := 118) dX12_way_118 rfl 1 rfl ?_
              refine ea_iadd (pc := 119) dX12_way_119 ?_
              obtain ⟨a42, e43, f40, g41, H⟩ := H
              refine ea_deref1 e43 ?_
              obtain ⟨z44, H⟩ := H
              refine ea_iald (pc := 120) dX12_way_120 f40 g41 z44 ?_
              obtain ⟨rfl, rfl⟩ := H
              exact ea_ireturn (pc := 121) dX12_way_121 rfl rfl
            by_cases qc3 : Int32.toInt x4 = 2
            · have H := H.2.2.1 qc3
              refine ea_tswIn (pc := 56) (tgt := 122) dX12_way_56 (by omega) (by omega) (by rw [qc3]; rfl) rfl ?_
              refine ea_aload_n (pc := 122) dX12_way_122 rfl 0 rfl ?_
              obtain ⟨f45, g46, H⟩ := H
              refine ea_deref0 e8 ?_
              refine ea_getR (pc := 123) dX12_way_123 ec_12 (k := 16) (Nat.le_of_ble_eq_true rfl) rfl (Or.inl ew_1361) f45 g46 rfl ?_
              refine ea_iload (pc := 126) dX12_way_126 3 rfl ?_
              obtain ⟨a49, e50, f47, g48, H⟩ := H
              refine ea_deref1 e50 ?_
              obtain ⟨z51, H⟩ := H
              refine ea_iald (pc := 128) dX12_way_128 f47 g48 z51 ?_
              refine ea_bipush (pc := 129) dX12_way_129 (v := 7) rfl ?_
              refine ea_idiv (pc := 131) dX12_way_131 (by decide) ?_
              obtain ⟨rfl, rfl⟩ := H
              exact ea_ireturn (pc := 132) dX12_way_132 rfl rfl
            by_cases qc4 : Int32.toInt x4 = 3
            · have H := H.2.2.2.1 qc4
              refine ea_tswIn (pc := 56) (tgt := 133) dX12_way_56 (by omega) (by omega) (by rw [qc4]; rfl) rfl ?_
              refine ea_aload_n (pc := 133) dX12_way_133 rfl 0 rfl ?_
              obtain ⟨f52, g53, H⟩ := H
              refine ea_deref0 e8 ?_
              refine ea_getR (pc := 134) dX12_way_134 ec_12 (k := 16) (Nat.le_of_ble_eq_true rfl) rfl (Or.inl ew_1361) f52 g53 rfl ?_
              refine ea_iload (pc := 137) dX12_way_137 3 rfl ?_
              obtain ⟨a56, e57, f54, g55, H⟩ := H
              refine ea_deref1 e57 ?_
              obtain ⟨z58, H⟩ := H
              refine ea_iald (pc := 139) dX12_way_139 f54 g55 z58 ?_
              refine ea_bipush (pc := 140) dX12_way_140 (v := 7) rfl ?_
              refine ea_irem (pc := 142) dX12_way_142 (by decide) ?_
              obtain ⟨rfl, rfl⟩ := H
              exact ea_ireturn (pc := 143) dX12_way_143 rfl rfl
            by_cases qc5 : Int32.toInt x4 = 4
            · have H := H.2.2.2.2.1 qc5
              refine ea_tswIn (pc := 56) (tgt := 144) dX12_way_56 (by omega) (by omega) (by rw [qc5]; rfl) rfl ?_
              refine ea_aload_n (pc := 144) dX12_way_144 rfl 0 rfl ?_
              obtain ⟨f59, g60, H⟩ := H
              refine ea_deref0 e8 ?_
              refine ea_getR (pc := 145) dX12_way_145 ec_12 (k := 17) (Nat.le_of_ble_eq_true rfl) rfl (Or.inl ew_1362) f59 g60 rfl ?_
              refine ea_iload (pc := 148) dX12_way_148 3 rfl ?_
              obtain ⟨a63, e64, f61, g62, H⟩ := H
              refine ea_deref1 e64 ?_
              obtain ⟨z65, H⟩ := H
              refine ea_iald (pc := 150) dX12_way_150 f61 g62 z65 ?_
              obtain ⟨rfl, rfl⟩ := H
              exact ea_ireturn (pc := 151) dX12_way_151 rfl rfl
            by_cases qc6 : Int32.toInt x4 = 5
            · have H := H.2.2.2.2.2.1 qc6
              refine ea_tswIn (pc := 56) (tgt := 152) dX12_way_56 (by omega) (by omega) (by rw [qc6]; rfl) rfl ?_
              refine ea_aload_n (pc := 152) dX12_way_152 rfl 0 rfl ?_
              obtain ⟨f66, g67, H⟩ := H
              refine ea_deref0 e8 ?_
              refine ea_getR (pc := 153) dX12_way_153 ec_12 (k := 21) (Nat.le_of_ble_eq_true rfl) rfl (Or.inl ew_1366) f66 g67 rfl ?_
              refine ea_bipush (pc := 156) dX12_way_156 (v := 12) rfl ?_
              refine ea_iload (pc := 158) dX12_way_158 3 rfl ?_
              refine ea_imul (pc := 160) dX12_way_160 ?_
              refine ea_iload_n (pc := 161) dX12_way_161 rfl 1 rfl ?_
              refine ea_iadd (pc := 162) dX12_way_162 ?_
              obtain ⟨a70, e71, f68, g69, H⟩ := H
              refine ea_deref1 e71 ?_
              obtain ⟨z72, H⟩ := H
              refine ea_iald (pc := 163) dX12_way_163 f68 g69 z72 ?_
              obtain ⟨rfl, rfl⟩ := H
              exact ea_ireturn (pc := 164) dX12_way_164 rfl rfl
            have qd : Int32.toInt x4 < 0 ∨ 5 < Int32.toInt x4 := by omega
            have H := H.2.2.2.2.2.2 qd
            refine ea_tswOut (pc := 56) (tgt := 165) dX12_way_56 qd rfl ?_
            refine ea_iconst (pc := 165) dX12_way_165 (v := (-1)) rfl ?_
            obtain ⟨rfl, rfl⟩ := H
            exact ea_ireturn (pc := 166) dX12_way_166 rfl rfl
          · have H := H.2 c73
            refine ea_iconst (pc := 52) dX12_way_52 (v := (-1)) rfl ?_
            obtain ⟨rfl, rfl⟩ := H
            exact ea_ireturn (pc := 53) dX12_way_53 rfl rfl
        · have H := H.2 c74
          refine ea_iconst (pc := 35) dX12_way_35 (v := (-1)) rfl ?_
          obtain ⟨rfl, rfl⟩ := H
          exact ea_ireturn (pc := 36) dX12_way_36 rfl rfl
theorem dX12_feed_0 : decode cX12_feed 0 = .ok (.aload_n 0, 1) := by decide +kernel
theorem dX12_feed_1 : decode cX12_feed 1 = .ok (.getfield 364, 3) := by decide +kernel
theorem dX12_feed_4 : decode cX12_feed 4 = .ok (.bipush 20, 2) := by decide +kernel
theorem dX12_feed_6 : decode cX12_feed 6 = .ok (.iadd, 1) := by decide +kernel
theorem dX12_feed_7 : decode cX12_feed 7 = .ok (.sipush 600, 3) := by decide +kernel
theorem dX12_feed_10 : decode cX12_feed 10 = .ok (.if_icmp .le 5, 3) := by decide +kernel
theorem dX12_feed_13 : decode cX12_feed 13 = .ok (.iconst (-1), 1) := by decide +kernel
theorem dX12_feed_14 : decode cX12_feed 14 = .ok (.ireturn, 1) := by decide +kernel
theorem dX12_feed_15 : decode cX12_feed 15 = .ok (.iconst 0, 1) := by decide +kernel
theorem dX12_feed_16 : decode cX12_feed 16 = .ok (.istore 6, 2) := by decide +kernel
theorem dX12_feed_18 : decode cX12_feed 18 = .ok (.iload 6, 2) := by decide +kernel
theorem dX12_feed_20 : decode cX12_feed 20 = .ok (.bipush 20, 2) := by decide +kernel
theorem dX12_feed_22 : decode cX12_feed 22 = .ok (.if_icmp .ge 93, 3) := by decide +kernel
theorem dX12_feed_25 : decode cX12_feed 25 = .ok (.iload 6, 2) := by decide +kernel
theorem dX12_feed_27 : decode cX12_feed 27 = .ok (.iconst 4, 1) := by decide +kernel
theorem dX12_feed_28 : decode cX12_feed 28 = .ok (.if_icmp .ge 7, 3) := by decide +kernel
theorem dX12_feed_31 : decode cX12_feed 31 = .ok (.iload_n 1, 1) := by decide +kernel
theorem dX12_feed_32 : decode cX12_feed 32 = .ok (.goto 39, 3) := by decide +kernel
theorem dX12_feed_35 : decode cX12_feed 35 = .ok (.iload 6, 2) := by decide +kernel
theorem dX12_feed_37 : decode cX12_feed 37 = .ok (.bipush 8, 2) := by decide +kernel
theorem dX12_feed_39 : decode cX12_feed 39 = .ok (.if_icmp .ge 7, 3) := by decide +kernel
theorem dX12_feed_42 : decode cX12_feed 42 = .ok (.iload_n 2, 1) := by decide +kernel
theorem dX12_feed_43 : decode cX12_feed 43 = .ok (.goto 28, 3) := by decide +kernel
theorem dX12_feed_46 : decode cX12_feed 46 = .ok (.iload 6, 2) := by decide +kernel
theorem dX12_feed_48 : decode cX12_feed 48 = .ok (.bipush 12, 2) := by decide +kernel
theorem dX12_feed_50 : decode cX12_feed 50 = .ok (.if_icmp .ge 7, 3) := by decide +kernel
theorem dX12_feed_53 : decode cX12_feed 53 = .ok (.iload_n 3, 1) := by decide +kernel
theorem dX12_feed_54 : decode cX12_feed 54 = .ok (.goto 17, 3) := by decide +kernel
theorem dX12_feed_57 : decode cX12_feed 57 = .ok (.iload 6, 2) := by decide +kernel
theorem dX12_feed_59 : decode cX12_feed 59 = .ok (.bipush 16, 2) := by decide +kernel
theorem dX12_feed_61 : decode cX12_feed 61 = .ok (.if_icmp .ge 8, 3) := by decide +kernel
theorem dX12_feed_64 : decode cX12_feed 64 = .ok (.iload 4, 2) := by decide +kernel
theorem dX12_feed_66 : decode cX12_feed 66 = .ok (.goto 5, 3) := by decide +kernel
theorem dX12_feed_69 : decode cX12_feed 69 = .ok (.iload 5, 2) := by decide +kernel
theorem dX12_feed_71 : decode cX12_feed 71 = .ok (.istore 7, 2) := by decide +kernel
theorem dX12_feed_73 : decode cX12_feed 73 = .ok (.aload_n 0, 1) := by decide +kernel
theorem dX12_feed_74 : decode cX12_feed 74 = .ok (.getfield 116, 3) := by decide +kernel
theorem dX12_feed_77 : decode cX12_feed 77 = .ok (.aload_n 0, 1) := by decide +kernel
theorem dX12_feed_78 : decode cX12_feed 78 = .ok (.getfield 364, 3) := by decide +kernel
theorem dX12_feed_81 : decode cX12_feed 81 = .ok (.iload 7, 2) := by decide +kernel
theorem dX12_feed_83 : decode cX12_feed 83 = .ok (.bipush 24, 2) := by decide +kernel
theorem dX12_feed_85 : decode cX12_feed 85 = .ok (.bipush 8, 2) := by decide +kernel
theorem dX12_feed_87 : decode cX12_feed 87 = .ok (.iload 6, 2) := by decide +kernel
theorem dX12_feed_89 : decode cX12_feed 89 = .ok (.iconst 4, 1) := by decide +kernel
theorem dX12_feed_90 : decode cX12_feed 90 = .ok (.irem, 1) := by decide +kernel
theorem dX12_feed_91 : decode cX12_feed 91 = .ok (.imul, 1) := by decide +kernel
theorem dX12_feed_92 : decode cX12_feed 92 = .ok (.isub, 1) := by decide +kernel
theorem dX12_feed_93 : decode cX12_feed 93 = .ok (.ishr, 1) := by decide +kernel
theorem dX12_feed_94 : decode cX12_feed 94 = .ok (.sipush 255, 3) := by decide +kernel
theorem dX12_feed_97 : decode cX12_feed 97 = .ok (.iand, 1) := by decide +kernel
theorem dX12_feed_98 : decode cX12_feed 98 = .ok (.iastore, 1) := by decide +kernel
theorem dX12_feed_99 : decode cX12_feed 99 = .ok (.aload_n 0, 1) := by decide +kernel
theorem dX12_feed_100 : decode cX12_feed 100 = .ok (.dup, 1) := by decide +kernel
theorem dX12_feed_101 : decode cX12_feed 101 = .ok (.getfield 364, 3) := by decide +kernel
theorem dX12_feed_104 : decode cX12_feed 104 = .ok (.iconst 1, 1) := by decide +kernel
theorem dX12_feed_105 : decode cX12_feed 105 = .ok (.iadd, 1) := by decide +kernel
theorem dX12_feed_106 : decode cX12_feed 106 = .ok (.putfield 364, 3) := by decide +kernel
theorem dX12_feed_109 : decode cX12_feed 109 = .ok (.iinc 6 1, 3) := by decide +kernel
theorem dX12_feed_112 : decode cX12_feed 112 = .ok (.goto (-94), 3) := by decide +kernel
theorem dX12_feed_115 : decode cX12_feed 115 = .ok (.aload_n 0, 1) := by decide +kernel
theorem dX12_feed_116 : decode cX12_feed 116 = .ok (.getfield 364, 3) := by decide +kernel
theorem dX12_feed_119 : decode cX12_feed 119 = .ok (.ireturn, 1) := by decide +kernel
theorem bX12_feed_0 {d : Nat} {h0 hE h : ea_H} {rv : Option ea_V} {r0 : Option Nat} {x1 : Int32} {x2 : Int32} {x3 : Int32} {x4 : Int32} {x5 : Int32} (H : ∃ a3, r0 = some a3 ∧ a3 < ea_n h ∧ ea_c h a3 = 12 ∧ (((ea_i h a3 52) + (20 : Int32)) ≤ (600 : Int32) → ea_W mX12_feed d h0 rv hE 18 [(0, vR r0), (1, vI x1), (2, vI x2), (3, vI x3), (4, vI x4), (5, vI x5), (6, vI 0)] [] h) ∧ (¬ ((ea_i h a3 52) + (20 : Int32)) ≤ (600 : Int32) → rv = some (vI (-1)) ∧ hE = h)) : ea_W mX12_feed d h0 rv hE 0 [(0, vR r0), (1, vI x1), (2, vI x2), (3, vI x3), (4, vI x4), (5, vI x5)] [] h := by
  refine ea_aload_n (pc := 0) dX12_feed_0 rfl 0 rfl ?_
  obtain ⟨a3, e4, f1, g2, H⟩ := H
  refine ea_deref0 e4 ?_
  refine ea_getI (pc := 1) dX12_feed_1 ec_12 (k := 52) (Nat.le_of_ble_eq_true rfl) rfl (Or.inl ew_1397) f1 g2 ?_
  refine ea_bipush (pc := 4) dX12_feed_4 (v := 20) rfl ?_
  refine ea_iadd (pc := 6) dX12_feed_6 ?_
  refine ea_sipush (pc := 7) dX12_feed_7 (v := 600) rfl ?_
  refine ea_icmp_le (pc := 10) (tgt := 15) dX12_feed_10 rfl (fun c5 => ?_) (fun c5 => ?_)
  · have H := H.1 c5
    refine ea_iconst (pc := 15) dX12_feed_15 (v := 0) rfl ?_
    refine ea_istore (pc := 16) (lv' := [(0, vR r0), (1, vI x1), (2, vI x2), (3, vI x3), (4, vI x4), (5, vI x5), (6, vI 0)]) dX12_feed_16 (Nat.le_of_ble_eq_true rfl) [1, 2, 3, 4, 5, 6, 0] rfl ?_
    exact H
  · have H := H.2 c5
    refine ea_iconst (pc := 13) dX12_feed_13 (v := (-1)) rfl ?_
    obtain ⟨rfl, rfl⟩ := H
    exact ea_ireturn (pc := 14) dX12_feed_14 rfl rfl
theorem bX12_feed_18 {d : Nat} {h0 hE h : ea_H} {rv : Option ea_V} {r0 : Option Nat} {x1 : Int32} {x2 : Int32} {x3 : Int32} {x4 : Int32} {x5 : Int32} {x6 : Int32} (H : ((20 : Int32) ≤ x6 → ∃ a3, r0 = some a3 ∧ a3 < ea_n h ∧ ea_c h a3 = 12 ∧ rv = some (vI (ea_i h a3 52)) ∧ hE = h) ∧ (¬ (20 : Int32) ≤ x6 → ((4 : Int32) ≤ x6 → ((8 : Int32) ≤ x6 → ((12 : Int32) ≤ x6 → ((16 : Int32) ≤ x6 → ea_W mX12_feed d h0 rv hE 71 [(0, vR r0), (1, vI x1), (2, vI x2), (3, vI x3), (4, vI x4), (5, vI x5), (6, vI x6)] [vI x5] h) ∧ (¬ (16 : Int32) ≤ x6 → ea_W mX12_feed d h0 rv hE 71 [(0, vR r0), (1, vI x1), (2, vI x2), (3, vI x3), (4, vI x4), (5, vI x5), (6, vI x6)] [vI x4] h)) ∧ (¬ (12 : Int32) ≤ x6 → ea_W mX12_feed d h0 rv hE 71 [(0, vR r0), (1, vI x1), (2, vI x2), (3, vI x3), (4, vI x4), (5, vI x5), (6, vI x6)] [vI x3] h)) ∧ (¬ (8 : Int32) ≤ x6 → ea_W mX12_feed d h0 rv hE 71 [(0, vR r0), (1, vI x1), (2, vI x2), (3, vI x3), (4, vI x4), (5, vI x5), (6, vI x6)] [vI x2] h)) ∧ (¬ (4 : Int32) ≤ x6 → ea_W mX12_feed d h0 rv hE 71 [(0, vR r0), (1, vI x1), (2, vI x2), (3, vI x3), (4, vI x4), (5, vI x5), (6, vI x6)] [vI x1] h))) : ea_W mX12_feed d h0 rv hE 18 [(0, vR r0), (1, vI x1), (2, vI x2), (3, vI x3), (4, vI x4), (5, vI x5), (6, vI x6)] [] h := by
  refine ea_iload (pc := 18) dX12_feed_18 6 rfl ?_
  refine ea_bipush (pc := 20) dX12_feed_20 (v := 20) rfl ?_
  refine ea_icmp_ge (pc := 22) (tgt := 115) dX12_feed_22 rfl (fun c9 => ?_) (fun c9 => ?_)
  · have H := H.1 c9
    refine ea_aload_n (pc := 115) dX12_feed_115 rfl 0 rfl ?_
    obtain ⟨a3, e4, f1, g2, H⟩ := H
    refine ea_deref0 e4 ?_
    refine ea_getI (pc := 116) dX12_feed_116 ec_12 (k := 52) (Nat.le_of_ble_eq_true rfl) rfl (Or.inl ew_1397) f1 g2 ?_
    obtain ⟨rfl, rfl⟩ := H
    exact ea_ireturn (pc := 119) dX12_feed_119 rfl rfl
  · have H := H.2 c9
    refine ea_iload (pc := 25) dX12_feed_25 6 rfl ?_
    refine ea_iconst (pc := 27) dX12_feed_27 (v := 4) rfl ?_
    refine ea_icmp_ge (pc := 28) (tgt := 35) dX12_feed_28 rfl (fun c8 => ?_) (fun c8 => ?_)
    · have H := H.1 c8
      refine ea_iload (pc := 35) dX12_feed_35 6 rfl ?_
      refine ea_bipush (pc := 37) dX12_feed_37 (v := 8) rfl ?_
      refine ea_icmp_ge (pc := 39) (tgt := 46) dX12_feed_39 rfl (fun c7 => ?_) (fun c7 => ?_)
      · have H := H.1 c7
        refine ea_iload (pc := 46) dX12_feed_46 6 rfl ?_
        refine ea_bipush (pc := 48) dX12_feed_48 (v := 12) rfl ?_
        refine ea_icmp_ge (pc := 50) (tgt := 57) dX12_feed_50 rfl (fun c6 => ?_) (fun c6 => ?_)
        · have H := H.1 c6
          refine ea_iload (pc := 57) dX12_feed_57 6 rfl ?_
          refine ea_bipush (pc := 59) dX12_feed_59 (v := 16) rfl ?_
          refine ea_icmp_ge (pc := 61) (tgt := 69) dX12_feed_61 rfl (fun c5 => ?_) (fun c5 => ?_)
          · have H := H.1 c5
            refine ea_iload (pc := 69) dX12_feed_69 5 rfl ?_
            exact H
          · have H := H.2 c5
            refine ea_iload (pc := 64) dX12_feed_64 4 rfl ?_
            refine ea_goto (pc := 66) (tgt := 71) dX12_feed_66 rfl ?_
            exact H
        · have H := H.2 c6
          refine ea_iload_n (pc := 53) dX12_feed_53 rfl 3 rfl ?_
          refine ea_goto (pc := 54) (tgt := 71) dX12_feed_54 rfl ?_
          exact H
      · have H := H.2 c7
        refine ea_iload_n (pc := 42) dX12_feed_42 rfl 2 rfl ?_
        refine ea_goto (pc := 43) (tgt := 71) dX12_feed_43 rfl ?_
        exact H
    · have H := H.2 c8
      refine ea_iload_n (pc := 31) dX12_feed_31 rfl 1 rfl ?_
      refine ea_goto (pc := 32) (tgt := 71) dX12_feed_32 rfl ?_
      exact H
theorem bX12_feed_71 {d : Nat} {h0 hE h : ea_H} {rv : Option ea_V} {r0 : Option Nat} {x1 : Int32} {x2 : Int32} {x3 : Int32} {x4 : Int32} {x5 : Int32} {x6 : Int32} {sx0 : Int32} (H : ∃ a3, r0 = some a3 ∧ a3 < ea_n h ∧ ea_c h a3 = 12 ∧ a3 < ea_n h ∧ ea_c h a3 = 12 ∧ ∃ a9, (ea_r h a3 41) = some a9 ∧ a9 < ea_n h ∧ ea_c h a9 = 20 ∧ vp_in (ea_i h a3 52) (ea_l h a9) ∧ ∀ h12, h12 = ea_wi h a9 (Int32.toNatClampNeg (ea_i h a3 52)) ((sx0 >>> (((24 : Int32) - ((8 : Int32) * (x6 - x6 / (4 : Int32) * (4 : Int32)))) &&& 31)) &&& (255 : Int32)) → a3 < ea_n h12 ∧ ea_c h12 a3 = 12 ∧ a3 < ea_n h12 ∧ ea_c h12 a3 = 12 ∧ ∀ h18, h18 = ea_wi h12 a3 52 ((ea_i h12 a3 52) + (1 : Int32)) → ea_W mX12_feed d h0 rv hE 18 [(0, vR r0), (1, vI x1), (2, vI x2), (3, vI x3), (4, vI x4), (5, vI x5), (6, vI (x6 + 1))] [] h18) : ea_W mX12_feed d h0 rv hE 71 [(0, vR r0), (1, vI x1), (2, vI x2), (3, vI x3), (4, vI x4), (5, vI x5), (6, vI x6)] [vI sx0] h := by
  refine ea_istore (pc := 71) (lv' := [(0, vR r0), (1, vI x1), (2, vI x2), (3, vI x3), (4, vI x4), (5, vI x5), (6, vI x6), (7, vI sx0)]) dX12_feed_71 (Nat.le_of_ble_eq_true rfl) [1, 2, 3, 4, 5, 6, 7, 0] rfl ?_
  refine ea_aload_n (pc := 73) dX12_feed_73 rfl 0 rfl ?_
  obtain ⟨a3, e4, f1, g2, H⟩ := H
  refine ea_deref0 e4 ?_
  refine ea_getR (pc := 74) dX12_feed_74 ec_12 (k := 41) (Nat.le_of_ble_eq_true rfl) rfl (Or.inl ew_1386) f1 g2 rfl ?_
  refine ea_aload_n (pc := 77) dX12_feed_77 rfl 0 rfl ?_
  obtain ⟨f5, g6, H⟩ := H
  refine ea_deref0 e4 ?_
  refine ea_getI (pc := 78) dX12_feed_78 ec_12 (k := 52) (Nat.le_of_ble_eq_true rfl) rfl (Or.inl ew_1397) f5 g6 ?_
  refine ea_iload (pc := 81) dX12_feed_81 7 rfl ?_
  refine ea_bipush (pc := 83) dX12_feed_83 (v := 24) rfl ?_
  refine ea_bipush (pc := 85) dX12_feed_85 (v := 8) rfl ?_
  refine ea_iload (pc := 87) dX12_feed_87 6 rfl ?_
  refine ea_iconst (pc := 89) dX12_feed_89 (v := 4) rfl ?_
  refine ea_irem (pc := 90) dX12_feed_90 (by decide) ?_
  refine ea_imul (pc := 91) dX12_feed_91 ?_
  refine ea_isub (pc := 92) dX12_feed_92 ?_
  refine ea_ishr (pc := 93) dX12_feed_93 ?_
  refine ea_sipush (pc := 94) dX12_feed_94 (v := 255) rfl ?_
  refine ea_iand (pc := 97) dX12_feed_97 ?_
  obtain ⟨a9, e10, f7, g8, H⟩ := H
  refine ea_deref2 e10 ?_
  obtain ⟨z11, H⟩ := H
  refine ea_iast (pc := 98) dX12_feed_98 f7 g8 z11 ?_
  obtain ⟨h12, E13⟩ : ∃ z, z = ea_wi h a9 (Int32.toNatClampNeg (ea_i h a3 52)) ((sx0 >>> (((24 : Int32) - ((8 : Int32) * (x6 - x6 / (4 : Int32) * (4 : Int32)))) &&& 31)) &&& (255 : Int32)) := ⟨_, rfl⟩
  have H := H h12 E13
  refine ea_nm E13 ?_
  refine ea_aload_n (pc := 99) dX12_feed_99 rfl 0 rfl ?_
  refine ea_dup (pc := 100) dX12_feed_100 rfl ?_
  obtain ⟨f14, g15, H⟩ := H
  refine ea_deref0 e4 ?_
  refine ea_getI (pc := 101) dX12_feed_101 ec_12 (k := 52) (Nat.le_of_ble_eq_true rfl) rfl (Or.inl ew_1397) f14 g15 ?_
  refine ea_iconst (pc := 104) dX12_feed_104 (v := 1) rfl ?_
  refine ea_iadd (pc := 105) dX12_feed_105 ?_
  obtain ⟨f16, g17, H⟩ := H
  refine ea_deref1 e4 ?_
  refine ea_putI (pc := 106) dX12_feed_106 ec_12 (k := 52) (Nat.le_of_ble_eq_true rfl) rfl (Or.inl ⟨rfl, Or.inl ew_1397⟩) rfl rfl f16 g17 ?_
  obtain ⟨h18, E19⟩ : ∃ z, z = ea_wi h12 a3 52 ((ea_i h12 a3 52) + (1 : Int32)) := ⟨_, rfl⟩
  have H := H h18 E19
  refine ea_nm E19 ?_
  refine ea_iinc (pc := 109) (v := 1) (lv' := [(0, vR r0), (1, vI x1), (2, vI x2), (3, vI x3), (4, vI x4), (5, vI x5), (6, vI (x6 + 1))]) dX12_feed_109 6 rfl rfl (Nat.le_of_ble_eq_true rfl) [1, 2, 3, 4, 5, 6, 0] rfl ?_
  refine ea_goto (pc := 112) (tgt := 18) dX12_feed_112 rfl ?_
  exact H
theorem dX12_end_0 : decode cX12_end 0 = .ok (.iload_n 1, 1) := by decide +kernel
theorem dX12_end_1 : decode cX12_end 1 = .ok (.iconst 0, 1) := by decide +kernel
theorem dX12_end_2 : decode cX12_end 2 = .ok (.aload_n 0, 1) := by decide +kernel
theorem dX12_end_3 : decode cX12_end 3 = .ok (.getfield 364, 3) := by decide +kernel
theorem dX12_end_6 : decode cX12_end 6 = .ok (.invokestatic 286, 3) := by decide +kernel
theorem dX12_end_9 : decode cX12_end 9 = .ok (.ifCond .ne 5, 3) := by decide +kernel
theorem dX12_end_12 : decode cX12_end 12 = .ok (.iconst 0, 1) := by decide +kernel
theorem dX12_end_13 : decode cX12_end 13 = .ok (.ireturn, 1) := by decide +kernel
theorem dX12_end_14 : decode cX12_end 14 = .ok (.aload_n 0, 1) := by decide +kernel
theorem dX12_end_15 : decode cX12_end 15 = .ok (.iload_n 1, 1) := by decide +kernel
theorem dX12_end_16 : decode cX12_end 16 = .ok (.putfield 364, 3) := by decide +kernel
theorem dX12_end_19 : decode cX12_end 19 = .ok (.iconst 1, 1) := by decide +kernel
theorem dX12_end_20 : decode cX12_end 20 = .ok (.ireturn, 1) := by decide +kernel
theorem bX12_end_0 {d : Nat} {h0 hE h : ea_H} {rv : Option ea_V} {r0 : Option Nat} {x1 : Int32} (H : ∃ a3, r0 = some a3 ∧ a3 < ea_n h ∧ ea_c h a3 = 12 ∧ ∃ (d5 : Nat) (xc9 : Int32) (h6 : ea_H), ea_Met mX12_isIn d5 [vI x1, vI 0, vI (ea_i h a3 52)] h (some (vI xc9)) h6 ∧ d5 + 1 ≤ d ∧ (¬ xc9 = (0 : Int32) → a3 < ea_n h6 ∧ ea_c h6 a3 = 12 ∧ ∀ h12, h12 = ea_wi h6 a3 52 x1 → rv = some (vI 1) ∧ hE = h12) ∧ (xc9 = (0 : Int32) → rv = some (vI 0) ∧ hE = h6)) : ea_W mX12_end d h0 rv hE 0 [(0, vR r0), (1, vI x1)] [] h := by
  refine ea_iload_n (pc := 0) dX12_end_0 rfl 1 rfl ?_
  refine ea_iconst (pc := 1) dX12_end_1 (v := 0) rfl ?_
  refine ea_aload_n (pc := 2) dX12_end_2 rfl 0 rfl ?_
  obtain ⟨a3, e4, f1, g2, H⟩ := H
  refine ea_deref0 e4 ?_
  refine ea_getI (pc := 3) dX12_end_3 ec_12 (k := 52) (Nat.le_of_ble_eq_true rfl) rfl (Or.inl ew_1397) f1 g2 ?_
  obtain ⟨d5, xc9, h6, m7, q8, H⟩ := H
  refine ea_callS (pc := 6) (As := [vI x1, vI 0, vI (ea_i h a3 52)]) (st := []) dX12_end_6 kX12_isIn m7 q8 rfl (Nat.le_of_ble_eq_true rfl) ew_1712 ew_1713 ?_
  refine ea_if_ne (pc := 9) (tgt := 14) dX12_end_9 rfl (fun c14 => ?_) (fun c14 => ?_)
  · have H := H.1 c14
    refine ea_aload_n (pc := 14) dX12_end_14 rfl 0 rfl ?_
    refine ea_iload_n (pc := 15) dX12_end_15 rfl 1 rfl ?_
    obtain ⟨f10, g11, H⟩ := H
    refine ea_deref1 e4 ?_
    refine ea_putI (pc := 16) dX12_end_16 ec_12 (k := 52) (Nat.le_of_ble_eq_true rfl) rfl (Or.inl ⟨rfl, Or.inl ew_1397⟩) rfl rfl f10 g11 ?_
    obtain ⟨h12, E13⟩ : ∃ z, z = ea_wi h6 a3 52 x1 := ⟨_, rfl⟩
    have H := H h12 E13
    refine ea_nm E13 ?_
    refine ea_iconst (pc := 19) dX12_end_19 (v := 1) rfl ?_
    obtain ⟨rfl, rfl⟩ := H
    exact ea_ireturn (pc := 20) dX12_end_20 rfl (ea_bn (Or.inr rfl))
  · have H := H.2 c14
    refine ea_iconst (pc := 12) dX12_end_12 (v := 0) rfl ?_
    obtain ⟨rfl, rfl⟩ := H
    exact ea_ireturn (pc := 13) dX12_end_13 rfl (ea_bn (Or.inl rfl))
theorem dX12_see_0 : decode cX12_see 0 = .ok (.iload_n 1, 1) := by decide +kernel
theorem dX12_see_1 : decode cX12_see 1 = .ok (.aload_n 0, 1) := by decide +kernel
theorem dX12_see_2 : decode cX12_see 2 = .ok (.getfield 364, 3) := by decide +kernel
theorem dX12_see_5 : decode cX12_see 5 = .ok (.if_icmp .ge 12, 3) := by decide +kernel
theorem dX12_see_8 : decode cX12_see 8 = .ok (.aload_n 0, 1) := by decide +kernel
theorem dX12_see_9 : decode cX12_see 9 = .ok (.getfield 116, 3) := by decide +kernel
theorem dX12_see_12 : decode cX12_see 12 = .ok (.iload_n 1, 1) := by decide +kernel
theorem dX12_see_13 : decode cX12_see 13 = .ok (.iaload, 1) := by decide +kernel
theorem dX12_see_14 : decode cX12_see 14 = .ok (.goto 4, 3) := by decide +kernel
theorem dX12_see_17 : decode cX12_see 17 = .ok (.iconst (-1), 1) := by decide +kernel
theorem dX12_see_18 : decode cX12_see 18 = .ok (.ireturn, 1) := by decide +kernel
theorem bX12_see_0 {d : Nat} {h0 hE h : ea_H} {rv : Option ea_V} {r0 : Option Nat} {x1 : Int32} (H : ∃ a3, r0 = some a3 ∧ a3 < ea_n h ∧ ea_c h a3 = 12 ∧ ((ea_i h a3 52) ≤ x1 → rv = some (vI (-1)) ∧ hE = h) ∧ (¬ (ea_i h a3 52) ≤ x1 → a3 < ea_n h ∧ ea_c h a3 = 12 ∧ ∃ a9, (ea_r h a3 41) = some a9 ∧ a9 < ea_n h ∧ ea_c h a9 = 20 ∧ vp_in x1 (ea_l h a9) ∧ rv = some (vI (ea_i h a9 (Int32.toNatClampNeg x1))) ∧ hE = h)) : ea_W mX12_see d h0 rv hE 0 [(0, vR r0), (1, vI x1)] [] h := by
  refine ea_iload_n (pc := 0) dX12_see_0 rfl 1 rfl ?_
  refine ea_aload_n (pc := 1) dX12_see_1 rfl 0 rfl ?_
  obtain ⟨a3, e4, f1, g2, H⟩ := H
  refine ea_deref0 e4 ?_
  refine ea_getI (pc := 2) dX12_see_2 ec_12 (k := 52) (Nat.le_of_ble_eq_true rfl) rfl (Or.inl ew_1397) f1 g2 ?_
  refine ea_icmp_ge (pc := 5) (tgt := 17) dX12_see_5 rfl (fun c12 => ?_) (fun c12 => ?_)
  · have H := H.1 c12
    refine ea_iconst (pc := 17) dX12_see_17 (v := (-1)) rfl ?_
    obtain ⟨rfl, rfl⟩ := H
    exact ea_ireturn (pc := 18) dX12_see_18 rfl rfl
  · have H := H.2 c12
    refine ea_aload_n (pc := 8) dX12_see_8 rfl 0 rfl ?_
    obtain ⟨f5, g6, H⟩ := H
    refine ea_deref0 e4 ?_
    refine ea_getR (pc := 9) dX12_see_9 ec_12 (k := 41) (Nat.le_of_ble_eq_true rfl) rfl (Or.inl ew_1386) f5 g6 rfl ?_
    refine ea_iload_n (pc := 12) dX12_see_12 rfl 1 rfl ?_
    obtain ⟨a9, e10, f7, g8, H⟩ := H
    refine ea_deref1 e10 ?_
    obtain ⟨z11, H⟩ := H
    refine ea_iald (pc := 13) dX12_see_13 f7 g8 z11 ?_
    refine ea_goto (pc := 14) (tgt := 18) dX12_see_14 rfl ?_
    obtain ⟨rfl, rfl⟩ := H
    exact ea_ireturn (pc := 18) dX12_see_18 rfl rfl
theorem dX12_isLetter_0 : decode cX12_isLetter 0 = .ok (.iload_n 0, 1) := by decide +kernel
theorem dX12_isLetter_1 : decode cX12_isLetter 1 = .ok (.bipush 97, 2) := by decide +kernel
theorem dX12_isLetter_3 : decode cX12_isLetter 3 = .ok (.bipush 122, 2) := by decide +kernel
theorem dX12_isLetter_5 : decode cX12_isLetter 5 = .ok (.invokestatic 286, 3) := by decide +kernel
theorem dX12_isLetter_8 : decode cX12_isLetter 8 = .ok (.ifCond .ne 14, 3) := by decide +kernel
theorem dX12_isLetter_11 : decode cX12_isLetter 11 = .ok (.iload_n 0, 1) := by decide +kernel
theorem dX12_isLetter_12 : decode cX12_isLetter 12 = .ok (.bipush 65, 2) := by decide +kernel
theorem dX12_isLetter_14 : decode cX12_isLetter 14 = .ok (.bipush 90, 2) := by decide +kernel
theorem dX12_isLetter_16 : decode cX12_isLetter 16 = .ok (.invokestatic 286, 3) := by decide +kernel
theorem dX12_isLetter_19 : decode cX12_isLetter 19 = .ok (.ifCond .eq 7, 3) := by decide +kernel
theorem dX12_isLetter_22 : decode cX12_isLetter 22 = .ok (.iconst 1, 1) := by decide +kernel
theorem dX12_isLetter_23 : decode cX12_isLetter 23 = .ok (.goto 4, 3) := by decide +kernel
theorem dX12_isLetter_26 : decode cX12_isLetter 26 = .ok (.iconst 0, 1) := by decide +kernel
theorem dX12_isLetter_27 : decode cX12_isLetter 27 = .ok (.ireturn, 1) := by decide +kernel
theorem bX12_isLetter_0 {d : Nat} {h0 hE h : ea_H} {rv : Option ea_V} {x0 : Int32} (H : ∃ (d1 : Nat) (xc5 : Int32) (h2 : ea_H), ea_Met mX12_isIn d1 [vI x0, vI 97, vI 122] h (some (vI xc5)) h2 ∧ d1 + 1 ≤ d ∧ (¬ xc5 = (0 : Int32) → rv = some (vI 1) ∧ hE = h2) ∧ (xc5 = (0 : Int32) → ∃ (d6 : Nat) (xc10 : Int32) (h7 : ea_H), ea_Met mX12_isIn d6 [vI x0, vI 65, vI 90] h2 (some (vI xc10)) h7 ∧ d6 + 1 ≤ d ∧ (xc10 = (0 : Int32) → rv = some (vI 0) ∧ hE = h7) ∧ (¬ xc10 = (0 : Int32) → rv = some (vI 1) ∧ hE = h7))) : ea_W mX12_isLetter d h0 rv hE 0 [(0, vI x0)] [] h := by
  refine ea_iload_n (pc := 0) dX12_isLetter_0 rfl 0 rfl ?_
  refine ea_bipush (pc := 1) dX12_isLetter_1 (v := 97) rfl ?_
  refine ea_bipush (pc := 3) dX12_isLetter_3 (v := 122) rfl ?_
  obtain ⟨d1, xc5, h2, m3, q4, H⟩ := H
  refine ea_callS (pc := 5) (As := [vI x0, vI 97, vI 122]) (st := []) dX12_isLetter_5 kX12_isIn m3 q4 rfl (Nat.le_of_ble_eq_true rfl) ew_1712 ew_1713 ?_
  refine ea_if_ne (pc := 8) (tgt := 22) dX12_isLetter_8 rfl (fun c12 => ?_) (fun c12 => ?_)
  · have H := H.1 c12
    refine ea_iconst (pc := 22) dX12_isLetter_22 (v := 1) rfl ?_
    refine ea_goto (pc := 23) (tgt := 27) dX12_isLetter_23 rfl ?_
    obtain ⟨rfl, rfl⟩ := H
    exact ea_ireturn (pc := 27) dX12_isLetter_27 rfl (ea_bn (Or.inr rfl))
  · have H := H.2 c12
    refine ea_iload_n (pc := 11) dX12_isLetter_11 rfl 0 rfl ?_
    refine ea_bipush (pc := 12) dX12_isLetter_12 (v := 65) rfl ?_
    refine ea_bipush (pc := 14) dX12_isLetter_14 (v := 90) rfl ?_
    obtain ⟨d6, xc10, h7, m8, q9, H⟩ := H
    refine ea_callS (pc := 16) (As := [vI x0, vI 65, vI 90]) (st := []) dX12_isLetter_16 kX12_isIn m8 q9 rfl (Nat.le_of_ble_eq_true rfl) ew_1712 ew_1713 ?_
    refine ea_if_eq (pc := 19) (tgt := 26) dX12_isLetter_19 rfl (fun c11 => ?_) (fun c11 => ?_)
    · have H := H.1 c11
      refine ea_iconst (pc := 26) dX12_isLetter_26 (v := 0) rfl ?_
      obtain ⟨rfl, rfl⟩ := H
      exact ea_ireturn (pc := 27) dX12_isLetter_27 rfl (ea_bn (Or.inl rfl))
    · have H := H.2 c11
      refine ea_iconst (pc := 22) dX12_isLetter_22 (v := 1) rfl ?_
      refine ea_goto (pc := 23) (tgt := 27) dX12_isLetter_23 rfl ?_
      obtain ⟨rfl, rfl⟩ := H
      exact ea_ireturn (pc := 27) dX12_isLetter_27 rfl (ea_bn (Or.inr rfl))
theorem dX12_isDigit_0 : decode cX12_isDigit 0 = .ok (.iload_n 0, 1) := by decide +kernel
theorem dX12_isDigit_1 : decode cX12_isDigit 1 = .ok (.bipush 48, 2) := by decide +kernel
theorem dX12_isDigit_3 : decode cX12_isDigit 3 = .ok (.bipush 57, 2) := by decide +kernel
theorem dX12_isDigit_5 : decode cX12_isDigit 5 = .ok (.invokestatic 286, 3) := by decide +kernel
theorem dX12_isDigit_8 : decode cX12_isDigit 8 = .ok (.ireturn, 1) := by decide +kernel
theorem bX12_isDigit_0 {d : Nat} {h0 hE h : ea_H} {rv : Option ea_V} {x0 : Int32} (H : ∃ (d1 : Nat) (xc5 : Int32) (h2 : ea_H), ea_Met mX12_isIn d1 [vI x0, vI 48, vI 57] h (some (vI xc5)) h2 ∧ d1 + 1 ≤ d ∧ (xc5 = 0 ∨ xc5 = 1) ∧ rv = some (vI xc5) ∧ hE = h2) : ea_W mX12_isDigit d h0 rv hE 0 [(0, vI x0)] [] h := by
  refine ea_iload_n (pc := 0) dX12_isDigit_0 rfl 0 rfl ?_
  refine ea_bipush (pc := 1) dX12_isDigit_1 (v := 48) rfl ?_
  refine ea_bipush (pc := 3) dX12_isDigit_3 (v := 57) rfl ?_
  obtain ⟨d1, xc5, h2, m3, q4, H⟩ := H
  refine ea_callS (pc := 5) (As := [vI x0, vI 48, vI 57]) (st := []) dX12_isDigit_5 kX12_isIn m3 q4 rfl (Nat.le_of_ble_eq_true rfl) ew_1712 ew_1713 ?_
  obtain ⟨z6, rfl, rfl⟩ := H
  exact ea_ireturn (pc := 8) dX12_isDigit_8 rfl (ea_bn z6)
theorem dX12_is_0 : decode cX12_is 0 = .ok (.aload_n 0, 1) := by decide +kernel
theorem dX12_is_1 : decode cX12_is 1 = .ok (.getfield 367, 3) := by decide +kernel
theorem dX12_is_4 : decode cX12_is 4 = .ok (.aload_n 0, 1) := by decide +kernel
theorem dX12_is_5 : decode cX12_is 5 = .ok (.getfield 370, 3) := by decide +kernel
theorem dX12_is_8 : decode cX12_is 8 = .ok (.isub, 1) := by decide +kernel
theorem dX12_is_9 : decode cX12_is 9 = .ok (.aload_n 1, 1) := by decide +kernel
theorem dX12_is_10 : decode cX12_is 10 = .ok (.invokevirtual 373, 3) := by decide +kernel
theorem dX12_is_13 : decode cX12_is 13 = .ok (.if_icmp .ne 7, 3) := by decide +kernel
theorem dX12_is_16 : decode cX12_is 16 = .ok (.iconst 1, 1) := by decide +kernel
theorem dX12_is_17 : decode cX12_is 17 = .ok (.goto 4, 3) := by decide +kernel
theorem dX12_is_20 : decode cX12_is 20 = .ok (.iconst 0, 1) := by decide +kernel
theorem dX12_is_21 : decode cX12_is 21 = .ok (.istore_n 2, 1) := by decide +kernel
theorem dX12_is_22 : decode cX12_is 22 = .ok (.iconst 0, 1) := by decide +kernel
theorem dX12_is_23 : decode cX12_is 23 = .ok (.istore_n 3, 1) := by decide +kernel
theorem dX12_is_24 : decode cX12_is 24 = .ok (.iload_n 3, 1) := by decide +kernel
theorem dX12_is_25 : decode cX12_is 25 = .ok (.aload_n 1, 1) := by decide +kernel
theorem dX12_is_26 : decode cX12_is 26 = .ok (.invokevirtual 373, 3) := by decide +kernel
theorem dX12_is_29 : decode cX12_is 29 = .ok (.if_icmp .ge 38, 3) := by decide +kernel
theorem dX12_is_32 : decode cX12_is 32 = .ok (.iload_n 2, 1) := by decide +kernel
theorem dX12_is_33 : decode cX12_is 33 = .ok (.ifCond .eq 34, 3) := by decide +kernel
theorem dX12_is_36 : decode cX12_is 36 = .ok (.aload_n 0, 1) := by decide +kernel
theorem dX12_is_37 : decode cX12_is 37 = .ok (.getfield 116, 3) := by decide +kernel
theorem dX12_is_40 : decode cX12_is 40 = .ok (.aload_n 0, 1) := by decide +kernel
theorem dX12_is_41 : decode cX12_is 41 = .ok (.getfield 370, 3) := by decide +kernel
theorem dX12_is_44 : decode cX12_is 44 = .ok (.iload_n 3, 1) := by decide +kernel
theorem dX12_is_45 : decode cX12_is 45 = .ok (.iadd, 1) := by decide +kernel
theorem dX12_is_46 : decode cX12_is 46 = .ok (.iaload, 1) := by decide +kernel
theorem dX12_is_47 : decode cX12_is 47 = .ok (.aload_n 1, 1) := by decide +kernel
theorem dX12_is_48 : decode cX12_is 48 = .ok (.iload_n 3, 1) := by decide +kernel
theorem dX12_is_49 : decode cX12_is 49 = .ok (.invokevirtual 379, 3) := by decide +kernel
theorem dX12_is_52 : decode cX12_is 52 = .ok (.if_icmp .ne 7, 3) := by decide +kernel
theorem dX12_is_55 : decode cX12_is 55 = .ok (.iconst 1, 1) := by decide +kernel
theorem dX12_is_56 : decode cX12_is 56 = .ok (.goto 4, 3) := by decide +kernel
theorem dX12_is_59 : decode cX12_is 59 = .ok (.iconst 0, 1) := by decide +kernel
theorem dX12_is_60 : decode cX12_is 60 = .ok (.istore_n 2, 1) := by decide +kernel
theorem dX12_is_61 : decode cX12_is 61 = .ok (.iinc 3 1, 3) := by decide +kernel
theorem dX12_is_64 : decode cX12_is 64 = .ok (.goto (-40), 3) := by decide +kernel
theorem dX12_is_67 : decode cX12_is 67 = .ok (.iload_n 2, 1) := by decide +kernel
theorem dX12_is_68 : decode cX12_is 68 = .ok (.ireturn, 1) := by decide +kernel
theorem bX12_is_0 {d : Nat} {h0 hE h : ea_H} {rv : Option ea_V} {r0 : Option Nat} {r1 : Option Nat} (H : ∃ a3, r0 = some a3 ∧ a3 < ea_n h ∧ ea_c h a3 = 12 ∧ a3 < ea_n h ∧ ea_c h a3 = 12 ∧ False) : ea_W mX12_is d h0 rv hE 0 [(0, vR r0), (1, vR r1)] [] h := by
  refine ea_aload_n (pc := 0) dX12_is_0 rfl 0 rfl ?_
  obtain ⟨a3, e4, f1, g2, H⟩ := H
  refine ea_deref0 e4 ?_
  refine ea_getI (pc := 1) dX12_is_1 ec_12 (k := 53) (Nat.le_of_ble_eq_true rfl) rfl (Or.inl ew_1398) f1 g2 ?_
  refine ea_aload_n (pc := 4) dX12_is_4 rfl 0 rfl ?_
  obtain ⟨f5, g6, H⟩ := H
  refine ea_deref0 e4 ?_
  refine ea_getI (pc := 5) dX12_is_5 ec_12 (k := 55) (Nat.le_of_ble_eq_true rfl) rfl (Or.inl ew_1400) f5 g6 ?_
  refine ea_isub (pc := 8) dX12_is_8 ?_
  refine ea_aload_n (pc := 9) dX12_is_9 rfl 1 rfl ?_
  exact H.elim
theorem bX12_is_24 {d : Nat} {h0 hE h : ea_H} {rv : Option ea_V} {r0 : Option Nat} {r1 : Option Nat} {x2 : Int32} {x3 : Int32} (H : False) : ea_W mX12_is d h0 rv hE 24 [(0, vR r0), (1, vR r1), (2, vI x2), (3, vI x3)] [] h := by
  refine ea_iload_n (pc := 24) dX12_is_24 rfl 3 rfl ?_
  refine ea_aload_n (pc := 25) dX12_is_25 rfl 1 rfl ?_
  exact H.elim
theorem dX12_word_0 : decode cX12_word 0 = .ok (.aload_n 0, 1) := by decide +kernel
theorem dX12_word_1 : decode cX12_word 1 = .ok (.ldc_w 383, 3) := by decide +kernel
theorem dX12_word_4 : decode cX12_word 4 = .ok (.invokevirtual 385, 3) := by decide +kernel
theorem dX12_word_7 : decode cX12_word 7 = .ok (.ifCond .eq 5, 3) := by decide +kernel
theorem dX12_word_10 : decode cX12_word 10 = .ok (.iconst 3, 1) := by decide +kernel
theorem dX12_word_11 : decode cX12_word 11 = .ok (.ireturn, 1) := by decide +kernel
theorem dX12_word_12 : decode cX12_word 12 = .ok (.aload_n 0, 1) := by decide +kernel
theorem dX12_word_13 : decode cX12_word 13 = .ok (.ldc_w 389, 3) := by decide +kernel
theorem dX12_word_16 : decode cX12_word 16 = .ok (.invokevirtual 385, 3) := by decide +kernel
theorem dX12_word_19 : decode cX12_word 19 = .ok (.ifCond .eq 5, 3) := by decide +kernel
theorem dX12_word_22 : decode cX12_word 22 = .ok (.iconst 4, 1) := by decide +kernel
theorem dX12_word_23 : decode cX12_word 23 = .ok (.ireturn, 1) := by decide +kernel
theorem dX12_word_24 : decode cX12_word 24 = .ok (.aload_n 0, 1) := by decide +kernel
theorem dX12_word_25 : decode cX12_word 25 = .ok (.ldc_w 390, 3) := by decide +kernel
theorem dX12_word_28 : decode cX12_word 28 = .ok (.invokevirtual 385, 3) := by decide +kernel
theorem dX12_word_31 : decode cX12_word 31 = .ok (.ifCond .eq 5, 3) := by decide +kernel
theorem dX12_word_34 : decode cX12_word 34 = .ok (.iconst 5, 1) := by decide +kernel
theorem dX12_word_35 : decode cX12_word 35 = .ok (.ireturn, 1) := by decide +kernel
theorem dX12_word_36 : decode cX12_word 36 = .ok (.aload_n 0, 1) := by decide +kernel
theorem dX12_word_37 : decode cX12_word 37 = .ok (.ldc_w 392, 3) := by decide +kernel
theorem dX12_word_40 : decode cX12_word 40 = .ok (.invokevirtual 385, 3) := by decide +kernel
theorem dX12_word_43 : decode cX12_word 43 = .ok (.ifCond .eq 6, 3) := by decide +kernel
theorem dX12_word_46 : decode cX12_word 46 = .ok (.bipush 6, 2) := by decide +kernel
theorem dX12_word_48 : decode cX12_word 48 = .ok (.ireturn, 1) := by decide +kernel
theorem dX12_word_49 : decode cX12_word 49 = .ok (.aload_n 0, 1) := by decide +kernel
theorem dX12_word_50 : decode cX12_word 50 = .ok (.ldc_w 394, 3) := by decide +kernel
theorem dX12_word_53 : decode cX12_word 53 = .ok (.invokevirtual 385, 3) := by decide +kernel
theorem dX12_word_56 : decode cX12_word 56 = .ok (.ifCond .eq 6, 3) := by decide +kernel
theorem dX12_word_59 : decode cX12_word 59 = .ok (.bipush 7, 2) := by decide +kernel
theorem dX12_word_61 : decode cX12_word 61 = .ok (.ireturn, 1) := by decide +kernel
theorem dX12_word_62 : decode cX12_word 62 = .ok (.aload_n 0, 1) := by decide +kernel
theorem dX12_word_63 : decode cX12_word 63 = .ok (.ldc_w 396, 3) := by decide +kernel
theorem dX12_word_66 : decode cX12_word 66 = .ok (.invokevirtual 385, 3) := by decide +kernel
theorem dX12_word_69 : decode cX12_word 69 = .ok (.ifCond .eq 6, 3) := by decide +kernel
theorem dX12_word_72 : decode cX12_word 72 = .ok (.bipush 8, 2) := by decide +kernel
theorem dX12_word_74 : decode cX12_word 74 = .ok (.ireturn, 1) := by decide +kernel
theorem dX12_word_75 : decode cX12_word 75 = .ok (.aload_n 0, 1) := by decide +kernel
theorem dX12_word_76 : decode cX12_word 76 = .ok (.ldc_w 398, 3) := by decide +kernel
theorem dX12_word_79 : decode cX12_word 79 = .ok (.invokevirtual 385, 3) := by decide +kernel
theorem dX12_word_82 : decode cX12_word 82 = .ok (.ifCond .eq 6, 3) := by decide +kernel
theorem dX12_word_85 : decode cX12_word 85 = .ok (.bipush 9, 2) := by decide +kernel
theorem dX12_word_87 : decode cX12_word 87 = .ok (.ireturn, 1) := by decide +kernel
theorem dX12_word_88 : decode cX12_word 88 = .ok (.aload_n 0, 1) := by decide +kernel
theorem dX12_word_89 : decode cX12_word 89 = .ok (.ldc_w 400, 3) := by decide +kernel
theorem dX12_word_92 : decode cX12_word 92 = .ok (.invokevirtual 385, 3) := by decide +kernel
theorem dX12_word_95 : decode cX12_word 95 = .ok (.ifCond .eq 6, 3) := by decide +kernel
theorem dX12_word_98 : decode cX12_word 98 = .ok (.bipush 10, 2) := by decide +kernel
theorem dX12_word_100 : decode cX12_word 100 = .ok (.ireturn, 1) := by decide +kernel
theorem dX12_word_101 : decode cX12_word 101 = .ok (.aload_n 0, 1) := by decide +kernel
theorem dX12_word_102 : decode cX12_word 102 = .ok (.ldc_w 401, 3) := by decide +kernel
theorem dX12_word_105 : decode cX12_word 105 = .ok (.invokevirtual 385, 3) := by decide +kernel
theorem dX12_word_108 : decode cX12_word 108 = .ok (.ifCond .eq 6, 3) := by decide +kernel
theorem dX12_word_111 : decode cX12_word 111 = .ok (.bipush 11, 2) := by decide +kernel
theorem dX12_word_113 : decode cX12_word 113 = .ok (.ireturn, 1) := by decide +kernel
theorem dX12_word_114 : decode cX12_word 114 = .ok (.aload_n 0, 1) := by decide +kernel
theorem dX12_word_115 : decode cX12_word 115 = .ok (.ldc_w 403, 3) := by decide +kernel
theorem dX12_word_118 : decode cX12_word 118 = .ok (.invokevirtual 385, 3) := by decide +kernel
theorem dX12_word_121 : decode cX12_word 121 = .ok (.ifCond .eq 6, 3) := by decide +kernel
theorem dX12_word_124 : decode cX12_word 124 = .ok (.bipush 12, 2) := by decide +kernel
theorem dX12_word_126 : decode cX12_word 126 = .ok (.ireturn, 1) := by decide +kernel
theorem dX12_word_127 : decode cX12_word 127 = .ok (.aload_n 0, 1) := by decide +kernel
theorem dX12_word_128 : decode cX12_word 128 = .ok (.ldc_w 405, 3) := by decide +kernel
theorem dX12_word_131 : decode cX12_word 131 = .ok (.invokevirtual 385, 3) := by decide +kernel
theorem dX12_word_134 : decode cX12_word 134 = .ok (.ifCond .eq 6, 3) := by decide +kernel
theorem dX12_word_137 : decode cX12_word 137 = .ok (.bipush 13, 2) := by decide +kernel
theorem dX12_word_139 : decode cX12_word 139 = .ok (.ireturn, 1) := by decide +kernel
theorem dX12_word_140 : decode cX12_word 140 = .ok (.aload_n 0, 1) := by decide +kernel
theorem dX12_word_141 : decode cX12_word 141 = .ok (.ldc_w 407, 3) := by decide +kernel
theorem dX12_word_144 : decode cX12_word 144 = .ok (.invokevirtual 385, 3) := by decide +kernel
theorem dX12_word_147 : decode cX12_word 147 = .ok (.ifCond .eq 7, 3) := by decide +kernel
theorem dX12_word_150 : decode cX12_word 150 = .ok (.sipush 201, 3) := by decide +kernel
theorem dX12_word_153 : decode cX12_word 153 = .ok (.ireturn, 1) := by decide +kernel
theorem dX12_word_154 : decode cX12_word 154 = .ok (.aload_n 0, 1) := by decide +kernel
theorem dX12_word_155 : decode cX12_word 155 = .ok (.ldc_w 409, 3) := by decide +kernel
theorem dX12_word_158 : decode cX12_word 158 = .ok (.invokevirtual 385, 3) := by decide +kernel
theorem dX12_word_161 : decode cX12_word 161 = .ok (.ifCond .eq 7, 3) := by decide +kernel
theorem dX12_word_164 : decode cX12_word 164 = .ok (.sipush 202, 3) := by decide +kernel
theorem dX12_word_167 : decode cX12_word 167 = .ok (.ireturn, 1) := by decide +kernel
theorem dX12_word_168 : decode cX12_word 168 = .ok (.aload_n 0, 1) := by decide +kernel
theorem dX12_word_169 : decode cX12_word 169 = .ok (.ldc_w 410, 3) := by decide +kernel
theorem dX12_word_172 : decode cX12_word 172 = .ok (.invokevirtual 385, 3) := by decide +kernel
theorem dX12_word_175 : decode cX12_word 175 = .ok (.ifCond .eq 7, 3) := by decide +kernel
theorem dX12_word_178 : decode cX12_word 178 = .ok (.sipush 203, 3) := by decide +kernel
theorem dX12_word_181 : decode cX12_word 181 = .ok (.ireturn, 1) := by decide +kernel
theorem dX12_word_182 : decode cX12_word 182 = .ok (.aload_n 0, 1) := by decide +kernel
theorem dX12_word_183 : decode cX12_word 183 = .ok (.ldc_w 411, 3) := by decide +kernel
theorem dX12_word_186 : decode cX12_word 186 = .ok (.invokevirtual 385, 3) := by decide +kernel
theorem dX12_word_189 : decode cX12_word 189 = .ok (.ifCond .eq 7, 3) := by decide +kernel
theorem dX12_word_192 : decode cX12_word 192 = .ok (.sipush 204, 3) := by decide +kernel
theorem dX12_word_195 : decode cX12_word 195 = .ok (.ireturn, 1) := by decide +kernel
theorem dX12_word_196 : decode cX12_word 196 = .ok (.aload_n 0, 1) := by decide +kernel
theorem dX12_word_197 : decode cX12_word 197 = .ok (.ldc_w 413, 3) := by decide +kernel
theorem dX12_word_200 : decode cX12_word 200 = .ok (.invokevirtual 385, 3) := by decide +kernel
theorem dX12_word_203 : decode cX12_word 203 = .ok (.ifCond .eq 7, 3) := by decide +kernel
theorem dX12_word_206 : decode cX12_word 206 = .ok (.sipush 205, 3) := by decide +kernel
theorem dX12_word_209 : decode cX12_word 209 = .ok (.ireturn, 1) := by decide +kernel
theorem dX12_word_210 : decode cX12_word 210 = .ok (.aload_n 0, 1) := by decide +kernel
theorem dX12_word_211 : decode cX12_word 211 = .ok (.ldc_w 415, 3) := by decide +kernel
theorem dX12_word_214 : decode cX12_word 214 = .ok (.invokevirtual 385, 3) := by decide +kernel
theorem dX12_word_217 : decode cX12_word 217 = .ok (.ifCond .eq 7, 3) := by decide +kernel
theorem dX12_word_220 : decode cX12_word 220 = .ok (.sipush 206, 3) := by decide +kernel
theorem dX12_word_223 : decode cX12_word 223 = .ok (.ireturn, 1) := by decide +kernel
theorem dX12_word_224 : decode cX12_word 224 = .ok (.aload_n 0, 1) := by decide +kernel
theorem dX12_word_225 : decode cX12_word 225 = .ok (.ldc_w 416, 3) := by decide +kernel
theorem dX12_word_228 : decode cX12_word 228 = .ok (.invokevirtual 385, 3) := by decide +kernel
theorem dX12_word_231 : decode cX12_word 231 = .ok (.ifCond .eq 9, 3) := by decide +kernel
theorem dX12_word_234 : decode cX12_word 234 = .ok (.sipush 207, 3) := by decide +kernel
theorem dX12_word_237 : decode cX12_word 237 = .ok (.goto 4, 3) := by decide +kernel
theorem dX12_word_240 : decode cX12_word 240 = .ok (.iconst 1, 1) := by decide +kernel
theorem dX12_word_241 : decode cX12_word 241 = .ok (.ireturn, 1) := by decide +kernel
theorem bX12_word_0 {d : Nat} {h0 hE h : ea_H} {rv : Option ea_V} {r0 : Option Nat} (H : False) : ea_W mX12_word d h0 rv hE 0 [(0, vR r0)] [] h := by
  refine ea_aload_n (pc := 0) dX12_word_0 rfl 0 rfl ?_
  exact H.elim
theorem dX12_next0_0 : decode cX12_next0 0 = .ok (.aload_n 0, 1) := by decide +kernel
theorem dX12_next0_1 : decode cX12_next0 1 = .ok (.aload_n 0, 1) := by decide +kernel
theorem dX12_next0_2 : decode cX12_next0 2 = .ok (.getfield 367, 3) := by decide +kernel
theorem dX12_next0_5 : decode cX12_next0 5 = .ok (.invokevirtual 418, 3) := by decide +kernel
theorem dX12_next0_8 : decode cX12_next0 8 = .ok (.bipush 32, 2) := by decide +kernel
theorem dX12_next0_10 : decode cX12_next0 10 = .ok (.if_icmp .eq 16, 3) := by decide +kernel
theorem dX12_next0_13 : decode cX12_next0 13 = .ok (.aload_n 0, 1) := by decide +kernel
theorem dX12_next0_14 : decode cX12_next0 14 = .ok (.aload_n 0, 1) := by decide +kernel
theorem dX12_next0_15 : decode cX12_next0 15 = .ok (.getfield 367, 3) := by decide +kernel
theorem dX12_next0_18 : decode cX12_next0 18 = .ok (.invokevirtual 418, 3) := by decide +kernel
theorem dX12_next0_21 : decode cX12_next0 21 = .ok (.bipush 10, 2) := by decide +kernel
theorem dX12_next0_23 : decode cX12_next0 23 = .ok (.if_icmp .ne 16, 3) := by decide +kernel
theorem dX12_next0_26 : decode cX12_next0 26 = .ok (.aload_n 0, 1) := by decide +kernel
theorem dX12_next0_27 : decode cX12_next0 27 = .ok (.dup, 1) := by decide +kernel
theorem dX12_next0_28 : decode cX12_next0 28 = .ok (.getfield 367, 3) := by decide +kernel
theorem dX12_next0_31 : decode cX12_next0 31 = .ok (.iconst 1, 1) := by decide +kernel
theorem dX12_next0_32 : decode cX12_next0 32 = .ok (.iadd, 1) := by decide +kernel
theorem dX12_next0_33 : decode cX12_next0 33 = .ok (.putfield 367, 3) := by decide +kernel
theorem dX12_next0_36 : decode cX12_next0 36 = .ok (.goto (-36), 3) := by decide +kernel
theorem dX12_next0_39 : decode cX12_next0 39 = .ok (.aload_n 0, 1) := by decide +kernel
theorem dX12_next0_40 : decode cX12_next0 40 = .ok (.aload_n 0, 1) := by decide +kernel
theorem dX12_next0_41 : decode cX12_next0 41 = .ok (.getfield 367, 3) := by decide +kernel
theorem dX12_next0_44 : decode cX12_next0 44 = .ok (.putfield 370, 3) := by decide +kernel
theorem dX12_next0_47 : decode cX12_next0 47 = .ok (.aload_n 0, 1) := by decide +kernel
theorem dX12_next0_48 : decode cX12_next0 48 = .ok (.aload_n 0, 1) := by decide +kernel
theorem dX12_next0_49 : decode cX12_next0 49 = .ok (.getfield 367, 3) := by decide +kernel
theorem dX12_next0_52 : decode cX12_next0 52 = .ok (.invokevirtual 418, 3) := by decide +kernel
theorem dX12_next0_55 : decode cX12_next0 55 = .ok (.istore_n 1, 1) := by decide +kernel
theorem dX12_next0_56 : decode cX12_next0 56 = .ok (.iload_n 1, 1) := by decide +kernel
theorem dX12_next0_57 : decode cX12_next0 57 = .ok (.iconst (-1), 1) := by decide +kernel
theorem dX12_next0_58 : decode cX12_next0 58 = .ok (.if_icmp .ne 11, 3) := by decide +kernel
theorem dX12_next0_61 : decode cX12_next0 61 = .ok (.aload_n 0, 1) := by decide +kernel
theorem dX12_next0_62 : decode cX12_next0 62 = .ok (.iconst 0, 1) := by decide +kernel
theorem dX12_next0_63 : decode cX12_next0 63 = .ok (.putfield 422, 3) := by decide +kernel
theorem dX12_next0_66 : decode cX12_next0 66 = .ok (.goto 237, 3) := by decide +kernel
theorem dX12_next0_69 : decode cX12_next0 69 = .ok (.iload_n 1, 1) := by decide +kernel
theorem dX12_next0_70 : decode cX12_next0 70 = .ok (.invokestatic 425, 3) := by decide +kernel
theorem dX12_next0_73 : decode cX12_next0 73 = .ok (.ifCond .eq 41, 3) := by decide +kernel
theorem dX12_next0_76 : decode cX12_next0 76 = .ok (.aload_n 0, 1) := by decide +kernel
theorem dX12_next0_77 : decode cX12_next0 77 = .ok (.aload_n 0, 1) := by decide +kernel
theorem dX12_next0_78 : decode cX12_next0 78 = .ok (.getfield 367, 3) := by decide +kernel
theorem dX12_next0_81 : decode cX12_next0 81 = .ok (.invokevirtual 418, 3) := by decide +kernel
theorem dX12_next0_84 : decode cX12_next0 84 = .ok (.invokestatic 425, 3) := by decide +kernel
theorem dX12_next0_87 : decode cX12_next0 87 = .ok (.ifCond .eq 16, 3) := by decide +kernel
theorem dX12_next0_90 : decode cX12_next0 90 = .ok (.aload_n 0, 1) := by decide +kernel
theorem dX12_next0_91 : decode cX12_next0 91 = .ok (.dup, 1) := by decide +kernel
theorem dX12_next0_92 : decode cX12_next0 92 = .ok (.getfield 367, 3) := by decide +kernel
theorem dX12_next0_95 : decode cX12_next0 95 = .ok (.iconst 1, 1) := by decide +kernel
theorem dX12_next0_96 : decode cX12_next0 96 = .ok (.iadd, 1) := by decide +kernel
theorem dX12_next0_97 : decode cX12_next0 97 = .ok (.putfield 367, 3) := by decide +kernel
theorem dX12_next0_100 : decode cX12_next0 100 = .ok (.goto (-24), 3) := by decide +kernel
theorem dX12_next0_103 : decode cX12_next0 103 = .ok (.aload_n 0, 1) := by decide +kernel
theorem dX12_next0_104 : decode cX12_next0 104 = .ok (.aload_n 0, 1) := by decide +kernel
theorem dX12_next0_105 : decode cX12_next0 105 = .ok (.invokevirtual 428, 3) := by decide +kernel
theorem dX12_next0_108 : decode cX12_next0 108 = .ok (.putfield 422, 3) := by decide +kernel
theorem dX12_next0_111 : decode cX12_next0 111 = .ok (.goto 192, 3) := by decide +kernel
theorem dX12_next0_114 : decode cX12_next0 114 = .ok (.iload_n 1, 1) := by decide +kernel
theorem dX12_next0_115 : decode cX12_next0 115 = .ok (.invokestatic 431, 3) := by decide +kernel
theorem dX12_next0_118 : decode cX12_next0 118 = .ok (.ifCond .eq 96, 3) := by decide +kernel
theorem dX12_next0_121 : decode cX12_next0 121 = .ok (.aload_n 0, 1) := by decide +kernel
theorem dX12_next0_122 : decode cX12_next0 122 = .ok (.iconst 0, 1) := by decide +kernel
theorem dX12_next0_123 : decode cX12_next0 123 = .ok (.putfield 434, 3) := by decide +kernel
theorem dX12_next0_126 : decode cX12_next0 126 = .ok (.aload_n 0, 1) := by decide +kernel
theorem dX12_next0_127 : decode cX12_next0 127 = .ok (.aload_n 0, 1) := by decide +kernel
theorem dX12_next0_128 : decode cX12_next0 128 = .ok (.getfield 367, 3) := by decide +kernel
theorem dX12_next0_131 : decode cX12_next0 131 = .ok (.invokevirtual 418, 3) := by decide +kernel
theorem dX12_next0_134 : decode cX12_next0 134 = .ok (.invokestatic 431, 3) := by decide +kernel
theorem dX12_next0_137 : decode cX12_next0 137 = .ok (.ifCond .eq 52, 3) := by decide +kernel
theorem dX12_next0_140 : decode cX12_next0 140 = .ok (.aload_n 0, 1) := by decide +kernel
theorem dX12_next0_141 : decode cX12_next0 141 = .ok (.getfield 367, 3) := by decide +kernel
theorem dX12_next0_144 : decode cX12_next0 144 = .ok (.aload_n 0, 1) := by decide +kernel
theorem dX12_next0_145 : decode cX12_next0 145 = .ok (.getfield 370, 3) := by decide +kernel
theorem dX12_next0_148 : decode cX12_next0 148 = .ok (.iconst 4, 1) := by decide +kernel
theorem dX12_next0_149 : decode cX12_next0 149 = .ok (.iadd, 1) := by decide +kernel
theorem dX12_next0_150 : decode cX12_next0 150 = .ok (.if_icmp .ge 26, 3) := by decide +kernel
theorem dX12_next0_153 : decode cX12_next0 153 = .ok (.aload_n 0, 1) := by decide +kernel
theorem dX12_next0_154 : decode cX12_next0 154 = .ok (.bipush 10, 2) := by decide +kernel
theorem dX12_next0_156 : decode cX12_next0 156 = .ok (.aload_n 0, 1) := by decide +kernel
theorem dX12_next0_157 : decode cX12_next0 157 = .ok (.getfield 434, 3) := by decide +kernel
theorem dX12_next0_160 : decode cX12_next0 160 = .ok (.imul, 1) := by decide +kernel
theorem dX12_next0_161 : decode cX12_next0 161 = .ok (.aload_n 0, 1) := by decide +kernel
theorem dX12_next0_162 : decode cX12_next0 162 = .ok (.aload_n 0, 1) := by decide +kernel
theorem dX12_next0_163 : decode cX12_next0 163 = .ok (.getfield 367, 3) := by decide +kernel
theorem dX12_next0_166 : decode cX12_next0 166 = .ok (.invokevirtual 418, 3) := by decide +kernel
theorem dX12_next0_169 : decode cX12_next0 169 = .ok (.iadd, 1) := by decide +kernel
theorem dX12_next0_170 : decode cX12_next0 170 = .ok (.bipush 48, 2) := by decide +kernel
theorem dX12_next0_172 : decode cX12_next0 172 = .ok (.isub, 1) := by decide +kernel
theorem dX12_next0_173 : decode cX12_next0 173 = .ok (.putfield 434, 3) := by decide +kernel
theorem dX12_next0_176 : decode cX12_next0 176 = .ok (.aload_n 0, 1) := by decide +kernel
theorem dX12_next0_177 : decode cX12_next0 177 = .ok (.dup, 1) := by decide +kernel
theorem dX12_next0_178 : decode cX12_next0 178 = .ok (.getfield 367, 3) := by decide +kernel
theorem dX12_next0_181 : decode cX12_next0 181 = .ok (.iconst 1, 1) := by decide +kernel
theorem dX12_next0_182 : decode cX12_next0 182 = .ok (.iadd, 1) := by decide +kernel
theorem dX12_next0_183 : decode cX12_next0 183 = .ok (.putfield 367, 3) := by decide +kernel
theorem dX12_next0_186 : decode cX12_next0 186 = .ok (.goto (-60), 3) := by decide +kernel
theorem dX12_next0_189 : decode cX12_next0 189 = .ok (.aload_n 0, 1) := by decide +kernel
theorem dX12_next0_190 : decode cX12_next0 190 = .ok (.aload_n 0, 1) := by decide +kernel
theorem dX12_next0_191 : decode cX12_next0 191 = .ok (.getfield 367, 3) := by decide +kernel
theorem dX12_next0_194 : decode cX12_next0 194 = .ok (.aload_n 0, 1) := by decide +kernel
theorem dX12_next0_195 : decode cX12_next0 195 = .ok (.getfield 370, 3) := by decide +kernel
theorem dX12_next0_198 : decode cX12_next0 198 = .ok (.isub, 1) := by decide +kernel
theorem dX12_next0_199 : decode cX12_next0 199 = .ok (.iconst 5, 1) := by decide +kernel
theorem dX12_next0_200 : decode cX12_next0 200 = .ok (.if_icmp .ge 7, 3) := by decide +kernel
theorem dX12_next0_203 : decode cX12_next0 203 = .ok (.iconst 2, 1) := by decide +kernel
theorem dX12_next0_204 : decode cX12_next0 204 = .ok (.goto 4, 3) := by decide +kernel
theorem dX12_next0_207 : decode cX12_next0 207 = .ok (.iconst 1, 1) := by decide +kernel
theorem dX12_next0_208 : decode cX12_next0 208 = .ok (.putfield 422, 3) := by decide +kernel
theorem dX12_next0_211 : decode cX12_next0 211 = .ok (.goto 92, 3) := by decide +kernel
theorem dX12_next0_214 : decode cX12_next0 214 = .ok (.aload_n 0, 1) := by decide +kernel
theorem dX12_next0_215 : decode cX12_next0 215 = .ok (.dup, 1) := by decide +kernel
theorem dX12_next0_216 : decode cX12_next0 216 = .ok (.getfield 367, 3) := by decide +kernel
theorem dX12_next0_219 : decode cX12_next0 219 = .ok (.iconst 1, 1) := by decide +kernel
theorem dX12_next0_220 : decode cX12_next0 220 = .ok (.iadd, 1) := by decide +kernel
theorem dX12_next0_221 : decode cX12_next0 221 = .ok (.putfield 367, 3) := by decide +kernel
theorem dX12_next0_224 : decode cX12_next0 224 = .ok (.iload_n 1, 1) := by decide +kernel
theorem dX12_next0_225 : decode cX12_next0 225 = .ok (.bipush 59, 2) := by decide +kernel
theorem dX12_next0_227 : decode cX12_next0 227 = .ok (.if_icmp .eq 57, 3) := by decide +kernel
theorem dX12_next0_230 : decode cX12_next0 230 = .ok (.iload_n 1, 1) := by decide +kernel
theorem dX12_next0_231 : decode cX12_next0 231 = .ok (.bipush 43, 2) := by decide +kernel
theorem dX12_next0_233 : decode cX12_next0 233 = .ok (.if_icmp .eq 51, 3) := by decide +kernel
theorem dX12_next0_236 : decode cX12_next0 236 = .ok (.iload_n 1, 1) := by decide +kernel
theorem dX12_next0_237 : decode cX12_next0 237 = .ok (.bipush 45, 2) := by decide +kernel
theorem dX12_next0_239 : decode cX12_next0 239 = .ok (.if_icmp .eq 45, 3) := by decide +kernel
theorem dX12_next0_242 : decode cX12_next0 242 = .ok (.iload_n 1, 1) := by decide +kernel
theorem dX12_next0_243 : decode cX12_next0 243 = .ok (.bipush 42, 2) := by decide +kernel
theorem dX12_next0_245 : decode cX12_next0 245 = .ok (.if_icmp .eq 39, 3) := by decide +kernel
theorem dX12_next0_248 : decode cX12_next0 248 = .ok (.iload_n 1, 1) := by decide +kernel
theorem dX12_next0_249 : decode cX12_next0 249 = .ok (.bipush 47, 2) := by decide +kernel
theorem dX12_next0_251 : decode cX12_next0 251 = .ok (.if_icmp .eq 33, 3) := by decide +kernel
theorem dX12_next0_254 : decode cX12_next0 254 = .ok (.iload_n 1, 1) := by decide +kernel
theorem dX12_next0_255 : decode cX12_next0 255 = .ok (.bipush 40, 2) := by decide +kernel
theorem dX12_next0_257 : decode cX12_next0 257 = .ok (.if_icmp .eq 27, 3) := by decide +kernel
theorem dX12_next0_260 : decode cX12_next0 260 = .ok (.iload_n 1, 1) := by decide +kernel
theorem dX12_next0_261 : decode cX12_next0 261 = .ok (.bipush 41, 2) := by decide +kernel
theorem dX12_next0_263 : decode cX12_next0 263 = .ok (.if_icmp .eq 21, 3) := by decide +kernel
theorem dX12_next0_266 : decode cX12_next0 266 = .ok (.iload_n 1, 1) := by decide +kernel
theorem dX12_next0_267 : decode cX12_next0 267 = .ok (.bipush 60, 2) := by decide +kernel
theorem dX12_next0_269 : decode cX12_next0 269 = .ok (.if_icmp .eq 15, 3) := by decide +kernel
theorem dX12_next0_272 : decode cX12_next0 272 = .ok (.iload_n 1, 1) := by decide +kernel
theorem dX12_next0_273 : decode cX12_next0 273 = .ok (.bipush 61, 2) := by decide +kernel
theorem dX12_next0_275 : decode cX12_next0 275 = .ok (.if_icmp .eq 9, 3) := by decide +kernel
theorem dX12_next0_278 : decode cX12_next0 278 = .ok (.iload_n 1, 1) := by decide +kernel
theorem dX12_next0_279 : decode cX12_next0 279 = .ok (.bipush 62, 2) := by decide +kernel
theorem dX12_next0_281 : decode cX12_next0 281 = .ok (.if_icmp .ne 7, 3) := by decide +kernel
theorem dX12_next0_284 : decode cX12_next0 284 = .ok (.iconst 1, 1) := by decide +kernel
theorem dX12_next0_285 : decode cX12_next0 285 = .ok (.goto 4, 3) := by decide +kernel
theorem dX12_next0_288 : decode cX12_next0 288 = .ok (.iconst 0, 1) := by decide +kernel
theorem dX12_next0_289 : decode cX12_next0 289 = .ok (.istore_n 2, 1) := by decide +kernel
theorem dX12_next0_290 : decode cX12_next0 290 = .ok (.aload_n 0, 1) := by decide +kernel
theorem dX12_next0_291 : decode cX12_next0 291 = .ok (.iload_n 2, 1) := by decide +kernel
theorem dX12_next0_292 : decode cX12_next0 292 = .ok (.ifCond .eq 7, 3) := by decide +kernel
theorem dX12_next0_295 : decode cX12_next0 295 = .ok (.iload_n 1, 1) := by decide +kernel
theorem dX12_next0_296 : decode cX12_next0 296 = .ok (.goto 4, 3) := by decide +kernel
theorem dX12_next0_299 : decode cX12_next0 299 = .ok (.iconst 1, 1) := by decide +kernel
theorem dX12_next0_300 : decode cX12_next0 300 = .ok (.putfield 422, 3) := by decide +kernel
theorem dX12_next0_303 : decode cX12_next0 303 = .ok (.return_, 1) := by decide +kernel
theorem bX12_next0_0 {d : Nat} {h0 hE h : ea_H} {rv : Option ea_V} {r0 : Option Nat} (H : ∃ a3, r0 = some a3 ∧ a3 < ea_n h ∧ ea_c h a3 = 12 ∧ a3 < ea_n h ∧ ea_c h a3 = 12 ∧ ∃ (d5 : Nat) (xc11 : Int32) (h6 : ea_H), ea_Met mX12_see d5 [vR (some a3), vI (ea_i h a3 53)] h (some (vI xc11)) h6 ∧ d5 + 1 ≤ d ∧ (xc11 = (32 : Int32) → a3 < ea_n h6 ∧ ea_c h6 a3 = 12 ∧ a3 < ea_n h6 ∧ ea_c h6 a3 = 12 ∧ ∀ h16, h16 = ea_wi h6 a3 53 ((ea_i h6 a3 53) + (1 : Int32)) → ea_W mX12_next0 d h0 rv hE 0 [(0, vR r0)] [] h16) ∧ (¬ xc11 = (32 : Int32) → a3 < ea_n h6 ∧ ea_c h6 a3 = 12 ∧ a3 < ea_n h6 ∧ ea_c h6 a3 = 12 ∧ ∃ (d20 : Nat) (xc26 : Int32) (h21 : ea_H), ea_Met mX12_see d20 [vR (some a3), vI (ea_i h6 a3 53)] h6 (some (vI xc26)) h21 ∧ d20 + 1 ≤ d ∧ (¬ xc26 = (10 : Int32) → a3 < ea_n h21 ∧ ea_c h21 a3 = 12 ∧ a3 < ea_n h21 ∧ ea_c h21 a3 = 12 ∧ ∀ h31, h31 = ea_wi h21 a3 55 (ea_i h21 a3 53) → a3 < ea_n h31 ∧ ea_c h31 a3 = 12 ∧ a3 < ea_n h31 ∧ ea_c h31 a3 = 12 ∧ ∃ (d35 : Nat) (xc41 : Int32) (h36 : ea_H), ea_Met mX12_see d35 [vR (some a3), vI (ea_i h31 a3 53)] h31 (some (vI xc41)) h36 ∧ d35 + 1 ≤ d ∧ (¬ xc41 = ((-1) : Int32) → ∃ (d42 : Nat) (xc46 : Int32) (h43 : ea_H), ea_Met mX12_isLetter d42 [vI xc41] h36 (some (vI xc46)) h43 ∧ d42 + 1 ≤ d ∧ (xc46 = (0 : Int32) → ∃ (d47 : Nat) (xc51 : Int32) (h48 : ea_H), ea_Met mX12_isDigit d47 [vI xc41] h43 (some (vI xc51)) h48 ∧ d47 + 1 ≤ d ∧ (xc51 = (0 : Int32) → a3 < ea_n h48 ∧ ea_c h48 a3 = 12 ∧ a3 < ea_n h48 ∧ ea_c h48 a3 = 12 ∧ ∀ h56, h56 = ea_wi h48 a3 53 ((ea_i h48 a3 53) + (1 : Int32)) → (xc41 = (59 : Int32) → ea_W mX12_next0 d h0 rv hE 289 [(0, vR r0), (1, vI xc41)] [vI 1] h56) ∧ (¬ xc41 = (59 : Int32) → (xc41 = (43 : Int32) → ea_W mX12_next0 d h0 rv hE 289 [(0, vR r0), (1, vI xc41)] [vI 1] h56) ∧ (¬ xc41 = (43 : Int32) → (xc41 = (45 : Int32) → ea_W mX12_next0 d h0 rv hE 289 [(0, vR r0), (1, vI xc41)] [vI 1] h56) ∧ (¬ xc41 = (45 : Int32) → (xc41 = (42 : Int32) → ea_W mX12_next0 d h0 rv hE 289 [(0, vR r0), (1, vI xc41)] [vI 1] h56) ∧ (¬ xc41 = (42 : Int32) → (xc41 = (47 : Int32) → ea_W mX12_next0 d h0 rv hE 289 [(0, vR r0), (1, vI xc41)] [vI 1] h56) ∧ (¬ xc41 = (47 : Int32) → (xc41 = (40 : Int32) → ea_W mX12_next0 d h0 rv hE 289 [(0, vR r0), (1, vI xc41)] [vI 1] h56) ∧ (¬ xc41 = (40 : Int32) → (xc41 = (41 : Int32) → ea_W mX12_next0 d h0 rv hE 289 [(0, vR r0), (1, vI xc41)] [vI 1] h56) ∧ (¬ xc41 = (41 : Int32) → (xc41 = (60 : Int32) → ea_W mX12_next0 d h0 rv hE 289 [(0, vR r0), (1, vI xc41)] [vI 1] h56) ∧ (¬ xc41 = (60 : Int32) → (xc41 = (61 : Int32) → ea_W mX12_next0 d h0 rv hE 289 [(0, vR r0), (1, vI xc41)] [vI 1] h56) ∧ (¬ xc41 = (61 : Int32) → (¬ xc41 = (62 : Int32) → ea_W mX12_next0 d h0 rv hE 289 [(0, vR r0), (1, vI xc41)] [vI 0] h56) ∧ (xc41 = (62 : Int32) → ea_W mX12_next0 d h0 rv hE 289 [(0, vR r0), (1, vI xc41)] [vI 1] h56))))))))))) ∧ (¬ xc51 = (0 : Int32) → a3 < ea_n h48 ∧ ea_c h48 a3 = 12 ∧ ∀ h70, h70 = ea_wi h48 a3 56 0 → ea_W mX12_next0 d h0 rv hE 126 [(0, vR r0)] [] h70)) ∧ (¬ xc46 = (0 : Int32) → ea_W mX12_next0 d h0 rv hE 76 [(0, vR r0)] [] h43)) ∧ (xc41 = ((-1) : Int32) → a3 < ea_n h36 ∧ ea_c h36 a3 = 12 ∧ ∀ h76, h76 = ea_wi h36 a3 54 0 → rv = none ∧ hE = h76)) ∧ (xc26 = (10 : Int32) → a3 < ea_n h21 ∧ ea_c h21 a3 = 12 ∧ a3 < ea_n h21 ∧ ea_c h21 a3 = 12 ∧ ∀ h83, h83 = ea_wi h21 a3 53 ((ea_i h21 a3 53) + (1 : Int32)) → ea_W mX12_next0 d h0 rv hE 0 [(0, vR r0)] [] h83))) : ea_W mX12_next0 d h0 rv hE 0 [(0, vR r0)] [] h := by
  refine ea_aload_n (pc := 0) dX12_next0_0 rfl 0 rfl ?_
  refine ea_aload_n (pc := 1) dX12_next0_1 rfl 0 rfl ?_
  obtain ⟨a3, e4, f1, g2, H⟩ := H
  refine ea_deref0 e4 ?_
  refine ea_getI (pc := 2) dX12_next0_2 ec_12 (k := 53) (Nat.le_of_ble_eq_true rfl) rfl (Or.inl ew_1398) f1 g2 ?_
  obtain ⟨f9, g10, H⟩ := H
  refine ea_deref1 e4 ?_
  obtain ⟨d5, xc11, h6, m7, q8, H⟩ := H
  refine ea_callV (pc := 5) (As := [vI (ea_i h a3 53)]) (st := []) dX12_next0_5 kX12_see m7 q8 rfl (Nat.le_of_ble_eq_true rfl) ew_1826 ew_1828 ew_64 (ci := 12) rfl (by decide) f9 g10 ?_
  refine ea_bipush (pc := 8) dX12_next0_8 (v := 32) rfl ?_
  refine ea_icmp_eq (pc := 10) (tgt := 26) dX12_next0_10 rfl (fun c86 => ?_) (fun c86 => ?_)
  · have H := H.1 c86
    refine ea_aload_n (pc := 26) dX12_next0_26 rfl 0 rfl ?_
    refine ea_dup (pc := 27) dX12_next0_27 rfl ?_
    obtain ⟨f12, g13, H⟩ := H
    refine ea_deref0 e4 ?_
    refine ea_getI (pc := 28) dX12_next0_28 ec_12 (k := 53) (Nat.le_of_ble_eq_true rfl) rfl (Or.inl ew_1398) f12 g13 ?_
    refine ea_iconst (pc := 31) dX12_next0_31 (v := 1) rfl ?_
    refine ea_iadd (pc := 32) dX12_next0_32 ?_
    obtain ⟨f14, g15, H⟩ := H
    refine ea_deref1 e4 ?_
    refine ea_putI (pc := 33) dX12_next0_33 ec_12 (k := 53) (Nat.le_of_ble_eq_true rfl) rfl (Or.inl ⟨rfl, Or.inl ew_1398⟩) rfl rfl f14 g15 ?_
    obtain ⟨h16, E17⟩ : ∃ z, z = ea_wi h6 a3 53 ((ea_i h6 a3 53) + (1 : Int32)) := ⟨_, rfl⟩
    have H := H h16 E17
    refine ea_nm E17 ?_
    refine ea_goto (pc := 36) (tgt := 0) dX12_next0_36 rfl ?_
    exact H
  · have H := H.2 c86
    refine ea_aload_n (pc := 13) dX12_next0_13 rfl 0 rfl ?_
    refine ea_aload_n (pc := 14) dX12_next0_14 rfl 0 rfl ?_
    obtain ⟨f18, g19, H⟩ := H
    refine ea_deref0 e4 ?_
    refine ea_getI (pc := 15) dX12_next0_15 ec_12 (k := 53) (Nat.le_of_ble_eq_true rfl) rfl (Or.inl ew_1398) f18 g19 ?_
    obtain ⟨f24, g25, H⟩ := H
    refine ea_deref1 e4 ?_
    obtain ⟨d20, xc26, h21, m22, q23, H⟩ := H
    refine ea_callV (pc := 18) (As := [vI (ea_i h6 a3 53)]) (st := []) dX12_next0_18 kX12_see m22 q23 rfl (Nat.le_of_ble_eq_true rfl) ew_1826 ew_1828 ew_64 (ci := 12) rfl (by decide) f24 g25 ?_
    refine ea_bipush (pc := 21) dX12_next0_21 (v := 10) rfl ?_
    refine ea_icmp_ne (pc := 23) (tgt := 39) dX12_next0_23 rfl (fun c85 => ?_) (fun c85 => ?_)
    · have H := H.1 c85
      refine ea_aload_n (pc := 39) dX12_next0_39 rfl 0 rfl ?_
      refine ea_aload_n (pc := 40) dX12_next0_40 rfl 0 rfl ?_
      obtain ⟨f27, g28, H⟩ := H
      refine ea_deref0 e4 ?_
      refine ea_getI (pc := 41) dX12_next0_41 ec_12 (k := 53) (Nat.le_of_ble_eq_true rfl) rfl (Or.inl ew_1398) f27 g28 ?_
      obtain ⟨f29, g30, H⟩ := H
      refine ea_deref1 e4 ?_
      refine ea_putI (pc := 44) dX12_next0_44 ec_12 (k := 55) (Nat.le_of_ble_eq_true rfl) rfl (Or.inl ⟨rfl, Or.inl ew_1400⟩) rfl rfl f29 g30 ?_
      obtain ⟨h31, E32⟩ : ∃ z, z = ea_wi h21 a3 55 (ea_i h21 a3 53) := ⟨_, rfl⟩
      have H := H h31 E32
      refine ea_nm E32 ?_
      refine ea_aload_n (pc := 47) dX12_next0_47 rfl 0 rfl ?_
      refine ea_aload_n (pc := 48) dX12_next0_48 rfl 0 rfl ?_
      obtain ⟨f33, g34, H⟩ := H
      refine ea_deref0 e4 ?_
      refine ea_getI (pc := 49) dX12_next0_49 ec_12 (k := 53) (Nat.le_of_ble_eq_true rfl) rfl (Or.inl ew_1398) f33 g34 ?_
      obtain ⟨f39, g40, H⟩ := H
      refine ea_deref1 e4 ?_
      obtain ⟨d35, xc41, h36, m37, q38, H⟩ := H
      refine ea_callV (pc := 52) (As := [vI (ea_i h31 a3 53)]) (st := []) dX12_next0_52 kX12_see m37 q38 rfl (Nat.le_of_ble_eq_true rfl) ew_1826 ew_1828 ew_64 (ci := 12) rfl (by decide) f39 g40 ?_
      refine ea_istore_n (pc := 55) (lv' := [(0, vR r0), (1, vI xc41)]) dX12_next0_55 rfl (Nat.le_of_ble_eq_true rfl) [1, 0] rfl ?_
      refine ea_iload_n (pc := 56) dX12_next0_56 rfl 1 rfl ?_
      refine ea_iconst (pc := 57) dX12_next0_57 (v := (-1)) rfl ?_
      refine ea_icmp_ne (pc := 58) (tgt := 69) dX12_next0_58 rfl (fun c78 => ?_) (fun c78 => ?_)
      · have H := H.1 c78
        refine ea_iload_n (pc := 69) dX12_next0_69 rfl 1 rfl ?_
        obtain ⟨d42, xc46, h43, m44, q45, H⟩ := H
        refine ea_callS (pc := 70) (As := [vI xc41]) (st := []) dX12_next0_70 kX12_isLetter m44 q45 rfl (Nat.le_of_ble_eq_true rfl) ew_1830 ew_1831 ?_
        refine ea_if_eq (pc := 73) (tgt := 114) dX12_next0_73 rfl (fun c73 => ?_) (fun c73 => ?_)
        · have H := H.1 c73
          refine ea_iload_n (pc := 114) dX12_next0_114 rfl 1 rfl ?_
          obtain ⟨d47, xc51, h48, m49, q50, H⟩ := H
          refine ea_callS (pc := 115) (As := [vI xc41]) (st := []) dX12_next0_115 kX12_isDigit m49 q50 rfl (Nat.le_of_ble_eq_true rfl) ew_1907 ew_1908 ?_
          refine ea_if_eq (pc := 118) (tgt := 214) dX12_next0_118 rfl (fun c72 => ?_) (fun c72 => ?_)
          · have H := H.1 c72
            refine ea_aload_n (pc := 214) dX12_next0_214 rfl 0 rfl ?_
            refine ea_dup (pc := 215) dX12_next0_215 rfl ?_
            obtain ⟨f52, g53, H⟩ := H
            refine ea_deref0 e4 ?_
            refine ea_getI (pc := 216) dX12_next0_216 ec_12 (k := 53) (Nat.le_of_ble_eq_true rfl) rfl (Or.inl ew_1398) f52 g53 ?_
            refine ea_iconst (pc := 219) dX12_next0_219 (v := 1) rfl ?_
            refine ea_iadd (pc := 220) dX12_next0_220 ?_
            obtain ⟨f54, g55, H⟩ := H
            refine ea_deref1 e4 ?_
            refine ea_putI (pc := 221) dX12_next0_221 ec_12 (k := 53) (Nat.le_of_ble_eq_true rfl) rfl (Or.inl ⟨rfl, Or.inl ew_1398⟩) rfl rfl f54 g55 ?_
            obtain ⟨h56, E57⟩ : ∃ z, z = ea_wi h48 a3 53 ((ea_i h48 a3 53) + (1 : Int32)) := ⟨_, rfl⟩
            have H := H h56 E57
            refine ea_nm E57 ?_
            refine ea_iload_n (pc := 224) dX12_next0_224 rfl 1 rfl ?_
            refine ea_bipush (pc := 225) dX12_next0_225 (v := 59) rfl ?_
            refine ea_icmp_eq (pc := 227) (tgt := 284) dX12_next0_227 rfl (fun c67 => ?_) (fun c67 => ?_)
            · have H := H.1 c67
              refine ea_iconst (pc := 284) dX12_next0_284 (v := 1) rfl ?_
              refine ea_goto (pc := 285) (tgt := 289) dX12_next0_285 rfl ?_
              exact H
            · have H := H.2 c67
              refine ea_iload_n (pc := 230) dX12_next0_230 rfl 1 rfl ?_
              refine ea_bipush (pc := 231) dX12_next0_231 (v := 43) rfl ?_
              refine ea_icmp_eq (pc := 233) (tgt := 284) dX12_next0_233 rfl (fun c66 => ?_) (fun c66 => ?_)
              · have H := H.1 c66
                refine ea_iconst (pc := 284) dX12_next0_284 (v := 1) rfl ?_
                refine ea_goto (pc := 285) (tgt := 289) dX12_next0_285 rfl ?_
                exact H
              · have H := H.2 c66
                refine ea_iload_n (pc := 236) dX12_next0_236 rfl 1 rfl ?_
                refine ea_bipush (pc := 237) dX12_next0_237 (v := 45) rfl ?_
                refine ea_icmp_eq (pc := 239) (tgt := 284) dX12_next0_239 rfl (fun c65 => ?_) (fun c65 => ?_)
                · have H := H.1 c65
                  refine ea_iconst (pc := 284) dX12_next0_284 (v := 1) rfl ?_
                  refine ea_goto (pc := 285) (tgt := 289) dX12_next0_285 rfl ?_
                  exact H
                · have H := H.2 c65
                  refine ea_iload_n (pc := 242) dX12_next0_242 rfl 1 rfl ?_
                  refine ea_bipush (pc := 243) dX12_next0_243 (v := 42) rfl ?_
                  refine ea_icmp_eq (pc := 245) (tgt := 284) dX12_next0_245 rfl (fun c64 => ?_) (fun c64 => ?_)
                  · have H := H.1 c64
                    refine ea_iconst (pc := 284) dX12_next0_284 (v := 1) rfl ?_
                    refine ea_goto (pc := 285) (tgt := 289) dX12_next0_285 rfl ?_
                    exact H
                  · have H := H.2 c64
                    refine ea_iload_n (pc := 248) dX12_next0_248 rfl 1 rfl ?_
                    refine ea_bipush (pc := 249) dX12_next0_249 (v := 47) rfl ?_
                    refine ea_icmp_eq (pc := 251) (tgt := 284) dX12_next0_251 rfl (fun c63 => ?_) (fun c63 => ?_)
                    · have H := H.1 c63
                      refine ea_iconst (pc := 284) dX12_next0_284 (v := 1) rfl ?_
                      refine ea_goto (pc := 285) (tgt := 289) dX12_next0_285 rfl ?_
                      exact H
                    · have H := H.2 c63
                      refine ea_iload_n (pc := 254) dX12_next0_254 rfl 1 rfl ?_
                      refine ea_bipush (pc := 255) dX12_next0_255 (v := 40) rfl ?_
                      refine ea_icmp_eq (pc := 257) (tgt := 284) dX12_next0_257 rfl (fun c62 => ?_) (fun c62 => ?_)
                      · have H := H.1 c62
                        refine ea_iconst (pc := 284) dX12_next0_284 (v := 1) rfl ?_
                        refine ea_goto (pc := 285) (tgt := 289) dX12_next0_285 rfl ?_
                        exact H
                      · have H := H.2 c62
                        refine ea_iload_n (pc := 260) dX12_next0_260 rfl 1 rfl ?_
                        refine ea_bipush (pc := 261) dX12_next0_261 (v := 41) rfl ?_
                        refine ea_icmp_eq (pc := 263) (tgt := 284) dX12_next0_263 rfl (fun c61 => ?_) (fun c61 => ?_)
                        · have H := H.1 c61
                          refine ea_iconst (pc := 284) dX12_next0_284 (v := 1) rfl ?_
                          refine ea_goto (pc := 285) (tgt := 289) dX12_next0_285 rfl ?_
                          exact H
                        · have H := H.2 c61
                          refine ea_iload_n (pc := 266) dX12_next0_266 rfl 1 rfl ?_
                          refine ea_bipush (pc := 267) dX12_next0_267 (v := 60) rfl ?_
                          refine ea_icmp_eq (pc := 269) (tgt := 284) dX12_next0_269 rfl (fun c60 => ?_) (fun c60 => ?_)
                          · have H := H.1 c60
                            refine ea_iconst (pc := 284) dX12_next0_284 (v := 1) rfl ?_
                            refine ea_goto (pc := 285) (tgt := 289) dX12_next0_285 rfl ?_
                            exact H
                          · have H := H.2 c60
                            refine ea_iload_n (pc := 272) dX12_next0_272 rfl 1 rfl ?_
                            refine ea_bipush (pc := 273) dX12_next0_273 (v := 61) rfl ?_
                            refine ea_icmp_eq (pc := 275) (tgt := 284) dX12_next0_275 rfl (fun c59 => ?_) (fun c59 => ?_)
                            · have H := H.1 c59
                              refine ea_iconst (pc := 284) dX12_next0_284 (v := 1) rfl ?_
                              refine ea_goto (pc := 285) (tgt := 289) dX12_next0_285 rfl ?_
                              exact H
                            · have H := H.2 c59
                              refine ea_iload_n (pc := 278) dX12_next0_278 rfl 1 rfl ?_
                              refine ea_bipush (pc := 279) dX12_next0_279 (v := 62) rfl ?_
                              refine ea_icmp_ne (pc := 281) (tgt := 288) dX12_next0_281 rfl (fun c58 => ?_) (fun c58 => ?_)
                              · have H := H.1 c58
                                refine ea_iconst (pc := 288) dX12_next0_288 (v := 0) rfl ?_
                                exact H
                              · have H := H.2 c58
                                refine ea_iconst (pc := 284) dX12_next0_284 (v := 1) rfl ?_
                                refine ea_goto (pc := 285) (tgt := 289) dX12_next0_285 rfl ?_
                                exact H
          · have H := H.2 c72
            refine ea_aload_n (pc := 121) dX12_next0_121 rfl 0 rfl ?_
            refine ea_iconst (pc := 122) dX12_next0_122 (v := 0) rfl ?_
            obtain ⟨f68, g69, H⟩ := H
            refine ea_deref1 e4 ?_
            refine ea_putI (pc := 123) dX12_next0_123 ec_12 (k := 56) (Nat.le_of_ble_eq_true rfl) rfl (Or.inl ⟨rfl, Or.inl ew_1401⟩) rfl rfl f68 g69 ?_
            obtain ⟨h70, E71⟩ : ∃ z, z = ea_wi h48 a3 56 0 := ⟨_, rfl⟩
            have H := H h70 E71
            refine ea_nm E71 ?_
            exact ea_fewer [0] rfl H
        · have H := H.2 c73
          exact ea_fewer [0] rfl H
      · have H := H.2 c78
        refine ea_aload_n (pc := 61) dX12_next0_61 rfl 0 rfl ?_
        refine ea_iconst (pc := 62) dX12_next0_62 (v := 0) rfl ?_
        obtain ⟨f74, g75, H⟩ := H
        refine ea_deref1 e4 ?_
        refine ea_putI (pc := 63) dX12_next0_63 ec_12 (k := 54) (Nat.le_of_ble_eq_true rfl) rfl (Or.inl ⟨rfl, Or.inl ew_1399⟩) rfl rfl f74 g75 ?_
        obtain ⟨h76, E77⟩ : ∃ z, z = ea_wi h36 a3 54 0 := ⟨_, rfl⟩
        have H := H h76 E77
        refine ea_nm E77 ?_
        refine ea_goto (pc := 66) (tgt := 303) dX12_next0_66 rfl ?_
        obtain ⟨rfl, rfl⟩ := H
        exact ea_return (pc := 303) dX12_next0_303 rfl
    · have H := H.2 c85
      refine ea_aload_n (pc := 26) dX12_next0_26 rfl 0 rfl ?_
      refine ea_dup (pc := 27) dX12_next0_27 rfl ?_
      obtain ⟨f79, g80, H⟩ := H
      refine ea_deref0 e4 ?_
      refine ea_getI (pc := 28) dX12_next0_28 ec_12 (k := 53) (Nat.le_of_ble_eq_true rfl) rfl (Or.inl ew_1398) f79 g80 ?_
      refine ea_iconst (pc := 31) dX12_next0_31 (v := 1) rfl ?_
      refine ea_iadd (pc := 32) dX12_next0_32 ?_
      obtain ⟨f81, g82, H⟩ := H
      refine ea_deref1 e4 ?_
      refine ea_putI (pc := 33) dX12_next0_33 ec_12 (k := 53) (Nat.le_of_ble_eq_true rfl) rfl (Or.inl ⟨rfl, Or.inl ew_1398⟩) rfl rfl f81 g82 ?_
      obtain ⟨h83, E84⟩ : ∃ z, z = ea_wi h21 a3 53 ((ea_i h21 a3 53) + (1 : Int32)) := ⟨_, rfl⟩
      have H := H h83 E84
      refine ea_nm E84 ?_
      refine ea_goto (pc := 36) (tgt := 0) dX12_next0_36 rfl ?_
      exact H
theorem bX12_next0_76 {d : Nat} {h0 hE h : ea_H} {rv : Option ea_V} {r0 : Option Nat} (H : ∃ a3, r0 = some a3 ∧ a3 < ea_n h ∧ ea_c h a3 = 12 ∧ a3 < ea_n h ∧ ea_c h a3 = 12 ∧ ∃ (d5 : Nat) (xc11 : Int32) (h6 : ea_H), ea_Met mX12_see d5 [vR (some a3), vI (ea_i h a3 53)] h (some (vI xc11)) h6 ∧ d5 + 1 ≤ d ∧ ∃ (d12 : Nat) (xc16 : Int32) (h13 : ea_H), ea_Met mX12_isLetter d12 [vI xc11] h6 (some (vI xc16)) h13 ∧ d12 + 1 ≤ d ∧ (xc16 = (0 : Int32) → a3 < ea_n h13 ∧ ea_c h13 a3 = 12 ∧ ∃ (d17 : Nat) (xc23 : Int32) (h18 : ea_H), ea_Met mX12_word d17 [vR (some a3)] h13 (some (vI xc23)) h18 ∧ d17 + 1 ≤ d ∧ a3 < ea_n h18 ∧ ea_c h18 a3 = 12 ∧ ∀ h26, h26 = ea_wi h18 a3 54 xc23 → rv = none ∧ hE = h26) ∧ (¬ xc16 = (0 : Int32) → a3 < ea_n h13 ∧ ea_c h13 a3 = 12 ∧ a3 < ea_n h13 ∧ ea_c h13 a3 = 12 ∧ ∀ h32, h32 = ea_wi h13 a3 53 ((ea_i h13 a3 53) + (1 : Int32)) → ea_W mX12_next0 d h0 rv hE 76 [(0, vR r0)] [] h32)) : ea_W mX12_next0 d h0 rv hE 76 [(0, vR r0)] [] h := by
  refine ea_aload_n (pc := 76) dX12_next0_76 rfl 0 rfl ?_
  refine ea_aload_n (pc := 77) dX12_next0_77 rfl 0 rfl ?_
  obtain ⟨a3, e4, f1, g2, H⟩ := H
  refine ea_deref0 e4 ?_
  refine ea_getI (pc := 78) dX12_next0_78 ec_12 (k := 53) (Nat.le_of_ble_eq_true rfl) rfl (Or.inl ew_1398) f1 g2 ?_
  obtain ⟨f9, g10, H⟩ := H
  refine ea_deref1 e4 ?_
  obtain ⟨d5, xc11, h6, m7, q8, H⟩ := H
  refine ea_callV (pc := 81) (As := [vI (ea_i h a3 53)]) (st := []) dX12_next0_81 kX12_see m7 q8 rfl (Nat.le_of_ble_eq_true rfl) ew_1826 ew_1828 ew_64 (ci := 12) rfl (by decide) f9 g10 ?_
  obtain ⟨d12, xc16, h13, m14, q15, H⟩ := H
  refine ea_callS (pc := 84) (As := [vI xc11]) (st := []) dX12_next0_84 kX12_isLetter m14 q15 rfl (Nat.le_of_ble_eq_true rfl) ew_1830 ew_1831 ?_
  refine ea_if_eq (pc := 87) (tgt := 103) dX12_next0_87 rfl (fun c34 => ?_) (fun c34 => ?_)
  · have H := H.1 c34
    refine ea_aload_n (pc := 103) dX12_next0_103 rfl 0 rfl ?_
    refine ea_aload_n (pc := 104) dX12_next0_104 rfl 0 rfl ?_
    obtain ⟨f21, g22, H⟩ := H
    refine ea_deref0 e4 ?_
    obtain ⟨d17, xc23, h18, m19, q20, H⟩ := H
    refine ea_callV (pc := 105) (As := []) (st := [vR r0]) dX12_next0_105 kX12_word m19 q20 rfl (Nat.le_of_ble_eq_true rfl) ew_1833 ew_1835 ew_65 (ci := 12) rfl (by decide) f21 g22 ?_
    obtain ⟨f24, g25, H⟩ := H
    refine ea_deref1 e4 ?_
    refine ea_putI (pc := 108) dX12_next0_108 ec_12 (k := 54) (Nat.le_of_ble_eq_true rfl) rfl (Or.inl ⟨rfl, Or.inl ew_1399⟩) rfl rfl f24 g25 ?_
    obtain ⟨h26, E27⟩ : ∃ z, z = ea_wi h18 a3 54 xc23 := ⟨_, rfl⟩
    have H := H h26 E27
    refine ea_nm E27 ?_
    refine ea_goto (pc := 111) (tgt := 303) dX12_next0_111 rfl ?_
    obtain ⟨rfl, rfl⟩ := H
    exact ea_return (pc := 303) dX12_next0_303 rfl
  · have H := H.2 c34
    refine ea_aload_n (pc := 90) dX12_next0_90 rfl 0 rfl ?_
    refine ea_dup (pc := 91) dX12_next0_91 rfl ?_
    obtain ⟨f28, g29, H⟩ := H
    refine ea_deref0 e4 ?_
    refine ea_getI (pc := 92) dX12_next0_92 ec_12 (k := 53) (Nat.le_of_ble_eq_true rfl) rfl (Or.inl ew_1398) f28 g29 ?_
    refine ea_iconst (pc := 95) dX12_next0_95 (v := 1) rfl ?_
    refine ea_iadd (pc := 96) dX12_next0_96 ?_
    obtain ⟨f30, g31, H⟩ := H
    refine ea_deref1 e4 ?_
    refine ea_putI (pc := 97) dX12_next0_97 ec_12 (k := 53) (Nat.le_of_ble_eq_true rfl) rfl (Or.inl ⟨rfl, Or.inl ew_1398⟩) rfl rfl f30 g31 ?_
    obtain ⟨h32, E33⟩ : ∃ z, z = ea_wi h13 a3 53 ((ea_i h13 a3 53) + (1 : Int32)) := ⟨_, rfl⟩
    have H := H h32 E33
    refine ea_nm E33 ?_
    refine ea_goto (pc := 100) (tgt := 76) dX12_next0_100 rfl ?_
    exact H
theorem bX12_next0_126 {d : Nat} {h0 hE h : ea_H} {rv : Option ea_V} {r0 : Option Nat} (H : ∃ a3, r0 = some a3 ∧ a3 < ea_n h ∧ ea_c h a3 = 12 ∧ a3 < ea_n h ∧ ea_c h a3 = 12 ∧ ∃ (d5 : Nat) (xc11 : Int32) (h6 : ea_H), ea_Met mX12_see d5 [vR (some a3), vI (ea_i h a3 53)] h (some (vI xc11)) h6 ∧ d5 + 1 ≤ d ∧ ∃ (d12 : Nat) (xc16 : Int32) (h13 : ea_H), ea_Met mX12_isDigit d12 [vI xc11] h6 (some (vI xc16)) h13 ∧ d12 + 1 ≤ d ∧ (xc16 = (0 : Int32) → a3 < ea_n h13 ∧ ea_c h13 a3 = 12 ∧ a3 < ea_n h13 ∧ ea_c h13 a3 = 12 ∧ ((5 : Int32) ≤ ((ea_i h13 a3 53) - (ea_i h13 a3 55)) → a3 < ea_n h13 ∧ ea_c h13 a3 = 12 ∧ ∀ h23, h23 = ea_wi h13 a3 54 1 → rv = none ∧ hE = h23) ∧ (¬ (5 : Int32) ≤ ((ea_i h13 a3 53) - (ea_i h13 a3 55)) → a3 < ea_n h13 ∧ ea_c h13 a3 = 12 ∧ ∀ h27, h27 = ea_wi h13 a3 54 2 → rv = none ∧ hE = h27)) ∧ (¬ xc16 = (0 : Int32) → a3 < ea_n h13 ∧ ea_c h13 a3 = 12 ∧ a3 < ea_n h13 ∧ ea_c h13 a3 = 12 ∧ (((ea_i h13 a3 55) + (4 : Int32)) ≤ (ea_i h13 a3 53) → a3 < ea_n h13 ∧ ea_c h13 a3 = 12 ∧ a3 < ea_n h13 ∧ ea_c h13 a3 = 12 ∧ ∀ h38, h38 = ea_wi h13 a3 53 ((ea_i h13 a3 53) + (1 : Int32)) → ea_W mX12_next0 d h0 rv hE 126 [(0, vR r0)] [] h38) ∧ (¬ ((ea_i h13 a3 55) + (4 : Int32)) ≤ (ea_i h13 a3 53) → a3 < ea_n h13 ∧ ea_c h13 a3 = 12 ∧ a3 < ea_n h13 ∧ ea_c h13 a3 = 12 ∧ a3 < ea_n h13 ∧ ea_c h13 a3 = 12 ∧ ∃ (d44 : Nat) (xc50 : Int32) (h45 : ea_H), ea_Met mX12_see d44 [vR (some a3), vI (ea_i h13 a3 53)] h13 (some (vI xc50)) h45 ∧ d44 + 1 ≤ d ∧ a3 < ea_n h45 ∧ ea_c h45 a3 = 12 ∧ ∀ h53, h53 = ea_wi h45 a3 56 ((((10 : Int32) * (ea_i h13 a3 56)) + xc50) - (48 : Int32)) → a3 < ea_n h53 ∧ ea_c h53 a3 = 12 ∧ a3 < ea_n h53 ∧ ea_c h53 a3 = 12 ∧ ∀ h59, h59 = ea_wi h53 a3 53 ((ea_i h53 a3 53) + (1 : Int32)) → ea_W mX12_next0 d h0 rv hE 126 [(0, vR r0)] [] h59))) : ea_W mX12_next0 d h0 rv hE 126 [(0, vR r0)] [] h := by
  refine ea_aload_n (pc := 126) dX12_next0_126 rfl 0 rfl ?_
  refine ea_aload_n (pc := 127) dX12_next0_127 rfl 0 rfl ?_
  obtain ⟨a3, e4, f1, g2, H⟩ := H
  refine ea_deref0 e4 ?_
  refine ea_getI (pc := 128) dX12_next0_128 ec_12 (k := 53) (Nat.le_of_ble_eq_true rfl) rfl (Or.inl ew_1398) f1 g2 ?_
  obtain ⟨f9, g10, H⟩ := H
  refine ea_deref1 e4 ?_
  obtain ⟨d5, xc11, h6, m7, q8, H⟩ := H
  refine ea_callV (pc := 131) (As := [vI (ea_i h a3 53)]) (st := []) dX12_next0_131 kX12_see m7 q8 rfl (Nat.le_of_ble_eq_true rfl) ew_1826 ew_1828 ew_64 (ci := 12) rfl (by decide) f9 g10 ?_
  obtain ⟨d12, xc16, h13, m14, q15, H⟩ := H
  refine ea_callS (pc := 134) (As := [vI xc11]) (st := []) dX12_next0_134 kX12_isDigit m14 q15 rfl (Nat.le_of_ble_eq_true rfl) ew_1907 ew_1908 ?_
  refine ea_if_eq (pc := 137) (tgt := 189) dX12_next0_137 rfl (fun c62 => ?_) (fun c62 => ?_)
  · have H := H.1 c62
    refine ea_aload_n (pc := 189) dX12_next0_189 rfl 0 rfl ?_
    refine ea_aload_n (pc := 190) dX12_next0_190 rfl 0 rfl ?_
    obtain ⟨f17, g18, H⟩ := H
    refine ea_deref0 e4 ?_
    refine ea_getI (pc := 191) dX12_next0_191 ec_12 (k := 53) (Nat.le_of_ble_eq_true rfl) rfl (Or.inl ew_1398) f17 g18 ?_
    refine ea_aload_n (pc := 194) dX12_next0_194 rfl 0 rfl ?_
    obtain ⟨f19, g20, H⟩ := H
    refine ea_deref0 e4 ?_
    refine ea_getI (pc := 195) dX12_next0_195 ec_12 (k := 55) (Nat.le_of_ble_eq_true rfl) rfl (Or.inl ew_1400) f19 g20 ?_
    refine ea_isub (pc := 198) dX12_next0_198 ?_
    refine ea_iconst (pc := 199) dX12_next0_199 (v := 5) rfl ?_
    refine ea_icmp_ge (pc := 200) (tgt := 207) dX12_next0_200 rfl (fun c29 => ?_) (fun c29 => ?_)
    · have H := H.1 c29
      refine ea_iconst (pc := 207) dX12_next0_207 (v := 1) rfl ?_
      obtain ⟨f21, g22, H⟩ := H
      refine ea_deref1 e4 ?_
      refine ea_putI (pc := 208) dX12_next0_208 ec_12 (k := 54) (Nat.le_of_ble_eq_true rfl) rfl (Or.inl ⟨rfl, Or.inl ew_1399⟩) rfl rfl f21 g22 ?_
      obtain ⟨h23, E24⟩ : ∃ z, z = ea_wi h13 a3 54 1 := ⟨_, rfl⟩
      have H := H h23 E24
      refine ea_nm E24 ?_
      refine ea_goto (pc := 211) (tgt := 303) dX12_next0_211 rfl ?_
      obtain ⟨rfl, rfl⟩ := H
      exact ea_return (pc := 303) dX12_next0_303 rfl
    · have H := H.2 c29
      refine ea_iconst (pc := 203) dX12_next0_203 (v := 2) rfl ?_
      refine ea_goto (pc := 204) (tgt := 208) dX12_next0_204 rfl ?_
      obtain ⟨f25, g26, H⟩ := H
      refine ea_deref1 e4 ?_
      refine ea_putI (pc := 208) dX12_next0_208 ec_12 (k := 54) (Nat.le_of_ble_eq_true rfl) rfl (Or.inl ⟨rfl, Or.inl ew_1399⟩) rfl rfl f25 g26 ?_
      obtain ⟨h27, E28⟩ : ∃ z, z = ea_wi h13 a3 54 2 := ⟨_, rfl⟩
      have H := H h27 E28
      refine ea_nm E28 ?_
      refine ea_goto (pc := 211) (tgt := 303) dX12_next0_211 rfl ?_
      obtain ⟨rfl, rfl⟩ := H
      exact ea_return (pc := 303) dX12_next0_303 rfl
  · have H := H.2 c62
    refine ea_aload_n (pc := 140) dX12_next0_140 rfl 0 rfl ?_
    obtain ⟨f30, g31, H⟩ := H
    refine ea_deref0 e4 ?_
    refine ea_getI (pc := 141) dX12_next0_141 ec_12 (k := 53) (Nat.le_of_ble_eq_true rfl) rfl (Or.inl ew_1398) f30 g31 ?_
    refine ea_aload_n (pc := 144) dX12_next0_144 rfl 0 rfl ?_
    obtain ⟨f32, g33, H⟩ := H
    refine ea_deref0 e4 ?_
    refine ea_getI (pc := 145) dX12_next0_145 ec_12 (k := 55) (Nat.le_of_ble_eq_true rfl) rfl (Or.inl ew_1400) f32 g33 ?_
    refine ea_iconst (pc := 148) dX12_next0_148 (v := 4) rfl ?_
    refine ea_iadd (pc := 149) dX12_next0_149 ?_
    refine ea_icmp_ge (pc := 150) (tgt := 176) dX12_next0_150 rfl (fun c61 => ?_) (fun c61 => ?_)
    · have H := H.1 c61
      refine ea_aload_n (pc := 176) dX12_next0_176 rfl 0 rfl ?_
      refine ea_dup (pc := 177) dX12_next0_177 rfl ?_
      obtain ⟨f34, g35, H⟩ := H
      refine ea_deref0 e4 ?_
      refine ea_getI (pc := 178) dX12_next0_178 ec_12 (k := 53) (Nat.le_of_ble_eq_true rfl) rfl (Or.inl ew_1398) f34 g35 ?_
      refine ea_iconst (pc := 181) dX12_next0_181 (v := 1) rfl ?_
      refine ea_iadd (pc := 182) dX12_next0_182 ?_
      obtain ⟨f36, g37, H⟩ := H
      refine ea_deref1 e4 ?_
      refine ea_putI (pc := 183) dX12_next0_183 ec_12 (k := 53) (Nat.le_of_ble_eq_true rfl) rfl (Or.inl ⟨rfl, Or.inl ew_1398⟩) rfl rfl f36 g37 ?_
      obtain ⟨h38, E39⟩ : ∃ z, z = ea_wi h13 a3 53 ((ea_i h13 a3 53) + (1 : Int32)) := ⟨_, rfl⟩
      have H := H h38 E39
      refine ea_nm E39 ?_
      refine ea_goto (pc := 186) (tgt := 126) dX12_next0_186 rfl ?_
      exact H
    · have H := H.2 c61
      refine ea_aload_n (pc := 153) dX12_next0_153 rfl 0 rfl ?_
      refine ea_bipush (pc := 154) dX12_next0_154 (v := 10) rfl ?_
      refine ea_aload_n (pc := 156) dX12_next0_156 rfl 0 rfl ?_
      obtain ⟨f40, g41, H⟩ := H
      refine ea_deref0 e4 ?_
      refine ea_getI (pc := 157) dX12_next0_157 ec_12 (k := 56) (Nat.le_of_ble_eq_true rfl) rfl (Or.inl ew_1401) f40 g41 ?_
      refine ea_imul (pc := 160) dX12_next0_160 ?_
      refine ea_aload_n (pc := 161) dX12_next0_161 rfl 0 rfl ?_
      refine ea_aload_n (pc := 162) dX12_next0_162 rfl 0 rfl ?_
      obtain ⟨f42, g43, H⟩ := H
      refine ea_deref0 e4 ?_
      refine ea_getI (pc := 163) dX12_next0_163 ec_12 (k := 53) (Nat.le_of_ble_eq_true rfl) rfl (Or.inl ew_1398) f42 g43 ?_
      obtain ⟨f48, g49, H⟩ := H
      refine ea_deref1 e4 ?_
      obtain ⟨d44, xc50, h45, m46, q47, H⟩ := H
      refine ea_callV (pc := 166) (As := [vI (ea_i h13 a3 53)]) (st := [vI ((10 : Int32) * (ea_i h13 a3 56)), vR r0]) dX12_next0_166 kX12_see m46 q47 rfl (Nat.le_of_ble_eq_true rfl) ew_1826 ew_1828 ew_64 (ci := 12) rfl (by decide) f48 g49 ?_
      refine ea_iadd (pc := 169) dX12_next0_169 ?_
      refine ea_bipush (pc := 170) dX12_next0_170 (v := 48) rfl ?_
      refine ea_isub (pc := 172) dX12_next0_172 ?_
      obtain ⟨f51, g52, H⟩ := H
      refine ea_deref1 e4 ?_
      refine ea_putI (pc := 173) dX12_next0_173 ec_12 (k := 56) (Nat.le_of_ble_eq_true rfl) rfl (Or.inl ⟨rfl, Or.inl ew_1401⟩) rfl rfl f51 g52 ?_
      obtain ⟨h53, E54⟩ : ∃ z, z = ea_wi h45 a3 56 ((((10 : Int32) * (ea_i h13 a3 56)) + xc50) - (48 : Int32)) := ⟨_, rfl⟩
      have H := H h53 E54
      refine ea_nm E54 ?_
      refine ea_aload_n (pc := 176) dX12_next0_176 rfl 0 rfl ?_
      refine ea_dup (pc := 177) dX12_next0_177 rfl ?_
      obtain ⟨f55, g56, H⟩ := H
      refine ea_deref0 e4 ?_
      refine ea_getI (pc := 178) dX12_next0_178 ec_12 (k := 53) (Nat.le_of_ble_eq_true rfl) rfl (Or.inl ew_1398) f55 g56 ?_
      refine ea_iconst (pc := 181) dX12_next0_181 (v := 1) rfl ?_
      refine ea_iadd (pc := 182) dX12_next0_182 ?_
      obtain ⟨f57, g58, H⟩ := H
      refine ea_deref1 e4 ?_
      refine ea_putI (pc := 183) dX12_next0_183 ec_12 (k := 53) (Nat.le_of_ble_eq_true rfl) rfl (Or.inl ⟨rfl, Or.inl ew_1398⟩) rfl rfl f57 g58 ?_
      obtain ⟨h59, E60⟩ : ∃ z, z = ea_wi h53 a3 53 ((ea_i h53 a3 53) + (1 : Int32)) := ⟨_, rfl⟩
      have H := H h59 E60
      refine ea_nm E60 ?_
      refine ea_goto (pc := 186) (tgt := 126) dX12_next0_186 rfl ?_
      exact H
theorem bX12_next0_289 {d : Nat} {h0 hE h : ea_H} {rv : Option ea_V} {r0 : Option Nat} {x1 : Int32} {sx0 : Int32} (H : (sx0 = (0 : Int32) → ∃ a3, r0 = some a3 ∧ a3 < ea_n h ∧ ea_c h a3 = 12 ∧ ∀ h5, h5 = ea_wi h a3 54 1 → rv = none ∧ hE = h5) ∧ (¬ sx0 = (0 : Int32) → ∃ a9, r0 = some a9 ∧ a9 < ea_n h ∧ ea_c h a9 = 12 ∧ ∀ h11, h11 = ea_wi h a9 54 x1 → rv = none ∧ hE = h11)) : ea_W mX12_next0 d h0 rv hE 289 [(0, vR r0), (1, vI x1)] [vI sx0] h := by
  refine ea_istore_n (pc := 289) (lv' := [(0, vR r0), (1, vI x1), (2, vI sx0)]) dX12_next0_289 rfl (Nat.le_of_ble_eq_true rfl) [1, 2, 0] rfl ?_
  refine ea_aload_n (pc := 290) dX12_next0_290 rfl 0 rfl ?_
  refine ea_iload_n (pc := 291) dX12_next0_291 rfl 2 rfl ?_
  refine ea_if_eq (pc := 292) (tgt := 299) dX12_next0_292 rfl (fun c13 => ?_) (fun c13 => ?_)
  · have H := H.1 c13
    refine ea_iconst (pc := 299) dX12_next0_299 (v := 1) rfl ?_
    obtain ⟨a3, e4, f1, g2, H⟩ := H
    refine ea_deref1 e4 ?_
    refine ea_putI (pc := 300) dX12_next0_300 ec_12 (k := 54) (Nat.le_of_ble_eq_true rfl) rfl (Or.inl ⟨rfl, Or.inl ew_1399⟩) rfl rfl f1 g2 ?_
    obtain ⟨h5, E6⟩ : ∃ z, z = ea_wi h a3 54 1 := ⟨_, rfl⟩
    have H := H h5 E6
    refine ea_nm E6 ?_
    obtain ⟨rfl, rfl⟩ := H
    exact ea_return (pc := 303) dX12_next0_303 rfl
  · have H := H.2 c13
    refine ea_iload_n (pc := 295) dX12_next0_295 rfl 1 rfl ?_
    refine ea_goto (pc := 296) (tgt := 300) dX12_next0_296 rfl ?_
    obtain ⟨a9, e10, f7, g8, H⟩ := H
    refine ea_deref1 e10 ?_
    refine ea_putI (pc := 300) dX12_next0_300 ec_12 (k := 54) (Nat.le_of_ble_eq_true rfl) rfl (Or.inl ⟨rfl, Or.inl ew_1399⟩) rfl rfl f7 g8 ?_
    obtain ⟨h11, E12⟩ : ∃ z, z = ea_wi h a9 54 x1 := ⟨_, rfl⟩
    have H := H h11 E12
    refine ea_nm E12 ?_
    obtain ⟨rfl, rfl⟩ := H
    exact ea_return (pc := 303) dX12_next0_303 rfl
theorem dX12_bad_0 : decode cX12_bad 0 = .ok (.aload_n 0, 1) := by decide +kernel
theorem dX12_bad_1 : decode cX12_bad 1 = .ok (.iload_n 1, 1) := by decide +kernel
theorem dX12_bad_2 : decode cX12_bad 2 = .ok (.putfield 437, 3) := by decide +kernel
theorem dX12_bad_5 : decode cX12_bad 5 = .ok (.aload_n 0, 1) := by decide +kernel
theorem dX12_bad_6 : decode cX12_bad 6 = .ok (.aload_n 0, 1) := by decide +kernel
theorem dX12_bad_7 : decode cX12_bad 7 = .ok (.getfield 370, 3) := by decide +kernel
theorem dX12_bad_10 : decode cX12_bad 10 = .ok (.putfield 440, 3) := by decide +kernel
theorem dX12_bad_13 : decode cX12_bad 13 = .ok (.iconst 0, 1) := by decide +kernel
theorem dX12_bad_14 : decode cX12_bad 14 = .ok (.ireturn, 1) := by decide +kernel
theorem bX12_bad_0 {d : Nat} {h0 hE h : ea_H} {rv : Option ea_V} {r0 : Option Nat} {x1 : Int32} (H : ∃ a3, r0 = some a3 ∧ a3 < ea_n h ∧ ea_c h a3 = 12 ∧ ∀ h5, h5 = ea_wi h a3 57 x1 → a3 < ea_n h5 ∧ ea_c h5 a3 = 12 ∧ a3 < ea_n h5 ∧ ea_c h5 a3 = 12 ∧ ∀ h11, h11 = ea_wi h5 a3 58 (ea_i h5 a3 55) → rv = some (vI 0) ∧ hE = h11) : ea_W mX12_bad d h0 rv hE 0 [(0, vR r0), (1, vI x1)] [] h := by
  refine ea_aload_n (pc := 0) dX12_bad_0 rfl 0 rfl ?_
  refine ea_iload_n (pc := 1) dX12_bad_1 rfl 1 rfl ?_
  obtain ⟨a3, e4, f1, g2, H⟩ := H
  refine ea_deref1 e4 ?_
  refine ea_putI (pc := 2) dX12_bad_2 ec_12 (k := 57) (Nat.le_of_ble_eq_true rfl) rfl (Or.inl ⟨rfl, Or.inl ew_1402⟩) rfl rfl f1 g2 ?_
  obtain ⟨h5, E6⟩ : ∃ z, z = ea_wi h a3 57 x1 := ⟨_, rfl⟩
  have H := H h5 E6
  refine ea_nm E6 ?_
  refine ea_aload_n (pc := 5) dX12_bad_5 rfl 0 rfl ?_
  refine ea_aload_n (pc := 6) dX12_bad_6 rfl 0 rfl ?_
  obtain ⟨f7, g8, H⟩ := H
  refine ea_deref0 e4 ?_
  refine ea_getI (pc := 7) dX12_bad_7 ec_12 (k := 55) (Nat.le_of_ble_eq_true rfl) rfl (Or.inl ew_1400) f7 g8 ?_
  obtain ⟨f9, g10, H⟩ := H
  refine ea_deref1 e4 ?_
  refine ea_putI (pc := 10) dX12_bad_10 ec_12 (k := 58) (Nat.le_of_ble_eq_true rfl) rfl (Or.inl ⟨rfl, Or.inl ew_1403⟩) rfl rfl f9 g10 ?_
  obtain ⟨h11, E12⟩ : ∃ z, z = ea_wi h5 a3 58 (ea_i h5 a3 55) := ⟨_, rfl⟩
  have H := H h11 E12
  refine ea_nm E12 ?_
  refine ea_iconst (pc := 13) dX12_bad_13 (v := 0) rfl ?_
  obtain ⟨rfl, rfl⟩ := H
  exact ea_ireturn (pc := 14) dX12_bad_14 rfl (ea_bn (Or.inl rfl))
theorem dX12_need_0 : decode cX12_need 0 = .ok (.aload_n 0, 1) := by decide +kernel
theorem dX12_need_1 : decode cX12_need 1 = .ok (.getfield 422, 3) := by decide +kernel
theorem dX12_need_4 : decode cX12_need 4 = .ok (.iload_n 1, 1) := by decide +kernel
theorem dX12_need_5 : decode cX12_need 5 = .ok (.if_icmp .eq 9, 3) := by decide +kernel
theorem dX12_need_8 : decode cX12_need 8 = .ok (.aload_n 0, 1) := by decide +kernel
theorem dX12_need_9 : decode cX12_need 9 = .ok (.iconst 1, 1) := by decide +kernel
theorem dX12_need_10 : decode cX12_need 10 = .ok (.invokevirtual 443, 3) := by decide +kernel
theorem dX12_need_13 : decode cX12_need 13 = .ok (.ireturn, 1) := by decide +kernel
theorem dX12_need_14 : decode cX12_need 14 = .ok (.aload_n 0, 1) := by decide +kernel
theorem dX12_need_15 : decode cX12_need 15 = .ok (.invokevirtual 446, 3) := by decide +kernel
theorem dX12_need_18 : decode cX12_need 18 = .ok (.iconst 1, 1) := by decide +kernel
theorem dX12_need_19 : decode cX12_need 19 = .ok (.ireturn, 1) := by decide +kernel
theorem bX12_need_0 {d : Nat} {h0 hE h : ea_H} {rv : Option ea_V} {r0 : Option Nat} {x1 : Int32} (H : ∃ a3, r0 = some a3 ∧ a3 < ea_n h ∧ ea_c h a3 = 12 ∧ ((ea_i h a3 54) = x1 → a3 < ea_n h ∧ ea_c h a3 = 12 ∧ ∃ (d5 : Nat) (h6 : ea_H), ea_Met mX12_next0 d5 [vR (some a3)] h none h6 ∧ d5 + 1 ≤ d ∧ rv = some (vI 1) ∧ hE = h6) ∧ (¬ (ea_i h a3 54) = x1 → a3 < ea_n h ∧ ea_c h a3 = 12 ∧ ∃ (d11 : Nat) (xc17 : Int32) (h12 : ea_H), ea_Met mX12_bad d11 [vR (some a3), vI 1] h (some (vI xc17)) h12 ∧ d11 + 1 ≤ d ∧ (xc17 = 0 ∨ xc17 = 1) ∧ rv = some (vI xc17) ∧ hE = h12)) : ea_W mX12_need d h0 rv hE 0 [(0, vR r0), (1, vI x1)] [] h := by
  refine ea_aload_n (pc := 0) dX12_need_0 rfl 0 rfl ?_
  obtain ⟨a3, e4, f1, g2, H⟩ := H
  refine ea_deref0 e4 ?_
  refine ea_getI (pc := 1) dX12_need_1 ec_12 (k := 54) (Nat.le_of_ble_eq_true rfl) rfl (Or.inl ew_1399) f1 g2 ?_
  refine ea_iload_n (pc := 4) dX12_need_4 rfl 1 rfl ?_
  refine ea_icmp_eq (pc := 5) (tgt := 14) dX12_need_5 rfl (fun c19 => ?_) (fun c19 => ?_)
  · have H := H.1 c19
    refine ea_aload_n (pc := 14) dX12_need_14 rfl 0 rfl ?_
    obtain ⟨f9, g10, H⟩ := H
    refine ea_deref0 e4 ?_
    obtain ⟨d5, h6, m7, q8, H⟩ := H
    refine ea_callV (pc := 15) (As := []) (st := []) dX12_need_15 kX12_next0 m7 q8 rfl (Nat.le_of_ble_eq_true rfl) ew_1822 ew_1824 ew_63 (ci := 12) rfl (by decide) f9 g10 ?_
    refine ea_iconst (pc := 18) dX12_need_18 (v := 1) rfl ?_
    obtain ⟨rfl, rfl⟩ := H
    exact ea_ireturn (pc := 19) dX12_need_19 rfl (ea_bn (Or.inr rfl))
  · have H := H.2 c19
    refine ea_aload_n (pc := 8) dX12_need_8 rfl 0 rfl ?_
    refine ea_iconst (pc := 9) dX12_need_9 (v := 1) rfl ?_
    obtain ⟨f15, g16, H⟩ := H
    refine ea_deref1 e4 ?_
    obtain ⟨d11, xc17, h12, m13, q14, H⟩ := H
    refine ea_callV (pc := 10) (As := [vI 1]) (st := []) dX12_need_10 kX12_bad m13 q14 rfl (Nat.le_of_ble_eq_true rfl) ew_1914 ew_1916 ew_68 (ci := 12) rfl (by decide) f15 g16 ?_
    obtain ⟨z18, rfl, rfl⟩ := H
    exact ea_ireturn (pc := 13) dX12_need_13 rfl (ea_bn z18)
theorem dX12_aNumber_0 : decode cX12_aNumber 0 = .ok (.aload_n 0, 1) := by decide +kernel
theorem dX12_aNumber_1 : decode cX12_aNumber 1 = .ok (.getfield 422, 3) := by decide +kernel
theorem dX12_aNumber_4 : decode cX12_aNumber 4 = .ok (.iconst 2, 1) := by decide +kernel
theorem dX12_aNumber_5 : decode cX12_aNumber 5 = .ok (.if_icmp .eq 9, 3) := by decide +kernel
theorem dX12_aNumber_8 : decode cX12_aNumber 8 = .ok (.aload_n 0, 1) := by decide +kernel
theorem dX12_aNumber_9 : decode cX12_aNumber 9 = .ok (.iconst 1, 1) := by decide +kernel
theorem dX12_aNumber_10 : decode cX12_aNumber 10 = .ok (.invokevirtual 443, 3) := by decide +kernel
theorem dX12_aNumber_13 : decode cX12_aNumber 13 = .ok (.ireturn, 1) := by decide +kernel
theorem dX12_aNumber_14 : decode cX12_aNumber 14 = .ok (.aload_n 0, 1) := by decide +kernel
theorem dX12_aNumber_15 : decode cX12_aNumber 15 = .ok (.getfield 434, 3) := by decide +kernel
theorem dX12_aNumber_18 : decode cX12_aNumber 18 = .ok (.iload_n 1, 1) := by decide +kernel
theorem dX12_aNumber_19 : decode cX12_aNumber 19 = .ok (.if_icmp .le 9, 3) := by decide +kernel
theorem dX12_aNumber_22 : decode cX12_aNumber 22 = .ok (.aload_n 0, 1) := by decide +kernel
theorem dX12_aNumber_23 : decode cX12_aNumber 23 = .ok (.iconst 2, 1) := by decide +kernel
theorem dX12_aNumber_24 : decode cX12_aNumber 24 = .ok (.invokevirtual 443, 3) := by decide +kernel
theorem dX12_aNumber_27 : decode cX12_aNumber 27 = .ok (.ireturn, 1) := by decide +kernel
theorem dX12_aNumber_28 : decode cX12_aNumber 28 = .ok (.aload_n 0, 1) := by decide +kernel
theorem dX12_aNumber_29 : decode cX12_aNumber 29 = .ok (.aload_n 0, 1) := by decide +kernel
theorem dX12_aNumber_30 : decode cX12_aNumber 30 = .ok (.getfield 434, 3) := by decide +kernel
theorem dX12_aNumber_33 : decode cX12_aNumber 33 = .ok (.putfield 449, 3) := by decide +kernel
theorem dX12_aNumber_36 : decode cX12_aNumber 36 = .ok (.aload_n 0, 1) := by decide +kernel
theorem dX12_aNumber_37 : decode cX12_aNumber 37 = .ok (.invokevirtual 446, 3) := by decide +kernel
theorem dX12_aNumber_40 : decode cX12_aNumber 40 = .ok (.iconst 1, 1) := by decide +kernel
theorem dX12_aNumber_41 : decode cX12_aNumber 41 = .ok (.ireturn, 1) := by decide +kernel
theorem bX12_aNumber_0 {d : Nat} {h0 hE h : ea_H} {rv : Option ea_V} {r0 : Option Nat} {x1 : Int32} (H : ∃ a3, r0 = some a3 ∧ a3 < ea_n h ∧ ea_c h a3 = 12 ∧ ((ea_i h a3 54) = (2 : Int32) → a3 < ea_n h ∧ ea_c h a3 = 12 ∧ ((ea_i h a3 56) ≤ x1 → a3 < ea_n h ∧ ea_c h a3 = 12 ∧ a3 < ea_n h ∧ ea_c h a3 = 12 ∧ ∀ h11, h11 = ea_wi h a3 61 (ea_i h a3 56) → a3 < ea_n h11 ∧ ea_c h11 a3 = 12 ∧ ∃ (d13 : Nat) (h14 : ea_H), ea_Met mX12_next0 d13 [vR (some a3)] h11 none h14 ∧ d13 + 1 ≤ d ∧ rv = some (vI 1) ∧ hE = h14) ∧ (¬ (ea_i h a3 56) ≤ x1 → a3 < ea_n h ∧ ea_c h a3 = 12 ∧ ∃ (d19 : Nat) (xc25 : Int32) (h20 : ea_H), ea_Met mX12_bad d19 [vR (some a3), vI 2] h (some (vI xc25)) h20 ∧ d19 + 1 ≤ d ∧ (xc25 = 0 ∨ xc25 = 1) ∧ rv = some (vI xc25) ∧ hE = h20)) ∧ (¬ (ea_i h a3 54) = (2 : Int32) → a3 < ea_n h ∧ ea_c h a3 = 12 ∧ ∃ (d28 : Nat) (xc34 : Int32) (h29 : ea_H), ea_Met mX12_bad d28 [vR (some a3), vI 1] h (some (vI xc34)) h29 ∧ d28 + 1 ≤ d ∧ (xc34 = 0 ∨ xc34 = 1) ∧ rv = some (vI xc34) ∧ hE = h29)) : ea_W mX12_aNumber d h0 rv hE 0 [(0, vR r0), (1, vI x1)] [] h := by
  refine ea_aload_n (pc := 0) dX12_aNumber_0 rfl 0 rfl ?_
  obtain ⟨a3, e4, f1, g2, H⟩ := H
  refine ea_deref0 e4 ?_
  refine ea_getI (pc := 1) dX12_aNumber_1 ec_12 (k := 54) (Nat.le_of_ble_eq_true rfl) rfl (Or.inl ew_1399) f1 g2 ?_
  refine ea_iconst (pc := 4) dX12_aNumber_4 (v := 2) rfl ?_
  refine ea_icmp_eq (pc := 5) (tgt := 14) dX12_aNumber_5 rfl (fun c36 => ?_) (fun c36 => ?_)
  · have H := H.1 c36
    refine ea_aload_n (pc := 14) dX12_aNumber_14 rfl 0 rfl ?_
    obtain ⟨f5, g6, H⟩ := H
    refine ea_deref0 e4 ?_
    refine ea_getI (pc := 15) dX12_aNumber_15 ec_12 (k := 56) (Nat.le_of_ble_eq_true rfl) rfl (Or.inl ew_1401) f5 g6 ?_
    refine ea_iload_n (pc := 18) dX12_aNumber_18 rfl 1 rfl ?_
    refine ea_icmp_le (pc := 19) (tgt := 28) dX12_aNumber_19 rfl (fun c27 => ?_) (fun c27 => ?_)
    · have H := H.1 c27
      refine ea_aload_n (pc := 28) dX12_aNumber_28 rfl 0 rfl ?_
      refine ea_aload_n (pc := 29) dX12_aNumber_29 rfl 0 rfl ?_
      obtain ⟨f7, g8, H⟩ := H
      refine ea_deref0 e4 ?_
      refine ea_getI (pc := 30) dX12_aNumber_30 ec_12 (k := 56) (Nat.le_of_ble_eq_true rfl) rfl (Or.inl ew_1401) f7 g8 ?_
      obtain ⟨f9, g10, H⟩ := H
      refine ea_deref1 e4 ?_
      refine ea_putI (pc := 33) dX12_aNumber_33 ec_12 (k := 61) (Nat.le_of_ble_eq_true rfl) rfl (Or.inl ⟨rfl, Or.inl ew_1406⟩) rfl rfl f9 g10 ?_
      obtain ⟨h11, E12⟩ : ∃ z, z = ea_wi h a3 61 (ea_i h a3 56) := ⟨_, rfl⟩
      have H := H h11 E12
      refine ea_nm E12 ?_
      refine ea_aload_n (pc := 36) dX12_aNumber_36 rfl 0 rfl ?_
      obtain ⟨f17, g18, H⟩ := H
      refine ea_deref0 e4 ?_
      obtain ⟨d13, h14, m15, q16, H⟩ := H
      refine ea_callV (pc := 37) (As := []) (st := []) dX12_aNumber_37 kX12_next0 m15 q16 rfl (Nat.le_of_ble_eq_true rfl) ew_1822 ew_1824 ew_63 (ci := 12) rfl (by decide) f17 g18 ?_
      refine ea_iconst (pc := 40) dX12_aNumber_40 (v := 1) rfl ?_
      obtain ⟨rfl, rfl⟩ := H
      exact ea_ireturn (pc := 41) dX12_aNumber_41 rfl (ea_bn (Or.inr rfl))
    · have H := H.2 c27
      refine ea_aload_n (pc := 22) dX12_aNumber_22 rfl 0 rfl ?_
      refine ea_iconst (pc := 23) dX12_aNumber_23 (v := 2) rfl ?_
      obtain ⟨f23, g24, H⟩ := H
      refine ea_deref1 e4 ?_
      obtain ⟨d19, xc25, h20, m21, q22, H⟩ := H
      refine ea_callV (pc := 24) (As := [vI 2]) (st := []) dX12_aNumber_24 kX12_bad m21 q22 rfl (Nat.le_of_ble_eq_true rfl) ew_1914 ew_1916 ew_68 (ci := 12) rfl (by decide) f23 g24 ?_
      obtain ⟨z26, rfl, rfl⟩ := H
      exact ea_ireturn (pc := 27) dX12_aNumber_27 rfl (ea_bn z26)
  · have H := H.2 c36
    refine ea_aload_n (pc := 8) dX12_aNumber_8 rfl 0 rfl ?_
    refine ea_iconst (pc := 9) dX12_aNumber_9 (v := 1) rfl ?_
    obtain ⟨f32, g33, H⟩ := H
    refine ea_deref1 e4 ?_
    obtain ⟨d28, xc34, h29, m30, q31, H⟩ := H
    refine ea_callV (pc := 10) (As := [vI 1]) (st := []) dX12_aNumber_10 kX12_bad m30 q31 rfl (Nat.le_of_ble_eq_true rfl) ew_1914 ew_1916 ew_68 (ci := 12) rfl (by decide) f32 g33 ?_
    obtain ⟨z35, rfl, rfl⟩ := H
    exact ea_ireturn (pc := 13) dX12_aNumber_13 rfl (ea_bn z35)
theorem dX12_lay_0 : decode cX12_lay 0 = .ok (.aload_n 0, 1) := by decide +kernel
theorem dX12_lay_1 : decode cX12_lay 1 = .ok (.getfield 113, 3) := by decide +kernel
theorem dX12_lay_4 : decode cX12_lay 4 = .ok (.iconst 2, 1) := by decide +kernel
theorem dX12_lay_5 : decode cX12_lay 5 = .ok (.aload_n 0, 1) := by decide +kernel
theorem dX12_lay_6 : decode cX12_lay 6 = .ok (.getfield 452, 3) := by decide +kernel
theorem dX12_lay_9 : decode cX12_lay 9 = .ok (.imul, 1) := by decide +kernel
theorem dX12_lay_10 : decode cX12_lay 10 = .ok (.iload_n 1, 1) := by decide +kernel
theorem dX12_lay_11 : decode cX12_lay 11 = .ok (.iastore, 1) := by decide +kernel
theorem dX12_lay_12 : decode cX12_lay 12 = .ok (.aload_n 0, 1) := by decide +kernel
theorem dX12_lay_13 : decode cX12_lay 13 = .ok (.getfield 113, 3) := by decide +kernel
theorem dX12_lay_16 : decode cX12_lay 16 = .ok (.iconst 2, 1) := by decide +kernel
theorem dX12_lay_17 : decode cX12_lay 17 = .ok (.aload_n 0, 1) := by decide +kernel
theorem dX12_lay_18 : decode cX12_lay 18 = .ok (.getfield 452, 3) := by decide +kernel
theorem dX12_lay_21 : decode cX12_lay 21 = .ok (.imul, 1) := by decide +kernel
theorem dX12_lay_22 : decode cX12_lay 22 = .ok (.iconst 1, 1) := by decide +kernel
theorem dX12_lay_23 : decode cX12_lay 23 = .ok (.iadd, 1) := by decide +kernel
theorem dX12_lay_24 : decode cX12_lay 24 = .ok (.iload_n 2, 1) := by decide +kernel
theorem dX12_lay_25 : decode cX12_lay 25 = .ok (.iastore, 1) := by decide +kernel
theorem dX12_lay_26 : decode cX12_lay 26 = .ok (.aload_n 0, 1) := by decide +kernel
theorem dX12_lay_27 : decode cX12_lay 27 = .ok (.dup, 1) := by decide +kernel
theorem dX12_lay_28 : decode cX12_lay 28 = .ok (.getfield 452, 3) := by decide +kernel
theorem dX12_lay_31 : decode cX12_lay 31 = .ok (.iconst 1, 1) := by decide +kernel
theorem dX12_lay_32 : decode cX12_lay 32 = .ok (.iadd, 1) := by decide +kernel
theorem dX12_lay_33 : decode cX12_lay 33 = .ok (.putfield 452, 3) := by decide +kernel
theorem dX12_lay_36 : decode cX12_lay 36 = .ok (.return_, 1) := by decide +kernel
theorem bX12_lay_0 {d : Nat} {h0 hE h : ea_H} {rv : Option ea_V} {r0 : Option Nat} {x1 : Int32} {x2 : Int32} (H : ∃ a3, r0 = some a3 ∧ a3 < ea_n h ∧ ea_c h a3 = 12 ∧ a3 < ea_n h ∧ ea_c h a3 = 12 ∧ ∃ a9, (ea_r h a3 40) = some a9 ∧ a9 < ea_n h ∧ ea_c h a9 = 20 ∧ vp_in ((2 : Int32) * (ea_i h a3 45)) (ea_l h a9) ∧ ∀ h12, h12 = ea_wi h a9 (Int32.toNatClampNeg ((2 : Int32) * (ea_i h a3 45))) x1 → a3 < ea_n h12 ∧ ea_c h12 a3 = 12 ∧ a3 < ea_n h12 ∧ ea_c h12 a3 = 12 ∧ ∃ a20, (ea_r h12 a3 40) = some a20 ∧ a20 < ea_n h12 ∧ ea_c h12 a20 = 20 ∧ vp_in (((2 : Int32) * (ea_i h12 a3 45)) + (1 : Int32)) (ea_l h12 a20) ∧ ∀ h23, h23 = ea_wi h12 a20 (Int32.toNatClampNeg (((2 : Int32) * (ea_i h12 a3 45)) + (1 : Int32))) x2 → a3 < ea_n h23 ∧ ea_c h23 a3 = 12 ∧ a3 < ea_n h23 ∧ ea_c h23 a3 = 12 ∧ ∀ h29, h29 = ea_wi h23 a3 45 ((ea_i h23 a3 45) + (1 : Int32)) → rv = none ∧ hE = h29) : ea_W mX12_lay d h0 rv hE 0 [(0, vR r0), (1, vI x1), (2, vI x2)] [] h := by
  refine ea_aload_n (pc := 0) dX12_lay_0 rfl 0 rfl ?_
  obtain ⟨a3, e4, f1, g2, H⟩ := H
  refine ea_deref0 e4 ?_
  refine ea_getR (pc := 1) dX12_lay_1 ec_12 (k := 40) (Nat.le_of_ble_eq_true rfl) rfl (Or.inl ew_1385) f1 g2 rfl ?_
  refine ea_iconst (pc := 4) dX12_lay_4 (v := 2) rfl ?_
  refine ea_aload_n (pc := 5) dX12_lay_5 rfl 0 rfl ?_
  obtain ⟨f5, g6, H⟩ := H
  refine ea_deref0 e4 ?_
  refine ea_getI (pc := 6) dX12_lay_6 ec_12 (k := 45) (Nat.le_of_ble_eq_true rfl) rfl (Or.inl ew_1390) f5 g6 ?_
  refine ea_imul (pc := 9) dX12_lay_9 ?_
  refine ea_iload_n (pc := 10) dX12_lay_10 rfl 1 rfl ?_
  obtain ⟨a9, e10, f7, g8, H⟩ := H
  refine ea_deref2 e10 ?_
  obtain ⟨z11, H⟩ := H
  refine ea_iast (pc := 11) dX12_lay_11 f7 g8 z11 ?_
  obtain ⟨h12, E13⟩ : ∃ z, z = ea_wi h a9 (Int32.toNatClampNeg ((2 : Int32) * (ea_i h a3 45))) x1 := ⟨_, rfl⟩
  have H := H h12 E13
  refine ea_nm E13 ?_
  refine ea_aload_n (pc := 12) dX12_lay_12 rfl 0 rfl ?_
  obtain ⟨f14, g15, H⟩ := H
  refine ea_deref0 e4 ?_
  refine ea_getR (pc := 13) dX12_lay_13 ec_12 (k := 40) (Nat.le_of_ble_eq_true rfl) rfl (Or.inl ew_1385) f14 g15 rfl ?_
  refine ea_iconst (pc := 16) dX12_lay_16 (v := 2) rfl ?_
  refine ea_aload_n (pc := 17) dX12_lay_17 rfl 0 rfl ?_
  obtain ⟨f16, g17, H⟩ := H
  refine ea_deref0 e4 ?_
  refine ea_getI (pc := 18) dX12_lay_18 ec_12 (k := 45) (Nat.le_of_ble_eq_true rfl) rfl (Or.inl ew_1390) f16 g17 ?_
  refine ea_imul (pc := 21) dX12_lay_21 ?_
  refine ea_iconst (pc := 22) dX12_lay_22 (v := 1) rfl ?_
  refine ea_iadd (pc := 23) dX12_lay_23 ?_
  refine ea_iload_n (pc := 24) dX12_lay_24 rfl 2 rfl ?_
  obtain ⟨a20, e21, f18, g19, H⟩ := H
  refine ea_deref2 e21 ?_
  obtain ⟨z22, H⟩ := H
  refine ea_iast (pc := 25) dX12_lay_25 f18 g19 z22 ?_
  obtain ⟨h23, E24⟩ : ∃ z, z = ea_wi h12 a20 (Int32.toNatClampNeg (((2 : Int32) * (ea_i h12 a3 45)) + (1 : Int32))) x2 := ⟨_, rfl⟩
  have H := H h23 E24
  refine ea_nm E24 ?_
  refine ea_aload_n (pc := 26) dX12_lay_26 rfl 0 rfl ?_
  refine ea_dup (pc := 27) dX12_lay_27 rfl ?_
  obtain ⟨f25, g26, H⟩ := H
  refine ea_deref0 e4 ?_
  refine ea_getI (pc := 28) dX12_lay_28 ec_12 (k := 45) (Nat.le_of_ble_eq_true rfl) rfl (Or.inl ew_1390) f25 g26 ?_
  refine ea_iconst (pc := 31) dX12_lay_31 (v := 1) rfl ?_
  refine ea_iadd (pc := 32) dX12_lay_32 ?_
  obtain ⟨f27, g28, H⟩ := H
  refine ea_deref1 e4 ?_
  refine ea_putI (pc := 33) dX12_lay_33 ec_12 (k := 45) (Nat.le_of_ble_eq_true rfl) rfl (Or.inl ⟨rfl, Or.inl ew_1390⟩) rfl rfl f27 g28 ?_
  obtain ⟨h29, E30⟩ : ∃ z, z = ea_wi h23 a3 45 ((ea_i h23 a3 45) + (1 : Int32)) := ⟨_, rfl⟩
  have H := H h29 E30
  refine ea_nm E30 ?_
  obtain ⟨rfl, rfl⟩ := H
  exact ea_return (pc := 36) dX12_lay_36 rfl
theorem dX12_opens_0 : decode cX12_opens 0 = .ok (.aload_n 0, 1) := by decide +kernel
theorem dX12_opens_1 : decode cX12_opens 1 = .ok (.getfield 455, 3) := by decide +kernel
theorem dX12_opens_4 : decode cX12_opens 4 = .ok (.bipush 8, 2) := by decide +kernel
theorem dX12_opens_6 : decode cX12_opens 6 = .ok (.if_icmp .ne 9, 3) := by decide +kernel
theorem dX12_opens_9 : decode cX12_opens 9 = .ok (.aload_n 0, 1) := by decide +kernel
theorem dX12_opens_10 : decode cX12_opens 10 = .ok (.iconst 3, 1) := by decide +kernel
theorem dX12_opens_11 : decode cX12_opens 11 = .ok (.invokevirtual 443, 3) := by decide +kernel
theorem dX12_opens_14 : decode cX12_opens 14 = .ok (.ireturn, 1) := by decide +kernel
theorem dX12_opens_15 : decode cX12_opens 15 = .ok (.aload_n 0, 1) := by decide +kernel
theorem dX12_opens_16 : decode cX12_opens 16 = .ok (.dup, 1) := by decide +kernel
theorem dX12_opens_17 : decode cX12_opens 17 = .ok (.getfield 455, 3) := by decide +kernel
theorem dX12_opens_20 : decode cX12_opens 20 = .ok (.iconst 1, 1) := by decide +kernel
theorem dX12_opens_21 : decode cX12_opens 21 = .ok (.iadd, 1) := by decide +kernel
theorem dX12_opens_22 : decode cX12_opens 22 = .ok (.putfield 455, 3) := by decide +kernel
theorem dX12_opens_25 : decode cX12_opens 25 = .ok (.aload_n 0, 1) := by decide +kernel
theorem dX12_opens_26 : decode cX12_opens 26 = .ok (.invokevirtual 446, 3) := by decide +kernel
theorem dX12_opens_29 : decode cX12_opens 29 = .ok (.iconst 1, 1) := by decide +kernel
theorem dX12_opens_30 : decode cX12_opens 30 = .ok (.ireturn, 1) := by decide +kernel
theorem bX12_opens_0 {d : Nat} {h0 hE h : ea_H} {rv : Option ea_V} {r0 : Option Nat} (H : ∃ a3, r0 = some a3 ∧ a3 < ea_n h ∧ ea_c h a3 = 12 ∧ (¬ (ea_i h a3 60) = (8 : Int32) → a3 < ea_n h ∧ ea_c h a3 = 12 ∧ a3 < ea_n h ∧ ea_c h a3 = 12 ∧ ∀ h9, h9 = ea_wi h a3 60 ((ea_i h a3 60) + (1 : Int32)) → a3 < ea_n h9 ∧ ea_c h9 a3 = 12 ∧ ∃ (d11 : Nat) (h12 : ea_H), ea_Met mX12_next0 d11 [vR (some a3)] h9 none h12 ∧ d11 + 1 ≤ d ∧ rv = some (vI 1) ∧ hE = h12) ∧ ((ea_i h a3 60) = (8 : Int32) → a3 < ea_n h ∧ ea_c h a3 = 12 ∧ ∃ (d17 : Nat) (xc23 : Int32) (h18 : ea_H), ea_Met mX12_bad d17 [vR (some a3), vI 3] h (some (vI xc23)) h18 ∧ d17 + 1 ≤ d ∧ (xc23 = 0 ∨ xc23 = 1) ∧ rv = some (vI xc23) ∧ hE = h18)) : ea_W mX12_opens d h0 rv hE 0 [(0, vR r0)] [] h := by
  refine ea_aload_n (pc := 0) dX12_opens_0 rfl 0 rfl ?_
  obtain ⟨a3, e4, f1, g2, H⟩ := H
  refine ea_deref0 e4 ?_
  refine ea_getI (pc := 1) dX12_opens_1 ec_12 (k := 60) (Nat.le_of_ble_eq_true rfl) rfl (Or.inl ew_1405) f1 g2 ?_
  refine ea_bipush (pc := 4) dX12_opens_4 (v := 8) rfl ?_
  refine ea_icmp_ne (pc := 6) (tgt := 15) dX12_opens_6 rfl (fun c25 => ?_) (fun c25 => ?_)
  · have H := H.1 c25
    refine ea_aload_n (pc := 15) dX12_opens_15 rfl 0 rfl ?_
    refine ea_dup (pc := 16) dX12_opens_16 rfl ?_
    obtain ⟨f5, g6, H⟩ := H
    refine ea_deref0 e4 ?_
    refine ea_getI (pc := 17) dX12_opens_17 ec_12 (k := 60) (Nat.le_of_ble_eq_true rfl) rfl (Or.inl ew_1405) f5 g6 ?_
    refine ea_iconst (pc := 20) dX12_opens_20 (v := 1) rfl ?_
    refine ea_iadd (pc := 21) dX12_opens_21 ?_
    obtain ⟨f7, g8, H⟩ := H
    refine ea_deref1 e4 ?_
    refine ea_putI (pc := 22) dX12_opens_22 ec_12 (k := 60) (Nat.le_of_ble_eq_true rfl) rfl (Or.inl ⟨rfl, Or.inl ew_1405⟩) rfl rfl f7 g8 ?_
    obtain ⟨h9, E10⟩ : ∃ z, z = ea_wi h a3 60 ((ea_i h a3 60) + (1 : Int32)) := ⟨_, rfl⟩
    have H := H h9 E10
    refine ea_nm E10 ?_
    refine ea_aload_n (pc := 25) dX12_opens_25 rfl 0 rfl ?_
    obtain ⟨f15, g16, H⟩ := H
    refine ea_deref0 e4 ?_
    obtain ⟨d11, h12, m13, q14, H⟩ := H
    refine ea_callV (pc := 26) (As := []) (st := []) dX12_opens_26 kX12_next0 m13 q14 rfl (Nat.le_of_ble_eq_true rfl) ew_1822 ew_1824 ew_63 (ci := 12) rfl (by decide) f15 g16 ?_
    refine ea_iconst (pc := 29) dX12_opens_29 (v := 1) rfl ?_
    obtain ⟨rfl, rfl⟩ := H
    exact ea_ireturn (pc := 30) dX12_opens_30 rfl (ea_bn (Or.inr rfl))
  · have H := H.2 c25
    refine ea_aload_n (pc := 9) dX12_opens_9 rfl 0 rfl ?_
    refine ea_iconst (pc := 10) dX12_opens_10 (v := 3) rfl ?_
    obtain ⟨f21, g22, H⟩ := H
    refine ea_deref1 e4 ?_
    obtain ⟨d17, xc23, h18, m19, q20, H⟩ := H
    refine ea_callV (pc := 11) (As := [vI 3]) (st := []) dX12_opens_11 kX12_bad m19 q20 rfl (Nat.le_of_ble_eq_true rfl) ew_1914 ew_1916 ew_68 (ci := 12) rfl (by decide) f21 g22 ?_
    obtain ⟨z24, rfl, rfl⟩ := H
    exact ea_ireturn (pc := 14) dX12_opens_14 rfl (ea_bn z24)
theorem dX12_sumOf_0 : decode cX12_sumOf 0 = .ok (.aload_n 0, 1) := by decide +kernel
theorem dX12_sumOf_1 : decode cX12_sumOf 1 = .ok (.invokevirtual 458, 3) := by decide +kernel
theorem dX12_sumOf_4 : decode cX12_sumOf 4 = .ok (.ifCond .ne 5, 3) := by decide +kernel
theorem dX12_sumOf_7 : decode cX12_sumOf 7 = .ok (.iconst 0, 1) := by decide +kernel
theorem dX12_sumOf_8 : decode cX12_sumOf 8 = .ok (.ireturn, 1) := by decide +kernel
theorem dX12_sumOf_9 : decode cX12_sumOf 9 = .ok (.aload_n 0, 1) := by decide +kernel
theorem dX12_sumOf_10 : decode cX12_sumOf 10 = .ok (.getfield 422, 3) := by decide +kernel
theorem dX12_sumOf_13 : decode cX12_sumOf 13 = .ok (.bipush 43, 2) := by decide +kernel
theorem dX12_sumOf_15 : decode cX12_sumOf 15 = .ok (.if_icmp .eq 12, 3) := by decide +kernel
theorem dX12_sumOf_18 : decode cX12_sumOf 18 = .ok (.aload_n 0, 1) := by decide +kernel
theorem dX12_sumOf_19 : decode cX12_sumOf 19 = .ok (.getfield 422, 3) := by decide +kernel
theorem dX12_sumOf_22 : decode cX12_sumOf 22 = .ok (.bipush 45, 2) := by decide +kernel
theorem dX12_sumOf_24 : decode cX12_sumOf 24 = .ok (.if_icmp .ne 42, 3) := by decide +kernel
theorem dX12_sumOf_27 : decode cX12_sumOf 27 = .ok (.aload_n 0, 1) := by decide +kernel
theorem dX12_sumOf_28 : decode cX12_sumOf 28 = .ok (.getfield 422, 3) := by decide +kernel
theorem dX12_sumOf_31 : decode cX12_sumOf 31 = .ok (.bipush 43, 2) := by decide +kernel
theorem dX12_sumOf_33 : decode cX12_sumOf 33 = .ok (.if_icmp .ne 8, 3) := by decide +kernel
theorem dX12_sumOf_36 : decode cX12_sumOf 36 = .ok (.bipush 8, 2) := by decide +kernel
theorem dX12_sumOf_38 : decode cX12_sumOf 38 = .ok (.goto 5, 3) := by decide +kernel
theorem dX12_sumOf_41 : decode cX12_sumOf 41 = .ok (.bipush 9, 2) := by decide +kernel
theorem dX12_sumOf_43 : decode cX12_sumOf 43 = .ok (.istore_n 1, 1) := by decide +kernel
theorem dX12_sumOf_44 : decode cX12_sumOf 44 = .ok (.aload_n 0, 1) := by decide +kernel
theorem dX12_sumOf_45 : decode cX12_sumOf 45 = .ok (.invokevirtual 446, 3) := by decide +kernel
theorem dX12_sumOf_48 : decode cX12_sumOf 48 = .ok (.aload_n 0, 1) := by decide +kernel
theorem dX12_sumOf_49 : decode cX12_sumOf 49 = .ok (.invokevirtual 458, 3) := by decide +kernel
theorem dX12_sumOf_52 : decode cX12_sumOf 52 = .ok (.ifCond .ne 5, 3) := by decide +kernel
theorem dX12_sumOf_55 : decode cX12_sumOf 55 = .ok (.iconst 0, 1) := by decide +kernel
theorem dX12_sumOf_56 : decode cX12_sumOf 56 = .ok (.ireturn, 1) := by decide +kernel
theorem dX12_sumOf_57 : decode cX12_sumOf 57 = .ok (.aload_n 0, 1) := by decide +kernel
theorem dX12_sumOf_58 : decode cX12_sumOf 58 = .ok (.iload_n 1, 1) := by decide +kernel
theorem dX12_sumOf_59 : decode cX12_sumOf 59 = .ok (.iconst 0, 1) := by decide +kernel
theorem dX12_sumOf_60 : decode cX12_sumOf 60 = .ok (.invokevirtual 462, 3) := by decide +kernel
theorem dX12_sumOf_63 : decode cX12_sumOf 63 = .ok (.goto (-54), 3) := by decide +kernel
theorem dX12_sumOf_66 : decode cX12_sumOf 66 = .ok (.iconst 1, 1) := by decide +kernel
theorem dX12_sumOf_67 : decode cX12_sumOf 67 = .ok (.ireturn, 1) := by decide +kernel
theorem bX12_sumOf_0 {d : Nat} {h0 hE h : ea_H} {rv : Option ea_V} {r0 : Option Nat} (H : ∃ a7, r0 = some a7 ∧ a7 < ea_n h ∧ ea_c h a7 = 12 ∧ ∃ (d1 : Nat) (xc9 : Int32) (h2 : ea_H), ea_Met mX12_product d1 [vR (some a7)] h (some (vI xc9)) h2 ∧ d1 + 1 ≤ d ∧ (¬ xc9 = (0 : Int32) → ea_W mX12_sumOf d h0 rv hE 9 [(0, vR r0)] [] h2) ∧ (xc9 = (0 : Int32) → rv = some (vI 0) ∧ hE = h2)) : ea_W mX12_sumOf d h0 rv hE 0 [(0, vR r0)] [] h := by
  refine ea_aload_n (pc := 0) dX12_sumOf_0 rfl 0 rfl ?_
  obtain ⟨a7, e8, f5, g6, H⟩ := H
  refine ea_deref0 e8 ?_
  obtain ⟨d1, xc9, h2, m3, q4, H⟩ := H
  refine ea_callV (pc := 1) (As := []) (st := []) dX12_sumOf_1 kX12_product m3 q4 rfl (Nat.le_of_ble_eq_true rfl) ew_1930 ew_1932 ew_72 (ci := 12) rfl (by decide) f5 g6 ?_
  refine ea_if_ne (pc := 4) (tgt := 9) dX12_sumOf_4 rfl (fun c10 => ?_) (fun c10 => ?_)
  · have H := H.1 c10
    exact H
  · have H := H.2 c10
    refine ea_iconst (pc := 7) dX12_sumOf_7 (v := 0) rfl ?_
    obtain ⟨rfl, rfl⟩ := H
    exact ea_ireturn (pc := 8) dX12_sumOf_8 rfl (ea_bn (Or.inl rfl))
theorem bX12_sumOf_9 {d : Nat} {h0 hE h : ea_H} {rv : Option ea_V} {r0 : Option Nat} (H : ∃ a3, r0 = some a3 ∧ a3 < ea_n h ∧ ea_c h a3 = 12 ∧ ((ea_i h a3 54) = (43 : Int32) → ea_W mX12_sumOf d h0 rv hE 27 [(0, vR r0)] [] h) ∧ (¬ (ea_i h a3 54) = (43 : Int32) → a3 < ea_n h ∧ ea_c h a3 = 12 ∧ (¬ (ea_i h a3 54) = (45 : Int32) → rv = some (vI 1) ∧ hE = h) ∧ ((ea_i h a3 54) = (45 : Int32) → ea_W mX12_sumOf d h0 rv hE 27 [(0, vR r0)] [] h))) : ea_W mX12_sumOf d h0 rv hE 9 [(0, vR r0)] [] h := by
  refine ea_aload_n (pc := 9) dX12_sumOf_9 rfl 0 rfl ?_
  obtain ⟨a3, e4, f1, g2, H⟩ := H
  refine ea_deref0 e4 ?_
  refine ea_getI (pc := 10) dX12_sumOf_10 ec_12 (k := 54) (Nat.le_of_ble_eq_true rfl) rfl (Or.inl ew_1399) f1 g2 ?_
  refine ea_bipush (pc := 13) dX12_sumOf_13 (v := 43) rfl ?_
  refine ea_icmp_eq (pc := 15) (tgt := 27) dX12_sumOf_15 rfl (fun c8 => ?_) (fun c8 => ?_)
  · have H := H.1 c8
    exact H
  · have H := H.2 c8
    refine ea_aload_n (pc := 18) dX12_sumOf_18 rfl 0 rfl ?_
    obtain ⟨f5, g6, H⟩ := H
    refine ea_deref0 e4 ?_
    refine ea_getI (pc := 19) dX12_sumOf_19 ec_12 (k := 54) (Nat.le_of_ble_eq_true rfl) rfl (Or.inl ew_1399) f5 g6 ?_
    refine ea_bipush (pc := 22) dX12_sumOf_22 (v := 45) rfl ?_
    refine ea_icmp_ne (pc := 24) (tgt := 66) dX12_sumOf_24 rfl (fun c7 => ?_) (fun c7 => ?_)
    · have H := H.1 c7
      refine ea_iconst (pc := 66) dX12_sumOf_66 (v := 1) rfl ?_
      obtain ⟨rfl, rfl⟩ := H
      exact ea_ireturn (pc := 67) dX12_sumOf_67 rfl (ea_bn (Or.inr rfl))
    · have H := H.2 c7
      exact H
theorem bX12_sumOf_27 {d : Nat} {h0 hE h : ea_H} {rv : Option ea_V} {r0 : Option Nat} (H : ∃ a3, r0 = some a3 ∧ a3 < ea_n h ∧ ea_c h a3 = 12 ∧ (¬ (ea_i h a3 54) = (43 : Int32) → ea_W mX12_sumOf d h0 rv hE 43 [(0, vR r0)] [vI 9] h) ∧ ((ea_i h a3 54) = (43 : Int32) → ea_W mX12_sumOf d h0 rv hE 43 [(0, vR r0)] [vI 8] h)) : ea_W mX12_sumOf d h0 rv hE 27 [(0, vR r0)] [] h := by
  refine ea_aload_n (pc := 27) dX12_sumOf_27 rfl 0 rfl ?_
  obtain ⟨a3, e4, f1, g2, H⟩ := H
  refine ea_deref0 e4 ?_
  refine ea_getI (pc := 28) dX12_sumOf_28 ec_12 (k := 54) (Nat.le_of_ble_eq_true rfl) rfl (Or.inl ew_1399) f1 g2 ?_
  refine ea_bipush (pc := 31) dX12_sumOf_31 (v := 43) rfl ?_
  refine ea_icmp_ne (pc := 33) (tgt := 41) dX12_sumOf_33 rfl (fun c5 => ?_) (fun c5 => ?_)
  · have H := H.1 c5
    refine ea_bipush (pc := 41) dX12_sumOf_41 (v := 9) rfl ?_
    exact H
  · have H := H.2 c5
    refine ea_bipush (pc := 36) dX12_sumOf_36 (v := 8) rfl ?_
    refine ea_goto (pc := 38) (tgt := 43) dX12_sumOf_38 rfl ?_
    exact H
theorem bX12_sumOf_43 {d : Nat} {h0 hE h : ea_H} {rv : Option ea_V} {r0 : Option Nat} {sx0 : Int32} (H : ∃ a7, r0 = some a7 ∧ a7 < ea_n h ∧ ea_c h a7 = 12 ∧ ∃ (d1 : Nat) (h2 : ea_H), ea_Met mX12_next0 d1 [vR (some a7)] h none h2 ∧ d1 + 1 ≤ d ∧ a7 < ea_n h2 ∧ ea_c h2 a7 = 12 ∧ ∃ (d9 : Nat) (xc15 : Int32) (h10 : ea_H), ea_Met mX12_product d9 [vR (some a7)] h2 (some (vI xc15)) h10 ∧ d9 + 1 ≤ d ∧ (¬ xc15 = (0 : Int32) → a7 < ea_n h10 ∧ ea_c h10 a7 = 12 ∧ ∃ (d16 : Nat) (h17 : ea_H), ea_Met mX12_lay d16 [vR (some a7), vI sx0, vI 0] h10 none h17 ∧ d16 + 1 ≤ d ∧ ea_W mX12_sumOf d h0 rv hE 9 [(0, vR r0)] [] h17) ∧ (xc15 = (0 : Int32) → rv = some (vI 0) ∧ hE = h10)) : ea_W mX12_sumOf d h0 rv hE 43 [(0, vR r0)] [vI sx0] h := by
  refine ea_istore_n (pc := 43) (lv' := [(0, vR r0), (1, vI sx0)]) dX12_sumOf_43 rfl (Nat.le_of_ble_eq_true rfl) [1, 0] rfl ?_
  refine ea_aload_n (pc := 44) dX12_sumOf_44 rfl 0 rfl ?_
  obtain ⟨a7, e8, f5, g6, H⟩ := H
  refine ea_deref0 e8 ?_
  obtain ⟨d1, h2, m3, q4, H⟩ := H
  refine ea_callV (pc := 45) (As := []) (st := []) dX12_sumOf_45 kX12_next0 m3 q4 rfl (Nat.le_of_ble_eq_true rfl) ew_1822 ew_1824 ew_63 (ci := 12) rfl (by decide) f5 g6 ?_
  refine ea_aload_n (pc := 48) dX12_sumOf_48 rfl 0 rfl ?_
  obtain ⟨f13, g14, H⟩ := H
  refine ea_deref0 e8 ?_
  obtain ⟨d9, xc15, h10, m11, q12, H⟩ := H
  refine ea_callV (pc := 49) (As := []) (st := []) dX12_sumOf_49 kX12_product m11 q12 rfl (Nat.le_of_ble_eq_true rfl) ew_1930 ew_1932 ew_72 (ci := 12) rfl (by decide) f13 g14 ?_
  refine ea_if_ne (pc := 52) (tgt := 57) dX12_sumOf_52 rfl (fun c22 => ?_) (fun c22 => ?_)
  · have H := H.1 c22
    refine ea_aload_n (pc := 57) dX12_sumOf_57 rfl 0 rfl ?_
    refine ea_iload_n (pc := 58) dX12_sumOf_58 rfl 1 rfl ?_
    refine ea_iconst (pc := 59) dX12_sumOf_59 (v := 0) rfl ?_
    obtain ⟨f20, g21, H⟩ := H
    refine ea_deref2 e8 ?_
    obtain ⟨d16, h17, m18, q19, H⟩ := H
    refine ea_callV (pc := 60) (As := [vI sx0, vI 0]) (st := []) dX12_sumOf_60 kX12_lay m18 q19 rfl (Nat.le_of_ble_eq_true rfl) ew_1946 ew_1948 ew_76 (ci := 12) rfl (by decide) f20 g21 ?_
    refine ea_goto (pc := 63) (tgt := 9) dX12_sumOf_63 rfl ?_
    exact ea_fewer [0] rfl H
  · have H := H.2 c22
    refine ea_iconst (pc := 55) dX12_sumOf_55 (v := 0) rfl ?_
    obtain ⟨rfl, rfl⟩ := H
    exact ea_ireturn (pc := 56) dX12_sumOf_56 rfl (ea_bn (Or.inl rfl))
theorem dX12_product_0 : decode cX12_product 0 = .ok (.aload_n 0, 1) := by decide +kernel
theorem dX12_product_1 : decode cX12_product 1 = .ok (.invokevirtual 465, 3) := by decide +kernel
theorem dX12_product_4 : decode cX12_product 4 = .ok (.ifCond .ne 5, 3) := by decide +kernel
theorem dX12_product_7 : decode cX12_product 7 = .ok (.iconst 0, 1) := by decide +kernel
theorem dX12_product_8 : decode cX12_product 8 = .ok (.ireturn, 1) := by decide +kernel
theorem dX12_product_9 : decode cX12_product 9 = .ok (.aload_n 0, 1) := by decide +kernel
theorem dX12_product_10 : decode cX12_product 10 = .ok (.getfield 422, 3) := by decide +kernel
theorem dX12_product_13 : decode cX12_product 13 = .ok (.bipush 42, 2) := by decide +kernel
theorem dX12_product_15 : decode cX12_product 15 = .ok (.if_icmp .eq 12, 3) := by decide +kernel
theorem dX12_product_18 : decode cX12_product 18 = .ok (.aload_n 0, 1) := by decide +kernel
theorem dX12_product_19 : decode cX12_product 19 = .ok (.getfield 422, 3) := by decide +kernel
theorem dX12_product_22 : decode cX12_product 22 = .ok (.bipush 47, 2) := by decide +kernel
theorem dX12_product_24 : decode cX12_product 24 = .ok (.if_icmp .ne 89, 3) := by decide +kernel
theorem dX12_product_27 : decode cX12_product 27 = .ok (.aload_n 0, 1) := by decide +kernel
theorem dX12_product_28 : decode cX12_product 28 = .ok (.getfield 422, 3) := by decide +kernel
theorem dX12_product_31 : decode cX12_product 31 = .ok (.bipush 47, 2) := by decide +kernel
theorem dX12_product_33 : decode cX12_product 33 = .ok (.if_icmp .ne 7, 3) := by decide +kernel
theorem dX12_product_36 : decode cX12_product 36 = .ok (.iconst 1, 1) := by decide +kernel
theorem dX12_product_37 : decode cX12_product 37 = .ok (.goto 4, 3) := by decide +kernel
theorem dX12_product_40 : decode cX12_product 40 = .ok (.iconst 0, 1) := by decide +kernel
theorem dX12_product_41 : decode cX12_product 41 = .ok (.istore_n 1, 1) := by decide +kernel
theorem dX12_product_42 : decode cX12_product 42 = .ok (.aload_n 0, 1) := by decide +kernel
theorem dX12_product_43 : decode cX12_product 43 = .ok (.invokevirtual 446, 3) := by decide +kernel
theorem dX12_product_46 : decode cX12_product 46 = .ok (.iload_n 1, 1) := by decide +kernel
theorem dX12_product_47 : decode cX12_product 47 = .ok (.ifCond .eq 47, 3) := by decide +kernel
theorem dX12_product_50 : decode cX12_product 50 = .ok (.aload_n 0, 1) := by decide +kernel
theorem dX12_product_51 : decode cX12_product 51 = .ok (.getfield 422, 3) := by decide +kernel
theorem dX12_product_54 : decode cX12_product 54 = .ok (.iconst 2, 1) := by decide +kernel
theorem dX12_product_55 : decode cX12_product 55 = .ok (.if_icmp .eq 9, 3) := by decide +kernel
theorem dX12_product_58 : decode cX12_product 58 = .ok (.aload_n 0, 1) := by decide +kernel
theorem dX12_product_59 : decode cX12_product 59 = .ok (.iconst 1, 1) := by decide +kernel
theorem dX12_product_60 : decode cX12_product 60 = .ok (.invokevirtual 443, 3) := by decide +kernel
theorem dX12_product_63 : decode cX12_product 63 = .ok (.ireturn, 1) := by decide +kernel
theorem dX12_product_64 : decode cX12_product 64 = .ok (.aload_n 0, 1) := by decide +kernel
theorem dX12_product_65 : decode cX12_product 65 = .ok (.getfield 434, 3) := by decide +kernel
theorem dX12_product_68 : decode cX12_product 68 = .ok (.ifCond .ne 9, 3) := by decide +kernel
theorem dX12_product_71 : decode cX12_product 71 = .ok (.aload_n 0, 1) := by decide +kernel
theorem dX12_product_72 : decode cX12_product 72 = .ok (.iconst 2, 1) := by decide +kernel
theorem dX12_product_73 : decode cX12_product 73 = .ok (.invokevirtual 443, 3) := by decide +kernel
theorem dX12_product_76 : decode cX12_product 76 = .ok (.ireturn, 1) := by decide +kernel
theorem dX12_product_77 : decode cX12_product 77 = .ok (.aload_n 0, 1) := by decide +kernel
theorem dX12_product_78 : decode cX12_product 78 = .ok (.bipush 11, 2) := by decide +kernel
theorem dX12_product_80 : decode cX12_product 80 = .ok (.aload_n 0, 1) := by decide +kernel
theorem dX12_product_81 : decode cX12_product 81 = .ok (.getfield 434, 3) := by decide +kernel
theorem dX12_product_84 : decode cX12_product 84 = .ok (.invokevirtual 462, 3) := by decide +kernel
theorem dX12_product_87 : decode cX12_product 87 = .ok (.aload_n 0, 1) := by decide +kernel
theorem dX12_product_88 : decode cX12_product 88 = .ok (.invokevirtual 446, 3) := by decide +kernel
theorem dX12_product_91 : decode cX12_product 91 = .ok (.goto 19, 3) := by decide +kernel
theorem dX12_product_94 : decode cX12_product 94 = .ok (.aload_n 0, 1) := by decide +kernel
theorem dX12_product_95 : decode cX12_product 95 = .ok (.invokevirtual 465, 3) := by decide +kernel
theorem dX12_product_98 : decode cX12_product 98 = .ok (.ifCond .ne 5, 3) := by decide +kernel
theorem dX12_product_101 : decode cX12_product 101 = .ok (.iconst 0, 1) := by decide +kernel
theorem dX12_product_102 : decode cX12_product 102 = .ok (.ireturn, 1) := by decide +kernel
theorem dX12_product_103 : decode cX12_product 103 = .ok (.aload_n 0, 1) := by decide +kernel
theorem dX12_product_104 : decode cX12_product 104 = .ok (.bipush 10, 2) := by decide +kernel
theorem dX12_product_106 : decode cX12_product 106 = .ok (.iconst 0, 1) := by decide +kernel
theorem dX12_product_107 : decode cX12_product 107 = .ok (.invokevirtual 462, 3) := by decide +kernel
theorem dX12_product_110 : decode cX12_product 110 = .ok (.goto (-101), 3) := by decide +kernel
theorem dX12_product_113 : decode cX12_product 113 = .ok (.iconst 1, 1) := by decide +kernel
theorem dX12_product_114 : decode cX12_product 114 = .ok (.ireturn, 1) := by decide +kernel
theorem bX12_product_0 {d : Nat} {h0 hE h : ea_H} {rv : Option ea_V} {r0 : Option Nat} (H : ∃ a7, r0 = some a7 ∧ a7 < ea_n h ∧ ea_c h a7 = 12 ∧ ∃ (d1 : Nat) (xc9 : Int32) (h2 : ea_H), ea_Met mX12_unit d1 [vR (some a7)] h (some (vI xc9)) h2 ∧ d1 + 1 ≤ d ∧ (¬ xc9 = (0 : Int32) → ea_W mX12_product d h0 rv hE 9 [(0, vR r0)] [] h2) ∧ (xc9 = (0 : Int32) → rv = some (vI 0) ∧ hE = h2)) : ea_W mX12_product d h0 rv hE 0 [(0, vR r0)] [] h := by
  refine ea_aload_n (pc := 0) dX12_product_0 rfl 0 rfl ?_
  obtain ⟨a7, e8, f5, g6, H⟩ := H
  refine ea_deref0 e8 ?_
  obtain ⟨d1, xc9, h2, m3, q4, H⟩ := H
  refine ea_callV (pc := 1) (As := []) (st := []) dX12_product_1 kX12_unit m3 q4 rfl (Nat.le_of_ble_eq_true rfl) ew_1934 ew_1936 ew_73 (ci := 12) rfl (by decide) f5 g6 ?_
  refine ea_if_ne (pc := 4) (tgt := 9) dX12_product_4 rfl (fun c10 => ?_) (fun c10 => ?_)
  · have H := H.1 c10
    exact H
  · have H := H.2 c10
    refine ea_iconst (pc := 7) dX12_product_7 (v := 0) rfl ?_
    obtain ⟨rfl, rfl⟩ := H
    exact ea_ireturn (pc := 8) dX12_product_8 rfl (ea_bn (Or.inl rfl))
theorem bX12_product_9 {d : Nat} {h0 hE h : ea_H} {rv : Option ea_V} {r0 : Option Nat} (H : ∃ a3, r0 = some a3 ∧ a3 < ea_n h ∧ ea_c h a3 = 12 ∧ ((ea_i h a3 54) = (42 : Int32) → ea_W mX12_product d h0 rv hE 27 [(0, vR r0)] [] h) ∧ (¬ (ea_i h a3 54) = (42 : Int32) → a3 < ea_n h ∧ ea_c h a3 = 12 ∧ (¬ (ea_i h a3 54) = (47 : Int32) → rv = some (vI 1) ∧ hE = h) ∧ ((ea_i h a3 54) = (47 : Int32) → ea_W mX12_product d h0 rv hE 27 [(0, vR r0)] [] h))) : ea_W mX12_product d h0 rv hE 9 [(0, vR r0)] [] h := by
  refine ea_aload_n (pc := 9) dX12_product_9 rfl 0 rfl ?_
  obtain ⟨a3, e4, f1, g2, H⟩ := H
  refine ea_deref0 e4 ?_
  refine ea_getI (pc := 10) dX12_product_10 ec_12 (k := 54) (Nat.le_of_ble_eq_true rfl) rfl (Or.inl ew_1399) f1 g2 ?_
  refine ea_bipush (pc := 13) dX12_product_13 (v := 42) rfl ?_
  refine ea_icmp_eq (pc := 15) (tgt := 27) dX12_product_15 rfl (fun c8 => ?_) (fun c8 => ?_)
  · have H := H.1 c8
    exact H
  · have H := H.2 c8
    refine ea_aload_n (pc := 18) dX12_product_18 rfl 0 rfl ?_
    obtain ⟨f5, g6, H⟩ := H
    refine ea_deref0 e4 ?_
    refine ea_getI (pc := 19) dX12_product_19 ec_12 (k := 54) (Nat.le_of_ble_eq_true rfl) rfl (Or.inl ew_1399) f5 g6 ?_
    refine ea_bipush (pc := 22) dX12_product_22 (v := 47) rfl ?_
    refine ea_icmp_ne (pc := 24) (tgt := 113) dX12_product_24 rfl (fun c7 => ?_) (fun c7 => ?_)
    · have H := H.1 c7
      refine ea_iconst (pc := 113) dX12_product_113 (v := 1) rfl ?_
      obtain ⟨rfl, rfl⟩ := H
      exact ea_ireturn (pc := 114) dX12_product_114 rfl (ea_bn (Or.inr rfl))
    · have H := H.2 c7
      exact H
theorem bX12_product_27 {d : Nat} {h0 hE h : ea_H} {rv : Option ea_V} {r0 : Option Nat} (H : ∃ a3, r0 = some a3 ∧ a3 < ea_n h ∧ ea_c h a3 = 12 ∧ (¬ (ea_i h a3 54) = (47 : Int32) → ea_W mX12_product d h0 rv hE 41 [(0, vR r0)] [vI 0] h) ∧ ((ea_i h a3 54) = (47 : Int32) → ea_W mX12_product d h0 rv hE 41 [(0, vR r0)] [vI 1] h)) : ea_W mX12_product d h0 rv hE 27 [(0, vR r0)] [] h := by
  refine ea_aload_n (pc := 27) dX12_product_27 rfl 0 rfl ?_
  obtain ⟨a3, e4, f1, g2, H⟩ := H
  refine ea_deref0 e4 ?_
  refine ea_getI (pc := 28) dX12_product_28 ec_12 (k := 54) (Nat.le_of_ble_eq_true rfl) rfl (Or.inl ew_1399) f1 g2 ?_
  refine ea_bipush (pc := 31) dX12_product_31 (v := 47) rfl ?_
  refine ea_icmp_ne (pc := 33) (tgt := 40) dX12_product_33 rfl (fun c5 => ?_) (fun c5 => ?_)
  · have H := H.1 c5
    refine ea_iconst (pc := 40) dX12_product_40 (v := 0) rfl ?_
    exact H
  · have H := H.2 c5
    refine ea_iconst (pc := 36) dX12_product_36 (v := 1) rfl ?_
    refine ea_goto (pc := 37) (tgt := 41) dX12_product_37 rfl ?_
    exact H
theorem bX12_product_41 {d : Nat} {h0 hE h : ea_H} {rv : Option ea_V} {r0 : Option Nat} {sx0 : Int32} (H : ∃ a7, r0 = some a7 ∧ a7 < ea_n h ∧ ea_c h a7 = 12 ∧ ∃ (d1 : Nat) (h2 : ea_H), ea_Met mX12_next0 d1 [vR (some a7)] h none h2 ∧ d1 + 1 ≤ d ∧ (sx0 = (0 : Int32) → a7 < ea_n h2 ∧ ea_c h2 a7 = 12 ∧ ∃ (d9 : Nat) (xc15 : Int32) (h10 : ea_H), ea_Met mX12_unit d9 [vR (some a7)] h2 (some (vI xc15)) h10 ∧ d9 + 1 ≤ d ∧ (¬ xc15 = (0 : Int32) → a7 < ea_n h10 ∧ ea_c h10 a7 = 12 ∧ ∃ (d16 : Nat) (h17 : ea_H), ea_Met mX12_lay d16 [vR (some a7), vI 10, vI 0] h10 none h17 ∧ d16 + 1 ≤ d ∧ ea_W mX12_product d h0 rv hE 9 [(0, vR r0)] [] h17) ∧ (xc15 = (0 : Int32) → rv = some (vI 0) ∧ hE = h10)) ∧ (¬ sx0 = (0 : Int32) → a7 < ea_n h2 ∧ ea_c h2 a7 = 12 ∧ ((ea_i h2 a7 54) = (2 : Int32) → a7 < ea_n h2 ∧ ea_c h2 a7 = 12 ∧ (¬ (ea_i h2 a7 56) = (0 : Int32) → a7 < ea_n h2 ∧ ea_c h2 a7 = 12 ∧ a7 < ea_n h2 ∧ ea_c h2 a7 = 12 ∧ ∃ (d29 : Nat) (h30 : ea_H), ea_Met mX12_lay d29 [vR (some a7), vI 11, vI (ea_i h2 a7 56)] h2 none h30 ∧ d29 + 1 ≤ d ∧ a7 < ea_n h30 ∧ ea_c h30 a7 = 12 ∧ ∃ (d35 : Nat) (h36 : ea_H), ea_Met mX12_next0 d35 [vR (some a7)] h30 none h36 ∧ d35 + 1 ≤ d ∧ ea_W mX12_product d h0 rv hE 9 [(0, vR r0)] [] h36) ∧ ((ea_i h2 a7 56) = (0 : Int32) → a7 < ea_n h2 ∧ ea_c h2 a7 = 12 ∧ ∃ (d41 : Nat) (xc47 : Int32) (h42 : ea_H), ea_Met mX12_bad d41 [vR (some a7), vI 2] h2 (some (vI xc47)) h42 ∧ d41 + 1 ≤ d ∧ (xc47 = 0 ∨ xc47 = 1) ∧ rv = some (vI xc47) ∧ hE = h42)) ∧ (¬ (ea_i h2 a7 54) = (2 : Int32) → a7 < ea_n h2 ∧ ea_c h2 a7 = 12 ∧ ∃ (d50 : Nat) (xc56 : Int32) (h51 : ea_H), ea_Met mX12_bad d50 [vR (some a7), vI 1] h2 (some (vI xc56)) h51 ∧ d50 + 1 ≤ d ∧ (xc56 = 0 ∨ xc56 = 1) ∧ rv = some (vI xc56) ∧ hE = h51))) : ea_W mX12_product d h0 rv hE 41 [(0, vR r0)] [vI sx0] h := by
  refine ea_istore_n (pc := 41) (lv' := [(0, vR r0), (1, vI sx0)]) dX12_product_41 rfl (Nat.le_of_ble_eq_true rfl) [1, 0] rfl ?_
  refine ea_aload_n (pc := 42) dX12_product_42 rfl 0 rfl ?_
  obtain ⟨a7, e8, f5, g6, H⟩ := H
  refine ea_deref0 e8 ?_
  obtain ⟨d1, h2, m3, q4, H⟩ := H
  refine ea_callV (pc := 43) (As := []) (st := []) dX12_product_43 kX12_next0 m3 q4 rfl (Nat.le_of_ble_eq_true rfl) ew_1822 ew_1824 ew_63 (ci := 12) rfl (by decide) f5 g6 ?_
  refine ea_iload_n (pc := 46) dX12_product_46 rfl 1 rfl ?_
  refine ea_if_eq (pc := 47) (tgt := 94) dX12_product_47 rfl (fun c59 => ?_) (fun c59 => ?_)
  · have H := H.1 c59
    refine ea_aload_n (pc := 94) dX12_product_94 rfl 0 rfl ?_
    obtain ⟨f13, g14, H⟩ := H
    refine ea_deref0 e8 ?_
    obtain ⟨d9, xc15, h10, m11, q12, H⟩ := H
    refine ea_callV (pc := 95) (As := []) (st := []) dX12_product_95 kX12_unit m11 q12 rfl (Nat.le_of_ble_eq_true rfl) ew_1934 ew_1936 ew_73 (ci := 12) rfl (by decide) f13 g14 ?_
    refine ea_if_ne (pc := 98) (tgt := 103) dX12_product_98 rfl (fun c22 => ?_) (fun c22 => ?_)
    · have H := H.1 c22
      refine ea_aload_n (pc := 103) dX12_product_103 rfl 0 rfl ?_
      refine ea_bipush (pc := 104) dX12_product_104 (v := 10) rfl ?_
      refine ea_iconst (pc := 106) dX12_product_106 (v := 0) rfl ?_
      obtain ⟨f20, g21, H⟩ := H
      refine ea_deref2 e8 ?_
      obtain ⟨d16, h17, m18, q19, H⟩ := H
      refine ea_callV (pc := 107) (As := [vI 10, vI 0]) (st := []) dX12_product_107 kX12_lay m18 q19 rfl (Nat.le_of_ble_eq_true rfl) ew_1946 ew_1948 ew_76 (ci := 12) rfl (by decide) f20 g21 ?_
      refine ea_goto (pc := 110) (tgt := 9) dX12_product_110 rfl ?_
      exact ea_fewer [0] rfl H
    · have H := H.2 c22
      refine ea_iconst (pc := 101) dX12_product_101 (v := 0) rfl ?_
      obtain ⟨rfl, rfl⟩ := H
      exact ea_ireturn (pc := 102) dX12_product_102 rfl (ea_bn (Or.inl rfl))
  · have H := H.2 c59
    refine ea_aload_n (pc := 50) dX12_product_50 rfl 0 rfl ?_
    obtain ⟨f23, g24, H⟩ := H
    refine ea_deref0 e8 ?_
    refine ea_getI (pc := 51) dX12_product_51 ec_12 (k := 54) (Nat.le_of_ble_eq_true rfl) rfl (Or.inl ew_1399) f23 g24 ?_
    refine ea_iconst (pc := 54) dX12_product_54 (v := 2) rfl ?_
    refine ea_icmp_eq (pc := 55) (tgt := 64) dX12_product_55 rfl (fun c58 => ?_) (fun c58 => ?_)
    · have H := H.1 c58
      refine ea_aload_n (pc := 64) dX12_product_64 rfl 0 rfl ?_
      obtain ⟨f25, g26, H⟩ := H
      refine ea_deref0 e8 ?_
      refine ea_getI (pc := 65) dX12_product_65 ec_12 (k := 56) (Nat.le_of_ble_eq_true rfl) rfl (Or.inl ew_1401) f25 g26 ?_
      refine ea_if_ne (pc := 68) (tgt := 77) dX12_product_68 rfl (fun c49 => ?_) (fun c49 => ?_)
      · have H := H.1 c49
        refine ea_aload_n (pc := 77) dX12_product_77 rfl 0 rfl ?_
        refine ea_bipush (pc := 78) dX12_product_78 (v := 11) rfl ?_
        refine ea_aload_n (pc := 80) dX12_product_80 rfl 0 rfl ?_
        obtain ⟨f27, g28, H⟩ := H
        refine ea_deref0 e8 ?_
        refine ea_getI (pc := 81) dX12_product_81 ec_12 (k := 56) (Nat.le_of_ble_eq_true rfl) rfl (Or.inl ew_1401) f27 g28 ?_
        obtain ⟨f33, g34, H⟩ := H
        refine ea_deref2 e8 ?_
        obtain ⟨d29, h30, m31, q32, H⟩ := H
        refine ea_callV (pc := 84) (As := [vI 11, vI (ea_i h2 a7 56)]) (st := []) dX12_product_84 kX12_lay m31 q32 rfl (Nat.le_of_ble_eq_true rfl) ew_1946 ew_1948 ew_76 (ci := 12) rfl (by decide) f33 g34 ?_
        refine ea_aload_n (pc := 87) dX12_product_87 rfl 0 rfl ?_
        obtain ⟨f39, g40, H⟩ := H
        refine ea_deref0 e8 ?_
        obtain ⟨d35, h36, m37, q38, H⟩ := H
        refine ea_callV (pc := 88) (As := []) (st := []) dX12_product_88 kX12_next0 m37 q38 rfl (Nat.le_of_ble_eq_true rfl) ew_1822 ew_1824 ew_63 (ci := 12) rfl (by decide) f39 g40 ?_
        refine ea_goto (pc := 91) (tgt := 110) dX12_product_91 rfl ?_
        refine ea_goto (pc := 110) (tgt := 9) dX12_product_110 rfl ?_
        exact ea_fewer [0] rfl H
      · have H := H.2 c49
        refine ea_aload_n (pc := 71) dX12_product_71 rfl 0 rfl ?_
        refine ea_iconst (pc := 72) dX12_product_72 (v := 2) rfl ?_
        obtain ⟨f45, g46, H⟩ := H
        refine ea_deref1 e8 ?_
        obtain ⟨d41, xc47, h42, m43, q44, H⟩ := H
        refine ea_callV (pc := 73) (As := [vI 2]) (st := []) dX12_product_73 kX12_bad m43 q44 rfl (Nat.le_of_ble_eq_true rfl) ew_1914 ew_1916 ew_68 (ci := 12) rfl (by decide) f45 g46 ?_
        obtain ⟨z48, rfl, rfl⟩ := H
        exact ea_ireturn (pc := 76) dX12_product_76 rfl (ea_bn z48)
    · have H := H.2 c58
      refine ea_aload_n (pc := 58) dX12_product_58 rfl 0 rfl ?_
      refine ea_iconst (pc := 59) dX12_product_59 (v := 1) rfl ?_
      obtain ⟨f54, g55, H⟩ := H
      refine ea_deref1 e8 ?_
      obtain ⟨d50, xc56, h51, m52, q53, H⟩ := H
      refine ea_callV (pc := 60) (As := [vI 1]) (st := []) dX12_product_60 kX12_bad m52 q53 rfl (Nat.le_of_ble_eq_true rfl) ew_1914 ew_1916 ew_68 (ci := 12) rfl (by decide) f54 g55 ?_
      obtain ⟨z57, rfl, rfl⟩ := H
      exact ea_ireturn (pc := 63) dX12_product_63 rfl (ea_bn z57)
theorem dX12_unit_0 : decode cX12_unit 0 = .ok (.aload_n 0, 1) := by decide +kernel
theorem dX12_unit_1 : decode cX12_unit 1 = .ok (.getfield 422, 3) := by decide +kernel
theorem dX12_unit_4 : decode cX12_unit 4 = .ok (.bipush 40, 2) := by decide +kernel
theorem dX12_unit_6 : decode cX12_unit 6 = .ok (.if_icmp .ne 40, 3) := by decide +kernel
theorem dX12_unit_9 : decode cX12_unit 9 = .ok (.aload_n 0, 1) := by decide +kernel
theorem dX12_unit_10 : decode cX12_unit 10 = .ok (.invokevirtual 468, 3) := by decide +kernel
theorem dX12_unit_13 : decode cX12_unit 13 = .ok (.ifCond .eq 19, 3) := by decide +kernel
theorem dX12_unit_16 : decode cX12_unit 16 = .ok (.aload_n 0, 1) := by decide +kernel
theorem dX12_unit_17 : decode cX12_unit 17 = .ok (.invokevirtual 471, 3) := by decide +kernel
theorem dX12_unit_20 : decode cX12_unit 20 = .ok (.ifCond .eq 12, 3) := by decide +kernel
theorem dX12_unit_23 : decode cX12_unit 23 = .ok (.aload_n 0, 1) := by decide +kernel
theorem dX12_unit_24 : decode cX12_unit 24 = .ok (.bipush 41, 2) := by decide +kernel
theorem dX12_unit_26 : decode cX12_unit 26 = .ok (.invokevirtual 474, 3) := by decide +kernel
theorem dX12_unit_29 : decode cX12_unit 29 = .ok (.ifCond .ne 5, 3) := by decide +kernel
theorem dX12_unit_32 : decode cX12_unit 32 = .ok (.iconst 0, 1) := by decide +kernel
theorem dX12_unit_33 : decode cX12_unit 33 = .ok (.ireturn, 1) := by decide +kernel
theorem dX12_unit_34 : decode cX12_unit 34 = .ok (.aload_n 0, 1) := by decide +kernel
theorem dX12_unit_35 : decode cX12_unit 35 = .ok (.dup, 1) := by decide +kernel
theorem dX12_unit_36 : decode cX12_unit 36 = .ok (.getfield 455, 3) := by decide +kernel
theorem dX12_unit_39 : decode cX12_unit 39 = .ok (.iconst 1, 1) := by decide +kernel
theorem dX12_unit_40 : decode cX12_unit 40 = .ok (.isub, 1) := by decide +kernel
theorem dX12_unit_41 : decode cX12_unit 41 = .ok (.putfield 455, 3) := by decide +kernel
theorem dX12_unit_44 : decode cX12_unit 44 = .ok (.iconst 1, 1) := by decide +kernel
theorem dX12_unit_45 : decode cX12_unit 45 = .ok (.ireturn, 1) := by decide +kernel
theorem dX12_unit_46 : decode cX12_unit 46 = .ok (.aload_n 0, 1) := by decide +kernel
theorem dX12_unit_47 : decode cX12_unit 47 = .ok (.getfield 422, 3) := by decide +kernel
theorem dX12_unit_50 : decode cX12_unit 50 = .ok (.iconst 2, 1) := by decide +kernel
theorem dX12_unit_51 : decode cX12_unit 51 = .ok (.if_icmp .eq 19, 3) := by decide +kernel
theorem dX12_unit_54 : decode cX12_unit 54 = .ok (.aload_n 0, 1) := by decide +kernel
theorem dX12_unit_55 : decode cX12_unit 55 = .ok (.getfield 422, 3) := by decide +kernel
theorem dX12_unit_58 : decode cX12_unit 58 = .ok (.sipush 201, 3) := by decide +kernel
theorem dX12_unit_61 : decode cX12_unit 61 = .ok (.if_icmp .ge 9, 3) := by decide +kernel
theorem dX12_unit_64 : decode cX12_unit 64 = .ok (.aload_n 0, 1) := by decide +kernel
theorem dX12_unit_65 : decode cX12_unit 65 = .ok (.iconst 1, 1) := by decide +kernel
theorem dX12_unit_66 : decode cX12_unit 66 = .ok (.invokevirtual 443, 3) := by decide +kernel
theorem dX12_unit_69 : decode cX12_unit 69 = .ok (.ireturn, 1) := by decide +kernel
theorem dX12_unit_70 : decode cX12_unit 70 = .ok (.aload_n 0, 1) := by decide +kernel
theorem dX12_unit_71 : decode cX12_unit 71 = .ok (.aload_n 0, 1) := by decide +kernel
theorem dX12_unit_72 : decode cX12_unit 72 = .ok (.getfield 422, 3) := by decide +kernel
theorem dX12_unit_75 : decode cX12_unit 75 = .ok (.iconst 2, 1) := by decide +kernel
theorem dX12_unit_76 : decode cX12_unit 76 = .ok (.if_icmp .ne 7, 3) := by decide +kernel
theorem dX12_unit_79 : decode cX12_unit 79 = .ok (.iconst 0, 1) := by decide +kernel
theorem dX12_unit_80 : decode cX12_unit 80 = .ok (.goto 13, 3) := by decide +kernel
theorem dX12_unit_83 : decode cX12_unit 83 = .ok (.iconst 1, 1) := by decide +kernel
theorem dX12_unit_84 : decode cX12_unit 84 = .ok (.aload_n 0, 1) := by decide +kernel
theorem dX12_unit_85 : decode cX12_unit 85 = .ok (.getfield 422, 3) := by decide +kernel
theorem dX12_unit_88 : decode cX12_unit 88 = .ok (.iadd, 1) := by decide +kernel
theorem dX12_unit_89 : decode cX12_unit 89 = .ok (.sipush 201, 3) := by decide +kernel
theorem dX12_unit_92 : decode cX12_unit 92 = .ok (.isub, 1) := by decide +kernel
theorem dX12_unit_93 : decode cX12_unit 93 = .ok (.aload_n 0, 1) := by decide +kernel
theorem dX12_unit_94 : decode cX12_unit 94 = .ok (.getfield 434, 3) := by decide +kernel
theorem dX12_unit_97 : decode cX12_unit 97 = .ok (.invokevirtual 462, 3) := by decide +kernel
theorem dX12_unit_100 : decode cX12_unit 100 = .ok (.aload_n 0, 1) := by decide +kernel
theorem dX12_unit_101 : decode cX12_unit 101 = .ok (.invokevirtual 446, 3) := by decide +kernel
theorem dX12_unit_104 : decode cX12_unit 104 = .ok (.iconst 1, 1) := by decide +kernel
theorem dX12_unit_105 : decode cX12_unit 105 = .ok (.ireturn, 1) := by decide +kernel
theorem bX12_unit_0 {d : Nat} {h0 hE h : ea_H} {rv : Option ea_V} {r0 : Option Nat} (H : ∃ a3, r0 = some a3 ∧ a3 < ea_n h ∧ ea_c h a3 = 12 ∧ (¬ (ea_i h a3 54) = (40 : Int32) → a3 < ea_n h ∧ ea_c h a3 = 12 ∧ ((ea_i h a3 54) = (2 : Int32) → ea_W mX12_unit d h0 rv hE 70 [(0, vR r0)] [] h) ∧ (¬ (ea_i h a3 54) = (2 : Int32) → a3 < ea_n h ∧ ea_c h a3 = 12 ∧ ((201 : Int32) ≤ (ea_i h a3 54) → ea_W mX12_unit d h0 rv hE 70 [(0, vR r0)] [] h) ∧ (¬ (201 : Int32) ≤ (ea_i h a3 54) → a3 < ea_n h ∧ ea_c h a3 = 12 ∧ ∃ (d9 : Nat) (xc15 : Int32) (h10 : ea_H), ea_Met mX12_bad d9 [vR (some a3), vI 1] h (some (vI xc15)) h10 ∧ d9 + 1 ≤ d ∧ (xc15 = 0 ∨ xc15 = 1) ∧ rv = some (vI xc15) ∧ hE = h10))) ∧ ((ea_i h a3 54) = (40 : Int32) → a3 < ea_n h ∧ ea_c h a3 = 12 ∧ ∃ (d19 : Nat) (xc25 : Int32) (h20 : ea_H), ea_Met mX12_opens d19 [vR (some a3)] h (some (vI xc25)) h20 ∧ d19 + 1 ≤ d ∧ (xc25 = (0 : Int32) → rv = some (vI 0) ∧ hE = h20) ∧ (¬ xc25 = (0 : Int32) → a3 < ea_n h20 ∧ ea_c h20 a3 = 12 ∧ ∃ (d26 : Nat) (xc32 : Int32) (h27 : ea_H), ea_Met mX12_sumOf d26 [vR (some a3)] h20 (some (vI xc32)) h27 ∧ d26 + 1 ≤ d ∧ (xc32 = (0 : Int32) → rv = some (vI 0) ∧ hE = h27) ∧ (¬ xc32 = (0 : Int32) → a3 < ea_n h27 ∧ ea_c h27 a3 = 12 ∧ ∃ (d33 : Nat) (xc39 : Int32) (h34 : ea_H), ea_Met mX12_need d33 [vR (some a3), vI 41] h27 (some (vI xc39)) h34 ∧ d33 + 1 ≤ d ∧ (¬ xc39 = (0 : Int32) → a3 < ea_n h34 ∧ ea_c h34 a3 = 12 ∧ a3 < ea_n h34 ∧ ea_c h34 a3 = 12 ∧ ∀ h44, h44 = ea_wi h34 a3 60 ((ea_i h34 a3 60) - (1 : Int32)) → rv = some (vI 1) ∧ hE = h44) ∧ (xc39 = (0 : Int32) → rv = some (vI 0) ∧ hE = h34))))) : ea_W mX12_unit d h0 rv hE 0 [(0, vR r0)] [] h := by
  refine ea_aload_n (pc := 0) dX12_unit_0 rfl 0 rfl ?_
  obtain ⟨a3, e4, f1, g2, H⟩ := H
  refine ea_deref0 e4 ?_
  refine ea_getI (pc := 1) dX12_unit_1 ec_12 (k := 54) (Nat.le_of_ble_eq_true rfl) rfl (Or.inl ew_1399) f1 g2 ?_
  refine ea_bipush (pc := 4) dX12_unit_4 (v := 40) rfl ?_
  refine ea_icmp_ne (pc := 6) (tgt := 46) dX12_unit_6 rfl (fun c49 => ?_) (fun c49 => ?_)
  · have H := H.1 c49
    refine ea_aload_n (pc := 46) dX12_unit_46 rfl 0 rfl ?_
    obtain ⟨f5, g6, H⟩ := H
    refine ea_deref0 e4 ?_
    refine ea_getI (pc := 47) dX12_unit_47 ec_12 (k := 54) (Nat.le_of_ble_eq_true rfl) rfl (Or.inl ew_1399) f5 g6 ?_
    refine ea_iconst (pc := 50) dX12_unit_50 (v := 2) rfl ?_
    refine ea_icmp_eq (pc := 51) (tgt := 70) dX12_unit_51 rfl (fun c18 => ?_) (fun c18 => ?_)
    · have H := H.1 c18
      exact H
    · have H := H.2 c18
      refine ea_aload_n (pc := 54) dX12_unit_54 rfl 0 rfl ?_
      obtain ⟨f7, g8, H⟩ := H
      refine ea_deref0 e4 ?_
      refine ea_getI (pc := 55) dX12_unit_55 ec_12 (k := 54) (Nat.le_of_ble_eq_true rfl) rfl (Or.inl ew_1399) f7 g8 ?_
      refine ea_sipush (pc := 58) dX12_unit_58 (v := 201) rfl ?_
      refine ea_icmp_ge (pc := 61) (tgt := 70) dX12_unit_61 rfl (fun c17 => ?_) (fun c17 => ?_)
      · have H := H.1 c17
        exact H
      · have H := H.2 c17
        refine ea_aload_n (pc := 64) dX12_unit_64 rfl 0 rfl ?_
        refine ea_iconst (pc := 65) dX12_unit_65 (v := 1) rfl ?_
        obtain ⟨f13, g14, H⟩ := H
        refine ea_deref1 e4 ?_
        obtain ⟨d9, xc15, h10, m11, q12, H⟩ := H
        refine ea_callV (pc := 66) (As := [vI 1]) (st := []) dX12_unit_66 kX12_bad m11 q12 rfl (Nat.le_of_ble_eq_true rfl) ew_1914 ew_1916 ew_68 (ci := 12) rfl (by decide) f13 g14 ?_
        obtain ⟨z16, rfl, rfl⟩ := H
        exact ea_ireturn (pc := 69) dX12_unit_69 rfl (ea_bn z16)
  · have H := H.2 c49
    refine ea_aload_n (pc := 9) dX12_unit_9 rfl 0 rfl ?_
    obtain ⟨f23, g24, H⟩ := H
    refine ea_deref0 e4 ?_
    obtain ⟨d19, xc25, h20, m21, q22, H⟩ := H
    refine ea_callV (pc := 10) (As := []) (st := []) dX12_unit_10 kX12_opens m21 q22 rfl (Nat.le_of_ble_eq_true rfl) ew_1938 ew_1940 ew_74 (ci := 12) rfl (by decide) f23 g24 ?_
    refine ea_if_eq (pc := 13) (tgt := 32) dX12_unit_13 rfl (fun c48 => ?_) (fun c48 => ?_)
    · have H := H.1 c48
      refine ea_iconst (pc := 32) dX12_unit_32 (v := 0) rfl ?_
      obtain ⟨rfl, rfl⟩ := H
      exact ea_ireturn (pc := 33) dX12_unit_33 rfl (ea_bn (Or.inl rfl))
    · have H := H.2 c48
      refine ea_aload_n (pc := 16) dX12_unit_16 rfl 0 rfl ?_
      obtain ⟨f30, g31, H⟩ := H
      refine ea_deref0 e4 ?_
      obtain ⟨d26, xc32, h27, m28, q29, H⟩ := H
      refine ea_callV (pc := 17) (As := []) (st := []) dX12_unit_17 kX12_sumOf m28 q29 rfl (Nat.le_of_ble_eq_true rfl) ew_1926 ew_1928 ew_71 (ci := 12) rfl (by decide) f30 g31 ?_
      refine ea_if_eq (pc := 20) (tgt := 32) dX12_unit_20 rfl (fun c47 => ?_) (fun c47 => ?_)
      · have H := H.1 c47
        refine ea_iconst (pc := 32) dX12_unit_32 (v := 0) rfl ?_
        obtain ⟨rfl, rfl⟩ := H
        exact ea_ireturn (pc := 33) dX12_unit_33 rfl (ea_bn (Or.inl rfl))
      · have H := H.2 c47
        refine ea_aload_n (pc := 23) dX12_unit_23 rfl 0 rfl ?_
        refine ea_bipush (pc := 24) dX12_unit_24 (v := 41) rfl ?_
        obtain ⟨f37, g38, H⟩ := H
        refine ea_deref1 e4 ?_
        obtain ⟨d33, xc39, h34, m35, q36, H⟩ := H
        refine ea_callV (pc := 26) (As := [vI 41]) (st := []) dX12_unit_26 kX12_need m35 q36 rfl (Nat.le_of_ble_eq_true rfl) ew_1942 ew_1944 ew_75 (ci := 12) rfl (by decide) f37 g38 ?_
        refine ea_if_ne (pc := 29) (tgt := 34) dX12_unit_29 rfl (fun c46 => ?_) (fun c46 => ?_)
        · have H := H.1 c46
          refine ea_aload_n (pc := 34) dX12_unit_34 rfl 0 rfl ?_
          refine ea_dup (pc := 35) dX12_unit_35 rfl ?_
          obtain ⟨f40, g41, H⟩ := H
          refine ea_deref0 e4 ?_
          refine ea_getI (pc := 36) dX12_unit_36 ec_12 (k := 60) (Nat.le_of_ble_eq_true rfl) rfl (Or.inl ew_1405) f40 g41 ?_
          refine ea_iconst (pc := 39) dX12_unit_39 (v := 1) rfl ?_
          refine ea_isub (pc := 40) dX12_unit_40 ?_
          obtain ⟨f42, g43, H⟩ := H
          refine ea_deref1 e4 ?_
          refine ea_putI (pc := 41) dX12_unit_41 ec_12 (k := 60) (Nat.le_of_ble_eq_true rfl) rfl (Or.inl ⟨rfl, Or.inl ew_1405⟩) rfl rfl f42 g43 ?_
          obtain ⟨h44, E45⟩ : ∃ z, z = ea_wi h34 a3 60 ((ea_i h34 a3 60) - (1 : Int32)) := ⟨_, rfl⟩
          have H := H h44 E45
          refine ea_nm E45 ?_
          refine ea_iconst (pc := 44) dX12_unit_44 (v := 1) rfl ?_
          obtain ⟨rfl, rfl⟩ := H
          exact ea_ireturn (pc := 45) dX12_unit_45 rfl (ea_bn (Or.inr rfl))
        · have H := H.2 c46
          refine ea_iconst (pc := 32) dX12_unit_32 (v := 0) rfl ?_
          obtain ⟨rfl, rfl⟩ := H
          exact ea_ireturn (pc := 33) dX12_unit_33 rfl (ea_bn (Or.inl rfl))
theorem bX12_unit_70 {d : Nat} {h0 hE h : ea_H} {rv : Option ea_V} {r0 : Option Nat} (H : ∃ a3, r0 = some a3 ∧ a3 < ea_n h ∧ ea_c h a3 = 12 ∧ (¬ (ea_i h a3 54) = (2 : Int32) → a3 < ea_n h ∧ ea_c h a3 = 12 ∧ a3 < ea_n h ∧ ea_c h a3 = 12 ∧ a3 < ea_n h ∧ ea_c h a3 = 12 ∧ ∃ (d9 : Nat) (h10 : ea_H), ea_Met mX12_lay d9 [vR (some a3), vI (((1 : Int32) + (ea_i h a3 54)) - (201 : Int32)), vI (ea_i h a3 56)] h none h10 ∧ d9 + 1 ≤ d ∧ a3 < ea_n h10 ∧ ea_c h10 a3 = 12 ∧ ∃ (d15 : Nat) (h16 : ea_H), ea_Met mX12_next0 d15 [vR (some a3)] h10 none h16 ∧ d15 + 1 ≤ d ∧ rv = some (vI 1) ∧ hE = h16) ∧ ((ea_i h a3 54) = (2 : Int32) → a3 < ea_n h ∧ ea_c h a3 = 12 ∧ a3 < ea_n h ∧ ea_c h a3 = 12 ∧ ∃ (d23 : Nat) (h24 : ea_H), ea_Met mX12_lay d23 [vR (some a3), vI 0, vI (ea_i h a3 56)] h none h24 ∧ d23 + 1 ≤ d ∧ a3 < ea_n h24 ∧ ea_c h24 a3 = 12 ∧ ∃ (d29 : Nat) (h30 : ea_H), ea_Met mX12_next0 d29 [vR (some a3)] h24 none h30 ∧ d29 + 1 ≤ d ∧ rv = some (vI 1) ∧ hE = h30)) : ea_W mX12_unit d h0 rv hE 70 [(0, vR r0)] [] h := by
  refine ea_aload_n (pc := 70) dX12_unit_70 rfl 0 rfl ?_
  refine ea_aload_n (pc := 71) dX12_unit_71 rfl 0 rfl ?_
  obtain ⟨a3, e4, f1, g2, H⟩ := H
  refine ea_deref0 e4 ?_
  refine ea_getI (pc := 72) dX12_unit_72 ec_12 (k := 54) (Nat.le_of_ble_eq_true rfl) rfl (Or.inl ew_1399) f1 g2 ?_
  refine ea_iconst (pc := 75) dX12_unit_75 (v := 2) rfl ?_
  refine ea_icmp_ne (pc := 76) (tgt := 83) dX12_unit_76 rfl (fun c35 => ?_) (fun c35 => ?_)
  · have H := H.1 c35
    refine ea_iconst (pc := 83) dX12_unit_83 (v := 1) rfl ?_
    refine ea_aload_n (pc := 84) dX12_unit_84 rfl 0 rfl ?_
    obtain ⟨f5, g6, H⟩ := H
    refine ea_deref0 e4 ?_
    refine ea_getI (pc := 85) dX12_unit_85 ec_12 (k := 54) (Nat.le_of_ble_eq_true rfl) rfl (Or.inl ew_1399) f5 g6 ?_
    refine ea_iadd (pc := 88) dX12_unit_88 ?_
    refine ea_sipush (pc := 89) dX12_unit_89 (v := 201) rfl ?_
    refine ea_isub (pc := 92) dX12_unit_92 ?_
    refine ea_aload_n (pc := 93) dX12_unit_93 rfl 0 rfl ?_
    obtain ⟨f7, g8, H⟩ := H
    refine ea_deref0 e4 ?_
    refine ea_getI (pc := 94) dX12_unit_94 ec_12 (k := 56) (Nat.le_of_ble_eq_true rfl) rfl (Or.inl ew_1401) f7 g8 ?_
    obtain ⟨f13, g14, H⟩ := H
    refine ea_deref2 e4 ?_
    obtain ⟨d9, h10, m11, q12, H⟩ := H
    refine ea_callV (pc := 97) (As := [vI (((1 : Int32) + (ea_i h a3 54)) - (201 : Int32)), vI (ea_i h a3 56)]) (st := []) dX12_unit_97 kX12_lay m11 q12 rfl (Nat.le_of_ble_eq_true rfl) ew_1946 ew_1948 ew_76 (ci := 12) rfl (by decide) f13 g14 ?_
    refine ea_aload_n (pc := 100) dX12_unit_100 rfl 0 rfl ?_
    obtain ⟨f19, g20, H⟩ := H
    refine ea_deref0 e4 ?_
    obtain ⟨d15, h16, m17, q18, H⟩ := H
    refine ea_callV (pc := 101) (As := []) (st := []) dX12_unit_101 kX12_next0 m17 q18 rfl (Nat.le_of_ble_eq_true rfl) ew_1822 ew_1824 ew_63 (ci := 12) rfl (by decide) f19 g20 ?_
    refine ea_iconst (pc := 104) dX12_unit_104 (v := 1) rfl ?_
    obtain ⟨rfl, rfl⟩ := H
    exact ea_ireturn (pc := 105) dX12_unit_105 rfl (ea_bn (Or.inr rfl))
  · have H := H.2 c35
    refine ea_iconst (pc := 79) dX12_unit_79 (v := 0) rfl ?_
    refine ea_goto (pc := 80) (tgt := 93) dX12_unit_80 rfl ?_
    refine ea_aload_n (pc := 93) dX12_unit_93 rfl 0 rfl ?_
    obtain ⟨f21, g22, H⟩ := H
    refine ea_deref0 e4 ?_
    refine ea_getI (pc := 94) dX12_unit_94 ec_12 (k := 56) (Nat.le_of_ble_eq_true rfl) rfl (Or.inl ew_1401) f21 g22 ?_
    obtain ⟨f27, g28, H⟩ := H
    refine ea_deref2 e4 ?_
    obtain ⟨d23, h24, m25, q26, H⟩ := H
    refine ea_callV (pc := 97) (As := [vI 0, vI (ea_i h a3 56)]) (st := []) dX12_unit_97 kX12_lay m25 q26 rfl (Nat.le_of_ble_eq_true rfl) ew_1946 ew_1948 ew_76 (ci := 12) rfl (by decide) f27 g28 ?_
    refine ea_aload_n (pc := 100) dX12_unit_100 rfl 0 rfl ?_
    obtain ⟨f33, g34, H⟩ := H
    refine ea_deref0 e4 ?_
    obtain ⟨d29, h30, m31, q32, H⟩ := H
    refine ea_callV (pc := 101) (As := []) (st := []) dX12_unit_101 kX12_next0 m31 q32 rfl (Nat.le_of_ble_eq_true rfl) ew_1822 ew_1824 ew_63 (ci := 12) rfl (by decide) f33 g34 ?_
    refine ea_iconst (pc := 104) dX12_unit_104 (v := 1) rfl ?_
    obtain ⟨rfl, rfl⟩ := H
    exact ea_ireturn (pc := 105) dX12_unit_105 rfl (ea_bn (Or.inr rfl))
theorem dX12_any_0 : decode cX12_any 0 = .ok (.aload_n 0, 1) := by decide +kernel
theorem dX12_any_1 : decode cX12_any 1 = .ok (.invokevirtual 477, 3) := by decide +kernel
theorem dX12_any_4 : decode cX12_any 4 = .ok (.ifCond .ne 5, 3) := by decide +kernel
theorem dX12_any_7 : decode cX12_any 7 = .ok (.iconst 0, 1) := by decide +kernel
theorem dX12_any_8 : decode cX12_any 8 = .ok (.ireturn, 1) := by decide +kernel
theorem dX12_any_9 : decode cX12_any 9 = .ok (.aload_n 0, 1) := by decide +kernel
theorem dX12_any_10 : decode cX12_any 10 = .ok (.getfield 422, 3) := by decide +kernel
theorem dX12_any_13 : decode cX12_any 13 = .ok (.bipush 11, 2) := by decide +kernel
theorem dX12_any_15 : decode cX12_any 15 = .ok (.if_icmp .ne 26, 3) := by decide +kernel
theorem dX12_any_18 : decode cX12_any 18 = .ok (.aload_n 0, 1) := by decide +kernel
theorem dX12_any_19 : decode cX12_any 19 = .ok (.invokevirtual 446, 3) := by decide +kernel
theorem dX12_any_22 : decode cX12_any 22 = .ok (.aload_n 0, 1) := by decide +kernel
theorem dX12_any_23 : decode cX12_any 23 = .ok (.invokevirtual 477, 3) := by decide +kernel
theorem dX12_any_26 : decode cX12_any 26 = .ok (.ifCond .ne 5, 3) := by decide +kernel
theorem dX12_any_29 : decode cX12_any 29 = .ok (.iconst 0, 1) := by decide +kernel
theorem dX12_any_30 : decode cX12_any 30 = .ok (.ireturn, 1) := by decide +kernel
theorem dX12_any_31 : decode cX12_any 31 = .ok (.aload_n 0, 1) := by decide +kernel
theorem dX12_any_32 : decode cX12_any 32 = .ok (.bipush 17, 2) := by decide +kernel
theorem dX12_any_34 : decode cX12_any 34 = .ok (.iconst 0, 1) := by decide +kernel
theorem dX12_any_35 : decode cX12_any 35 = .ok (.invokevirtual 462, 3) := by decide +kernel
theorem dX12_any_38 : decode cX12_any 38 = .ok (.goto (-29), 3) := by decide +kernel
theorem dX12_any_41 : decode cX12_any 41 = .ok (.iconst 1, 1) := by decide +kernel
theorem dX12_any_42 : decode cX12_any 42 = .ok (.ireturn, 1) := by decide +kernel
theorem bX12_any_0 {d : Nat} {h0 hE h : ea_H} {rv : Option ea_V} {r0 : Option Nat} (H : ∃ a7, r0 = some a7 ∧ a7 < ea_n h ∧ ea_c h a7 = 12 ∧ ∃ (d1 : Nat) (xc9 : Int32) (h2 : ea_H), ea_Met mX12_all d1 [vR (some a7)] h (some (vI xc9)) h2 ∧ d1 + 1 ≤ d ∧ (¬ xc9 = (0 : Int32) → ea_W mX12_any d h0 rv hE 9 [(0, vR r0)] [] h2) ∧ (xc9 = (0 : Int32) → rv = some (vI 0) ∧ hE = h2)) : ea_W mX12_any d h0 rv hE 0 [(0, vR r0)] [] h := by
  refine ea_aload_n (pc := 0) dX12_any_0 rfl 0 rfl ?_
  obtain ⟨a7, e8, f5, g6, H⟩ := H
  refine ea_deref0 e8 ?_
  obtain ⟨d1, xc9, h2, m3, q4, H⟩ := H
  refine ea_callV (pc := 1) (As := []) (st := []) dX12_any_1 kX12_all m3 q4 rfl (Nat.le_of_ble_eq_true rfl) ew_1954 ew_1956 ew_78 (ci := 12) rfl (by decide) f5 g6 ?_
  refine ea_if_ne (pc := 4) (tgt := 9) dX12_any_4 rfl (fun c10 => ?_) (fun c10 => ?_)
  · have H := H.1 c10
    exact H
  · have H := H.2 c10
    refine ea_iconst (pc := 7) dX12_any_7 (v := 0) rfl ?_
    obtain ⟨rfl, rfl⟩ := H
    exact ea_ireturn (pc := 8) dX12_any_8 rfl (ea_bn (Or.inl rfl))
theorem bX12_any_9 {d : Nat} {h0 hE h : ea_H} {rv : Option ea_V} {r0 : Option Nat} (H : ∃ a3, r0 = some a3 ∧ a3 < ea_n h ∧ ea_c h a3 = 12 ∧ (¬ (ea_i h a3 54) = (11 : Int32) → rv = some (vI 1) ∧ hE = h) ∧ ((ea_i h a3 54) = (11 : Int32) → a3 < ea_n h ∧ ea_c h a3 = 12 ∧ ∃ (d5 : Nat) (h6 : ea_H), ea_Met mX12_next0 d5 [vR (some a3)] h none h6 ∧ d5 + 1 ≤ d ∧ a3 < ea_n h6 ∧ ea_c h6 a3 = 12 ∧ ∃ (d11 : Nat) (xc17 : Int32) (h12 : ea_H), ea_Met mX12_all d11 [vR (some a3)] h6 (some (vI xc17)) h12 ∧ d11 + 1 ≤ d ∧ (¬ xc17 = (0 : Int32) → a3 < ea_n h12 ∧ ea_c h12 a3 = 12 ∧ ∃ (d18 : Nat) (h19 : ea_H), ea_Met mX12_lay d18 [vR (some a3), vI 17, vI 0] h12 none h19 ∧ d18 + 1 ≤ d ∧ ea_W mX12_any d h0 rv hE 9 [(0, vR r0)] [] h19) ∧ (xc17 = (0 : Int32) → rv = some (vI 0) ∧ hE = h12))) : ea_W mX12_any d h0 rv hE 9 [(0, vR r0)] [] h := by
  refine ea_aload_n (pc := 9) dX12_any_9 rfl 0 rfl ?_
  obtain ⟨a3, e4, f1, g2, H⟩ := H
  refine ea_deref0 e4 ?_
  refine ea_getI (pc := 10) dX12_any_10 ec_12 (k := 54) (Nat.le_of_ble_eq_true rfl) rfl (Or.inl ew_1399) f1 g2 ?_
  refine ea_bipush (pc := 13) dX12_any_13 (v := 11) rfl ?_
  refine ea_icmp_ne (pc := 15) (tgt := 41) dX12_any_15 rfl (fun c25 => ?_) (fun c25 => ?_)
  · have H := H.1 c25
    refine ea_iconst (pc := 41) dX12_any_41 (v := 1) rfl ?_
    obtain ⟨rfl, rfl⟩ := H
    exact ea_ireturn (pc := 42) dX12_any_42 rfl (ea_bn (Or.inr rfl))
  · have H := H.2 c25
    refine ea_aload_n (pc := 18) dX12_any_18 rfl 0 rfl ?_
    obtain ⟨f9, g10, H⟩ := H
    refine ea_deref0 e4 ?_
    obtain ⟨d5, h6, m7, q8, H⟩ := H
    refine ea_callV (pc := 19) (As := []) (st := []) dX12_any_19 kX12_next0 m7 q8 rfl (Nat.le_of_ble_eq_true rfl) ew_1822 ew_1824 ew_63 (ci := 12) rfl (by decide) f9 g10 ?_
    refine ea_aload_n (pc := 22) dX12_any_22 rfl 0 rfl ?_
    obtain ⟨f15, g16, H⟩ := H
    refine ea_deref0 e4 ?_
    obtain ⟨d11, xc17, h12, m13, q14, H⟩ := H
    refine ea_callV (pc := 23) (As := []) (st := []) dX12_any_23 kX12_all m13 q14 rfl (Nat.le_of_ble_eq_true rfl) ew_1954 ew_1956 ew_78 (ci := 12) rfl (by decide) f15 g16 ?_
    refine ea_if_ne (pc := 26) (tgt := 31) dX12_any_26 rfl (fun c24 => ?_) (fun c24 => ?_)
    · have H := H.1 c24
      refine ea_aload_n (pc := 31) dX12_any_31 rfl 0 rfl ?_
      refine ea_bipush (pc := 32) dX12_any_32 (v := 17) rfl ?_
      refine ea_iconst (pc := 34) dX12_any_34 (v := 0) rfl ?_
      obtain ⟨f22, g23, H⟩ := H
      refine ea_deref2 e4 ?_
      obtain ⟨d18, h19, m20, q21, H⟩ := H
      refine ea_callV (pc := 35) (As := [vI 17, vI 0]) (st := []) dX12_any_35 kX12_lay m20 q21 rfl (Nat.le_of_ble_eq_true rfl) ew_1946 ew_1948 ew_76 (ci := 12) rfl (by decide) f22 g23 ?_
      refine ea_goto (pc := 38) (tgt := 9) dX12_any_38 rfl ?_
      exact H
    · have H := H.2 c24
      refine ea_iconst (pc := 29) dX12_any_29 (v := 0) rfl ?_
      obtain ⟨rfl, rfl⟩ := H
      exact ea_ireturn (pc := 30) dX12_any_30 rfl (ea_bn (Or.inl rfl))
