/-! blocks -/
theorem dX12_all_0 : decode cX12_all 0 = .ok (.aload_n 0, 1) := by decide +kernel
theorem dX12_all_1 : decode cX12_all 1 = .ok (.invokevirtual 480, 3) := by decide +kernel
theorem dX12_all_4 : decode cX12_all 4 = .ok (.ifCond .ne 5, 3) := by decide +kernel
theorem dX12_all_7 : decode cX12_all 7 = .ok (.iconst 0, 1) := by decide +kernel
theorem dX12_all_8 : decode cX12_all 8 = .ok (.ireturn, 1) := by decide +kernel
theorem dX12_all_9 : decode cX12_all 9 = .ok (.aload_n 0, 1) := by decide +kernel
theorem dX12_all_10 : decode cX12_all 10 = .ok (.getfield 422, 3) := by decide +kernel
theorem dX12_all_13 : decode cX12_all 13 = .ok (.bipush 12, 2) := by decide +kernel
theorem dX12_all_15 : decode cX12_all 15 = .ok (.if_icmp .ne 26, 3) := by decide +kernel
theorem dX12_all_18 : decode cX12_all 18 = .ok (.aload_n 0, 1) := by decide +kernel
theorem dX12_all_19 : decode cX12_all 19 = .ok (.invokevirtual 446, 3) := by decide +kernel
theorem dX12_all_22 : decode cX12_all 22 = .ok (.aload_n 0, 1) := by decide +kernel
theorem dX12_all_23 : decode cX12_all 23 = .ok (.invokevirtual 480, 3) := by decide +kernel
theorem dX12_all_26 : decode cX12_all 26 = .ok (.ifCond .ne 5, 3) := by decide +kernel
theorem dX12_all_29 : decode cX12_all 29 = .ok (.iconst 0, 1) := by decide +kernel
theorem dX12_all_30 : decode cX12_all 30 = .ok (.ireturn, 1) := by decide +kernel
theorem dX12_all_31 : decode cX12_all 31 = .ok (.aload_n 0, 1) := by decide +kernel
theorem dX12_all_32 : decode cX12_all 32 = .ok (.bipush 16, 2) := by decide +kernel
theorem dX12_all_34 : decode cX12_all 34 = .ok (.iconst 0, 1) := by decide +kernel
theorem dX12_all_35 : decode cX12_all 35 = .ok (.invokevirtual 462, 3) := by decide +kernel
theorem dX12_all_38 : decode cX12_all 38 = .ok (.goto (-29), 3) := by decide +kernel
theorem dX12_all_41 : decode cX12_all 41 = .ok (.iconst 1, 1) := by decide +kernel
theorem dX12_all_42 : decode cX12_all 42 = .ok (.ireturn, 1) := by decide +kernel
theorem bX12_all_0 {d : Nat} {h0 hE h : ea_H} {rv : Option ea_V} {r0 : Option Nat} (H : ∃ a7, r0 = some a7 ∧ a7 < ea_n h ∧ ea_c h a7 = 12 ∧ ∃ (d1 : Nat) (xc9 : Int32) (h2 : ea_H), ea_Met mX12_one d1 [vR (some a7)] h (some (vI xc9)) h2 ∧ d1 + 1 ≤ d ∧ (¬ xc9 = (0 : Int32) → ea_W mX12_all d h0 rv hE 9 [(0, vR r0)] [] h2) ∧ (xc9 = (0 : Int32) → rv = some (vI 0) ∧ hE = h2)) : ea_W mX12_all d h0 rv hE 0 [(0, vR r0)] [] h := by
  refine ea_aload_n (pc := 0) dX12_all_0 rfl 0 rfl ?_
  obtain ⟨a7, e8, f5, g6, H⟩ := H
  refine ea_deref0 e8 ?_
  obtain ⟨d1, xc9, h2, m3, q4, H⟩ := H
  refine ea_callV (pc := 1) (As := []) (st := []) dX12_all_1 kX12_one m3 q4 rfl (Nat.le_of_ble_eq_true rfl) ew_1958 ew_1960 ew_79 (ci := 12) rfl (by decide) f5 g6 ?_
  refine ea_if_ne (pc := 4) (tgt := 9) dX12_all_4 rfl (fun c10 => ?_) (fun c10 => ?_)
  · have H := H.1 c10
    exact H
  · have H := H.2 c10
    refine ea_iconst (pc := 7) dX12_all_7 (v := 0) rfl ?_
    obtain ⟨rfl, rfl⟩ := H
    exact ea_ireturn (pc := 8) dX12_all_8 rfl (ea_bn (Or.inl rfl))
theorem bX12_all_9 {d : Nat} {h0 hE h : ea_H} {rv : Option ea_V} {r0 : Option Nat} (H : ∃ a3, r0 = some a3 ∧ a3 < ea_n h ∧ ea_c h a3 = 12 ∧ (¬ (ea_i h a3 54) = (12 : Int32) → rv = some (vI 1) ∧ hE = h) ∧ ((ea_i h a3 54) = (12 : Int32) → a3 < ea_n h ∧ ea_c h a3 = 12 ∧ ∃ (d5 : Nat) (h6 : ea_H), ea_Met mX12_next0 d5 [vR (some a3)] h none h6 ∧ d5 + 1 ≤ d ∧ a3 < ea_n h6 ∧ ea_c h6 a3 = 12 ∧ ∃ (d11 : Nat) (xc17 : Int32) (h12 : ea_H), ea_Met mX12_one d11 [vR (some a3)] h6 (some (vI xc17)) h12 ∧ d11 + 1 ≤ d ∧ (¬ xc17 = (0 : Int32) → a3 < ea_n h12 ∧ ea_c h12 a3 = 12 ∧ ∃ (d18 : Nat) (h19 : ea_H), ea_Met mX12_lay d18 [vR (some a3), vI 16, vI 0] h12 none h19 ∧ d18 + 1 ≤ d ∧ ea_W mX12_all d h0 rv hE 9 [(0, vR r0)] [] h19) ∧ (xc17 = (0 : Int32) → rv = some (vI 0) ∧ hE = h12))) : ea_W mX12_all d h0 rv hE 9 [(0, vR r0)] [] h := by
  refine ea_aload_n (pc := 9) dX12_all_9 rfl 0 rfl ?_
  obtain ⟨a3, e4, f1, g2, H⟩ := H
  refine ea_deref0 e4 ?_
  refine ea_getI (pc := 10) dX12_all_10 ec_12 (k := 54) (Nat.le_of_ble_eq_true rfl) rfl (Or.inl ew_1399) f1 g2 ?_
  refine ea_bipush (pc := 13) dX12_all_13 (v := 12) rfl ?_
  refine ea_icmp_ne (pc := 15) (tgt := 41) dX12_all_15 rfl (fun c25 => ?_) (fun c25 => ?_)
  · have H := H.1 c25
    refine ea_iconst (pc := 41) dX12_all_41 (v := 1) rfl ?_
    obtain ⟨rfl, rfl⟩ := H
    exact ea_ireturn (pc := 42) dX12_all_42 rfl (ea_bn (Or.inr rfl))
  · have H := H.2 c25
    refine ea_aload_n (pc := 18) dX12_all_18 rfl 0 rfl ?_
    obtain ⟨f9, g10, H⟩ := H
    refine ea_deref0 e4 ?_
    obtain ⟨d5, h6, m7, q8, H⟩ := H
    refine ea_callV (pc := 19) (As := []) (st := []) dX12_all_19 kX12_next0 m7 q8 rfl (Nat.le_of_ble_eq_true rfl) ew_1822 ew_1824 ew_63 (ci := 12) rfl (by decide) f9 g10 ?_
    refine ea_aload_n (pc := 22) dX12_all_22 rfl 0 rfl ?_
    obtain ⟨f15, g16, H⟩ := H
    refine ea_deref0 e4 ?_
    obtain ⟨d11, xc17, h12, m13, q14, H⟩ := H
    refine ea_callV (pc := 23) (As := []) (st := []) dX12_all_23 kX12_one m13 q14 rfl (Nat.le_of_ble_eq_true rfl) ew_1958 ew_1960 ew_79 (ci := 12) rfl (by decide) f15 g16 ?_
    refine ea_if_ne (pc := 26) (tgt := 31) dX12_all_26 rfl (fun c24 => ?_) (fun c24 => ?_)
    · have H := H.1 c24
      refine ea_aload_n (pc := 31) dX12_all_31 rfl 0 rfl ?_
      refine ea_bipush (pc := 32) dX12_all_32 (v := 16) rfl ?_
      refine ea_iconst (pc := 34) dX12_all_34 (v := 0) rfl ?_
      obtain ⟨f22, g23, H⟩ := H
      refine ea_deref2 e4 ?_
      obtain ⟨d18, h19, m20, q21, H⟩ := H
      refine ea_callV (pc := 35) (As := [vI 16, vI 0]) (st := []) dX12_all_35 kX12_lay m20 q21 rfl (Nat.le_of_ble_eq_true rfl) ew_1946 ew_1948 ew_76 (ci := 12) rfl (by decide) f22 g23 ?_
      refine ea_goto (pc := 38) (tgt := 9) dX12_all_38 rfl ?_
      exact H
    · have H := H.2 c24
      refine ea_iconst (pc := 29) dX12_all_29 (v := 0) rfl ?_
      obtain ⟨rfl, rfl⟩ := H
      exact ea_ireturn (pc := 30) dX12_all_30 rfl (ea_bn (Or.inl rfl))
theorem dX12_one_0 : decode cX12_one 0 = .ok (.aload_n 0, 1) := by decide +kernel
theorem dX12_one_1 : decode cX12_one 1 = .ok (.getfield 422, 3) := by decide +kernel
theorem dX12_one_4 : decode cX12_one 4 = .ok (.bipush 13, 2) := by decide +kernel
theorem dX12_one_6 : decode cX12_one 6 = .ok (.if_icmp .ne 38, 3) := by decide +kernel
theorem dX12_one_9 : decode cX12_one 9 = .ok (.aload_n 0, 1) := by decide +kernel
theorem dX12_one_10 : decode cX12_one 10 = .ok (.invokevirtual 468, 3) := by decide +kernel
theorem dX12_one_13 : decode cX12_one 13 = .ok (.ifCond .eq 10, 3) := by decide +kernel
theorem dX12_one_16 : decode cX12_one 16 = .ok (.aload_n 0, 1) := by decide +kernel
theorem dX12_one_17 : decode cX12_one 17 = .ok (.invokevirtual 480, 3) := by decide +kernel
theorem dX12_one_20 : decode cX12_one 20 = .ok (.ifCond .ne 5, 3) := by decide +kernel
theorem dX12_one_23 : decode cX12_one 23 = .ok (.iconst 0, 1) := by decide +kernel
theorem dX12_one_24 : decode cX12_one 24 = .ok (.ireturn, 1) := by decide +kernel
theorem dX12_one_25 : decode cX12_one 25 = .ok (.aload_n 0, 1) := by decide +kernel
theorem dX12_one_26 : decode cX12_one 26 = .ok (.dup, 1) := by decide +kernel
theorem dX12_one_27 : decode cX12_one 27 = .ok (.getfield 455, 3) := by decide +kernel
theorem dX12_one_30 : decode cX12_one 30 = .ok (.iconst 1, 1) := by decide +kernel
theorem dX12_one_31 : decode cX12_one 31 = .ok (.isub, 1) := by decide +kernel
theorem dX12_one_32 : decode cX12_one 32 = .ok (.putfield 455, 3) := by decide +kernel
theorem dX12_one_35 : decode cX12_one 35 = .ok (.aload_n 0, 1) := by decide +kernel
theorem dX12_one_36 : decode cX12_one 36 = .ok (.bipush 15, 2) := by decide +kernel
theorem dX12_one_38 : decode cX12_one 38 = .ok (.iconst 0, 1) := by decide +kernel
theorem dX12_one_39 : decode cX12_one 39 = .ok (.invokevirtual 462, 3) := by decide +kernel
theorem dX12_one_42 : decode cX12_one 42 = .ok (.iconst 1, 1) := by decide +kernel
theorem dX12_one_43 : decode cX12_one 43 = .ok (.ireturn, 1) := by decide +kernel
theorem dX12_one_44 : decode cX12_one 44 = .ok (.aload_n 0, 1) := by decide +kernel
theorem dX12_one_45 : decode cX12_one 45 = .ok (.invokevirtual 471, 3) := by decide +kernel
theorem dX12_one_48 : decode cX12_one 48 = .ok (.ifCond .ne 5, 3) := by decide +kernel
theorem dX12_one_51 : decode cX12_one 51 = .ok (.iconst 0, 1) := by decide +kernel
theorem dX12_one_52 : decode cX12_one 52 = .ok (.ireturn, 1) := by decide +kernel
theorem dX12_one_53 : decode cX12_one 53 = .ok (.aload_n 0, 1) := by decide +kernel
theorem dX12_one_54 : decode cX12_one 54 = .ok (.getfield 422, 3) := by decide +kernel
theorem dX12_one_57 : decode cX12_one 57 = .ok (.bipush 60, 2) := by decide +kernel
theorem dX12_one_59 : decode cX12_one 59 = .ok (.if_icmp .ne 8, 3) := by decide +kernel
theorem dX12_one_62 : decode cX12_one 62 = .ok (.bipush 12, 2) := by decide +kernel
theorem dX12_one_64 : decode cX12_one 64 = .ok (.goto 32, 3) := by decide +kernel
theorem dX12_one_67 : decode cX12_one 67 = .ok (.aload_n 0, 1) := by decide +kernel
theorem dX12_one_68 : decode cX12_one 68 = .ok (.getfield 422, 3) := by decide +kernel
theorem dX12_one_71 : decode cX12_one 71 = .ok (.bipush 61, 2) := by decide +kernel
theorem dX12_one_73 : decode cX12_one 73 = .ok (.if_icmp .ne 8, 3) := by decide +kernel
theorem dX12_one_76 : decode cX12_one 76 = .ok (.bipush 13, 2) := by decide +kernel
theorem dX12_one_78 : decode cX12_one 78 = .ok (.goto 18, 3) := by decide +kernel
theorem dX12_one_81 : decode cX12_one 81 = .ok (.aload_n 0, 1) := by decide +kernel
theorem dX12_one_82 : decode cX12_one 82 = .ok (.getfield 422, 3) := by decide +kernel
theorem dX12_one_85 : decode cX12_one 85 = .ok (.bipush 62, 2) := by decide +kernel
theorem dX12_one_87 : decode cX12_one 87 = .ok (.if_icmp .ne 8, 3) := by decide +kernel
theorem dX12_one_90 : decode cX12_one 90 = .ok (.bipush 14, 2) := by decide +kernel
theorem dX12_one_92 : decode cX12_one 92 = .ok (.goto 4, 3) := by decide +kernel
theorem dX12_one_95 : decode cX12_one 95 = .ok (.iconst (-1), 1) := by decide +kernel
theorem dX12_one_96 : decode cX12_one 96 = .ok (.istore_n 1, 1) := by decide +kernel
theorem dX12_one_97 : decode cX12_one 97 = .ok (.iload_n 1, 1) := by decide +kernel
theorem dX12_one_98 : decode cX12_one 98 = .ok (.iconst (-1), 1) := by decide +kernel
theorem dX12_one_99 : decode cX12_one 99 = .ok (.if_icmp .ne 9, 3) := by decide +kernel
theorem dX12_one_102 : decode cX12_one 102 = .ok (.aload_n 0, 1) := by decide +kernel
theorem dX12_one_103 : decode cX12_one 103 = .ok (.iconst 1, 1) := by decide +kernel
theorem dX12_one_104 : decode cX12_one 104 = .ok (.invokevirtual 443, 3) := by decide +kernel
theorem dX12_one_107 : decode cX12_one 107 = .ok (.ireturn, 1) := by decide +kernel
theorem dX12_one_108 : decode cX12_one 108 = .ok (.aload_n 0, 1) := by decide +kernel
theorem dX12_one_109 : decode cX12_one 109 = .ok (.invokevirtual 446, 3) := by decide +kernel
theorem dX12_one_112 : decode cX12_one 112 = .ok (.aload_n 0, 1) := by decide +kernel
theorem dX12_one_113 : decode cX12_one 113 = .ok (.invokevirtual 471, 3) := by decide +kernel
theorem dX12_one_116 : decode cX12_one 116 = .ok (.ifCond .ne 5, 3) := by decide +kernel
theorem dX12_one_119 : decode cX12_one 119 = .ok (.iconst 0, 1) := by decide +kernel
theorem dX12_one_120 : decode cX12_one 120 = .ok (.ireturn, 1) := by decide +kernel
theorem dX12_one_121 : decode cX12_one 121 = .ok (.aload_n 0, 1) := by decide +kernel
theorem dX12_one_122 : decode cX12_one 122 = .ok (.iload_n 1, 1) := by decide +kernel
theorem dX12_one_123 : decode cX12_one 123 = .ok (.iconst 0, 1) := by decide +kernel
theorem dX12_one_124 : decode cX12_one 124 = .ok (.invokevirtual 462, 3) := by decide +kernel
theorem dX12_one_127 : decode cX12_one 127 = .ok (.iconst 1, 1) := by decide +kernel
theorem dX12_one_128 : decode cX12_one 128 = .ok (.ireturn, 1) := by decide +kernel
theorem bX12_one_0 {d : Nat} {h0 hE h : ea_H} {rv : Option ea_V} {r0 : Option Nat} (H : ∃ a3, r0 = some a3 ∧ a3 < ea_n h ∧ ea_c h a3 = 12 ∧ (¬ (ea_i h a3 54) = (13 : Int32) → a3 < ea_n h ∧ ea_c h a3 = 12 ∧ ∃ (d5 : Nat) (xc11 : Int32) (h6 : ea_H), ea_Met mX12_sumOf d5 [vR (some a3)] h (some (vI xc11)) h6 ∧ d5 + 1 ≤ d ∧ (¬ xc11 = (0 : Int32) → a3 < ea_n h6 ∧ ea_c h6 a3 = 12 ∧ (¬ (ea_i h6 a3 54) = (60 : Int32) → a3 < ea_n h6 ∧ ea_c h6 a3 = 12 ∧ (¬ (ea_i h6 a3 54) = (61 : Int32) → a3 < ea_n h6 ∧ ea_c h6 a3 = 12 ∧ (¬ (ea_i h6 a3 54) = (62 : Int32) → ea_W mX12_one d h0 rv hE 96 [(0, vR r0)] [vI (-1)] h6) ∧ ((ea_i h6 a3 54) = (62 : Int32) → ea_W mX12_one d h0 rv hE 96 [(0, vR r0)] [vI 14] h6)) ∧ ((ea_i h6 a3 54) = (61 : Int32) → ea_W mX12_one d h0 rv hE 96 [(0, vR r0)] [vI 13] h6)) ∧ ((ea_i h6 a3 54) = (60 : Int32) → ea_W mX12_one d h0 rv hE 96 [(0, vR r0)] [vI 12] h6)) ∧ (xc11 = (0 : Int32) → rv = some (vI 0) ∧ hE = h6)) ∧ ((ea_i h a3 54) = (13 : Int32) → a3 < ea_n h ∧ ea_c h a3 = 12 ∧ ∃ (d22 : Nat) (xc28 : Int32) (h23 : ea_H), ea_Met mX12_opens d22 [vR (some a3)] h (some (vI xc28)) h23 ∧ d22 + 1 ≤ d ∧ (xc28 = (0 : Int32) → rv = some (vI 0) ∧ hE = h23) ∧ (¬ xc28 = (0 : Int32) → a3 < ea_n h23 ∧ ea_c h23 a3 = 12 ∧ ∃ (d29 : Nat) (xc35 : Int32) (h30 : ea_H), ea_Met mX12_one d29 [vR (some a3)] h23 (some (vI xc35)) h30 ∧ d29 + 1 ≤ d ∧ (¬ xc35 = (0 : Int32) → a3 < ea_n h30 ∧ ea_c h30 a3 = 12 ∧ a3 < ea_n h30 ∧ ea_c h30 a3 = 12 ∧ ∀ h40, h40 = ea_wi h30 a3 60 ((ea_i h30 a3 60) - (1 : Int32)) → a3 < ea_n h40 ∧ ea_c h40 a3 = 12 ∧ ∃ (d42 : Nat) (h43 : ea_H), ea_Met mX12_lay d42 [vR (some a3), vI 15, vI 0] h40 none h43 ∧ d42 + 1 ≤ d ∧ rv = some (vI 1) ∧ hE = h43) ∧ (xc35 = (0 : Int32) → rv = some (vI 0) ∧ hE = h30)))) : ea_W mX12_one d h0 rv hE 0 [(0, vR r0)] [] h := by
  refine ea_aload_n (pc := 0) dX12_one_0 rfl 0 rfl ?_
  obtain ⟨a3, e4, f1, g2, H⟩ := H
  refine ea_deref0 e4 ?_
  refine ea_getI (pc := 1) dX12_one_1 ec_12 (k := 54) (Nat.le_of_ble_eq_true rfl) rfl (Or.inl ew_1399) f1 g2 ?_
  refine ea_bipush (pc := 4) dX12_one_4 (v := 13) rfl ?_
  refine ea_icmp_ne (pc := 6) (tgt := 44) dX12_one_6 rfl (fun c50 => ?_) (fun c50 => ?_)
  · have H := H.1 c50
    refine ea_aload_n (pc := 44) dX12_one_44 rfl 0 rfl ?_
    obtain ⟨f9, g10, H⟩ := H
    refine ea_deref0 e4 ?_
    obtain ⟨d5, xc11, h6, m7, q8, H⟩ := H
    refine ea_callV (pc := 45) (As := []) (st := []) dX12_one_45 kX12_sumOf m7 q8 rfl (Nat.le_of_ble_eq_true rfl) ew_1926 ew_1928 ew_71 (ci := 12) rfl (by decide) f9 g10 ?_
    refine ea_if_ne (pc := 48) (tgt := 53) dX12_one_48 rfl (fun c21 => ?_) (fun c21 => ?_)
    · have H := H.1 c21
      refine ea_aload_n (pc := 53) dX12_one_53 rfl 0 rfl ?_
      obtain ⟨f12, g13, H⟩ := H
      refine ea_deref0 e4 ?_
      refine ea_getI (pc := 54) dX12_one_54 ec_12 (k := 54) (Nat.le_of_ble_eq_true rfl) rfl (Or.inl ew_1399) f12 g13 ?_
      refine ea_bipush (pc := 57) dX12_one_57 (v := 60) rfl ?_
      refine ea_icmp_ne (pc := 59) (tgt := 67) dX12_one_59 rfl (fun c20 => ?_) (fun c20 => ?_)
      · have H := H.1 c20
        refine ea_aload_n (pc := 67) dX12_one_67 rfl 0 rfl ?_
        obtain ⟨f14, g15, H⟩ := H
        refine ea_deref0 e4 ?_
        refine ea_getI (pc := 68) dX12_one_68 ec_12 (k := 54) (Nat.le_of_ble_eq_true rfl) rfl (Or.inl ew_1399) f14 g15 ?_
        refine ea_bipush (pc := 71) dX12_one_71 (v := 61) rfl ?_
        refine ea_icmp_ne (pc := 73) (tgt := 81) dX12_one_73 rfl (fun c19 => ?_) (fun c19 => ?_)
        · have H := H.1 c19
          refine ea_aload_n (pc := 81) dX12_one_81 rfl 0 rfl ?_
          obtain ⟨f16, g17, H⟩ := H
          refine ea_deref0 e4 ?_
          refine ea_getI (pc := 82) dX12_one_82 ec_12 (k := 54) (Nat.le_of_ble_eq_true rfl) rfl (Or.inl ew_1399) f16 g17 ?_
          refine ea_bipush (pc := 85) dX12_one_85 (v := 62) rfl ?_
          refine ea_icmp_ne (pc := 87) (tgt := 95) dX12_one_87 rfl (fun c18 => ?_) (fun c18 => ?_)
          · have H := H.1 c18
            refine ea_iconst (pc := 95) dX12_one_95 (v := (-1)) rfl ?_
            exact H
          · have H := H.2 c18
            refine ea_bipush (pc := 90) dX12_one_90 (v := 14) rfl ?_
            refine ea_goto (pc := 92) (tgt := 96) dX12_one_92 rfl ?_
            exact H
        · have H := H.2 c19
          refine ea_bipush (pc := 76) dX12_one_76 (v := 13) rfl ?_
          refine ea_goto (pc := 78) (tgt := 96) dX12_one_78 rfl ?_
          exact H
      · have H := H.2 c20
        refine ea_bipush (pc := 62) dX12_one_62 (v := 12) rfl ?_
        refine ea_goto (pc := 64) (tgt := 96) dX12_one_64 rfl ?_
        exact H
    · have H := H.2 c21
      refine ea_iconst (pc := 51) dX12_one_51 (v := 0) rfl ?_
      obtain ⟨rfl, rfl⟩ := H
      exact ea_ireturn (pc := 52) dX12_one_52 rfl (ea_bn (Or.inl rfl))
  · have H := H.2 c50
    refine ea_aload_n (pc := 9) dX12_one_9 rfl 0 rfl ?_
    obtain ⟨f26, g27, H⟩ := H
    refine ea_deref0 e4 ?_
    obtain ⟨d22, xc28, h23, m24, q25, H⟩ := H
    refine ea_callV (pc := 10) (As := []) (st := []) dX12_one_10 kX12_opens m24 q25 rfl (Nat.le_of_ble_eq_true rfl) ew_1938 ew_1940 ew_74 (ci := 12) rfl (by decide) f26 g27 ?_
    refine ea_if_eq (pc := 13) (tgt := 23) dX12_one_13 rfl (fun c49 => ?_) (fun c49 => ?_)
    · have H := H.1 c49
      refine ea_iconst (pc := 23) dX12_one_23 (v := 0) rfl ?_
      obtain ⟨rfl, rfl⟩ := H
      exact ea_ireturn (pc := 24) dX12_one_24 rfl (ea_bn (Or.inl rfl))
    · have H := H.2 c49
      refine ea_aload_n (pc := 16) dX12_one_16 rfl 0 rfl ?_
      obtain ⟨f33, g34, H⟩ := H
      refine ea_deref0 e4 ?_
      obtain ⟨d29, xc35, h30, m31, q32, H⟩ := H
      refine ea_callV (pc := 17) (As := []) (st := []) dX12_one_17 kX12_one m31 q32 rfl (Nat.le_of_ble_eq_true rfl) ew_1958 ew_1960 ew_79 (ci := 12) rfl (by decide) f33 g34 ?_
      refine ea_if_ne (pc := 20) (tgt := 25) dX12_one_20 rfl (fun c48 => ?_) (fun c48 => ?_)
      · have H := H.1 c48
        refine ea_aload_n (pc := 25) dX12_one_25 rfl 0 rfl ?_
        refine ea_dup (pc := 26) dX12_one_26 rfl ?_
        obtain ⟨f36, g37, H⟩ := H
        refine ea_deref0 e4 ?_
        refine ea_getI (pc := 27) dX12_one_27 ec_12 (k := 60) (Nat.le_of_ble_eq_true rfl) rfl (Or.inl ew_1405) f36 g37 ?_
        refine ea_iconst (pc := 30) dX12_one_30 (v := 1) rfl ?_
        refine ea_isub (pc := 31) dX12_one_31 ?_
        obtain ⟨f38, g39, H⟩ := H
        refine ea_deref1 e4 ?_
        refine ea_putI (pc := 32) dX12_one_32 ec_12 (k := 60) (Nat.le_of_ble_eq_true rfl) rfl (Or.inl ⟨rfl, Or.inl ew_1405⟩) rfl rfl f38 g39 ?_
        obtain ⟨h40, E41⟩ : ∃ z, z = ea_wi h30 a3 60 ((ea_i h30 a3 60) - (1 : Int32)) := ⟨_, rfl⟩
        have H := H h40 E41
        refine ea_nm E41 ?_
        refine ea_aload_n (pc := 35) dX12_one_35 rfl 0 rfl ?_
        refine ea_bipush (pc := 36) dX12_one_36 (v := 15) rfl ?_
        refine ea_iconst (pc := 38) dX12_one_38 (v := 0) rfl ?_
        obtain ⟨f46, g47, H⟩ := H
        refine ea_deref2 e4 ?_
        obtain ⟨d42, h43, m44, q45, H⟩ := H
        refine ea_callV (pc := 39) (As := [vI 15, vI 0]) (st := []) dX12_one_39 kX12_lay m44 q45 rfl (Nat.le_of_ble_eq_true rfl) ew_1946 ew_1948 ew_76 (ci := 12) rfl (by decide) f46 g47 ?_
        refine ea_iconst (pc := 42) dX12_one_42 (v := 1) rfl ?_
        obtain ⟨rfl, rfl⟩ := H
        exact ea_ireturn (pc := 43) dX12_one_43 rfl (ea_bn (Or.inr rfl))
      · have H := H.2 c48
        refine ea_iconst (pc := 23) dX12_one_23 (v := 0) rfl ?_
        obtain ⟨rfl, rfl⟩ := H
        exact ea_ireturn (pc := 24) dX12_one_24 rfl (ea_bn (Or.inl rfl))
theorem bX12_one_96 {d : Nat} {h0 hE h : ea_H} {rv : Option ea_V} {r0 : Option Nat} {sx0 : Int32} (H : (¬ sx0 = ((-1) : Int32) → ∃ a7, r0 = some a7 ∧ a7 < ea_n h ∧ ea_c h a7 = 12 ∧ ∃ (d1 : Nat) (h2 : ea_H), ea_Met mX12_next0 d1 [vR (some a7)] h none h2 ∧ d1 + 1 ≤ d ∧ a7 < ea_n h2 ∧ ea_c h2 a7 = 12 ∧ ∃ (d9 : Nat) (xc15 : Int32) (h10 : ea_H), ea_Met mX12_sumOf d9 [vR (some a7)] h2 (some (vI xc15)) h10 ∧ d9 + 1 ≤ d ∧ (¬ xc15 = (0 : Int32) → a7 < ea_n h10 ∧ ea_c h10 a7 = 12 ∧ ∃ (d16 : Nat) (h17 : ea_H), ea_Met mX12_lay d16 [vR (some a7), vI sx0, vI 0] h10 none h17 ∧ d16 + 1 ≤ d ∧ rv = some (vI 1) ∧ hE = h17) ∧ (xc15 = (0 : Int32) → rv = some (vI 0) ∧ hE = h10)) ∧ (sx0 = ((-1) : Int32) → ∃ a29, r0 = some a29 ∧ a29 < ea_n h ∧ ea_c h a29 = 12 ∧ ∃ (d23 : Nat) (xc31 : Int32) (h24 : ea_H), ea_Met mX12_bad d23 [vR (some a29), vI 1] h (some (vI xc31)) h24 ∧ d23 + 1 ≤ d ∧ (xc31 = 0 ∨ xc31 = 1) ∧ rv = some (vI xc31) ∧ hE = h24)) : ea_W mX12_one d h0 rv hE 96 [(0, vR r0)] [vI sx0] h := by
  refine ea_istore_n (pc := 96) (lv' := [(0, vR r0), (1, vI sx0)]) dX12_one_96 rfl (Nat.le_of_ble_eq_true rfl) [1, 0] rfl ?_
  refine ea_iload_n (pc := 97) dX12_one_97 rfl 1 rfl ?_
  refine ea_iconst (pc := 98) dX12_one_98 (v := (-1)) rfl ?_
  refine ea_icmp_ne (pc := 99) (tgt := 108) dX12_one_99 rfl (fun c33 => ?_) (fun c33 => ?_)
  · have H := H.1 c33
    refine ea_aload_n (pc := 108) dX12_one_108 rfl 0 rfl ?_
    obtain ⟨a7, e8, f5, g6, H⟩ := H
    refine ea_deref0 e8 ?_
    obtain ⟨d1, h2, m3, q4, H⟩ := H
    refine ea_callV (pc := 109) (As := []) (st := []) dX12_one_109 kX12_next0 m3 q4 rfl (Nat.le_of_ble_eq_true rfl) ew_1822 ew_1824 ew_63 (ci := 12) rfl (by decide) f5 g6 ?_
    refine ea_aload_n (pc := 112) dX12_one_112 rfl 0 rfl ?_
    obtain ⟨f13, g14, H⟩ := H
    refine ea_deref0 e8 ?_
    obtain ⟨d9, xc15, h10, m11, q12, H⟩ := H
    refine ea_callV (pc := 113) (As := []) (st := []) dX12_one_113 kX12_sumOf m11 q12 rfl (Nat.le_of_ble_eq_true rfl) ew_1926 ew_1928 ew_71 (ci := 12) rfl (by decide) f13 g14 ?_
    refine ea_if_ne (pc := 116) (tgt := 121) dX12_one_116 rfl (fun c22 => ?_) (fun c22 => ?_)
    · have H := H.1 c22
      refine ea_aload_n (pc := 121) dX12_one_121 rfl 0 rfl ?_
      refine ea_iload_n (pc := 122) dX12_one_122 rfl 1 rfl ?_
      refine ea_iconst (pc := 123) dX12_one_123 (v := 0) rfl ?_
      obtain ⟨f20, g21, H⟩ := H
      refine ea_deref2 e8 ?_
      obtain ⟨d16, h17, m18, q19, H⟩ := H
      refine ea_callV (pc := 124) (As := [vI sx0, vI 0]) (st := []) dX12_one_124 kX12_lay m18 q19 rfl (Nat.le_of_ble_eq_true rfl) ew_1946 ew_1948 ew_76 (ci := 12) rfl (by decide) f20 g21 ?_
      refine ea_iconst (pc := 127) dX12_one_127 (v := 1) rfl ?_
      obtain ⟨rfl, rfl⟩ := H
      exact ea_ireturn (pc := 128) dX12_one_128 rfl (ea_bn (Or.inr rfl))
    · have H := H.2 c22
      refine ea_iconst (pc := 119) dX12_one_119 (v := 0) rfl ?_
      obtain ⟨rfl, rfl⟩ := H
      exact ea_ireturn (pc := 120) dX12_one_120 rfl (ea_bn (Or.inl rfl))
  · have H := H.2 c33
    refine ea_aload_n (pc := 102) dX12_one_102 rfl 0 rfl ?_
    refine ea_iconst (pc := 103) dX12_one_103 (v := 1) rfl ?_
    obtain ⟨a29, e30, f27, g28, H⟩ := H
    refine ea_deref1 e30 ?_
    obtain ⟨d23, xc31, h24, m25, q26, H⟩ := H
    refine ea_callV (pc := 104) (As := [vI 1]) (st := []) dX12_one_104 kX12_bad m25 q26 rfl (Nat.le_of_ble_eq_true rfl) ew_1914 ew_1916 ew_68 (ci := 12) rfl (by decide) f27 g28 ?_
    obtain ⟨z32, rfl, rfl⟩ := H
    exact ea_ireturn (pc := 107) dX12_one_107 rfl (ea_bn z32)
theorem dX12_aCharge_0 : decode cX12_aCharge 0 = .ok (.aload_n 0, 1) := by decide +kernel
theorem dX12_aCharge_1 : decode cX12_aCharge 1 = .ok (.getfield 107, 3) := by decide +kernel
theorem dX12_aCharge_4 : decode cX12_aCharge 4 = .ok (.aload_n 0, 1) := by decide +kernel
theorem dX12_aCharge_5 : decode cX12_aCharge 5 = .ok (.getfield 483, 3) := by decide +kernel
theorem dX12_aCharge_8 : decode cX12_aCharge 8 = .ok (.aload_n 0, 1) := by decide +kernel
theorem dX12_aCharge_9 : decode cX12_aCharge 9 = .ok (.getfield 452, 3) := by decide +kernel
theorem dX12_aCharge_12 : decode cX12_aCharge 12 = .ok (.iastore, 1) := by decide +kernel
theorem dX12_aCharge_13 : decode cX12_aCharge 13 = .ok (.aload_n 0, 1) := by decide +kernel
theorem dX12_aCharge_14 : decode cX12_aCharge 14 = .ok (.invokevirtual 471, 3) := by decide +kernel
theorem dX12_aCharge_17 : decode cX12_aCharge 17 = .ok (.ifCond .ne 5, 3) := by decide +kernel
theorem dX12_aCharge_20 : decode cX12_aCharge 20 = .ok (.iconst 0, 1) := by decide +kernel
theorem dX12_aCharge_21 : decode cX12_aCharge 21 = .ok (.ireturn, 1) := by decide +kernel
theorem dX12_aCharge_22 : decode cX12_aCharge 22 = .ok (.aload_n 0, 1) := by decide +kernel
theorem dX12_aCharge_23 : decode cX12_aCharge 23 = .ok (.getfield 110, 3) := by decide +kernel
theorem dX12_aCharge_26 : decode cX12_aCharge 26 = .ok (.aload_n 0, 1) := by decide +kernel
theorem dX12_aCharge_27 : decode cX12_aCharge 27 = .ok (.getfield 483, 3) := by decide +kernel
theorem dX12_aCharge_30 : decode cX12_aCharge 30 = .ok (.aload_n 0, 1) := by decide +kernel
theorem dX12_aCharge_31 : decode cX12_aCharge 31 = .ok (.getfield 452, 3) := by decide +kernel
theorem dX12_aCharge_34 : decode cX12_aCharge 34 = .ok (.iastore, 1) := by decide +kernel
theorem dX12_aCharge_35 : decode cX12_aCharge 35 = .ok (.aload_n 0, 1) := by decide +kernel
theorem dX12_aCharge_36 : decode cX12_aCharge 36 = .ok (.getfield 422, 3) := by decide +kernel
theorem dX12_aCharge_39 : decode cX12_aCharge 39 = .ok (.bipush 10, 2) := by decide +kernel
theorem dX12_aCharge_41 : decode cX12_aCharge 41 = .ok (.if_icmp .ne 16, 3) := by decide +kernel
theorem dX12_aCharge_44 : decode cX12_aCharge 44 = .ok (.aload_n 0, 1) := by decide +kernel
theorem dX12_aCharge_45 : decode cX12_aCharge 45 = .ok (.invokevirtual 446, 3) := by decide +kernel
theorem dX12_aCharge_48 : decode cX12_aCharge 48 = .ok (.aload_n 0, 1) := by decide +kernel
theorem dX12_aCharge_49 : decode cX12_aCharge 49 = .ok (.invokevirtual 486, 3) := by decide +kernel
theorem dX12_aCharge_52 : decode cX12_aCharge 52 = .ok (.ifCond .ne 5, 3) := by decide +kernel
theorem dX12_aCharge_55 : decode cX12_aCharge 55 = .ok (.iconst 0, 1) := by decide +kernel
theorem dX12_aCharge_56 : decode cX12_aCharge 56 = .ok (.ireturn, 1) := by decide +kernel
theorem dX12_aCharge_57 : decode cX12_aCharge 57 = .ok (.aload_n 0, 1) := by decide +kernel
theorem dX12_aCharge_58 : decode cX12_aCharge 58 = .ok (.dup, 1) := by decide +kernel
theorem dX12_aCharge_59 : decode cX12_aCharge 59 = .ok (.getfield 483, 3) := by decide +kernel
theorem dX12_aCharge_62 : decode cX12_aCharge 62 = .ok (.iconst 1, 1) := by decide +kernel
theorem dX12_aCharge_63 : decode cX12_aCharge 63 = .ok (.iadd, 1) := by decide +kernel
theorem dX12_aCharge_64 : decode cX12_aCharge 64 = .ok (.putfield 483, 3) := by decide +kernel
theorem dX12_aCharge_67 : decode cX12_aCharge 67 = .ok (.iconst 1, 1) := by decide +kernel
theorem dX12_aCharge_68 : decode cX12_aCharge 68 = .ok (.ireturn, 1) := by decide +kernel
theorem bX12_aCharge_0 {d : Nat} {h0 hE h : ea_H} {rv : Option ea_V} {r0 : Option Nat} (H : ∃ a3, r0 = some a3 ∧ a3 < ea_n h ∧ ea_c h a3 = 12 ∧ a3 < ea_n h ∧ ea_c h a3 = 12 ∧ a3 < ea_n h ∧ ea_c h a3 = 12 ∧ ∃ a11, (ea_r h a3 38) = some a11 ∧ a11 < ea_n h ∧ ea_c h a11 = 20 ∧ vp_in (ea_i h a3 44) (ea_l h a11) ∧ ∀ h14, h14 = ea_wi h a11 (Int32.toNatClampNeg (ea_i h a3 44)) (ea_i h a3 45) → a3 < ea_n h14 ∧ ea_c h14 a3 = 12 ∧ ∃ (d16 : Nat) (xc22 : Int32) (h17 : ea_H), ea_Met mX12_sumOf d16 [vR (some a3)] h14 (some (vI xc22)) h17 ∧ d16 + 1 ≤ d ∧ (¬ xc22 = (0 : Int32) → a3 < ea_n h17 ∧ ea_c h17 a3 = 12 ∧ a3 < ea_n h17 ∧ ea_c h17 a3 = 12 ∧ a3 < ea_n h17 ∧ ea_c h17 a3 = 12 ∧ ∃ a31, (ea_r h17 a3 39) = some a31 ∧ a31 < ea_n h17 ∧ ea_c h17 a31 = 20 ∧ vp_in (ea_i h17 a3 44) (ea_l h17 a31) ∧ ∀ h34, h34 = ea_wi h17 a31 (Int32.toNatClampNeg (ea_i h17 a3 44)) (ea_i h17 a3 45) → a3 < ea_n h34 ∧ ea_c h34 a3 = 12 ∧ (¬ (ea_i h34 a3 54) = (10 : Int32) → a3 < ea_n h34 ∧ ea_c h34 a3 = 12 ∧ a3 < ea_n h34 ∧ ea_c h34 a3 = 12 ∧ ∀ h42, h42 = ea_wi h34 a3 44 ((ea_i h34 a3 44) + (1 : Int32)) → rv = some (vI 1) ∧ hE = h42) ∧ ((ea_i h34 a3 54) = (10 : Int32) → a3 < ea_n h34 ∧ ea_c h34 a3 = 12 ∧ ∃ (d44 : Nat) (h45 : ea_H), ea_Met mX12_next0 d44 [vR (some a3)] h34 none h45 ∧ d44 + 1 ≤ d ∧ a3 < ea_n h45 ∧ ea_c h45 a3 = 12 ∧ ∃ (d50 : Nat) (xc56 : Int32) (h51 : ea_H), ea_Met mX12_any d50 [vR (some a3)] h45 (some (vI xc56)) h51 ∧ d50 + 1 ≤ d ∧ (¬ xc56 = (0 : Int32) → a3 < ea_n h51 ∧ ea_c h51 a3 = 12 ∧ a3 < ea_n h51 ∧ ea_c h51 a3 = 12 ∧ ∀ h61, h61 = ea_wi h51 a3 44 ((ea_i h51 a3 44) + (1 : Int32)) → rv = some (vI 1) ∧ hE = h61) ∧ (xc56 = (0 : Int32) → rv = some (vI 0) ∧ hE = h51))) ∧ (xc22 = (0 : Int32) → rv = some (vI 0) ∧ hE = h17)) : ea_W mX12_aCharge d h0 rv hE 0 [(0, vR r0)] [] h := by
  refine ea_aload_n (pc := 0) dX12_aCharge_0 rfl 0 rfl ?_
  obtain ⟨a3, e4, f1, g2, H⟩ := H
  refine ea_deref0 e4 ?_
  refine ea_getR (pc := 1) dX12_aCharge_1 ec_12 (k := 38) (Nat.le_of_ble_eq_true rfl) rfl (Or.inl ew_1383) f1 g2 rfl ?_
  refine ea_aload_n (pc := 4) dX12_aCharge_4 rfl 0 rfl ?_
  obtain ⟨f5, g6, H⟩ := H
  refine ea_deref0 e4 ?_
  refine ea_getI (pc := 5) dX12_aCharge_5 ec_12 (k := 44) (Nat.le_of_ble_eq_true rfl) rfl (Or.inl ew_1389) f5 g6 ?_
  refine ea_aload_n (pc := 8) dX12_aCharge_8 rfl 0 rfl ?_
  obtain ⟨f7, g8, H⟩ := H
  refine ea_deref0 e4 ?_
  refine ea_getI (pc := 9) dX12_aCharge_9 ec_12 (k := 45) (Nat.le_of_ble_eq_true rfl) rfl (Or.inl ew_1390) f7 g8 ?_
  obtain ⟨a11, e12, f9, g10, H⟩ := H
  refine ea_deref2 e12 ?_
  obtain ⟨z13, H⟩ := H
  refine ea_iast (pc := 12) dX12_aCharge_12 f9 g10 z13 ?_
  obtain ⟨h14, E15⟩ : ∃ z, z = ea_wi h a11 (Int32.toNatClampNeg (ea_i h a3 44)) (ea_i h a3 45) := ⟨_, rfl⟩
  have H := H h14 E15
  refine ea_nm E15 ?_
  refine ea_aload_n (pc := 13) dX12_aCharge_13 rfl 0 rfl ?_
  obtain ⟨f20, g21, H⟩ := H
  refine ea_deref0 e4 ?_
  obtain ⟨d16, xc22, h17, m18, q19, H⟩ := H
  refine ea_callV (pc := 14) (As := []) (st := []) dX12_aCharge_14 kX12_sumOf m18 q19 rfl (Nat.le_of_ble_eq_true rfl) ew_1926 ew_1928 ew_71 (ci := 12) rfl (by decide) f20 g21 ?_
  refine ea_if_ne (pc := 17) (tgt := 22) dX12_aCharge_17 rfl (fun c65 => ?_) (fun c65 => ?_)
  · have H := H.1 c65
    refine ea_aload_n (pc := 22) dX12_aCharge_22 rfl 0 rfl ?_
    obtain ⟨f23, g24, H⟩ := H
    refine ea_deref0 e4 ?_
    refine ea_getR (pc := 23) dX12_aCharge_23 ec_12 (k := 39) (Nat.le_of_ble_eq_true rfl) rfl (Or.inl ew_1384) f23 g24 rfl ?_
    refine ea_aload_n (pc := 26) dX12_aCharge_26 rfl 0 rfl ?_
    obtain ⟨f25, g26, H⟩ := H
    refine ea_deref0 e4 ?_
    refine ea_getI (pc := 27) dX12_aCharge_27 ec_12 (k := 44) (Nat.le_of_ble_eq_true rfl) rfl (Or.inl ew_1389) f25 g26 ?_
    refine ea_aload_n (pc := 30) dX12_aCharge_30 rfl 0 rfl ?_
    obtain ⟨f27, g28, H⟩ := H
    refine ea_deref0 e4 ?_
    refine ea_getI (pc := 31) dX12_aCharge_31 ec_12 (k := 45) (Nat.le_of_ble_eq_true rfl) rfl (Or.inl ew_1390) f27 g28 ?_
    obtain ⟨a31, e32, f29, g30, H⟩ := H
    refine ea_deref2 e32 ?_
    obtain ⟨z33, H⟩ := H
    refine ea_iast (pc := 34) dX12_aCharge_34 f29 g30 z33 ?_
    obtain ⟨h34, E35⟩ : ∃ z, z = ea_wi h17 a31 (Int32.toNatClampNeg (ea_i h17 a3 44)) (ea_i h17 a3 45) := ⟨_, rfl⟩
    have H := H h34 E35
    refine ea_nm E35 ?_
    refine ea_aload_n (pc := 35) dX12_aCharge_35 rfl 0 rfl ?_
    obtain ⟨f36, g37, H⟩ := H
    refine ea_deref0 e4 ?_
    refine ea_getI (pc := 36) dX12_aCharge_36 ec_12 (k := 54) (Nat.le_of_ble_eq_true rfl) rfl (Or.inl ew_1399) f36 g37 ?_
    refine ea_bipush (pc := 39) dX12_aCharge_39 (v := 10) rfl ?_
    refine ea_icmp_ne (pc := 41) (tgt := 57) dX12_aCharge_41 rfl (fun c64 => ?_) (fun c64 => ?_)
    · have H := H.1 c64
      refine ea_aload_n (pc := 57) dX12_aCharge_57 rfl 0 rfl ?_
      refine ea_dup (pc := 58) dX12_aCharge_58 rfl ?_
      obtain ⟨f38, g39, H⟩ := H
      refine ea_deref0 e4 ?_
      refine ea_getI (pc := 59) dX12_aCharge_59 ec_12 (k := 44) (Nat.le_of_ble_eq_true rfl) rfl (Or.inl ew_1389) f38 g39 ?_
      refine ea_iconst (pc := 62) dX12_aCharge_62 (v := 1) rfl ?_
      refine ea_iadd (pc := 63) dX12_aCharge_63 ?_
      obtain ⟨f40, g41, H⟩ := H
      refine ea_deref1 e4 ?_
      refine ea_putI (pc := 64) dX12_aCharge_64 ec_12 (k := 44) (Nat.le_of_ble_eq_true rfl) rfl (Or.inl ⟨rfl, Or.inl ew_1389⟩) rfl rfl f40 g41 ?_
      obtain ⟨h42, E43⟩ : ∃ z, z = ea_wi h34 a3 44 ((ea_i h34 a3 44) + (1 : Int32)) := ⟨_, rfl⟩
      have H := H h42 E43
      refine ea_nm E43 ?_
      refine ea_iconst (pc := 67) dX12_aCharge_67 (v := 1) rfl ?_
      obtain ⟨rfl, rfl⟩ := H
      exact ea_ireturn (pc := 68) dX12_aCharge_68 rfl (ea_bn (Or.inr rfl))
    · have H := H.2 c64
      refine ea_aload_n (pc := 44) dX12_aCharge_44 rfl 0 rfl ?_
      obtain ⟨f48, g49, H⟩ := H
      refine ea_deref0 e4 ?_
      obtain ⟨d44, h45, m46, q47, H⟩ := H
      refine ea_callV (pc := 45) (As := []) (st := []) dX12_aCharge_45 kX12_next0 m46 q47 rfl (Nat.le_of_ble_eq_true rfl) ew_1822 ew_1824 ew_63 (ci := 12) rfl (by decide) f48 g49 ?_
      refine ea_aload_n (pc := 48) dX12_aCharge_48 rfl 0 rfl ?_
      obtain ⟨f54, g55, H⟩ := H
      refine ea_deref0 e4 ?_
      obtain ⟨d50, xc56, h51, m52, q53, H⟩ := H
      refine ea_callV (pc := 49) (As := []) (st := []) dX12_aCharge_49 kX12_any m52 q53 rfl (Nat.le_of_ble_eq_true rfl) ew_1950 ew_1952 ew_77 (ci := 12) rfl (by decide) f54 g55 ?_
      refine ea_if_ne (pc := 52) (tgt := 57) dX12_aCharge_52 rfl (fun c63 => ?_) (fun c63 => ?_)
      · have H := H.1 c63
        refine ea_aload_n (pc := 57) dX12_aCharge_57 rfl 0 rfl ?_
        refine ea_dup (pc := 58) dX12_aCharge_58 rfl ?_
        obtain ⟨f57, g58, H⟩ := H
        refine ea_deref0 e4 ?_
        refine ea_getI (pc := 59) dX12_aCharge_59 ec_12 (k := 44) (Nat.le_of_ble_eq_true rfl) rfl (Or.inl ew_1389) f57 g58 ?_
        refine ea_iconst (pc := 62) dX12_aCharge_62 (v := 1) rfl ?_
        refine ea_iadd (pc := 63) dX12_aCharge_63 ?_
        obtain ⟨f59, g60, H⟩ := H
        refine ea_deref1 e4 ?_
        refine ea_putI (pc := 64) dX12_aCharge_64 ec_12 (k := 44) (Nat.le_of_ble_eq_true rfl) rfl (Or.inl ⟨rfl, Or.inl ew_1389⟩) rfl rfl f59 g60 ?_
        obtain ⟨h61, E62⟩ : ∃ z, z = ea_wi h51 a3 44 ((ea_i h51 a3 44) + (1 : Int32)) := ⟨_, rfl⟩
        have H := H h61 E62
        refine ea_nm E62 ?_
        refine ea_iconst (pc := 67) dX12_aCharge_67 (v := 1) rfl ?_
        obtain ⟨rfl, rfl⟩ := H
        exact ea_ireturn (pc := 68) dX12_aCharge_68 rfl (ea_bn (Or.inr rfl))
      · have H := H.2 c63
        refine ea_iconst (pc := 55) dX12_aCharge_55 (v := 0) rfl ?_
        obtain ⟨rfl, rfl⟩ := H
        exact ea_ireturn (pc := 56) dX12_aCharge_56 rfl (ea_bn (Or.inl rfl))
  · have H := H.2 c65
    refine ea_iconst (pc := 20) dX12_aCharge_20 (v := 0) rfl ?_
    obtain ⟨rfl, rfl⟩ := H
    exact ea_ireturn (pc := 21) dX12_aCharge_21 rfl (ea_bn (Or.inl rfl))
theorem dX12_inner_0 : decode cX12_inner 0 = .ok (.iload_n 1, 1) := by decide +kernel
theorem dX12_inner_1 : decode cX12_inner 1 = .ok (.iconst 3, 1) := by decide +kernel
theorem dX12_inner_2 : decode cX12_inner 2 = .ok (.if_icmp .ne 8, 3) := by decide +kernel
theorem dX12_inner_5 : decode cX12_inner 5 = .ok (.aload_n 0, 1) := by decide +kernel
theorem dX12_inner_6 : decode cX12_inner 6 = .ok (.invokevirtual 489, 3) := by decide +kernel
theorem dX12_inner_9 : decode cX12_inner 9 = .ok (.ireturn, 1) := by decide +kernel
theorem dX12_inner_10 : decode cX12_inner 10 = .ok (.aload_n 0, 1) := by decide +kernel
theorem dX12_inner_11 : decode cX12_inner 11 = .ok (.iload_n 1, 1) := by decide +kernel
theorem dX12_inner_12 : decode cX12_inner 12 = .ok (.iconst 5, 1) := by decide +kernel
theorem dX12_inner_13 : decode cX12_inner 13 = .ok (.if_icmp .ne 8, 3) := by decide +kernel
theorem dX12_inner_16 : decode cX12_inner 16 = .ok (.bipush 99, 2) := by decide +kernel
theorem dX12_inner_18 : decode cX12_inner 18 = .ok (.goto 6, 3) := by decide +kernel
theorem dX12_inner_21 : decode cX12_inner 21 = .ok (.sipush 9999, 3) := by decide +kernel
theorem dX12_inner_24 : decode cX12_inner 24 = .ok (.invokevirtual 492, 3) := by decide +kernel
theorem dX12_inner_27 : decode cX12_inner 27 = .ok (.ifCond .ne 5, 3) := by decide +kernel
theorem dX12_inner_30 : decode cX12_inner 30 = .ok (.iconst 0, 1) := by decide +kernel
theorem dX12_inner_31 : decode cX12_inner 31 = .ok (.ireturn, 1) := by decide +kernel
theorem dX12_inner_32 : decode cX12_inner 32 = .ok (.iload_n 1, 1) := by decide +kernel
theorem dX12_inner_33 : decode cX12_inner 33 = .ok (.iconst 4, 1) := by decide +kernel
theorem dX12_inner_34 : decode cX12_inner 34 = .ok (.if_icmp .ne 42, 3) := by decide +kernel
theorem dX12_inner_37 : decode cX12_inner 37 = .ok (.aload_n 0, 1) := by decide +kernel
theorem dX12_inner_38 : decode cX12_inner 38 = .ok (.getfield 449, 3) := by decide +kernel
theorem dX12_inner_41 : decode cX12_inner 41 = .ok (.istore_n 2, 1) := by decide +kernel
theorem dX12_inner_42 : decode cX12_inner 42 = .ok (.aload_n 0, 1) := by decide +kernel
theorem dX12_inner_43 : decode cX12_inner 43 = .ok (.bipush 9, 2) := by decide +kernel
theorem dX12_inner_45 : decode cX12_inner 45 = .ok (.invokevirtual 474, 3) := by decide +kernel
theorem dX12_inner_48 : decode cX12_inner 48 = .ok (.ifCond .eq 13, 3) := by decide +kernel
theorem dX12_inner_51 : decode cX12_inner 51 = .ok (.aload_n 0, 1) := by decide +kernel
theorem dX12_inner_52 : decode cX12_inner 52 = .ok (.sipush 1439, 3) := by decide +kernel
theorem dX12_inner_55 : decode cX12_inner 55 = .ok (.invokevirtual 492, 3) := by decide +kernel
theorem dX12_inner_58 : decode cX12_inner 58 = .ok (.ifCond .ne 5, 3) := by decide +kernel
theorem dX12_inner_61 : decode cX12_inner 61 = .ok (.iconst 0, 1) := by decide +kernel
theorem dX12_inner_62 : decode cX12_inner 62 = .ok (.ireturn, 1) := by decide +kernel
theorem dX12_inner_63 : decode cX12_inner 63 = .ok (.aload_n 0, 1) := by decide +kernel
theorem dX12_inner_64 : decode cX12_inner 64 = .ok (.iload_n 2, 1) := by decide +kernel
theorem dX12_inner_65 : decode cX12_inner 65 = .ok (.putfield 495, 3) := by decide +kernel
theorem dX12_inner_68 : decode cX12_inner 68 = .ok (.aload_n 0, 1) := by decide +kernel
theorem dX12_inner_69 : decode cX12_inner 69 = .ok (.aload_n 0, 1) := by decide +kernel
theorem dX12_inner_70 : decode cX12_inner 70 = .ok (.getfield 449, 3) := by decide +kernel
theorem dX12_inner_73 : decode cX12_inner 73 = .ok (.putfield 498, 3) := by decide +kernel
theorem dX12_inner_76 : decode cX12_inner 76 = .ok (.iload_n 1, 1) := by decide +kernel
theorem dX12_inner_77 : decode cX12_inner 77 = .ok (.iconst 5, 1) := by decide +kernel
theorem dX12_inner_78 : decode cX12_inner 78 = .ok (.if_icmp .ne 11, 3) := by decide +kernel
theorem dX12_inner_81 : decode cX12_inner 81 = .ok (.aload_n 0, 1) := by decide +kernel
theorem dX12_inner_82 : decode cX12_inner 82 = .ok (.aload_n 0, 1) := by decide +kernel
theorem dX12_inner_83 : decode cX12_inner 83 = .ok (.getfield 449, 3) := by decide +kernel
theorem dX12_inner_86 : decode cX12_inner 86 = .ok (.putfield 501, 3) := by decide +kernel
theorem dX12_inner_89 : decode cX12_inner 89 = .ok (.iload_n 1, 1) := by decide +kernel
theorem dX12_inner_90 : decode cX12_inner 90 = .ok (.bipush 6, 2) := by decide +kernel
theorem dX12_inner_92 : decode cX12_inner 92 = .ok (.if_icmp .ne 11, 3) := by decide +kernel
theorem dX12_inner_95 : decode cX12_inner 95 = .ok (.aload_n 0, 1) := by decide +kernel
theorem dX12_inner_96 : decode cX12_inner 96 = .ok (.aload_n 0, 1) := by decide +kernel
theorem dX12_inner_97 : decode cX12_inner 97 = .ok (.getfield 449, 3) := by decide +kernel
theorem dX12_inner_100 : decode cX12_inner 100 = .ok (.putfield 504, 3) := by decide +kernel
theorem dX12_inner_103 : decode cX12_inner 103 = .ok (.iload_n 1, 1) := by decide +kernel
theorem dX12_inner_104 : decode cX12_inner 104 = .ok (.bipush 7, 2) := by decide +kernel
theorem dX12_inner_106 : decode cX12_inner 106 = .ok (.if_icmp .ne 11, 3) := by decide +kernel
theorem dX12_inner_109 : decode cX12_inner 109 = .ok (.aload_n 0, 1) := by decide +kernel
theorem dX12_inner_110 : decode cX12_inner 110 = .ok (.aload_n 0, 1) := by decide +kernel
theorem dX12_inner_111 : decode cX12_inner 111 = .ok (.getfield 449, 3) := by decide +kernel
theorem dX12_inner_114 : decode cX12_inner 114 = .ok (.putfield 507, 3) := by decide +kernel
theorem dX12_inner_117 : decode cX12_inner 117 = .ok (.iload_n 1, 1) := by decide +kernel
theorem dX12_inner_118 : decode cX12_inner 118 = .ok (.bipush 8, 2) := by decide +kernel
theorem dX12_inner_120 : decode cX12_inner 120 = .ok (.if_icmp .ne 11, 3) := by decide +kernel
theorem dX12_inner_123 : decode cX12_inner 123 = .ok (.aload_n 0, 1) := by decide +kernel
theorem dX12_inner_124 : decode cX12_inner 124 = .ok (.aload_n 0, 1) := by decide +kernel
theorem dX12_inner_125 : decode cX12_inner 125 = .ok (.getfield 449, 3) := by decide +kernel
theorem dX12_inner_128 : decode cX12_inner 128 = .ok (.putfield 510, 3) := by decide +kernel
theorem dX12_inner_131 : decode cX12_inner 131 = .ok (.iconst 1, 1) := by decide +kernel
theorem dX12_inner_132 : decode cX12_inner 132 = .ok (.ireturn, 1) := by decide +kernel
theorem bX12_inner_0 {d : Nat} {h0 hE h : ea_H} {rv : Option ea_V} {r0 : Option Nat} {x1 : Int32} (H : (¬ x1 = (3 : Int32) → (¬ x1 = (5 : Int32) → ea_W mX12_inner d h0 rv hE 24 [(0, vR r0), (1, vI x1)] [vI 9999, vR r0] h) ∧ (x1 = (5 : Int32) → ea_W mX12_inner d h0 rv hE 24 [(0, vR r0), (1, vI x1)] [vI 99, vR r0] h)) ∧ (x1 = (3 : Int32) → ∃ a8, r0 = some a8 ∧ a8 < ea_n h ∧ ea_c h a8 = 12 ∧ ∃ (d2 : Nat) (xc10 : Int32) (h3 : ea_H), ea_Met mX12_aCharge d2 [vR (some a8)] h (some (vI xc10)) h3 ∧ d2 + 1 ≤ d ∧ (xc10 = 0 ∨ xc10 = 1) ∧ rv = some (vI xc10) ∧ hE = h3)) : ea_W mX12_inner d h0 rv hE 0 [(0, vR r0), (1, vI x1)] [] h := by
  refine ea_iload_n (pc := 0) dX12_inner_0 rfl 1 rfl ?_
  refine ea_iconst (pc := 1) dX12_inner_1 (v := 3) rfl ?_
  refine ea_icmp_ne (pc := 2) (tgt := 10) dX12_inner_2 rfl (fun c12 => ?_) (fun c12 => ?_)
  · have H := H.1 c12
    refine ea_aload_n (pc := 10) dX12_inner_10 rfl 0 rfl ?_
    refine ea_iload_n (pc := 11) dX12_inner_11 rfl 1 rfl ?_
    refine ea_iconst (pc := 12) dX12_inner_12 (v := 5) rfl ?_
    refine ea_icmp_ne (pc := 13) (tgt := 21) dX12_inner_13 rfl (fun c1 => ?_) (fun c1 => ?_)
    · have H := H.1 c1
      refine ea_sipush (pc := 21) dX12_inner_21 (v := 9999) rfl ?_
      exact H
    · have H := H.2 c1
      refine ea_bipush (pc := 16) dX12_inner_16 (v := 99) rfl ?_
      refine ea_goto (pc := 18) (tgt := 24) dX12_inner_18 rfl ?_
      exact H
  · have H := H.2 c12
    refine ea_aload_n (pc := 5) dX12_inner_5 rfl 0 rfl ?_
    obtain ⟨a8, e9, f6, g7, H⟩ := H
    refine ea_deref0 e9 ?_
    obtain ⟨d2, xc10, h3, m4, q5, H⟩ := H
    refine ea_callV (pc := 6) (As := []) (st := []) dX12_inner_6 kX12_aCharge m4 q5 rfl (Nat.le_of_ble_eq_true rfl) ew_1922 ew_1924 ew_70 (ci := 12) rfl (by decide) f6 g7 ?_
    obtain ⟨z11, rfl, rfl⟩ := H
    exact ea_ireturn (pc := 9) dX12_inner_9 rfl (ea_bn z11)
theorem bX12_inner_24 {d : Nat} {h0 hE h : ea_H} {rv : Option ea_V} {r0 : Option Nat} {x1 : Int32} {sx0 : Int32} {sr1 : Option Nat} (H : ∃ a7, sr1 = some a7 ∧ a7 < ea_n h ∧ ea_c h a7 = 12 ∧ ∃ (d1 : Nat) (xc9 : Int32) (h2 : ea_H), ea_Met mX12_aNumber d1 [vR (some a7), vI sx0] h (some (vI xc9)) h2 ∧ d1 + 1 ≤ d ∧ (¬ xc9 = (0 : Int32) → (¬ x1 = (4 : Int32) → ea_W mX12_inner d h0 rv hE 76 [(0, vR r0), (1, vI x1)] [] h2) ∧ (x1 = (4 : Int32) → ∃ a12, r0 = some a12 ∧ a12 < ea_n h2 ∧ ea_c h2 a12 = 12 ∧ a12 < ea_n h2 ∧ ea_c h2 a12 = 12 ∧ ∃ (d14 : Nat) (xc20 : Int32) (h15 : ea_H), ea_Met mX12_need d14 [vR (some a12), vI 9] h2 (some (vI xc20)) h15 ∧ d14 + 1 ≤ d ∧ (xc20 = (0 : Int32) → rv = some (vI 0) ∧ hE = h15) ∧ (¬ xc20 = (0 : Int32) → a12 < ea_n h15 ∧ ea_c h15 a12 = 12 ∧ ∃ (d21 : Nat) (xc27 : Int32) (h22 : ea_H), ea_Met mX12_aNumber d21 [vR (some a12), vI 1439] h15 (some (vI xc27)) h22 ∧ d21 + 1 ≤ d ∧ (¬ xc27 = (0 : Int32) → a12 < ea_n h22 ∧ ea_c h22 a12 = 12 ∧ ∀ h30, h30 = ea_wi h22 a12 46 (ea_i h2 a12 61) → a12 < ea_n h30 ∧ ea_c h30 a12 = 12 ∧ a12 < ea_n h30 ∧ ea_c h30 a12 = 12 ∧ ∀ h36, h36 = ea_wi h30 a12 47 (ea_i h30 a12 61) → ea_W mX12_inner d h0 rv hE 76 [(0, vR r0), (1, vI x1)] [] h36) ∧ (xc27 = (0 : Int32) → rv = some (vI 0) ∧ hE = h22)))) ∧ (xc9 = (0 : Int32) → rv = some (vI 0) ∧ hE = h2)) : ea_W mX12_inner d h0 rv hE 24 [(0, vR r0), (1, vI x1)] [vI sx0, vR sr1] h := by
  obtain ⟨a7, e8, f5, g6, H⟩ := H
  refine ea_deref1 e8 ?_
  obtain ⟨d1, xc9, h2, m3, q4, H⟩ := H
  refine ea_callV (pc := 24) (As := [vI sx0]) (st := []) dX12_inner_24 kX12_aNumber m3 q4 rfl (Nat.le_of_ble_eq_true rfl) ew_1962 ew_1964 ew_80 (ci := 12) rfl (by decide) f5 g6 ?_
  refine ea_if_ne (pc := 27) (tgt := 32) dX12_inner_27 rfl (fun c41 => ?_) (fun c41 => ?_)
  · have H := H.1 c41
    refine ea_iload_n (pc := 32) dX12_inner_32 rfl 1 rfl ?_
    refine ea_iconst (pc := 33) dX12_inner_33 (v := 4) rfl ?_
    refine ea_icmp_ne (pc := 34) (tgt := 76) dX12_inner_34 rfl (fun c40 => ?_) (fun c40 => ?_)
    · have H := H.1 c40
      exact H
    · have H := H.2 c40
      refine ea_aload_n (pc := 37) dX12_inner_37 rfl 0 rfl ?_
      obtain ⟨a12, e13, f10, g11, H⟩ := H
      refine ea_deref0 e13 ?_
      refine ea_getI (pc := 38) dX12_inner_38 ec_12 (k := 61) (Nat.le_of_ble_eq_true rfl) rfl (Or.inl ew_1406) f10 g11 ?_
      refine ea_istore_n (pc := 41) (lv' := [(0, vR r0), (1, vI x1), (2, vI (ea_i h2 a12 61))]) dX12_inner_41 rfl (Nat.le_of_ble_eq_true rfl) [1, 2, 0] rfl ?_
      refine ea_aload_n (pc := 42) dX12_inner_42 rfl 0 rfl ?_
      refine ea_bipush (pc := 43) dX12_inner_43 (v := 9) rfl ?_
      obtain ⟨f18, g19, H⟩ := H
      refine ea_deref1 e13 ?_
      obtain ⟨d14, xc20, h15, m16, q17, H⟩ := H
      refine ea_callV (pc := 45) (As := [vI 9]) (st := []) dX12_inner_45 kX12_need m16 q17 rfl (Nat.le_of_ble_eq_true rfl) ew_1942 ew_1944 ew_75 (ci := 12) rfl (by decide) f18 g19 ?_
      refine ea_if_eq (pc := 48) (tgt := 61) dX12_inner_48 rfl (fun c39 => ?_) (fun c39 => ?_)
      · have H := H.1 c39
        refine ea_iconst (pc := 61) dX12_inner_61 (v := 0) rfl ?_
        obtain ⟨rfl, rfl⟩ := H
        exact ea_ireturn (pc := 62) dX12_inner_62 rfl (ea_bn (Or.inl rfl))
      · have H := H.2 c39
        refine ea_aload_n (pc := 51) dX12_inner_51 rfl 0 rfl ?_
        refine ea_sipush (pc := 52) dX12_inner_52 (v := 1439) rfl ?_
        obtain ⟨f25, g26, H⟩ := H
        refine ea_deref1 e13 ?_
        obtain ⟨d21, xc27, h22, m23, q24, H⟩ := H
        refine ea_callV (pc := 55) (As := [vI 1439]) (st := []) dX12_inner_55 kX12_aNumber m23 q24 rfl (Nat.le_of_ble_eq_true rfl) ew_1962 ew_1964 ew_80 (ci := 12) rfl (by decide) f25 g26 ?_
        refine ea_if_ne (pc := 58) (tgt := 63) dX12_inner_58 rfl (fun c38 => ?_) (fun c38 => ?_)
        · have H := H.1 c38
          refine ea_aload_n (pc := 63) dX12_inner_63 rfl 0 rfl ?_
          refine ea_iload_n (pc := 64) dX12_inner_64 rfl 2 rfl ?_
          obtain ⟨f28, g29, H⟩ := H
          refine ea_deref1 e13 ?_
          refine ea_putI (pc := 65) dX12_inner_65 ec_12 (k := 46) (Nat.le_of_ble_eq_true rfl) rfl (Or.inl ⟨rfl, Or.inl ew_1391⟩) rfl rfl f28 g29 ?_
          obtain ⟨h30, E31⟩ : ∃ z, z = ea_wi h22 a12 46 (ea_i h2 a12 61) := ⟨_, rfl⟩
          have H := H h30 E31
          refine ea_nm E31 ?_
          refine ea_aload_n (pc := 68) dX12_inner_68 rfl 0 rfl ?_
          refine ea_aload_n (pc := 69) dX12_inner_69 rfl 0 rfl ?_
          obtain ⟨f32, g33, H⟩ := H
          refine ea_deref0 e13 ?_
          refine ea_getI (pc := 70) dX12_inner_70 ec_12 (k := 61) (Nat.le_of_ble_eq_true rfl) rfl (Or.inl ew_1406) f32 g33 ?_
          obtain ⟨f34, g35, H⟩ := H
          refine ea_deref1 e13 ?_
          refine ea_putI (pc := 73) dX12_inner_73 ec_12 (k := 47) (Nat.le_of_ble_eq_true rfl) rfl (Or.inl ⟨rfl, Or.inl ew_1392⟩) rfl rfl f34 g35 ?_
          obtain ⟨h36, E37⟩ : ∃ z, z = ea_wi h30 a12 47 (ea_i h30 a12 61) := ⟨_, rfl⟩
          have H := H h36 E37
          refine ea_nm E37 ?_
          exact ea_fewer [0, 1] rfl H
        · have H := H.2 c38
          refine ea_iconst (pc := 61) dX12_inner_61 (v := 0) rfl ?_
          obtain ⟨rfl, rfl⟩ := H
          exact ea_ireturn (pc := 62) dX12_inner_62 rfl (ea_bn (Or.inl rfl))
  · have H := H.2 c41
    refine ea_iconst (pc := 30) dX12_inner_30 (v := 0) rfl ?_
    obtain ⟨rfl, rfl⟩ := H
    exact ea_ireturn (pc := 31) dX12_inner_31 rfl (ea_bn (Or.inl rfl))
theorem bX12_inner_76 {d : Nat} {h0 hE h : ea_H} {rv : Option ea_V} {r0 : Option Nat} {x1 : Int32} (H : (¬ x1 = (5 : Int32) → ea_W mX12_inner d h0 rv hE 89 [(0, vR r0), (1, vI x1)] [] h) ∧ (x1 = (5 : Int32) → ∃ a3, r0 = some a3 ∧ a3 < ea_n h ∧ ea_c h a3 = 12 ∧ a3 < ea_n h ∧ ea_c h a3 = 12 ∧ ∀ h7, h7 = ea_wi h a3 48 (ea_i h a3 61) → ea_W mX12_inner d h0 rv hE 89 [(0, vR r0), (1, vI x1)] [] h7)) : ea_W mX12_inner d h0 rv hE 76 [(0, vR r0), (1, vI x1)] [] h := by
  refine ea_iload_n (pc := 76) dX12_inner_76 rfl 1 rfl ?_
  refine ea_iconst (pc := 77) dX12_inner_77 (v := 5) rfl ?_
  refine ea_icmp_ne (pc := 78) (tgt := 89) dX12_inner_78 rfl (fun c9 => ?_) (fun c9 => ?_)
  · have H := H.1 c9
    exact H
  · have H := H.2 c9
    refine ea_aload_n (pc := 81) dX12_inner_81 rfl 0 rfl ?_
    refine ea_aload_n (pc := 82) dX12_inner_82 rfl 0 rfl ?_
    obtain ⟨a3, e4, f1, g2, H⟩ := H
    refine ea_deref0 e4 ?_
    refine ea_getI (pc := 83) dX12_inner_83 ec_12 (k := 61) (Nat.le_of_ble_eq_true rfl) rfl (Or.inl ew_1406) f1 g2 ?_
    obtain ⟨f5, g6, H⟩ := H
    refine ea_deref1 e4 ?_
    refine ea_putI (pc := 86) dX12_inner_86 ec_12 (k := 48) (Nat.le_of_ble_eq_true rfl) rfl (Or.inl ⟨rfl, Or.inl ew_1393⟩) rfl rfl f5 g6 ?_
    obtain ⟨h7, E8⟩ : ∃ z, z = ea_wi h a3 48 (ea_i h a3 61) := ⟨_, rfl⟩
    have H := H h7 E8
    refine ea_nm E8 ?_
    exact H
theorem bX12_inner_89 {d : Nat} {h0 hE h : ea_H} {rv : Option ea_V} {r0 : Option Nat} {x1 : Int32} (H : (¬ x1 = (6 : Int32) → ea_W mX12_inner d h0 rv hE 103 [(0, vR r0), (1, vI x1)] [] h) ∧ (x1 = (6 : Int32) → ∃ a3, r0 = some a3 ∧ a3 < ea_n h ∧ ea_c h a3 = 12 ∧ a3 < ea_n h ∧ ea_c h a3 = 12 ∧ ∀ h7, h7 = ea_wi h a3 49 (ea_i h a3 61) → ea_W mX12_inner d h0 rv hE 103 [(0, vR r0), (1, vI x1)] [] h7)) : ea_W mX12_inner d h0 rv hE 89 [(0, vR r0), (1, vI x1)] [] h := by
  refine ea_iload_n (pc := 89) dX12_inner_89 rfl 1 rfl ?_
  refine ea_bipush (pc := 90) dX12_inner_90 (v := 6) rfl ?_
  refine ea_icmp_ne (pc := 92) (tgt := 103) dX12_inner_92 rfl (fun c9 => ?_) (fun c9 => ?_)
  · have H := H.1 c9
    exact H
  · have H := H.2 c9
    refine ea_aload_n (pc := 95) dX12_inner_95 rfl 0 rfl ?_
    refine ea_aload_n (pc := 96) dX12_inner_96 rfl 0 rfl ?_
    obtain ⟨a3, e4, f1, g2, H⟩ := H
    refine ea_deref0 e4 ?_
    refine ea_getI (pc := 97) dX12_inner_97 ec_12 (k := 61) (Nat.le_of_ble_eq_true rfl) rfl (Or.inl ew_1406) f1 g2 ?_
    obtain ⟨f5, g6, H⟩ := H
    refine ea_deref1 e4 ?_
    refine ea_putI (pc := 100) dX12_inner_100 ec_12 (k := 49) (Nat.le_of_ble_eq_true rfl) rfl (Or.inl ⟨rfl, Or.inl ew_1394⟩) rfl rfl f5 g6 ?_
    obtain ⟨h7, E8⟩ : ∃ z, z = ea_wi h a3 49 (ea_i h a3 61) := ⟨_, rfl⟩
    have H := H h7 E8
    refine ea_nm E8 ?_
    exact H
theorem bX12_inner_103 {d : Nat} {h0 hE h : ea_H} {rv : Option ea_V} {r0 : Option Nat} {x1 : Int32} (H : (¬ x1 = (7 : Int32) → ea_W mX12_inner d h0 rv hE 117 [(0, vR r0), (1, vI x1)] [] h) ∧ (x1 = (7 : Int32) → ∃ a3, r0 = some a3 ∧ a3 < ea_n h ∧ ea_c h a3 = 12 ∧ a3 < ea_n h ∧ ea_c h a3 = 12 ∧ ∀ h7, h7 = ea_wi h a3 50 (ea_i h a3 61) → ea_W mX12_inner d h0 rv hE 117 [(0, vR r0), (1, vI x1)] [] h7)) : ea_W mX12_inner d h0 rv hE 103 [(0, vR r0), (1, vI x1)] [] h := by
  refine ea_iload_n (pc := 103) dX12_inner_103 rfl 1 rfl ?_
  refine ea_bipush (pc := 104) dX12_inner_104 (v := 7) rfl ?_
  refine ea_icmp_ne (pc := 106) (tgt := 117) dX12_inner_106 rfl (fun c9 => ?_) (fun c9 => ?_)
  · have H := H.1 c9
    exact H
  · have H := H.2 c9
    refine ea_aload_n (pc := 109) dX12_inner_109 rfl 0 rfl ?_
    refine ea_aload_n (pc := 110) dX12_inner_110 rfl 0 rfl ?_
    obtain ⟨a3, e4, f1, g2, H⟩ := H
    refine ea_deref0 e4 ?_
    refine ea_getI (pc := 111) dX12_inner_111 ec_12 (k := 61) (Nat.le_of_ble_eq_true rfl) rfl (Or.inl ew_1406) f1 g2 ?_
    obtain ⟨f5, g6, H⟩ := H
    refine ea_deref1 e4 ?_
    refine ea_putI (pc := 114) dX12_inner_114 ec_12 (k := 50) (Nat.le_of_ble_eq_true rfl) rfl (Or.inl ⟨rfl, Or.inl ew_1395⟩) rfl rfl f5 g6 ?_
    obtain ⟨h7, E8⟩ : ∃ z, z = ea_wi h a3 50 (ea_i h a3 61) := ⟨_, rfl⟩
    have H := H h7 E8
    refine ea_nm E8 ?_
    exact H
theorem bX12_inner_117 {d : Nat} {h0 hE h : ea_H} {rv : Option ea_V} {r0 : Option Nat} {x1 : Int32} (H : (¬ x1 = (8 : Int32) → rv = some (vI 1) ∧ hE = h) ∧ (x1 = (8 : Int32) → ∃ a3, r0 = some a3 ∧ a3 < ea_n h ∧ ea_c h a3 = 12 ∧ a3 < ea_n h ∧ ea_c h a3 = 12 ∧ ∀ h7, h7 = ea_wi h a3 51 (ea_i h a3 61) → rv = some (vI 1) ∧ hE = h7)) : ea_W mX12_inner d h0 rv hE 117 [(0, vR r0), (1, vI x1)] [] h := by
  refine ea_iload_n (pc := 117) dX12_inner_117 rfl 1 rfl ?_
  refine ea_bipush (pc := 118) dX12_inner_118 (v := 8) rfl ?_
  refine ea_icmp_ne (pc := 120) (tgt := 131) dX12_inner_120 rfl (fun c9 => ?_) (fun c9 => ?_)
  · have H := H.1 c9
    refine ea_iconst (pc := 131) dX12_inner_131 (v := 1) rfl ?_
    obtain ⟨rfl, rfl⟩ := H
    exact ea_ireturn (pc := 132) dX12_inner_132 rfl (ea_bn (Or.inr rfl))
  · have H := H.2 c9
    refine ea_aload_n (pc := 123) dX12_inner_123 rfl 0 rfl ?_
    refine ea_aload_n (pc := 124) dX12_inner_124 rfl 0 rfl ?_
    obtain ⟨a3, e4, f1, g2, H⟩ := H
    refine ea_deref0 e4 ?_
    refine ea_getI (pc := 125) dX12_inner_125 ec_12 (k := 61) (Nat.le_of_ble_eq_true rfl) rfl (Or.inl ew_1406) f1 g2 ?_
    obtain ⟨f5, g6, H⟩ := H
    refine ea_deref1 e4 ?_
    refine ea_putI (pc := 128) dX12_inner_128 ec_12 (k := 51) (Nat.le_of_ble_eq_true rfl) rfl (Or.inl ⟨rfl, Or.inl ew_1396⟩) rfl rfl f5 g6 ?_
    obtain ⟨h7, E8⟩ : ∃ z, z = ea_wi h a3 51 (ea_i h a3 61) := ⟨_, rfl⟩
    have H := H h7 E8
    refine ea_nm E8 ?_
    refine ea_iconst (pc := 131) dX12_inner_131 (v := 1) rfl ?_
    obtain ⟨rfl, rfl⟩ := H
    exact ea_ireturn (pc := 132) dX12_inner_132 rfl (ea_bn (Or.inr rfl))
theorem dX12_aLine_0 : decode cX12_aLine 0 = .ok (.aload_n 0, 1) := by decide +kernel
theorem dX12_aLine_1 : decode cX12_aLine 1 = .ok (.getfield 422, 3) := by decide +kernel
theorem dX12_aLine_4 : decode cX12_aLine 4 = .ok (.iconst 3, 1) := by decide +kernel
theorem dX12_aLine_5 : decode cX12_aLine 5 = .ok (.bipush 8, 2) := by decide +kernel
theorem dX12_aLine_7 : decode cX12_aLine 7 = .ok (.invokestatic 286, 3) := by decide +kernel
theorem dX12_aLine_10 : decode cX12_aLine 10 = .ok (.ifCond .ne 9, 3) := by decide +kernel
theorem dX12_aLine_13 : decode cX12_aLine 13 = .ok (.aload_n 0, 1) := by decide +kernel
theorem dX12_aLine_14 : decode cX12_aLine 14 = .ok (.iconst 1, 1) := by decide +kernel
theorem dX12_aLine_15 : decode cX12_aLine 15 = .ok (.invokevirtual 443, 3) := by decide +kernel
theorem dX12_aLine_18 : decode cX12_aLine 18 = .ok (.ireturn, 1) := by decide +kernel
theorem dX12_aLine_19 : decode cX12_aLine 19 = .ok (.aload_n 0, 1) := by decide +kernel
theorem dX12_aLine_20 : decode cX12_aLine 20 = .ok (.getfield 513, 3) := by decide +kernel
theorem dX12_aLine_23 : decode cX12_aLine 23 = .ok (.bipush 24, 2) := by decide +kernel
theorem dX12_aLine_25 : decode cX12_aLine 25 = .ok (.if_icmp .ne 9, 3) := by decide +kernel
theorem dX12_aLine_28 : decode cX12_aLine 28 = .ok (.aload_n 0, 1) := by decide +kernel
theorem dX12_aLine_29 : decode cX12_aLine 29 = .ok (.iconst 3, 1) := by decide +kernel
theorem dX12_aLine_30 : decode cX12_aLine 30 = .ok (.invokevirtual 443, 3) := by decide +kernel
theorem dX12_aLine_33 : decode cX12_aLine 33 = .ok (.ireturn, 1) := by decide +kernel
theorem dX12_aLine_34 : decode cX12_aLine 34 = .ok (.aload_n 0, 1) := by decide +kernel
theorem dX12_aLine_35 : decode cX12_aLine 35 = .ok (.getfield 422, 3) := by decide +kernel
theorem dX12_aLine_38 : decode cX12_aLine 38 = .ok (.istore_n 1, 1) := by decide +kernel
theorem dX12_aLine_39 : decode cX12_aLine 39 = .ok (.aload_n 0, 1) := by decide +kernel
theorem dX12_aLine_40 : decode cX12_aLine 40 = .ok (.iconst 0, 1) := by decide +kernel
theorem dX12_aLine_41 : decode cX12_aLine 41 = .ok (.putfield 455, 3) := by decide +kernel
theorem dX12_aLine_44 : decode cX12_aLine 44 = .ok (.aload_n 0, 1) := by decide +kernel
theorem dX12_aLine_45 : decode cX12_aLine 45 = .ok (.invokevirtual 446, 3) := by decide +kernel
theorem dX12_aLine_48 : decode cX12_aLine 48 = .ok (.aload_n 0, 1) := by decide +kernel
theorem dX12_aLine_49 : decode cX12_aLine 49 = .ok (.iload_n 1, 1) := by decide +kernel
theorem dX12_aLine_50 : decode cX12_aLine 50 = .ok (.invokevirtual 516, 3) := by decide +kernel
theorem dX12_aLine_53 : decode cX12_aLine 53 = .ok (.ifCond .ne 5, 3) := by decide +kernel
theorem dX12_aLine_56 : decode cX12_aLine 56 = .ok (.iconst 0, 1) := by decide +kernel
theorem dX12_aLine_57 : decode cX12_aLine 57 = .ok (.ireturn, 1) := by decide +kernel
theorem dX12_aLine_58 : decode cX12_aLine 58 = .ok (.aload_n 0, 1) := by decide +kernel
theorem dX12_aLine_59 : decode cX12_aLine 59 = .ok (.dup, 1) := by decide +kernel
theorem dX12_aLine_60 : decode cX12_aLine 60 = .ok (.getfield 513, 3) := by decide +kernel
theorem dX12_aLine_63 : decode cX12_aLine 63 = .ok (.iconst 1, 1) := by decide +kernel
theorem dX12_aLine_64 : decode cX12_aLine 64 = .ok (.iadd, 1) := by decide +kernel
theorem dX12_aLine_65 : decode cX12_aLine 65 = .ok (.putfield 513, 3) := by decide +kernel
theorem dX12_aLine_68 : decode cX12_aLine 68 = .ok (.aload_n 0, 1) := by decide +kernel
theorem dX12_aLine_69 : decode cX12_aLine 69 = .ok (.bipush 59, 2) := by decide +kernel
theorem dX12_aLine_71 : decode cX12_aLine 71 = .ok (.invokevirtual 474, 3) := by decide +kernel
theorem dX12_aLine_74 : decode cX12_aLine 74 = .ok (.ireturn, 1) := by decide +kernel
theorem bX12_aLine_0 {d : Nat} {h0 hE h : ea_H} {rv : Option ea_V} {r0 : Option Nat} (H : ∃ a3, r0 = some a3 ∧ a3 < ea_n h ∧ ea_c h a3 = 12 ∧ ∃ (d5 : Nat) (xc9 : Int32) (h6 : ea_H), ea_Met mX12_isIn d5 [vI (ea_i h a3 54), vI 3, vI 8] h (some (vI xc9)) h6 ∧ d5 + 1 ≤ d ∧ (¬ xc9 = (0 : Int32) → a3 < ea_n h6 ∧ ea_c h6 a3 = 12 ∧ (¬ (ea_i h6 a3 43) = (24 : Int32) → a3 < ea_n h6 ∧ ea_c h6 a3 = 12 ∧ a3 < ea_n h6 ∧ ea_c h6 a3 = 12 ∧ ∀ h16, h16 = ea_wi h6 a3 60 0 → a3 < ea_n h16 ∧ ea_c h16 a3 = 12 ∧ ∃ (d18 : Nat) (h19 : ea_H), ea_Met mX12_next0 d18 [vR (some a3)] h16 none h19 ∧ d18 + 1 ≤ d ∧ a3 < ea_n h19 ∧ ea_c h19 a3 = 12 ∧ ∃ (d24 : Nat) (xc30 : Int32) (h25 : ea_H), ea_Met mX12_inner d24 [vR (some a3), vI (ea_i h6 a3 54)] h19 (some (vI xc30)) h25 ∧ d24 + 1 ≤ d ∧ (¬ xc30 = (0 : Int32) → a3 < ea_n h25 ∧ ea_c h25 a3 = 12 ∧ a3 < ea_n h25 ∧ ea_c h25 a3 = 12 ∧ ∀ h35, h35 = ea_wi h25 a3 43 ((ea_i h25 a3 43) + (1 : Int32)) → a3 < ea_n h35 ∧ ea_c h35 a3 = 12 ∧ ∃ (d37 : Nat) (xc43 : Int32) (h38 : ea_H), ea_Met mX12_need d37 [vR (some a3), vI 59] h35 (some (vI xc43)) h38 ∧ d37 + 1 ≤ d ∧ (xc43 = 0 ∨ xc43 = 1) ∧ rv = some (vI xc43) ∧ hE = h38) ∧ (xc30 = (0 : Int32) → rv = some (vI 0) ∧ hE = h25)) ∧ ((ea_i h6 a3 43) = (24 : Int32) → a3 < ea_n h6 ∧ ea_c h6 a3 = 12 ∧ ∃ (d46 : Nat) (xc52 : Int32) (h47 : ea_H), ea_Met mX12_bad d46 [vR (some a3), vI 3] h6 (some (vI xc52)) h47 ∧ d46 + 1 ≤ d ∧ (xc52 = 0 ∨ xc52 = 1) ∧ rv = some (vI xc52) ∧ hE = h47)) ∧ (xc9 = (0 : Int32) → a3 < ea_n h6 ∧ ea_c h6 a3 = 12 ∧ ∃ (d55 : Nat) (xc61 : Int32) (h56 : ea_H), ea_Met mX12_bad d55 [vR (some a3), vI 1] h6 (some (vI xc61)) h56 ∧ d55 + 1 ≤ d ∧ (xc61 = 0 ∨ xc61 = 1) ∧ rv = some (vI xc61) ∧ hE = h56)) : ea_W mX12_aLine d h0 rv hE 0 [(0, vR r0)] [] h := by
  refine ea_aload_n (pc := 0) dX12_aLine_0 rfl 0 rfl ?_
  obtain ⟨a3, e4, f1, g2, H⟩ := H
  refine ea_deref0 e4 ?_
  refine ea_getI (pc := 1) dX12_aLine_1 ec_12 (k := 54) (Nat.le_of_ble_eq_true rfl) rfl (Or.inl ew_1399) f1 g2 ?_
  refine ea_iconst (pc := 4) dX12_aLine_4 (v := 3) rfl ?_
  refine ea_bipush (pc := 5) dX12_aLine_5 (v := 8) rfl ?_
  obtain ⟨d5, xc9, h6, m7, q8, H⟩ := H
  refine ea_callS (pc := 7) (As := [vI (ea_i h a3 54), vI 3, vI 8]) (st := []) dX12_aLine_7 kX12_isIn m7 q8 rfl (Nat.le_of_ble_eq_true rfl) ew_1712 ew_1713 ?_
  refine ea_if_ne (pc := 10) (tgt := 19) dX12_aLine_10 rfl (fun c63 => ?_) (fun c63 => ?_)
  · have H := H.1 c63
    refine ea_aload_n (pc := 19) dX12_aLine_19 rfl 0 rfl ?_
    obtain ⟨f10, g11, H⟩ := H
    refine ea_deref0 e4 ?_
    refine ea_getI (pc := 20) dX12_aLine_20 ec_12 (k := 43) (Nat.le_of_ble_eq_true rfl) rfl (Or.inl ew_1388) f10 g11 ?_
    refine ea_bipush (pc := 23) dX12_aLine_23 (v := 24) rfl ?_
    refine ea_icmp_ne (pc := 25) (tgt := 34) dX12_aLine_25 rfl (fun c54 => ?_) (fun c54 => ?_)
    · have H := H.1 c54
      refine ea_aload_n (pc := 34) dX12_aLine_34 rfl 0 rfl ?_
      obtain ⟨f12, g13, H⟩ := H
      refine ea_deref0 e4 ?_
      refine ea_getI (pc := 35) dX12_aLine_35 ec_12 (k := 54) (Nat.le_of_ble_eq_true rfl) rfl (Or.inl ew_1399) f12 g13 ?_
      refine ea_istore_n (pc := 38) (lv' := [(0, vR r0), (1, vI (ea_i h6 a3 54))]) dX12_aLine_38 rfl (Nat.le_of_ble_eq_true rfl) [1, 0] rfl ?_
      refine ea_aload_n (pc := 39) dX12_aLine_39 rfl 0 rfl ?_
      refine ea_iconst (pc := 40) dX12_aLine_40 (v := 0) rfl ?_
      obtain ⟨f14, g15, H⟩ := H
      refine ea_deref1 e4 ?_
      refine ea_putI (pc := 41) dX12_aLine_41 ec_12 (k := 60) (Nat.le_of_ble_eq_true rfl) rfl (Or.inl ⟨rfl, Or.inl ew_1405⟩) rfl rfl f14 g15 ?_
      obtain ⟨h16, E17⟩ : ∃ z, z = ea_wi h6 a3 60 0 := ⟨_, rfl⟩
      have H := H h16 E17
      refine ea_nm E17 ?_
      refine ea_aload_n (pc := 44) dX12_aLine_44 rfl 0 rfl ?_
      obtain ⟨f22, g23, H⟩ := H
      refine ea_deref0 e4 ?_
      obtain ⟨d18, h19, m20, q21, H⟩ := H
      refine ea_callV (pc := 45) (As := []) (st := []) dX12_aLine_45 kX12_next0 m20 q21 rfl (Nat.le_of_ble_eq_true rfl) ew_1822 ew_1824 ew_63 (ci := 12) rfl (by decide) f22 g23 ?_
      refine ea_aload_n (pc := 48) dX12_aLine_48 rfl 0 rfl ?_
      refine ea_iload_n (pc := 49) dX12_aLine_49 rfl 1 rfl ?_
      obtain ⟨f28, g29, H⟩ := H
      refine ea_deref1 e4 ?_
      obtain ⟨d24, xc30, h25, m26, q27, H⟩ := H
      refine ea_callV (pc := 50) (As := [vI (ea_i h6 a3 54)]) (st := []) dX12_aLine_50 kX12_inner m26 q27 rfl (Nat.le_of_ble_eq_true rfl) ew_1918 ew_1920 ew_69 (ci := 12) rfl (by decide) f28 g29 ?_
      refine ea_if_ne (pc := 53) (tgt := 58) dX12_aLine_53 rfl (fun c45 => ?_) (fun c45 => ?_)
      · have H := H.1 c45
        refine ea_aload_n (pc := 58) dX12_aLine_58 rfl 0 rfl ?_
        refine ea_dup (pc := 59) dX12_aLine_59 rfl ?_
        obtain ⟨f31, g32, H⟩ := H
        refine ea_deref0 e4 ?_
        refine ea_getI (pc := 60) dX12_aLine_60 ec_12 (k := 43) (Nat.le_of_ble_eq_true rfl) rfl (Or.inl ew_1388) f31 g32 ?_
        refine ea_iconst (pc := 63) dX12_aLine_63 (v := 1) rfl ?_
        refine ea_iadd (pc := 64) dX12_aLine_64 ?_
        obtain ⟨f33, g34, H⟩ := H
        refine ea_deref1 e4 ?_
        refine ea_putI (pc := 65) dX12_aLine_65 ec_12 (k := 43) (Nat.le_of_ble_eq_true rfl) rfl (Or.inl ⟨rfl, Or.inl ew_1388⟩) rfl rfl f33 g34 ?_
        obtain ⟨h35, E36⟩ : ∃ z, z = ea_wi h25 a3 43 ((ea_i h25 a3 43) + (1 : Int32)) := ⟨_, rfl⟩
        have H := H h35 E36
        refine ea_nm E36 ?_
        refine ea_aload_n (pc := 68) dX12_aLine_68 rfl 0 rfl ?_
        refine ea_bipush (pc := 69) dX12_aLine_69 (v := 59) rfl ?_
        obtain ⟨f41, g42, H⟩ := H
        refine ea_deref1 e4 ?_
        obtain ⟨d37, xc43, h38, m39, q40, H⟩ := H
        refine ea_callV (pc := 71) (As := [vI 59]) (st := []) dX12_aLine_71 kX12_need m39 q40 rfl (Nat.le_of_ble_eq_true rfl) ew_1942 ew_1944 ew_75 (ci := 12) rfl (by decide) f41 g42 ?_
        obtain ⟨z44, rfl, rfl⟩ := H
        exact ea_ireturn (pc := 74) dX12_aLine_74 rfl (ea_bn z44)
      · have H := H.2 c45
        refine ea_iconst (pc := 56) dX12_aLine_56 (v := 0) rfl ?_
        obtain ⟨rfl, rfl⟩ := H
        exact ea_ireturn (pc := 57) dX12_aLine_57 rfl (ea_bn (Or.inl rfl))
    · have H := H.2 c54
      refine ea_aload_n (pc := 28) dX12_aLine_28 rfl 0 rfl ?_
      refine ea_iconst (pc := 29) dX12_aLine_29 (v := 3) rfl ?_
      obtain ⟨f50, g51, H⟩ := H
      refine ea_deref1 e4 ?_
      obtain ⟨d46, xc52, h47, m48, q49, H⟩ := H
      refine ea_callV (pc := 30) (As := [vI 3]) (st := []) dX12_aLine_30 kX12_bad m48 q49 rfl (Nat.le_of_ble_eq_true rfl) ew_1914 ew_1916 ew_68 (ci := 12) rfl (by decide) f50 g51 ?_
      obtain ⟨z53, rfl, rfl⟩ := H
      exact ea_ireturn (pc := 33) dX12_aLine_33 rfl (ea_bn z53)
  · have H := H.2 c63
    refine ea_aload_n (pc := 13) dX12_aLine_13 rfl 0 rfl ?_
    refine ea_iconst (pc := 14) dX12_aLine_14 (v := 1) rfl ?_
    obtain ⟨f59, g60, H⟩ := H
    refine ea_deref1 e4 ?_
    obtain ⟨d55, xc61, h56, m57, q58, H⟩ := H
    refine ea_callV (pc := 15) (As := [vI 1]) (st := []) dX12_aLine_15 kX12_bad m57 q58 rfl (Nat.le_of_ble_eq_true rfl) ew_1914 ew_1916 ew_68 (ci := 12) rfl (by decide) f59 g60 ?_
    obtain ⟨z62, rfl, rfl⟩ := H
    exact ea_ireturn (pc := 18) dX12_aLine_18 rfl (ea_bn z62)
theorem dX12_act_0 : decode cX12_act 0 = .ok (.aload_n 0, 1) := by decide +kernel
theorem dX12_act_1 : decode cX12_act 1 = .ok (.iconst 0, 1) := by decide +kernel
theorem dX12_act_2 : decode cX12_act 2 = .ok (.putfield 519, 3) := by decide +kernel
theorem dX12_act_5 : decode cX12_act 5 = .ok (.aload_n 0, 1) := by decide +kernel
theorem dX12_act_6 : decode cX12_act 6 = .ok (.iconst (-1), 1) := by decide +kernel
theorem dX12_act_7 : decode cX12_act 7 = .ok (.putfield 122, 3) := by decide +kernel
theorem dX12_act_10 : decode cX12_act 10 = .ok (.iload_n 1, 1) := by decide +kernel
theorem dX12_act_11 : decode cX12_act 11 = .ok (.invokestatic 316, 3) := by decide +kernel
theorem dX12_act_14 : decode cX12_act 14 = .ok (.ifCond .eq 34, 3) := by decide +kernel
theorem dX12_act_17 : decode cX12_act 17 = .ok (.aload_n 0, 1) := by decide +kernel
theorem dX12_act_18 : decode cX12_act 18 = .ok (.getfield 522, 3) := by decide +kernel
theorem dX12_act_21 : decode cX12_act 21 = .ok (.bipush 6, 2) := by decide +kernel
theorem dX12_act_23 : decode cX12_act 23 = .ok (.if_icmp .eq 25, 3) := by decide +kernel
theorem dX12_act_26 : decode cX12_act 26 = .ok (.aload_n 0, 1) := by decide +kernel
theorem dX12_act_27 : decode cX12_act 27 = .ok (.getfield 522, 3) := by decide +kernel
theorem dX12_act_30 : decode cX12_act 30 = .ok (.ifCond .le 25, 3) := by decide +kernel
theorem dX12_act_33 : decode cX12_act 33 = .ok (.iload_n 1, 1) := by decide +kernel
theorem dX12_act_34 : decode cX12_act 34 = .ok (.aload_n 0, 1) := by decide +kernel
theorem dX12_act_35 : decode cX12_act 35 = .ok (.getfield 71, 3) := by decide +kernel
theorem dX12_act_38 : decode cX12_act 38 = .ok (.aload_n 0, 1) := by decide +kernel
theorem dX12_act_39 : decode cX12_act 39 = .ok (.getfield 522, 3) := by decide +kernel
theorem dX12_act_42 : decode cX12_act 42 = .ok (.iconst 1, 1) := by decide +kernel
theorem dX12_act_43 : decode cX12_act 43 = .ok (.isub, 1) := by decide +kernel
theorem dX12_act_44 : decode cX12_act 44 = .ok (.iaload, 1) := by decide +kernel
theorem dX12_act_45 : decode cX12_act 45 = .ok (.if_icmp .ge 10, 3) := by decide +kernel
theorem dX12_act_48 : decode cX12_act 48 = .ok (.aload_n 0, 1) := by decide +kernel
theorem dX12_act_49 : decode cX12_act 49 = .ok (.iconst 0, 1) := by decide +kernel
theorem dX12_act_50 : decode cX12_act 50 = .ok (.putfield 364, 3) := by decide +kernel
theorem dX12_act_53 : decode cX12_act 53 = .ok (.iconst (-1), 1) := by decide +kernel
theorem dX12_act_54 : decode cX12_act 54 = .ok (.ireturn, 1) := by decide +kernel
theorem dX12_act_55 : decode cX12_act 55 = .ok (.aload_n 0, 1) := by decide +kernel
theorem dX12_act_56 : decode cX12_act 56 = .ok (.iconst 0, 1) := by decide +kernel
theorem dX12_act_57 : decode cX12_act 57 = .ok (.putfield 437, 3) := by decide +kernel
theorem dX12_act_60 : decode cX12_act 60 = .ok (.aload_n 0, 1) := by decide +kernel
theorem dX12_act_61 : decode cX12_act 61 = .ok (.iconst 0, 1) := by decide +kernel
theorem dX12_act_62 : decode cX12_act 62 = .ok (.putfield 367, 3) := by decide +kernel
theorem dX12_act_65 : decode cX12_act 65 = .ok (.aload_n 0, 1) := by decide +kernel
theorem dX12_act_66 : decode cX12_act 66 = .ok (.iconst 0, 1) := by decide +kernel
theorem dX12_act_67 : decode cX12_act 67 = .ok (.putfield 513, 3) := by decide +kernel
theorem dX12_act_70 : decode cX12_act 70 = .ok (.aload_n 0, 1) := by decide +kernel
theorem dX12_act_71 : decode cX12_act 71 = .ok (.iconst 0, 1) := by decide +kernel
theorem dX12_act_72 : decode cX12_act 72 = .ok (.putfield 483, 3) := by decide +kernel
theorem dX12_act_75 : decode cX12_act 75 = .ok (.aload_n 0, 1) := by decide +kernel
theorem dX12_act_76 : decode cX12_act 76 = .ok (.iconst 0, 1) := by decide +kernel
theorem dX12_act_77 : decode cX12_act 77 = .ok (.putfield 452, 3) := by decide +kernel
theorem dX12_act_80 : decode cX12_act 80 = .ok (.aload_n 0, 1) := by decide +kernel
theorem dX12_act_81 : decode cX12_act 81 = .ok (.iconst 0, 1) := by decide +kernel
theorem dX12_act_82 : decode cX12_act 82 = .ok (.putfield 495, 3) := by decide +kernel
theorem dX12_act_85 : decode cX12_act 85 = .ok (.aload_n 0, 1) := by decide +kernel
theorem dX12_act_86 : decode cX12_act 86 = .ok (.sipush 1439, 3) := by decide +kernel
theorem dX12_act_89 : decode cX12_act 89 = .ok (.putfield 498, 3) := by decide +kernel
theorem dX12_act_92 : decode cX12_act 92 = .ok (.aload_n 0, 1) := by decide +kernel
theorem dX12_act_93 : decode cX12_act 93 = .ok (.iconst 0, 1) := by decide +kernel
theorem dX12_act_94 : decode cX12_act 94 = .ok (.putfield 501, 3) := by decide +kernel
theorem dX12_act_97 : decode cX12_act 97 = .ok (.aload_n 0, 1) := by decide +kernel
theorem dX12_act_98 : decode cX12_act 98 = .ok (.iconst 0, 1) := by decide +kernel
theorem dX12_act_99 : decode cX12_act 99 = .ok (.putfield 504, 3) := by decide +kernel
theorem dX12_act_102 : decode cX12_act 102 = .ok (.aload_n 0, 1) := by decide +kernel
theorem dX12_act_103 : decode cX12_act 103 = .ok (.iconst 0, 1) := by decide +kernel
theorem dX12_act_104 : decode cX12_act 104 = .ok (.putfield 507, 3) := by decide +kernel
theorem dX12_act_107 : decode cX12_act 107 = .ok (.aload_n 0, 1) := by decide +kernel
theorem dX12_act_108 : decode cX12_act 108 = .ok (.iconst 3, 1) := by decide +kernel
theorem dX12_act_109 : decode cX12_act 109 = .ok (.putfield 510, 3) := by decide +kernel
theorem dX12_act_112 : decode cX12_act 112 = .ok (.aload_n 0, 1) := by decide +kernel
theorem dX12_act_113 : decode cX12_act 113 = .ok (.invokevirtual 446, 3) := by decide +kernel
theorem dX12_act_116 : decode cX12_act 116 = .ok (.iconst 1, 1) := by decide +kernel
theorem dX12_act_117 : decode cX12_act 117 = .ok (.istore_n 2, 1) := by decide +kernel
theorem dX12_act_118 : decode cX12_act 118 = .ok (.iload_n 2, 1) := by decide +kernel
theorem dX12_act_119 : decode cX12_act 119 = .ok (.ifCond .eq 18, 3) := by decide +kernel
theorem dX12_act_122 : decode cX12_act 122 = .ok (.aload_n 0, 1) := by decide +kernel
theorem dX12_act_123 : decode cX12_act 123 = .ok (.getfield 422, 3) := by decide +kernel
theorem dX12_act_126 : decode cX12_act 126 = .ok (.ifCond .eq 11, 3) := by decide +kernel
theorem dX12_act_129 : decode cX12_act 129 = .ok (.aload_n 0, 1) := by decide +kernel
theorem dX12_act_130 : decode cX12_act 130 = .ok (.invokevirtual 525, 3) := by decide +kernel
theorem dX12_act_133 : decode cX12_act 133 = .ok (.istore_n 2, 1) := by decide +kernel
theorem dX12_act_134 : decode cX12_act 134 = .ok (.goto (-16), 3) := by decide +kernel
theorem dX12_act_137 : decode cX12_act 137 = .ok (.aload_n 0, 1) := by decide +kernel
theorem dX12_act_138 : decode cX12_act 138 = .ok (.iconst 0, 1) := by decide +kernel
theorem dX12_act_139 : decode cX12_act 139 = .ok (.putfield 364, 3) := by decide +kernel
theorem dX12_act_142 : decode cX12_act 142 = .ok (.aload_n 0, 1) := by decide +kernel
theorem dX12_act_143 : decode cX12_act 143 = .ok (.aload_n 0, 1) := by decide +kernel
theorem dX12_act_144 : decode cX12_act 144 = .ok (.getfield 437, 3) := by decide +kernel
theorem dX12_act_147 : decode cX12_act 147 = .ok (.putfield 519, 3) := by decide +kernel
theorem dX12_act_150 : decode cX12_act 150 = .ok (.aload_n 0, 1) := by decide +kernel
theorem dX12_act_151 : decode cX12_act 151 = .ok (.iload_n 2, 1) := by decide +kernel
theorem dX12_act_152 : decode cX12_act 152 = .ok (.ifCond .eq 7, 3) := by decide +kernel
theorem dX12_act_155 : decode cX12_act 155 = .ok (.iconst (-1), 1) := by decide +kernel
theorem dX12_act_156 : decode cX12_act 156 = .ok (.goto 7, 3) := by decide +kernel
theorem dX12_act_159 : decode cX12_act 159 = .ok (.aload_n 0, 1) := by decide +kernel
theorem dX12_act_160 : decode cX12_act 160 = .ok (.getfield 440, 3) := by decide +kernel
theorem dX12_act_163 : decode cX12_act 163 = .ok (.putfield 122, 3) := by decide +kernel
theorem dX12_act_166 : decode cX12_act 166 = .ok (.iload_n 2, 1) := by decide +kernel
theorem dX12_act_167 : decode cX12_act 167 = .ok (.ifCond .ne 5, 3) := by decide +kernel
theorem dX12_act_170 : decode cX12_act 170 = .ok (.iconst (-1), 1) := by decide +kernel
theorem dX12_act_171 : decode cX12_act 171 = .ok (.ireturn, 1) := by decide +kernel
theorem dX12_act_172 : decode cX12_act 172 = .ok (.aload_n 0, 1) := by decide +kernel
theorem dX12_act_173 : decode cX12_act 173 = .ok (.getfield 522, 3) := by decide +kernel
theorem dX12_act_176 : decode cX12_act 176 = .ok (.istore_n 3, 1) := by decide +kernel
theorem dX12_act_177 : decode cX12_act 177 = .ok (.aload_n 0, 1) := by decide +kernel
theorem dX12_act_178 : decode cX12_act 178 = .ok (.dup, 1) := by decide +kernel
theorem dX12_act_179 : decode cX12_act 179 = .ok (.getfield 522, 3) := by decide +kernel
theorem dX12_act_182 : decode cX12_act 182 = .ok (.iconst 1, 1) := by decide +kernel
theorem dX12_act_183 : decode cX12_act 183 = .ok (.iadd, 1) := by decide +kernel
theorem dX12_act_184 : decode cX12_act 184 = .ok (.putfield 522, 3) := by decide +kernel
theorem dX12_act_187 : decode cX12_act 187 = .ok (.aload_n 0, 1) := by decide +kernel
theorem dX12_act_188 : decode cX12_act 188 = .ok (.getfield 71, 3) := by decide +kernel
theorem dX12_act_191 : decode cX12_act 191 = .ok (.iload_n 3, 1) := by decide +kernel
theorem dX12_act_192 : decode cX12_act 192 = .ok (.iload_n 1, 1) := by decide +kernel
theorem dX12_act_193 : decode cX12_act 193 = .ok (.iastore, 1) := by decide +kernel
theorem dX12_act_194 : decode cX12_act 194 = .ok (.aload_n 0, 1) := by decide +kernel
theorem dX12_act_195 : decode cX12_act 195 = .ok (.getfield 74, 3) := by decide +kernel
theorem dX12_act_198 : decode cX12_act 198 = .ok (.iload_n 3, 1) := by decide +kernel
theorem dX12_act_199 : decode cX12_act 199 = .ok (.aload_n 0, 1) := by decide +kernel
theorem dX12_act_200 : decode cX12_act 200 = .ok (.getfield 513, 3) := by decide +kernel
theorem dX12_act_203 : decode cX12_act 203 = .ok (.iastore, 1) := by decide +kernel
theorem dX12_act_204 : decode cX12_act 204 = .ok (.aload_n 0, 1) := by decide +kernel
theorem dX12_act_205 : decode cX12_act 205 = .ok (.getfield 77, 3) := by decide +kernel
theorem dX12_act_208 : decode cX12_act 208 = .ok (.iload_n 3, 1) := by decide +kernel
theorem dX12_act_209 : decode cX12_act 209 = .ok (.aload_n 0, 1) := by decide +kernel
theorem dX12_act_210 : decode cX12_act 210 = .ok (.getfield 495, 3) := by decide +kernel
theorem dX12_act_213 : decode cX12_act 213 = .ok (.iastore, 1) := by decide +kernel
theorem dX12_act_214 : decode cX12_act 214 = .ok (.aload_n 0, 1) := by decide +kernel
theorem dX12_act_215 : decode cX12_act 215 = .ok (.getfield 80, 3) := by decide +kernel
theorem dX12_act_218 : decode cX12_act 218 = .ok (.iload_n 3, 1) := by decide +kernel
theorem dX12_act_219 : decode cX12_act 219 = .ok (.aload_n 0, 1) := by decide +kernel
theorem dX12_act_220 : decode cX12_act 220 = .ok (.getfield 498, 3) := by decide +kernel
theorem dX12_act_223 : decode cX12_act 223 = .ok (.iastore, 1) := by decide +kernel
theorem dX12_act_224 : decode cX12_act 224 = .ok (.aload_n 0, 1) := by decide +kernel
theorem dX12_act_225 : decode cX12_act 225 = .ok (.getfield 83, 3) := by decide +kernel
theorem dX12_act_228 : decode cX12_act 228 = .ok (.iload_n 3, 1) := by decide +kernel
theorem dX12_act_229 : decode cX12_act 229 = .ok (.aload_n 0, 1) := by decide +kernel
theorem dX12_act_230 : decode cX12_act 230 = .ok (.getfield 501, 3) := by decide +kernel
theorem dX12_act_233 : decode cX12_act 233 = .ok (.iastore, 1) := by decide +kernel
theorem dX12_act_234 : decode cX12_act 234 = .ok (.aload_n 0, 1) := by decide +kernel
theorem dX12_act_235 : decode cX12_act 235 = .ok (.getfield 86, 3) := by decide +kernel
theorem dX12_act_238 : decode cX12_act 238 = .ok (.iload_n 3, 1) := by decide +kernel
theorem dX12_act_239 : decode cX12_act 239 = .ok (.aload_n 0, 1) := by decide +kernel
theorem dX12_act_240 : decode cX12_act 240 = .ok (.getfield 504, 3) := by decide +kernel
theorem dX12_act_243 : decode cX12_act 243 = .ok (.iastore, 1) := by decide +kernel
theorem dX12_act_244 : decode cX12_act 244 = .ok (.aload_n 0, 1) := by decide +kernel
theorem dX12_act_245 : decode cX12_act 245 = .ok (.getfield 89, 3) := by decide +kernel
theorem dX12_act_248 : decode cX12_act 248 = .ok (.iload_n 3, 1) := by decide +kernel
theorem dX12_act_249 : decode cX12_act 249 = .ok (.aload_n 0, 1) := by decide +kernel
theorem dX12_act_250 : decode cX12_act 250 = .ok (.getfield 507, 3) := by decide +kernel
theorem dX12_act_253 : decode cX12_act 253 = .ok (.iastore, 1) := by decide +kernel
theorem dX12_act_254 : decode cX12_act 254 = .ok (.aload_n 0, 1) := by decide +kernel
theorem dX12_act_255 : decode cX12_act 255 = .ok (.getfield 92, 3) := by decide +kernel
theorem dX12_act_258 : decode cX12_act 258 = .ok (.iload_n 3, 1) := by decide +kernel
theorem dX12_act_259 : decode cX12_act 259 = .ok (.aload_n 0, 1) := by decide +kernel
theorem dX12_act_260 : decode cX12_act 260 = .ok (.getfield 510, 3) := by decide +kernel
theorem dX12_act_263 : decode cX12_act 263 = .ok (.iastore, 1) := by decide +kernel
theorem dX12_act_264 : decode cX12_act 264 = .ok (.aload_n 0, 1) := by decide +kernel
theorem dX12_act_265 : decode cX12_act 265 = .ok (.getfield 95, 3) := by decide +kernel
theorem dX12_act_268 : decode cX12_act 268 = .ok (.iload_n 3, 1) := by decide +kernel
theorem dX12_act_269 : decode cX12_act 269 = .ok (.aload_n 0, 1) := by decide +kernel
theorem dX12_act_270 : decode cX12_act 270 = .ok (.getfield 483, 3) := by decide +kernel
theorem dX12_act_273 : decode cX12_act 273 = .ok (.iastore, 1) := by decide +kernel
theorem dX12_act_274 : decode cX12_act 274 = .ok (.iconst 0, 1) := by decide +kernel
theorem dX12_act_275 : decode cX12_act 275 = .ok (.istore 4, 2) := by decide +kernel
theorem dX12_act_277 : decode cX12_act 277 = .ok (.iload 4, 2) := by decide +kernel
theorem dX12_act_279 : decode cX12_act 279 = .ok (.aload_n 0, 1) := by decide +kernel
theorem dX12_act_280 : decode cX12_act 280 = .ok (.getfield 483, 3) := by decide +kernel
theorem dX12_act_283 : decode cX12_act 283 = .ok (.if_icmp .ge 47, 3) := by decide +kernel
theorem dX12_act_286 : decode cX12_act 286 = .ok (.aload_n 0, 1) := by decide +kernel
theorem dX12_act_287 : decode cX12_act 287 = .ok (.getfield 98, 3) := by decide +kernel
theorem dX12_act_290 : decode cX12_act 290 = .ok (.bipush 25, 2) := by decide +kernel
theorem dX12_act_292 : decode cX12_act 292 = .ok (.iload_n 3, 1) := by decide +kernel
theorem dX12_act_293 : decode cX12_act 293 = .ok (.imul, 1) := by decide +kernel
theorem dX12_act_294 : decode cX12_act 294 = .ok (.iload 4, 2) := by decide +kernel
theorem dX12_act_296 : decode cX12_act 296 = .ok (.iadd, 1) := by decide +kernel
theorem dX12_act_297 : decode cX12_act 297 = .ok (.aload_n 0, 1) := by decide +kernel
theorem dX12_act_298 : decode cX12_act 298 = .ok (.getfield 107, 3) := by decide +kernel
theorem dX12_act_301 : decode cX12_act 301 = .ok (.iload 4, 2) := by decide +kernel
theorem dX12_act_303 : decode cX12_act 303 = .ok (.iaload, 1) := by decide +kernel
theorem dX12_act_304 : decode cX12_act 304 = .ok (.iastore, 1) := by decide +kernel
theorem dX12_act_305 : decode cX12_act 305 = .ok (.aload_n 0, 1) := by decide +kernel
theorem dX12_act_306 : decode cX12_act 306 = .ok (.getfield 101, 3) := by decide +kernel
theorem dX12_act_309 : decode cX12_act 309 = .ok (.bipush 24, 2) := by decide +kernel
theorem dX12_act_311 : decode cX12_act 311 = .ok (.iload_n 3, 1) := by decide +kernel
theorem dX12_act_312 : decode cX12_act 312 = .ok (.imul, 1) := by decide +kernel
theorem dX12_act_313 : decode cX12_act 313 = .ok (.iload 4, 2) := by decide +kernel
theorem dX12_act_315 : decode cX12_act 315 = .ok (.iadd, 1) := by decide +kernel
theorem dX12_act_316 : decode cX12_act 316 = .ok (.aload_n 0, 1) := by decide +kernel
theorem dX12_act_317 : decode cX12_act 317 = .ok (.getfield 110, 3) := by decide +kernel
theorem dX12_act_320 : decode cX12_act 320 = .ok (.iload 4, 2) := by decide +kernel
theorem dX12_act_322 : decode cX12_act 322 = .ok (.iaload, 1) := by decide +kernel
theorem dX12_act_323 : decode cX12_act 323 = .ok (.iastore, 1) := by decide +kernel
theorem dX12_act_324 : decode cX12_act 324 = .ok (.iinc 4 1, 3) := by decide +kernel
theorem dX12_act_327 : decode cX12_act 327 = .ok (.goto (-50), 3) := by decide +kernel
theorem dX12_act_330 : decode cX12_act 330 = .ok (.aload_n 0, 1) := by decide +kernel
theorem dX12_act_331 : decode cX12_act 331 = .ok (.getfield 98, 3) := by decide +kernel
theorem dX12_act_334 : decode cX12_act 334 = .ok (.bipush 25, 2) := by decide +kernel
theorem dX12_act_336 : decode cX12_act 336 = .ok (.iload_n 3, 1) := by decide +kernel
theorem dX12_act_337 : decode cX12_act 337 = .ok (.imul, 1) := by decide +kernel
theorem dX12_act_338 : decode cX12_act 338 = .ok (.aload_n 0, 1) := by decide +kernel
theorem dX12_act_339 : decode cX12_act 339 = .ok (.getfield 483, 3) := by decide +kernel
theorem dX12_act_342 : decode cX12_act 342 = .ok (.iadd, 1) := by decide +kernel
theorem dX12_act_343 : decode cX12_act 343 = .ok (.aload_n 0, 1) := by decide +kernel
theorem dX12_act_344 : decode cX12_act 344 = .ok (.getfield 452, 3) := by decide +kernel
theorem dX12_act_347 : decode cX12_act 347 = .ok (.iastore, 1) := by decide +kernel
theorem dX12_act_348 : decode cX12_act 348 = .ok (.iconst 0, 1) := by decide +kernel
theorem dX12_act_349 : decode cX12_act 349 = .ok (.istore 4, 2) := by decide +kernel
theorem dX12_act_351 : decode cX12_act 351 = .ok (.iload 4, 2) := by decide +kernel
theorem dX12_act_353 : decode cX12_act 353 = .ok (.iconst 2, 1) := by decide +kernel
theorem dX12_act_354 : decode cX12_act 354 = .ok (.aload_n 0, 1) := by decide +kernel
theorem dX12_act_355 : decode cX12_act 355 = .ok (.getfield 452, 3) := by decide +kernel
theorem dX12_act_358 : decode cX12_act 358 = .ok (.imul, 1) := by decide +kernel
theorem dX12_act_359 : decode cX12_act 359 = .ok (.if_icmp .ge 29, 3) := by decide +kernel
theorem dX12_act_362 : decode cX12_act 362 = .ok (.aload_n 0, 1) := by decide +kernel
theorem dX12_act_363 : decode cX12_act 363 = .ok (.getfield 104, 3) := by decide +kernel
theorem dX12_act_366 : decode cX12_act 366 = .ok (.sipush 1220, 3) := by decide +kernel
theorem dX12_act_369 : decode cX12_act 369 = .ok (.iload_n 3, 1) := by decide +kernel
theorem dX12_act_370 : decode cX12_act 370 = .ok (.imul, 1) := by decide +kernel
theorem dX12_act_371 : decode cX12_act 371 = .ok (.iload 4, 2) := by decide +kernel
theorem dX12_act_373 : decode cX12_act 373 = .ok (.iadd, 1) := by decide +kernel
theorem dX12_act_374 : decode cX12_act 374 = .ok (.aload_n 0, 1) := by decide +kernel
theorem dX12_act_375 : decode cX12_act 375 = .ok (.getfield 113, 3) := by decide +kernel
theorem dX12_act_378 : decode cX12_act 378 = .ok (.iload 4, 2) := by decide +kernel
theorem dX12_act_380 : decode cX12_act 380 = .ok (.iaload, 1) := by decide +kernel
theorem dX12_act_381 : decode cX12_act 381 = .ok (.iastore, 1) := by decide +kernel
theorem dX12_act_382 : decode cX12_act 382 = .ok (.iinc 4 1, 3) := by decide +kernel
theorem dX12_act_385 : decode cX12_act 385 = .ok (.goto (-34), 3) := by decide +kernel
theorem dX12_act_388 : decode cX12_act 388 = .ok (.iload_n 3, 1) := by decide +kernel
theorem dX12_act_389 : decode cX12_act 389 = .ok (.ireturn, 1) := by decide +kernel
theorem bX12_act_0 {d : Nat} {h0 hE h : ea_H} {rv : Option ea_V} {r0 : Option Nat} {x1 : Int32} (H : ∃ a3, r0 = some a3 ∧ a3 < ea_n h ∧ ea_c h a3 = 12 ∧ ∀ h5, h5 = ea_wi h a3 59 0 → a3 < ea_n h5 ∧ ea_c h5 a3 = 12 ∧ ∀ h9, h9 = ea_wi h5 a3 62 (-1) → ∃ (d11 : Nat) (xc15 : Int32) (h12 : ea_H), ea_Met mX12_isDay d11 [vI x1] h9 (some (vI xc15)) h12 ∧ d11 + 1 ≤ d ∧ (xc15 = (0 : Int32) → a3 < ea_n h12 ∧ ea_c h12 a3 = 12 ∧ ∀ h18, h18 = ea_wi h12 a3 52 0 → rv = some (vI (-1)) ∧ hE = h18) ∧ (¬ xc15 = (0 : Int32) → a3 < ea_n h12 ∧ ea_c h12 a3 = 12 ∧ ((ea_i h12 a3 25) = (6 : Int32) → a3 < ea_n h12 ∧ ea_c h12 a3 = 12 ∧ ∀ h24, h24 = ea_wi h12 a3 52 0 → rv = some (vI (-1)) ∧ hE = h24) ∧ (¬ (ea_i h12 a3 25) = (6 : Int32) → a3 < ea_n h12 ∧ ea_c h12 a3 = 12 ∧ ((ea_i h12 a3 25) ≤ (0 : Int32) → ea_W mX12_act d h0 rv hE 55 [(0, vR r0), (1, vI x1)] [] h12) ∧ (¬ (ea_i h12 a3 25) ≤ (0 : Int32) → a3 < ea_n h12 ∧ ea_c h12 a3 = 12 ∧ a3 < ea_n h12 ∧ ea_c h12 a3 = 12 ∧ ∃ a34, (ea_r h12 a3 26) = some a34 ∧ a34 < ea_n h12 ∧ ea_c h12 a34 = 20 ∧ vp_in ((ea_i h12 a3 25) - (1 : Int32)) (ea_l h12 a34) ∧ ((ea_i h12 a34 (Int32.toNatClampNeg ((ea_i h12 a3 25) - (1 : Int32)))) ≤ x1 → ea_W mX12_act d h0 rv hE 55 [(0, vR r0), (1, vI x1)] [] h12) ∧ (¬ (ea_i h12 a34 (Int32.toNatClampNeg ((ea_i h12 a3 25) - (1 : Int32)))) ≤ x1 → a3 < ea_n h12 ∧ ea_c h12 a3 = 12 ∧ ∀ h39, h39 = ea_wi h12 a3 52 0 → rv = some (vI (-1)) ∧ hE = h39))))) : ea_W mX12_act d h0 rv hE 0 [(0, vR r0), (1, vI x1)] [] h := by
  refine ea_aload_n (pc := 0) dX12_act_0 rfl 0 rfl ?_
  refine ea_iconst (pc := 1) dX12_act_1 (v := 0) rfl ?_
  obtain ⟨a3, e4, f1, g2, H⟩ := H
  refine ea_deref1 e4 ?_
  refine ea_putI (pc := 2) dX12_act_2 ec_12 (k := 59) (Nat.le_of_ble_eq_true rfl) rfl (Or.inl ⟨rfl, Or.inl ew_1404⟩) rfl rfl f1 g2 ?_
  obtain ⟨h5, E6⟩ : ∃ z, z = ea_wi h a3 59 0 := ⟨_, rfl⟩
  have H := H h5 E6
  refine ea_nm E6 ?_
  refine ea_aload_n (pc := 5) dX12_act_5 rfl 0 rfl ?_
  refine ea_iconst (pc := 6) dX12_act_6 (v := (-1)) rfl ?_
  obtain ⟨f7, g8, H⟩ := H
  refine ea_deref1 e4 ?_
  refine ea_putI (pc := 7) dX12_act_7 ec_12 (k := 62) (Nat.le_of_ble_eq_true rfl) rfl (Or.inl ⟨rfl, Or.inl ew_1407⟩) rfl rfl f7 g8 ?_
  obtain ⟨h9, E10⟩ : ∃ z, z = ea_wi h5 a3 62 (-1) := ⟨_, rfl⟩
  have H := H h9 E10
  refine ea_nm E10 ?_
  refine ea_iload_n (pc := 10) dX12_act_10 rfl 1 rfl ?_
  obtain ⟨d11, xc15, h12, m13, q14, H⟩ := H
  refine ea_callS (pc := 11) (As := [vI x1]) (st := []) dX12_act_11 kX12_isDay m13 q14 rfl (Nat.le_of_ble_eq_true rfl) ew_1752 ew_1753 ?_
  refine ea_if_eq (pc := 14) (tgt := 48) dX12_act_14 rfl (fun c44 => ?_) (fun c44 => ?_)
  · have H := H.1 c44
    refine ea_aload_n (pc := 48) dX12_act_48 rfl 0 rfl ?_
    refine ea_iconst (pc := 49) dX12_act_49 (v := 0) rfl ?_
    obtain ⟨f16, g17, H⟩ := H
    refine ea_deref1 e4 ?_
    refine ea_putI (pc := 50) dX12_act_50 ec_12 (k := 52) (Nat.le_of_ble_eq_true rfl) rfl (Or.inl ⟨rfl, Or.inl ew_1397⟩) rfl rfl f16 g17 ?_
    obtain ⟨h18, E19⟩ : ∃ z, z = ea_wi h12 a3 52 0 := ⟨_, rfl⟩
    have H := H h18 E19
    refine ea_nm E19 ?_
    refine ea_iconst (pc := 53) dX12_act_53 (v := (-1)) rfl ?_
    obtain ⟨rfl, rfl⟩ := H
    exact ea_ireturn (pc := 54) dX12_act_54 rfl rfl
  · have H := H.2 c44
    refine ea_aload_n (pc := 17) dX12_act_17 rfl 0 rfl ?_
    obtain ⟨f20, g21, H⟩ := H
    refine ea_deref0 e4 ?_
    refine ea_getI (pc := 18) dX12_act_18 ec_12 (k := 25) (Nat.le_of_ble_eq_true rfl) rfl (Or.inl ew_1370) f20 g21 ?_
    refine ea_bipush (pc := 21) dX12_act_21 (v := 6) rfl ?_
    refine ea_icmp_eq (pc := 23) (tgt := 48) dX12_act_23 rfl (fun c43 => ?_) (fun c43 => ?_)
    · have H := H.1 c43
      refine ea_aload_n (pc := 48) dX12_act_48 rfl 0 rfl ?_
      refine ea_iconst (pc := 49) dX12_act_49 (v := 0) rfl ?_
      obtain ⟨f22, g23, H⟩ := H
      refine ea_deref1 e4 ?_
      refine ea_putI (pc := 50) dX12_act_50 ec_12 (k := 52) (Nat.le_of_ble_eq_true rfl) rfl (Or.inl ⟨rfl, Or.inl ew_1397⟩) rfl rfl f22 g23 ?_
      obtain ⟨h24, E25⟩ : ∃ z, z = ea_wi h12 a3 52 0 := ⟨_, rfl⟩
      have H := H h24 E25
      refine ea_nm E25 ?_
      refine ea_iconst (pc := 53) dX12_act_53 (v := (-1)) rfl ?_
      obtain ⟨rfl, rfl⟩ := H
      exact ea_ireturn (pc := 54) dX12_act_54 rfl rfl
    · have H := H.2 c43
      refine ea_aload_n (pc := 26) dX12_act_26 rfl 0 rfl ?_
      obtain ⟨f26, g27, H⟩ := H
      refine ea_deref0 e4 ?_
      refine ea_getI (pc := 27) dX12_act_27 ec_12 (k := 25) (Nat.le_of_ble_eq_true rfl) rfl (Or.inl ew_1370) f26 g27 ?_
      refine ea_if_le (pc := 30) (tgt := 55) dX12_act_30 rfl (fun c42 => ?_) (fun c42 => ?_)
      · have H := H.1 c42
        exact H
      · have H := H.2 c42
        refine ea_iload_n (pc := 33) dX12_act_33 rfl 1 rfl ?_
        refine ea_aload_n (pc := 34) dX12_act_34 rfl 0 rfl ?_
        obtain ⟨f28, g29, H⟩ := H
        refine ea_deref0 e4 ?_
        refine ea_getR (pc := 35) dX12_act_35 ec_12 (k := 26) (Nat.le_of_ble_eq_true rfl) rfl (Or.inl ew_1371) f28 g29 rfl ?_
        refine ea_aload_n (pc := 38) dX12_act_38 rfl 0 rfl ?_
        obtain ⟨f30, g31, H⟩ := H
        refine ea_deref0 e4 ?_
        refine ea_getI (pc := 39) dX12_act_39 ec_12 (k := 25) (Nat.le_of_ble_eq_true rfl) rfl (Or.inl ew_1370) f30 g31 ?_
        refine ea_iconst (pc := 42) dX12_act_42 (v := 1) rfl ?_
        refine ea_isub (pc := 43) dX12_act_43 ?_
        obtain ⟨a34, e35, f32, g33, H⟩ := H
        refine ea_deref1 e35 ?_
        obtain ⟨z36, H⟩ := H
        refine ea_iald (pc := 44) dX12_act_44 f32 g33 z36 ?_
        refine ea_icmp_ge (pc := 45) (tgt := 55) dX12_act_45 rfl (fun c41 => ?_) (fun c41 => ?_)
        · have H := H.1 c41
          exact H
        · have H := H.2 c41
          refine ea_aload_n (pc := 48) dX12_act_48 rfl 0 rfl ?_
          refine ea_iconst (pc := 49) dX12_act_49 (v := 0) rfl ?_
          obtain ⟨f37, g38, H⟩ := H
          refine ea_deref1 e4 ?_
          refine ea_putI (pc := 50) dX12_act_50 ec_12 (k := 52) (Nat.le_of_ble_eq_true rfl) rfl (Or.inl ⟨rfl, Or.inl ew_1397⟩) rfl rfl f37 g38 ?_
          obtain ⟨h39, E40⟩ : ∃ z, z = ea_wi h12 a3 52 0 := ⟨_, rfl⟩
          have H := H h39 E40
          refine ea_nm E40 ?_
          refine ea_iconst (pc := 53) dX12_act_53 (v := (-1)) rfl ?_
          obtain ⟨rfl, rfl⟩ := H
          exact ea_ireturn (pc := 54) dX12_act_54 rfl rfl
theorem bX12_act_55 {d : Nat} {h0 hE h : ea_H} {rv : Option ea_V} {r0 : Option Nat} {x1 : Int32} (H : ∃ a3, r0 = some a3 ∧ a3 < ea_n h ∧ ea_c h a3 = 12 ∧ ∀ h5, h5 = ea_wi h a3 57 0 → a3 < ea_n h5 ∧ ea_c h5 a3 = 12 ∧ ∀ h9, h9 = ea_wi h5 a3 53 0 → a3 < ea_n h9 ∧ ea_c h9 a3 = 12 ∧ ∀ h13, h13 = ea_wi h9 a3 43 0 → a3 < ea_n h13 ∧ ea_c h13 a3 = 12 ∧ ∀ h17, h17 = ea_wi h13 a3 44 0 → a3 < ea_n h17 ∧ ea_c h17 a3 = 12 ∧ ∀ h21, h21 = ea_wi h17 a3 45 0 → a3 < ea_n h21 ∧ ea_c h21 a3 = 12 ∧ ∀ h25, h25 = ea_wi h21 a3 46 0 → a3 < ea_n h25 ∧ ea_c h25 a3 = 12 ∧ ∀ h29, h29 = ea_wi h25 a3 47 1439 → a3 < ea_n h29 ∧ ea_c h29 a3 = 12 ∧ ∀ h33, h33 = ea_wi h29 a3 48 0 → a3 < ea_n h33 ∧ ea_c h33 a3 = 12 ∧ ∀ h37, h37 = ea_wi h33 a3 49 0 → a3 < ea_n h37 ∧ ea_c h37 a3 = 12 ∧ ∀ h41, h41 = ea_wi h37 a3 50 0 → a3 < ea_n h41 ∧ ea_c h41 a3 = 12 ∧ ∀ h45, h45 = ea_wi h41 a3 51 3 → a3 < ea_n h45 ∧ ea_c h45 a3 = 12 ∧ ∃ (d47 : Nat) (h48 : ea_H), ea_Met mX12_next0 d47 [vR (some a3)] h45 none h48 ∧ d47 + 1 ≤ d ∧ ea_W mX12_act d h0 rv hE 118 [(0, vR r0), (1, vI x1), (2, vI 1)] [] h48) : ea_W mX12_act d h0 rv hE 55 [(0, vR r0), (1, vI x1)] [] h := by
  refine ea_aload_n (pc := 55) dX12_act_55 rfl 0 rfl ?_
  refine ea_iconst (pc := 56) dX12_act_56 (v := 0) rfl ?_
  obtain ⟨a3, e4, f1, g2, H⟩ := H
  refine ea_deref1 e4 ?_
  refine ea_putI (pc := 57) dX12_act_57 ec_12 (k := 57) (Nat.le_of_ble_eq_true rfl) rfl (Or.inl ⟨rfl, Or.inl ew_1402⟩) rfl rfl f1 g2 ?_
  obtain ⟨h5, E6⟩ : ∃ z, z = ea_wi h a3 57 0 := ⟨_, rfl⟩
  have H := H h5 E6
  refine ea_nm E6 ?_
  refine ea_aload_n (pc := 60) dX12_act_60 rfl 0 rfl ?_
  refine ea_iconst (pc := 61) dX12_act_61 (v := 0) rfl ?_
  obtain ⟨f7, g8, H⟩ := H
  refine ea_deref1 e4 ?_
  refine ea_putI (pc := 62) dX12_act_62 ec_12 (k := 53) (Nat.le_of_ble_eq_true rfl) rfl (Or.inl ⟨rfl, Or.inl ew_1398⟩) rfl rfl f7 g8 ?_
  obtain ⟨h9, E10⟩ : ∃ z, z = ea_wi h5 a3 53 0 := ⟨_, rfl⟩
  have H := H h9 E10
  refine ea_nm E10 ?_
  refine ea_aload_n (pc := 65) dX12_act_65 rfl 0 rfl ?_
  refine ea_iconst (pc := 66) dX12_act_66 (v := 0) rfl ?_
  obtain ⟨f11, g12, H⟩ := H
  refine ea_deref1 e4 ?_
  refine ea_putI (pc := 67) dX12_act_67 ec_12 (k := 43) (Nat.le_of_ble_eq_true rfl) rfl (Or.inl ⟨rfl, Or.inl ew_1388⟩) rfl rfl f11 g12 ?_
  obtain ⟨h13, E14⟩ : ∃ z, z = ea_wi h9 a3 43 0 := ⟨_, rfl⟩
  have H := H h13 E14
  refine ea_nm E14 ?_
  refine ea_aload_n (pc := 70) dX12_act_70 rfl 0 rfl ?_
  refine ea_iconst (pc := 71) dX12_act_71 (v := 0) rfl ?_
  obtain ⟨f15, g16, H⟩ := H
  refine ea_deref1 e4 ?_
  refine ea_putI (pc := 72) dX12_act_72 ec_12 (k := 44) (Nat.le_of_ble_eq_true rfl) rfl (Or.inl ⟨rfl, Or.inl ew_1389⟩) rfl rfl f15 g16 ?_
  obtain ⟨h17, E18⟩ : ∃ z, z = ea_wi h13 a3 44 0 := ⟨_, rfl⟩
  have H := H h17 E18
  refine ea_nm E18 ?_
  refine ea_aload_n (pc := 75) dX12_act_75 rfl 0 rfl ?_
  refine ea_iconst (pc := 76) dX12_act_76 (v := 0) rfl ?_
  obtain ⟨f19, g20, H⟩ := H
  refine ea_deref1 e4 ?_
  refine ea_putI (pc := 77) dX12_act_77 ec_12 (k := 45) (Nat.le_of_ble_eq_true rfl) rfl (Or.inl ⟨rfl, Or.inl ew_1390⟩) rfl rfl f19 g20 ?_
  obtain ⟨h21, E22⟩ : ∃ z, z = ea_wi h17 a3 45 0 := ⟨_, rfl⟩
  have H := H h21 E22
  refine ea_nm E22 ?_
  refine ea_aload_n (pc := 80) dX12_act_80 rfl 0 rfl ?_
  refine ea_iconst (pc := 81) dX12_act_81 (v := 0) rfl ?_
  obtain ⟨f23, g24, H⟩ := H
  refine ea_deref1 e4 ?_
  refine ea_putI (pc := 82) dX12_act_82 ec_12 (k := 46) (Nat.le_of_ble_eq_true rfl) rfl (Or.inl ⟨rfl, Or.inl ew_1391⟩) rfl rfl f23 g24 ?_
  obtain ⟨h25, E26⟩ : ∃ z, z = ea_wi h21 a3 46 0 := ⟨_, rfl⟩
  have H := H h25 E26
  refine ea_nm E26 ?_
  refine ea_aload_n (pc := 85) dX12_act_85 rfl 0 rfl ?_
  refine ea_sipush (pc := 86) dX12_act_86 (v := 1439) rfl ?_
  obtain ⟨f27, g28, H⟩ := H
  refine ea_deref1 e4 ?_
  refine ea_putI (pc := 89) dX12_act_89 ec_12 (k := 47) (Nat.le_of_ble_eq_true rfl) rfl (Or.inl ⟨rfl, Or.inl ew_1392⟩) rfl rfl f27 g28 ?_
  obtain ⟨h29, E30⟩ : ∃ z, z = ea_wi h25 a3 47 1439 := ⟨_, rfl⟩
  have H := H h29 E30
  refine ea_nm E30 ?_
  refine ea_aload_n (pc := 92) dX12_act_92 rfl 0 rfl ?_
  refine ea_iconst (pc := 93) dX12_act_93 (v := 0) rfl ?_
  obtain ⟨f31, g32, H⟩ := H
  refine ea_deref1 e4 ?_
  refine ea_putI (pc := 94) dX12_act_94 ec_12 (k := 48) (Nat.le_of_ble_eq_true rfl) rfl (Or.inl ⟨rfl, Or.inl ew_1393⟩) rfl rfl f31 g32 ?_
  obtain ⟨h33, E34⟩ : ∃ z, z = ea_wi h29 a3 48 0 := ⟨_, rfl⟩
  have H := H h33 E34
  refine ea_nm E34 ?_
  refine ea_aload_n (pc := 97) dX12_act_97 rfl 0 rfl ?_
  refine ea_iconst (pc := 98) dX12_act_98 (v := 0) rfl ?_
  obtain ⟨f35, g36, H⟩ := H
  refine ea_deref1 e4 ?_
  refine ea_putI (pc := 99) dX12_act_99 ec_12 (k := 49) (Nat.le_of_ble_eq_true rfl) rfl (Or.inl ⟨rfl, Or.inl ew_1394⟩) rfl rfl f35 g36 ?_
  obtain ⟨h37, E38⟩ : ∃ z, z = ea_wi h33 a3 49 0 := ⟨_, rfl⟩
  have H := H h37 E38
  refine ea_nm E38 ?_
  refine ea_aload_n (pc := 102) dX12_act_102 rfl 0 rfl ?_
  refine ea_iconst (pc := 103) dX12_act_103 (v := 0) rfl ?_
  obtain ⟨f39, g40, H⟩ := H
  refine ea_deref1 e4 ?_
  refine ea_putI (pc := 104) dX12_act_104 ec_12 (k := 50) (Nat.le_of_ble_eq_true rfl) rfl (Or.inl ⟨rfl, Or.inl ew_1395⟩) rfl rfl f39 g40 ?_
  obtain ⟨h41, E42⟩ : ∃ z, z = ea_wi h37 a3 50 0 := ⟨_, rfl⟩
  have H := H h41 E42
  refine ea_nm E42 ?_
  refine ea_aload_n (pc := 107) dX12_act_107 rfl 0 rfl ?_
  refine ea_iconst (pc := 108) dX12_act_108 (v := 3) rfl ?_
  obtain ⟨f43, g44, H⟩ := H
  refine ea_deref1 e4 ?_
  refine ea_putI (pc := 109) dX12_act_109 ec_12 (k := 51) (Nat.le_of_ble_eq_true rfl) rfl (Or.inl ⟨rfl, Or.inl ew_1396⟩) rfl rfl f43 g44 ?_
  obtain ⟨h45, E46⟩ : ∃ z, z = ea_wi h41 a3 51 3 := ⟨_, rfl⟩
  have H := H h45 E46
  refine ea_nm E46 ?_
  refine ea_aload_n (pc := 112) dX12_act_112 rfl 0 rfl ?_
  obtain ⟨f51, g52, H⟩ := H
  refine ea_deref0 e4 ?_
  obtain ⟨d47, h48, m49, q50, H⟩ := H
  refine ea_callV (pc := 113) (As := []) (st := []) dX12_act_113 kX12_next0 m49 q50 rfl (Nat.le_of_ble_eq_true rfl) ew_1822 ew_1824 ew_63 (ci := 12) rfl (by decide) f51 g52 ?_
  refine ea_iconst (pc := 116) dX12_act_116 (v := 1) rfl ?_
  refine ea_istore_n (pc := 117) (lv' := [(0, vR r0), (1, vI x1), (2, vI 1)]) dX12_act_117 rfl (Nat.le_of_ble_eq_true rfl) [1, 2, 0] rfl ?_
  exact H
theorem bX12_act_118 {d : Nat} {h0 hE h : ea_H} {rv : Option ea_V} {r0 : Option Nat} {x1 : Int32} {x2 : Int32} (H : (x2 = (0 : Int32) → ea_W mX12_act d h0 rv hE 137 [(0, vR r0), (1, vI x1), (2, vI x2)] [] h) ∧ (¬ x2 = (0 : Int32) → ∃ a3, r0 = some a3 ∧ a3 < ea_n h ∧ ea_c h a3 = 12 ∧ ((ea_i h a3 54) = (0 : Int32) → ea_W mX12_act d h0 rv hE 137 [(0, vR r0), (1, vI x1), (2, vI x2)] [] h) ∧ (¬ (ea_i h a3 54) = (0 : Int32) → a3 < ea_n h ∧ ea_c h a3 = 12 ∧ ∃ (d5 : Nat) (xc11 : Int32) (h6 : ea_H), ea_Met mX12_aLine d5 [vR (some a3)] h (some (vI xc11)) h6 ∧ d5 + 1 ≤ d ∧ ea_W mX12_act d h0 rv hE 118 [(0, vR r0), (1, vI x1), (2, vI xc11)] [] h6))) : ea_W mX12_act d h0 rv hE 118 [(0, vR r0), (1, vI x1), (2, vI x2)] [] h := by
  refine ea_iload_n (pc := 118) dX12_act_118 rfl 2 rfl ?_
  refine ea_if_eq (pc := 119) (tgt := 137) dX12_act_119 rfl (fun c13 => ?_) (fun c13 => ?_)
  · have H := H.1 c13
    exact H
  · have H := H.2 c13
    refine ea_aload_n (pc := 122) dX12_act_122 rfl 0 rfl ?_
    obtain ⟨a3, e4, f1, g2, H⟩ := H
    refine ea_deref0 e4 ?_
    refine ea_getI (pc := 123) dX12_act_123 ec_12 (k := 54) (Nat.le_of_ble_eq_true rfl) rfl (Or.inl ew_1399) f1 g2 ?_
    refine ea_if_eq (pc := 126) (tgt := 137) dX12_act_126 rfl (fun c12 => ?_) (fun c12 => ?_)
    · have H := H.1 c12
      exact H
    · have H := H.2 c12
      refine ea_aload_n (pc := 129) dX12_act_129 rfl 0 rfl ?_
      obtain ⟨f9, g10, H⟩ := H
      refine ea_deref0 e4 ?_
      obtain ⟨d5, xc11, h6, m7, q8, H⟩ := H
      refine ea_callV (pc := 130) (As := []) (st := []) dX12_act_130 kX12_aLine m7 q8 rfl (Nat.le_of_ble_eq_true rfl) ew_1910 ew_1912 ew_67 (ci := 12) rfl (by decide) f9 g10 ?_
      refine ea_istore_n (pc := 133) (lv' := [(0, vR r0), (1, vI x1), (2, vI xc11)]) dX12_act_133 rfl (Nat.le_of_ble_eq_true rfl) [1, 2, 0] rfl ?_
      refine ea_goto (pc := 134) (tgt := 118) dX12_act_134 rfl ?_
      exact H
theorem bX12_act_137 {d : Nat} {h0 hE h : ea_H} {rv : Option ea_V} {r0 : Option Nat} {x1 : Int32} {x2 : Int32} (H : ∃ a3, r0 = some a3 ∧ a3 < ea_n h ∧ ea_c h a3 = 12 ∧ ∀ h5, h5 = ea_wi h a3 52 0 → a3 < ea_n h5 ∧ ea_c h5 a3 = 12 ∧ a3 < ea_n h5 ∧ ea_c h5 a3 = 12 ∧ ∀ h11, h11 = ea_wi h5 a3 59 (ea_i h5 a3 57) → (x2 = (0 : Int32) → a3 < ea_n h11 ∧ ea_c h11 a3 = 12 ∧ ea_W mX12_act d h0 rv hE 163 [(0, vR r0), (1, vI x1), (2, vI x2)] [vI (ea_i h11 a3 58), vR r0] h11) ∧ (¬ x2 = (0 : Int32) → ea_W mX12_act d h0 rv hE 163 [(0, vR r0), (1, vI x1), (2, vI x2)] [vI (-1), vR r0] h11)) : ea_W mX12_act d h0 rv hE 137 [(0, vR r0), (1, vI x1), (2, vI x2)] [] h := by
  refine ea_aload_n (pc := 137) dX12_act_137 rfl 0 rfl ?_
  refine ea_iconst (pc := 138) dX12_act_138 (v := 0) rfl ?_
  obtain ⟨a3, e4, f1, g2, H⟩ := H
  refine ea_deref1 e4 ?_
  refine ea_putI (pc := 139) dX12_act_139 ec_12 (k := 52) (Nat.le_of_ble_eq_true rfl) rfl (Or.inl ⟨rfl, Or.inl ew_1397⟩) rfl rfl f1 g2 ?_
  obtain ⟨h5, E6⟩ : ∃ z, z = ea_wi h a3 52 0 := ⟨_, rfl⟩
  have H := H h5 E6
  refine ea_nm E6 ?_
  refine ea_aload_n (pc := 142) dX12_act_142 rfl 0 rfl ?_
  refine ea_aload_n (pc := 143) dX12_act_143 rfl 0 rfl ?_
  obtain ⟨f7, g8, H⟩ := H
  refine ea_deref0 e4 ?_
  refine ea_getI (pc := 144) dX12_act_144 ec_12 (k := 57) (Nat.le_of_ble_eq_true rfl) rfl (Or.inl ew_1402) f7 g8 ?_
  obtain ⟨f9, g10, H⟩ := H
  refine ea_deref1 e4 ?_
  refine ea_putI (pc := 147) dX12_act_147 ec_12 (k := 59) (Nat.le_of_ble_eq_true rfl) rfl (Or.inl ⟨rfl, Or.inl ew_1404⟩) rfl rfl f9 g10 ?_
  obtain ⟨h11, E12⟩ : ∃ z, z = ea_wi h5 a3 59 (ea_i h5 a3 57) := ⟨_, rfl⟩
  have H := H h11 E12
  refine ea_nm E12 ?_
  refine ea_aload_n (pc := 150) dX12_act_150 rfl 0 rfl ?_
  refine ea_iload_n (pc := 151) dX12_act_151 rfl 2 rfl ?_
  refine ea_if_eq (pc := 152) (tgt := 159) dX12_act_152 rfl (fun c15 => ?_) (fun c15 => ?_)
  · have H := H.1 c15
    refine ea_aload_n (pc := 159) dX12_act_159 rfl 0 rfl ?_
    obtain ⟨f13, g14, H⟩ := H
    refine ea_deref0 e4 ?_
    refine ea_getI (pc := 160) dX12_act_160 ec_12 (k := 58) (Nat.le_of_ble_eq_true rfl) rfl (Or.inl ew_1403) f13 g14 ?_
    exact H
  · have H := H.2 c15
    refine ea_iconst (pc := 155) dX12_act_155 (v := (-1)) rfl ?_
    refine ea_goto (pc := 156) (tgt := 163) dX12_act_156 rfl ?_
    exact H
theorem bX12_act_163 {d : Nat} {h0 hE h : ea_H} {rv : Option ea_V} {r0 : Option Nat} {x1 : Int32} {x2 : Int32} {sx0 : Int32} {sr1 : Option Nat} (H : ∃ a3, sr1 = some a3 ∧ a3 < ea_n h ∧ ea_c h a3 = 12 ∧ ∀ h5, h5 = ea_wi h a3 62 sx0 → (¬ x2 = (0 : Int32) → ∃ a9, r0 = some a9 ∧ a9 < ea_n h5 ∧ ea_c h5 a9 = 12 ∧ a9 < ea_n h5 ∧ ea_c h5 a9 = 12 ∧ a9 < ea_n h5 ∧ ea_c h5 a9 = 12 ∧ ∀ h15, h15 = ea_wi h5 a9 25 ((ea_i h5 a9 25) + (1 : Int32)) → a9 < ea_n h15 ∧ ea_c h15 a9 = 12 ∧ ∃ a21, (ea_r h15 a9 26) = some a21 ∧ a21 < ea_n h15 ∧ ea_c h15 a21 = 20 ∧ vp_in (ea_i h5 a9 25) (ea_l h15 a21) ∧ ∀ h24, h24 = ea_wi h15 a21 (Int32.toNatClampNeg (ea_i h5 a9 25)) x1 → a9 < ea_n h24 ∧ ea_c h24 a9 = 12 ∧ a9 < ea_n h24 ∧ ea_c h24 a9 = 12 ∧ ∃ a32, (ea_r h24 a9 27) = some a32 ∧ a32 < ea_n h24 ∧ ea_c h24 a32 = 20 ∧ vp_in (ea_i h5 a9 25) (ea_l h24 a32) ∧ ∀ h35, h35 = ea_wi h24 a32 (Int32.toNatClampNeg (ea_i h5 a9 25)) (ea_i h24 a9 43) → a9 < ea_n h35 ∧ ea_c h35 a9 = 12 ∧ a9 < ea_n h35 ∧ ea_c h35 a9 = 12 ∧ ∃ a43, (ea_r h35 a9 28) = some a43 ∧ a43 < ea_n h35 ∧ ea_c h35 a43 = 20 ∧ vp_in (ea_i h5 a9 25) (ea_l h35 a43) ∧ ∀ h46, h46 = ea_wi h35 a43 (Int32.toNatClampNeg (ea_i h5 a9 25)) (ea_i h35 a9 46) → a9 < ea_n h46 ∧ ea_c h46 a9 = 12 ∧ a9 < ea_n h46 ∧ ea_c h46 a9 = 12 ∧ ∃ a54, (ea_r h46 a9 29) = some a54 ∧ a54 < ea_n h46 ∧ ea_c h46 a54 = 20 ∧ vp_in (ea_i h5 a9 25) (ea_l h46 a54) ∧ ∀ h57, h57 = ea_wi h46 a54 (Int32.toNatClampNeg (ea_i h5 a9 25)) (ea_i h46 a9 47) → a9 < ea_n h57 ∧ ea_c h57 a9 = 12 ∧ a9 < ea_n h57 ∧ ea_c h57 a9 = 12 ∧ ∃ a65, (ea_r h57 a9 30) = some a65 ∧ a65 < ea_n h57 ∧ ea_c h57 a65 = 20 ∧ vp_in (ea_i h5 a9 25) (ea_l h57 a65) ∧ ∀ h68, h68 = ea_wi h57 a65 (Int32.toNatClampNeg (ea_i h5 a9 25)) (ea_i h57 a9 48) → a9 < ea_n h68 ∧ ea_c h68 a9 = 12 ∧ a9 < ea_n h68 ∧ ea_c h68 a9 = 12 ∧ ∃ a76, (ea_r h68 a9 31) = some a76 ∧ a76 < ea_n h68 ∧ ea_c h68 a76 = 20 ∧ vp_in (ea_i h5 a9 25) (ea_l h68 a76) ∧ ∀ h79, h79 = ea_wi h68 a76 (Int32.toNatClampNeg (ea_i h5 a9 25)) (ea_i h68 a9 49) → a9 < ea_n h79 ∧ ea_c h79 a9 = 12 ∧ a9 < ea_n h79 ∧ ea_c h79 a9 = 12 ∧ ∃ a87, (ea_r h79 a9 32) = some a87 ∧ a87 < ea_n h79 ∧ ea_c h79 a87 = 20 ∧ vp_in (ea_i h5 a9 25) (ea_l h79 a87) ∧ ∀ h90, h90 = ea_wi h79 a87 (Int32.toNatClampNeg (ea_i h5 a9 25)) (ea_i h79 a9 50) → a9 < ea_n h90 ∧ ea_c h90 a9 = 12 ∧ a9 < ea_n h90 ∧ ea_c h90 a9 = 12 ∧ ∃ a98, (ea_r h90 a9 33) = some a98 ∧ a98 < ea_n h90 ∧ ea_c h90 a98 = 20 ∧ vp_in (ea_i h5 a9 25) (ea_l h90 a98) ∧ ∀ h101, h101 = ea_wi h90 a98 (Int32.toNatClampNeg (ea_i h5 a9 25)) (ea_i h90 a9 51) → a9 < ea_n h101 ∧ ea_c h101 a9 = 12 ∧ a9 < ea_n h101 ∧ ea_c h101 a9 = 12 ∧ ∃ a109, (ea_r h101 a9 34) = some a109 ∧ a109 < ea_n h101 ∧ ea_c h101 a109 = 20 ∧ vp_in (ea_i h5 a9 25) (ea_l h101 a109) ∧ ∀ h112, h112 = ea_wi h101 a109 (Int32.toNatClampNeg (ea_i h5 a9 25)) (ea_i h101 a9 44) → ea_W mX12_act d h0 rv hE 277 [(0, vR r0), (3, vI (ea_i h5 a9 25)), (4, vI 0)] [] h112) ∧ (x2 = (0 : Int32) → rv = some (vI (-1)) ∧ hE = h5)) : ea_W mX12_act d h0 rv hE 163 [(0, vR r0), (1, vI x1), (2, vI x2)] [vI sx0, vR sr1] h := by
  obtain ⟨a3, e4, f1, g2, H⟩ := H
  refine ea_deref1 e4 ?_
  refine ea_putI (pc := 163) dX12_act_163 ec_12 (k := 62) (Nat.le_of_ble_eq_true rfl) rfl (Or.inl ⟨rfl, Or.inl ew_1407⟩) rfl rfl f1 g2 ?_
  obtain ⟨h5, E6⟩ : ∃ z, z = ea_wi h a3 62 sx0 := ⟨_, rfl⟩
  have H := H h5 E6
  refine ea_nm E6 ?_
  refine ea_iload_n (pc := 166) dX12_act_166 rfl 2 rfl ?_
  refine ea_if_ne (pc := 167) (tgt := 172) dX12_act_167 rfl (fun c114 => ?_) (fun c114 => ?_)
  · have H := H.1 c114
    refine ea_aload_n (pc := 172) dX12_act_172 rfl 0 rfl ?_
    obtain ⟨a9, e10, f7, g8, H⟩ := H
    refine ea_deref0 e10 ?_
    refine ea_getI (pc := 173) dX12_act_173 ec_12 (k := 25) (Nat.le_of_ble_eq_true rfl) rfl (Or.inl ew_1370) f7 g8 ?_
    refine ea_istore_n (pc := 176) (lv' := [(0, vR r0), (1, vI x1), (3, vI (ea_i h5 a9 25))]) dX12_act_176 rfl (Nat.le_of_ble_eq_true rfl) [1, 2, 0] rfl ?_
    refine ea_aload_n (pc := 177) dX12_act_177 rfl 0 rfl ?_
    refine ea_dup (pc := 178) dX12_act_178 rfl ?_
    obtain ⟨f11, g12, H⟩ := H
    refine ea_deref0 e10 ?_
    refine ea_getI (pc := 179) dX12_act_179 ec_12 (k := 25) (Nat.le_of_ble_eq_true rfl) rfl (Or.inl ew_1370) f11 g12 ?_
    refine ea_iconst (pc := 182) dX12_act_182 (v := 1) rfl ?_
    refine ea_iadd (pc := 183) dX12_act_183 ?_
    obtain ⟨f13, g14, H⟩ := H
    refine ea_deref1 e10 ?_
    refine ea_putI (pc := 184) dX12_act_184 ec_12 (k := 25) (Nat.le_of_ble_eq_true rfl) rfl (Or.inl ⟨rfl, Or.inl ew_1370⟩) rfl rfl f13 g14 ?_
    obtain ⟨h15, E16⟩ : ∃ z, z = ea_wi h5 a9 25 ((ea_i h5 a9 25) + (1 : Int32)) := ⟨_, rfl⟩
    have H := H h15 E16
    refine ea_nm E16 ?_
    refine ea_aload_n (pc := 187) dX12_act_187 rfl 0 rfl ?_
    obtain ⟨f17, g18, H⟩ := H
    refine ea_deref0 e10 ?_
    refine ea_getR (pc := 188) dX12_act_188 ec_12 (k := 26) (Nat.le_of_ble_eq_true rfl) rfl (Or.inl ew_1371) f17 g18 rfl ?_
    refine ea_iload_n (pc := 191) dX12_act_191 rfl 2 rfl ?_
    refine ea_iload_n (pc := 192) dX12_act_192 rfl 1 rfl ?_
    obtain ⟨a21, e22, f19, g20, H⟩ := H
    refine ea_deref2 e22 ?_
    obtain ⟨z23, H⟩ := H
    refine ea_iast (pc := 193) dX12_act_193 f19 g20 z23 ?_
    obtain ⟨h24, E25⟩ : ∃ z, z = ea_wi h15 a21 (Int32.toNatClampNeg (ea_i h5 a9 25)) x1 := ⟨_, rfl⟩
    have H := H h24 E25
    refine ea_nm E25 ?_
    refine ea_aload_n (pc := 194) dX12_act_194 rfl 0 rfl ?_
    obtain ⟨f26, g27, H⟩ := H
    refine ea_deref0 e10 ?_
    refine ea_getR (pc := 195) dX12_act_195 ec_12 (k := 27) (Nat.le_of_ble_eq_true rfl) rfl (Or.inl ew_1372) f26 g27 rfl ?_
    refine ea_iload_n (pc := 198) dX12_act_198 rfl 2 rfl ?_
    refine ea_aload_n (pc := 199) dX12_act_199 rfl 0 rfl ?_
    obtain ⟨f28, g29, H⟩ := H
    refine ea_deref0 e10 ?_
    refine ea_getI (pc := 200) dX12_act_200 ec_12 (k := 43) (Nat.le_of_ble_eq_true rfl) rfl (Or.inl ew_1388) f28 g29 ?_
    obtain ⟨a32, e33, f30, g31, H⟩ := H
    refine ea_deref2 e33 ?_
    obtain ⟨z34, H⟩ := H
    refine ea_iast (pc := 203) dX12_act_203 f30 g31 z34 ?_
    obtain ⟨h35, E36⟩ : ∃ z, z = ea_wi h24 a32 (Int32.toNatClampNeg (ea_i h5 a9 25)) (ea_i h24 a9 43) := ⟨_, rfl⟩
    have H := H h35 E36
    refine ea_nm E36 ?_
    refine ea_aload_n (pc := 204) dX12_act_204 rfl 0 rfl ?_
    obtain ⟨f37, g38, H⟩ := H
    refine ea_deref0 e10 ?_
    refine ea_getR (pc := 205) dX12_act_205 ec_12 (k := 28) (Nat.le_of_ble_eq_true rfl) rfl (Or.inl ew_1373) f37 g38 rfl ?_
    refine ea_iload_n (pc := 208) dX12_act_208 rfl 2 rfl ?_
    refine ea_aload_n (pc := 209) dX12_act_209 rfl 0 rfl ?_
    obtain ⟨f39, g40, H⟩ := H
    refine ea_deref0 e10 ?_
    refine ea_getI (pc := 210) dX12_act_210 ec_12 (k := 46) (Nat.le_of_ble_eq_true rfl) rfl (Or.inl ew_1391) f39 g40 ?_
    obtain ⟨a43, e44, f41, g42, H⟩ := H
    refine ea_deref2 e44 ?_
    obtain ⟨z45, H⟩ := H
    refine ea_iast (pc := 213) dX12_act_213 f41 g42 z45 ?_
    obtain ⟨h46, E47⟩ : ∃ z, z = ea_wi h35 a43 (Int32.toNatClampNeg (ea_i h5 a9 25)) (ea_i h35 a9 46) := ⟨_, rfl⟩
    have H := H h46 E47
    refine ea_nm E47 ?_
    refine ea_aload_n (pc := 214) dX12_act_214 rfl 0 rfl ?_
    obtain ⟨f48, g49, H⟩ := H
    refine ea_deref0 e10 ?_
    refine ea_getR (pc := 215) dX12_act_215 ec_12 (k := 29) (Nat.le_of_ble_eq_true rfl) rfl (Or.inl ew_1374) f48 g49 rfl ?_
    refine ea_iload_n (pc := 218) dX12_act_218 rfl 2 rfl ?_
    refine ea_aload_n (pc := 219) dX12_act_219 rfl 0 rfl ?_
    obtain ⟨f50, g51, H⟩ := H
    refine ea_deref0 e10 ?_
    refine ea_getI (pc := 220) dX12_act_220 ec_12 (k := 47) (Nat.le_of_ble_eq_true rfl) rfl (Or.inl ew_1392) f50 g51 ?_
    obtain ⟨a54, e55, f52, g53, H⟩ := H
    refine ea_deref2 e55 ?_
    obtain ⟨z56, H⟩ := H
    refine ea_iast (pc := 223) dX12_act_223 f52 g53 z56 ?_
    obtain ⟨h57, E58⟩ : ∃ z, z = ea_wi h46 a54 (Int32.toNatClampNeg (ea_i h5 a9 25)) (ea_i h46 a9 47) := ⟨_, rfl⟩
    have H := H h57 E58
    refine ea_nm E58 ?_
    refine ea_aload_n (pc := 224) dX12_act_224 rfl 0 rfl ?_
    obtain ⟨f59, g60, H⟩ := H
    refine ea_deref0 e10 ?_
    refine ea_getR (pc := 225) dX12_act_225 ec_12 (k := 30) (Nat.le_of_ble_eq_true rfl) rfl (Or.inl ew_1375) f59 g60 rfl ?_
    refine ea_iload_n (pc := 228) dX12_act_228 rfl 2 rfl ?_
    refine ea_aload_n (pc := 229) dX12_act_229 rfl 0 rfl ?_
    obtain ⟨f61, g62, H⟩ := H
    refine ea_deref0 e10 ?_
    refine ea_getI (pc := 230) dX12_act_230 ec_12 (k := 48) (Nat.le_of_ble_eq_true rfl) rfl (Or.inl ew_1393) f61 g62 ?_
    obtain ⟨a65, e66, f63, g64, H⟩ := H
    refine ea_deref2 e66 ?_
    obtain ⟨z67, H⟩ := H
    refine ea_iast (pc := 233) dX12_act_233 f63 g64 z67 ?_
    obtain ⟨h68, E69⟩ : ∃ z, z = ea_wi h57 a65 (Int32.toNatClampNeg (ea_i h5 a9 25)) (ea_i h57 a9 48) := ⟨_, rfl⟩
    have H := H h68 E69
    refine ea_nm E69 ?_
    refine ea_aload_n (pc := 234) dX12_act_234 rfl 0 rfl ?_
    obtain ⟨f70, g71, H⟩ := H
    refine ea_deref0 e10 ?_
    refine ea_getR (pc := 235) dX12_act_235 ec_12 (k := 31) (Nat.le_of_ble_eq_true rfl) rfl (Or.inl ew_1376) f70 g71 rfl ?_
    refine ea_iload_n (pc := 238) dX12_act_238 rfl 2 rfl ?_
    refine ea_aload_n (pc := 239) dX12_act_239 rfl 0 rfl ?_
    obtain ⟨f72, g73, H⟩ := H
    refine ea_deref0 e10 ?_
    refine ea_getI (pc := 240) dX12_act_240 ec_12 (k := 49) (Nat.le_of_ble_eq_true rfl) rfl (Or.inl ew_1394) f72 g73 ?_
    obtain ⟨a76, e77, f74, g75, H⟩ := H
    refine ea_deref2 e77 ?_
    obtain ⟨z78, H⟩ := H
    refine ea_iast (pc := 243) dX12_act_243 f74 g75 z78 ?_
    obtain ⟨h79, E80⟩ : ∃ z, z = ea_wi h68 a76 (Int32.toNatClampNeg (ea_i h5 a9 25)) (ea_i h68 a9 49) := ⟨_, rfl⟩
    have H := H h79 E80
    refine ea_nm E80 ?_
    refine ea_aload_n (pc := 244) dX12_act_244 rfl 0 rfl ?_
    obtain ⟨f81, g82, H⟩ := H
    refine ea_deref0 e10 ?_
    refine ea_getR (pc := 245) dX12_act_245 ec_12 (k := 32) (Nat.le_of_ble_eq_true rfl) rfl (Or.inl ew_1377) f81 g82 rfl ?_
    refine ea_iload_n (pc := 248) dX12_act_248 rfl 2 rfl ?_
    refine ea_aload_n (pc := 249) dX12_act_249 rfl 0 rfl ?_
    obtain ⟨f83, g84, H⟩ := H
    refine ea_deref0 e10 ?_
    refine ea_getI (pc := 250) dX12_act_250 ec_12 (k := 50) (Nat.le_of_ble_eq_true rfl) rfl (Or.inl ew_1395) f83 g84 ?_
    obtain ⟨a87, e88, f85, g86, H⟩ := H
    refine ea_deref2 e88 ?_
    obtain ⟨z89, H⟩ := H
    refine ea_iast (pc := 253) dX12_act_253 f85 g86 z89 ?_
    obtain ⟨h90, E91⟩ : ∃ z, z = ea_wi h79 a87 (Int32.toNatClampNeg (ea_i h5 a9 25)) (ea_i h79 a9 50) := ⟨_, rfl⟩
    have H := H h90 E91
    refine ea_nm E91 ?_
    refine ea_aload_n (pc := 254) dX12_act_254 rfl 0 rfl ?_
    obtain ⟨f92, g93, H⟩ := H
    refine ea_deref0 e10 ?_
    refine ea_getR (pc := 255) dX12_act_255 ec_12 (k := 33) (Nat.le_of_ble_eq_true rfl) rfl (Or.inl ew_1378) f92 g93 rfl ?_
    refine ea_iload_n (pc := 258) dX12_act_258 rfl 2 rfl ?_
    refine ea_aload_n (pc := 259) dX12_act_259 rfl 0 rfl ?_
    obtain ⟨f94, g95, H⟩ := H
    refine ea_deref0 e10 ?_
    refine ea_getI (pc := 260) dX12_act_260 ec_12 (k := 51) (Nat.le_of_ble_eq_true rfl) rfl (Or.inl ew_1396) f94 g95 ?_
    obtain ⟨a98, e99, f96, g97, H⟩ := H
    refine ea_deref2 e99 ?_
    obtain ⟨z100, H⟩ := H
    refine ea_iast (pc := 263) dX12_act_263 f96 g97 z100 ?_
    obtain ⟨h101, E102⟩ : ∃ z, z = ea_wi h90 a98 (Int32.toNatClampNeg (ea_i h5 a9 25)) (ea_i h90 a9 51) := ⟨_, rfl⟩
    have H := H h101 E102
    refine ea_nm E102 ?_
    refine ea_aload_n (pc := 264) dX12_act_264 rfl 0 rfl ?_
    obtain ⟨f103, g104, H⟩ := H
    refine ea_deref0 e10 ?_
    refine ea_getR (pc := 265) dX12_act_265 ec_12 (k := 34) (Nat.le_of_ble_eq_true rfl) rfl (Or.inl ew_1379) f103 g104 rfl ?_
    refine ea_iload_n (pc := 268) dX12_act_268 rfl 2 rfl ?_
    refine ea_aload_n (pc := 269) dX12_act_269 rfl 0 rfl ?_
    obtain ⟨f105, g106, H⟩ := H
    refine ea_deref0 e10 ?_
    refine ea_getI (pc := 270) dX12_act_270 ec_12 (k := 44) (Nat.le_of_ble_eq_true rfl) rfl (Or.inl ew_1389) f105 g106 ?_
    obtain ⟨a109, e110, f107, g108, H⟩ := H
    refine ea_deref2 e110 ?_
    obtain ⟨z111, H⟩ := H
    refine ea_iast (pc := 273) dX12_act_273 f107 g108 z111 ?_
    obtain ⟨h112, E113⟩ : ∃ z, z = ea_wi h101 a109 (Int32.toNatClampNeg (ea_i h5 a9 25)) (ea_i h101 a9 44) := ⟨_, rfl⟩
    have H := H h112 E113
    refine ea_nm E113 ?_
    refine ea_iconst (pc := 274) dX12_act_274 (v := 0) rfl ?_
    refine ea_istore (pc := 275) (lv' := [(0, vR r0), (3, vI (ea_i h5 a9 25)), (4, vI 0)]) dX12_act_275 (Nat.le_of_ble_eq_true rfl) [1, 3, 0] rfl ?_
    exact H
  · have H := H.2 c114
    refine ea_iconst (pc := 170) dX12_act_170 (v := (-1)) rfl ?_
    obtain ⟨rfl, rfl⟩ := H
    exact ea_ireturn (pc := 171) dX12_act_171 rfl rfl
theorem bX12_act_277 {d : Nat} {h0 hE h : ea_H} {rv : Option ea_V} {r0 : Option Nat} {x3 : Int32} {x4 : Int32} (H : ∃ a3, r0 = some a3 ∧ a3 < ea_n h ∧ ea_c h a3 = 12 ∧ ((ea_i h a3 44) ≤ x4 → a3 < ea_n h ∧ ea_c h a3 = 12 ∧ a3 < ea_n h ∧ ea_c h a3 = 12 ∧ a3 < ea_n h ∧ ea_c h a3 = 12 ∧ ∃ a13, (ea_r h a3 35) = some a13 ∧ a13 < ea_n h ∧ ea_c h a13 = 20 ∧ vp_in (((25 : Int32) * x3) + (ea_i h a3 44)) (ea_l h a13) ∧ ∀ h16, h16 = ea_wi h a13 (Int32.toNatClampNeg (((25 : Int32) * x3) + (ea_i h a3 44))) (ea_i h a3 45) → ea_W mX12_act d h0 rv hE 351 [(0, vR r0), (3, vI x3), (4, vI 0)] [] h16) ∧ (¬ (ea_i h a3 44) ≤ x4 → a3 < ea_n h ∧ ea_c h a3 = 12 ∧ a3 < ea_n h ∧ ea_c h a3 = 12 ∧ ∃ a24, (ea_r h a3 38) = some a24 ∧ a24 < ea_n h ∧ ea_c h a24 = 20 ∧ vp_in x4 (ea_l h a24) ∧ ∃ a29, (ea_r h a3 35) = some a29 ∧ a29 < ea_n h ∧ ea_c h a29 = 20 ∧ vp_in (((25 : Int32) * x3) + x4) (ea_l h a29) ∧ ∀ h32, h32 = ea_wi h a29 (Int32.toNatClampNeg (((25 : Int32) * x3) + x4)) (ea_i h a24 (Int32.toNatClampNeg x4)) → a3 < ea_n h32 ∧ ea_c h32 a3 = 12 ∧ a3 < ea_n h32 ∧ ea_c h32 a3 = 12 ∧ ∃ a40, (ea_r h32 a3 39) = some a40 ∧ a40 < ea_n h32 ∧ ea_c h32 a40 = 20 ∧ vp_in x4 (ea_l h32 a40) ∧ ∃ a45, (ea_r h32 a3 36) = some a45 ∧ a45 < ea_n h32 ∧ ea_c h32 a45 = 20 ∧ vp_in (((24 : Int32) * x3) + x4) (ea_l h32 a45) ∧ ∀ h48, h48 = ea_wi h32 a45 (Int32.toNatClampNeg (((24 : Int32) * x3) + x4)) (ea_i h32 a40 (Int32.toNatClampNeg x4)) → ea_W mX12_act d h0 rv hE 277 [(0, vR r0), (3, vI x3), (4, vI (x4 + 1))] [] h48)) : ea_W mX12_act d h0 rv hE 277 [(0, vR r0), (3, vI x3), (4, vI x4)] [] h := by
  refine ea_iload (pc := 277) dX12_act_277 2 rfl ?_
  refine ea_aload_n (pc := 279) dX12_act_279 rfl 0 rfl ?_
  obtain ⟨a3, e4, f1, g2, H⟩ := H
  refine ea_deref0 e4 ?_
  refine ea_getI (pc := 280) dX12_act_280 ec_12 (k := 44) (Nat.le_of_ble_eq_true rfl) rfl (Or.inl ew_1389) f1 g2 ?_
  refine ea_icmp_ge (pc := 283) (tgt := 330) dX12_act_283 rfl (fun c50 => ?_) (fun c50 => ?_)
  · have H := H.1 c50
    refine ea_aload_n (pc := 330) dX12_act_330 rfl 0 rfl ?_
    obtain ⟨f5, g6, H⟩ := H
    refine ea_deref0 e4 ?_
    refine ea_getR (pc := 331) dX12_act_331 ec_12 (k := 35) (Nat.le_of_ble_eq_true rfl) rfl (Or.inl ew_1380) f5 g6 rfl ?_
    refine ea_bipush (pc := 334) dX12_act_334 (v := 25) rfl ?_
    refine ea_iload_n (pc := 336) dX12_act_336 rfl 1 rfl ?_
    refine ea_imul (pc := 337) dX12_act_337 ?_
    refine ea_aload_n (pc := 338) dX12_act_338 rfl 0 rfl ?_
    obtain ⟨f7, g8, H⟩ := H
    refine ea_deref0 e4 ?_
    refine ea_getI (pc := 339) dX12_act_339 ec_12 (k := 44) (Nat.le_of_ble_eq_true rfl) rfl (Or.inl ew_1389) f7 g8 ?_
    refine ea_iadd (pc := 342) dX12_act_342 ?_
    refine ea_aload_n (pc := 343) dX12_act_343 rfl 0 rfl ?_
    obtain ⟨f9, g10, H⟩ := H
    refine ea_deref0 e4 ?_
    refine ea_getI (pc := 344) dX12_act_344 ec_12 (k := 45) (Nat.le_of_ble_eq_true rfl) rfl (Or.inl ew_1390) f9 g10 ?_
    obtain ⟨a13, e14, f11, g12, H⟩ := H
    refine ea_deref2 e14 ?_
    obtain ⟨z15, H⟩ := H
    refine ea_iast (pc := 347) dX12_act_347 f11 g12 z15 ?_
    obtain ⟨h16, E17⟩ : ∃ z, z = ea_wi h a13 (Int32.toNatClampNeg (((25 : Int32) * x3) + (ea_i h a3 44))) (ea_i h a3 45) := ⟨_, rfl⟩
    have H := H h16 E17
    refine ea_nm E17 ?_
    refine ea_iconst (pc := 348) dX12_act_348 (v := 0) rfl ?_
    refine ea_istore (pc := 349) (lv' := [(0, vR r0), (3, vI x3), (4, vI 0)]) dX12_act_349 (Nat.le_of_ble_eq_true rfl) [1, 2, 0] rfl ?_
    exact H
  · have H := H.2 c50
    refine ea_aload_n (pc := 286) dX12_act_286 rfl 0 rfl ?_
    obtain ⟨f18, g19, H⟩ := H
    refine ea_deref0 e4 ?_
    refine ea_getR (pc := 287) dX12_act_287 ec_12 (k := 35) (Nat.le_of_ble_eq_true rfl) rfl (Or.inl ew_1380) f18 g19 rfl ?_
    refine ea_bipush (pc := 290) dX12_act_290 (v := 25) rfl ?_
    refine ea_iload_n (pc := 292) dX12_act_292 rfl 1 rfl ?_
    refine ea_imul (pc := 293) dX12_act_293 ?_
    refine ea_iload (pc := 294) dX12_act_294 2 rfl ?_
    refine ea_iadd (pc := 296) dX12_act_296 ?_
    refine ea_aload_n (pc := 297) dX12_act_297 rfl 0 rfl ?_
    obtain ⟨f20, g21, H⟩ := H
    refine ea_deref0 e4 ?_
    refine ea_getR (pc := 298) dX12_act_298 ec_12 (k := 38) (Nat.le_of_ble_eq_true rfl) rfl (Or.inl ew_1383) f20 g21 rfl ?_
    refine ea_iload (pc := 301) dX12_act_301 2 rfl ?_
    obtain ⟨a24, e25, f22, g23, H⟩ := H
    refine ea_deref1 e25 ?_
    obtain ⟨z26, H⟩ := H
    refine ea_iald (pc := 303) dX12_act_303 f22 g23 z26 ?_
    obtain ⟨a29, e30, f27, g28, H⟩ := H
    refine ea_deref2 e30 ?_
    obtain ⟨z31, H⟩ := H
    refine ea_iast (pc := 304) dX12_act_304 f27 g28 z31 ?_
    obtain ⟨h32, E33⟩ : ∃ z, z = ea_wi h a29 (Int32.toNatClampNeg (((25 : Int32) * x3) + x4)) (ea_i h a24 (Int32.toNatClampNeg x4)) := ⟨_, rfl⟩
    have H := H h32 E33
    refine ea_nm E33 ?_
    refine ea_aload_n (pc := 305) dX12_act_305 rfl 0 rfl ?_
    obtain ⟨f34, g35, H⟩ := H
    refine ea_deref0 e4 ?_
    refine ea_getR (pc := 306) dX12_act_306 ec_12 (k := 36) (Nat.le_of_ble_eq_true rfl) rfl (Or.inl ew_1381) f34 g35 rfl ?_
    refine ea_bipush (pc := 309) dX12_act_309 (v := 24) rfl ?_
    refine ea_iload_n (pc := 311) dX12_act_311 rfl 1 rfl ?_
    refine ea_imul (pc := 312) dX12_act_312 ?_
    refine ea_iload (pc := 313) dX12_act_313 2 rfl ?_
    refine ea_iadd (pc := 315) dX12_act_315 ?_
    refine ea_aload_n (pc := 316) dX12_act_316 rfl 0 rfl ?_
    obtain ⟨f36, g37, H⟩ := H
    refine ea_deref0 e4 ?_
    refine ea_getR (pc := 317) dX12_act_317 ec_12 (k := 39) (Nat.le_of_ble_eq_true rfl) rfl (Or.inl ew_1384) f36 g37 rfl ?_
    refine ea_iload (pc := 320) dX12_act_320 2 rfl ?_
    obtain ⟨a40, e41, f38, g39, H⟩ := H
    refine ea_deref1 e41 ?_
    obtain ⟨z42, H⟩ := H
    refine ea_iald (pc := 322) dX12_act_322 f38 g39 z42 ?_
    obtain ⟨a45, e46, f43, g44, H⟩ := H
    refine ea_deref2 e46 ?_
    obtain ⟨z47, H⟩ := H
    refine ea_iast (pc := 323) dX12_act_323 f43 g44 z47 ?_
    obtain ⟨h48, E49⟩ : ∃ z, z = ea_wi h32 a45 (Int32.toNatClampNeg (((24 : Int32) * x3) + x4)) (ea_i h32 a40 (Int32.toNatClampNeg x4)) := ⟨_, rfl⟩
    have H := H h48 E49
    refine ea_nm E49 ?_
    refine ea_iinc (pc := 324) (v := 1) (lv' := [(0, vR r0), (3, vI x3), (4, vI (x4 + 1))]) dX12_act_324 2 rfl rfl (Nat.le_of_ble_eq_true rfl) [1, 2, 0] rfl ?_
    refine ea_goto (pc := 327) (tgt := 277) dX12_act_327 rfl ?_
    exact H
theorem bX12_act_351 {d : Nat} {h0 hE h : ea_H} {rv : Option ea_V} {r0 : Option Nat} {x3 : Int32} {x4 : Int32} (H : ∃ a3, r0 = some a3 ∧ a3 < ea_n h ∧ ea_c h a3 = 12 ∧ (((2 : Int32) * (ea_i h a3 45)) ≤ x4 → rv = some (vI x3) ∧ hE = h) ∧ (¬ ((2 : Int32) * (ea_i h a3 45)) ≤ x4 → a3 < ea_n h ∧ ea_c h a3 = 12 ∧ a3 < ea_n h ∧ ea_c h a3 = 12 ∧ ∃ a11, (ea_r h a3 40) = some a11 ∧ a11 < ea_n h ∧ ea_c h a11 = 20 ∧ vp_in x4 (ea_l h a11) ∧ ∃ a16, (ea_r h a3 37) = some a16 ∧ a16 < ea_n h ∧ ea_c h a16 = 20 ∧ vp_in (((1220 : Int32) * x3) + x4) (ea_l h a16) ∧ ∀ h19, h19 = ea_wi h a16 (Int32.toNatClampNeg (((1220 : Int32) * x3) + x4)) (ea_i h a11 (Int32.toNatClampNeg x4)) → ea_W mX12_act d h0 rv hE 351 [(0, vR r0), (3, vI x3), (4, vI (x4 + 1))] [] h19)) : ea_W mX12_act d h0 rv hE 351 [(0, vR r0), (3, vI x3), (4, vI x4)] [] h := by
  refine ea_iload (pc := 351) dX12_act_351 2 rfl ?_
  refine ea_iconst (pc := 353) dX12_act_353 (v := 2) rfl ?_
  refine ea_aload_n (pc := 354) dX12_act_354 rfl 0 rfl ?_
  obtain ⟨a3, e4, f1, g2, H⟩ := H
  refine ea_deref0 e4 ?_
  refine ea_getI (pc := 355) dX12_act_355 ec_12 (k := 45) (Nat.le_of_ble_eq_true rfl) rfl (Or.inl ew_1390) f1 g2 ?_
  refine ea_imul (pc := 358) dX12_act_358 ?_
  refine ea_icmp_ge (pc := 359) (tgt := 388) dX12_act_359 rfl (fun c21 => ?_) (fun c21 => ?_)
  · have H := H.1 c21
    refine ea_iload_n (pc := 388) dX12_act_388 rfl 1 rfl ?_
    obtain ⟨rfl, rfl⟩ := H
    exact ea_ireturn (pc := 389) dX12_act_389 rfl rfl
  · have H := H.2 c21
    refine ea_aload_n (pc := 362) dX12_act_362 rfl 0 rfl ?_
    obtain ⟨f5, g6, H⟩ := H
    refine ea_deref0 e4 ?_
    refine ea_getR (pc := 363) dX12_act_363 ec_12 (k := 37) (Nat.le_of_ble_eq_true rfl) rfl (Or.inl ew_1382) f5 g6 rfl ?_
    refine ea_sipush (pc := 366) dX12_act_366 (v := 1220) rfl ?_
    refine ea_iload_n (pc := 369) dX12_act_369 rfl 1 rfl ?_
    refine ea_imul (pc := 370) dX12_act_370 ?_
    refine ea_iload (pc := 371) dX12_act_371 2 rfl ?_
    refine ea_iadd (pc := 373) dX12_act_373 ?_
    refine ea_aload_n (pc := 374) dX12_act_374 rfl 0 rfl ?_
    obtain ⟨f7, g8, H⟩ := H
    refine ea_deref0 e4 ?_
    refine ea_getR (pc := 375) dX12_act_375 ec_12 (k := 40) (Nat.le_of_ble_eq_true rfl) rfl (Or.inl ew_1385) f7 g8 rfl ?_
    refine ea_iload (pc := 378) dX12_act_378 2 rfl ?_
    obtain ⟨a11, e12, f9, g10, H⟩ := H
    refine ea_deref1 e12 ?_
    obtain ⟨z13, H⟩ := H
    refine ea_iald (pc := 380) dX12_act_380 f9 g10 z13 ?_
    obtain ⟨a16, e17, f14, g15, H⟩ := H
    refine ea_deref2 e17 ?_
    obtain ⟨z18, H⟩ := H
    refine ea_iast (pc := 381) dX12_act_381 f14 g15 z18 ?_
    obtain ⟨h19, E20⟩ : ∃ z, z = ea_wi h a16 (Int32.toNatClampNeg (((1220 : Int32) * x3) + x4)) (ea_i h a11 (Int32.toNatClampNeg x4)) := ⟨_, rfl⟩
    have H := H h19 E20
    refine ea_nm E20 ?_
    refine ea_iinc (pc := 382) (v := 1) (lv' := [(0, vR r0), (3, vI x3), (4, vI (x4 + 1))]) dX12_act_382 2 rfl rfl (Nat.le_of_ble_eq_true rfl) [1, 2, 0] rfl ?_
    refine ea_goto (pc := 385) (tgt := 351) dX12_act_385 rfl ?_
    exact H
theorem dX12_fault_0 : decode cX12_fault 0 = .ok (.iload_n 1, 1) := by decide +kernel
theorem dX12_fault_1 : decode cX12_fault 1 = .ok (.ifCond .ne 10, 3) := by decide +kernel
theorem dX12_fault_4 : decode cX12_fault 4 = .ok (.aload_n 0, 1) := by decide +kernel
theorem dX12_fault_5 : decode cX12_fault 5 = .ok (.getfield 519, 3) := by decide +kernel
theorem dX12_fault_8 : decode cX12_fault 8 = .ok (.goto 16, 3) := by decide +kernel
theorem dX12_fault_11 : decode cX12_fault 11 = .ok (.iload_n 1, 1) := by decide +kernel
theorem dX12_fault_12 : decode cX12_fault 12 = .ok (.iconst 1, 1) := by decide +kernel
theorem dX12_fault_13 : decode cX12_fault 13 = .ok (.if_icmp .ne 10, 3) := by decide +kernel
theorem dX12_fault_16 : decode cX12_fault 16 = .ok (.aload_n 0, 1) := by decide +kernel
theorem dX12_fault_17 : decode cX12_fault 17 = .ok (.getfield 122, 3) := by decide +kernel
theorem dX12_fault_20 : decode cX12_fault 20 = .ok (.goto 4, 3) := by decide +kernel
theorem dX12_fault_23 : decode cX12_fault 23 = .ok (.iconst (-1), 1) := by decide +kernel
theorem dX12_fault_24 : decode cX12_fault 24 = .ok (.ireturn, 1) := by decide +kernel
theorem bX12_fault_0 {d : Nat} {h0 hE h : ea_H} {rv : Option ea_V} {r0 : Option Nat} {x1 : Int32} (H : (¬ x1 = (0 : Int32) → (¬ x1 = (1 : Int32) → rv = some (vI (-1)) ∧ hE = h) ∧ (x1 = (1 : Int32) → ∃ a3, r0 = some a3 ∧ a3 < ea_n h ∧ ea_c h a3 = 12 ∧ rv = some (vI (ea_i h a3 62)) ∧ hE = h)) ∧ (x1 = (0 : Int32) → ∃ a8, r0 = some a8 ∧ a8 < ea_n h ∧ ea_c h a8 = 12 ∧ rv = some (vI (ea_i h a8 59)) ∧ hE = h)) : ea_W mX12_fault d h0 rv hE 0 [(0, vR r0), (1, vI x1)] [] h := by
  refine ea_iload_n (pc := 0) dX12_fault_0 rfl 1 rfl ?_
  refine ea_if_ne (pc := 1) (tgt := 11) dX12_fault_1 rfl (fun c10 => ?_) (fun c10 => ?_)
  · have H := H.1 c10
    refine ea_iload_n (pc := 11) dX12_fault_11 rfl 1 rfl ?_
    refine ea_iconst (pc := 12) dX12_fault_12 (v := 1) rfl ?_
    refine ea_icmp_ne (pc := 13) (tgt := 23) dX12_fault_13 rfl (fun c5 => ?_) (fun c5 => ?_)
    · have H := H.1 c5
      refine ea_iconst (pc := 23) dX12_fault_23 (v := (-1)) rfl ?_
      obtain ⟨rfl, rfl⟩ := H
      exact ea_ireturn (pc := 24) dX12_fault_24 rfl rfl
    · have H := H.2 c5
      refine ea_aload_n (pc := 16) dX12_fault_16 rfl 0 rfl ?_
      obtain ⟨a3, e4, f1, g2, H⟩ := H
      refine ea_deref0 e4 ?_
      refine ea_getI (pc := 17) dX12_fault_17 ec_12 (k := 62) (Nat.le_of_ble_eq_true rfl) rfl (Or.inl ew_1407) f1 g2 ?_
      refine ea_goto (pc := 20) (tgt := 24) dX12_fault_20 rfl ?_
      obtain ⟨rfl, rfl⟩ := H
      exact ea_ireturn (pc := 24) dX12_fault_24 rfl rfl
  · have H := H.2 c10
    refine ea_aload_n (pc := 4) dX12_fault_4 rfl 0 rfl ?_
    obtain ⟨a8, e9, f6, g7, H⟩ := H
    refine ea_deref0 e9 ?_
    refine ea_getI (pc := 5) dX12_fault_5 ec_12 (k := 59) (Nat.le_of_ble_eq_true rfl) rfl (Or.inl ew_1404) f6 g7 ?_
    refine ea_goto (pc := 8) (tgt := 24) dX12_fault_8 rfl ?_
    obtain ⟨rfl, rfl⟩ := H
    exact ea_ireturn (pc := 24) dX12_fault_24 rfl rfl
theorem dX12_actOn_0 : decode cX12_actOn 0 = .ok (.aload_n 0, 1) := by decide +kernel
theorem dX12_actOn_1 : decode cX12_actOn 1 = .ok (.getfield 522, 3) := by decide +kernel
theorem dX12_actOn_4 : decode cX12_actOn 4 = .ok (.iconst 1, 1) := by decide +kernel
theorem dX12_actOn_5 : decode cX12_actOn 5 = .ok (.isub, 1) := by decide +kernel
theorem dX12_actOn_6 : decode cX12_actOn 6 = .ok (.istore_n 2, 1) := by decide +kernel
theorem dX12_actOn_7 : decode cX12_actOn 7 = .ok (.iload_n 2, 1) := by decide +kernel
theorem dX12_actOn_8 : decode cX12_actOn 8 = .ok (.ifCond .lt 19, 3) := by decide +kernel
theorem dX12_actOn_11 : decode cX12_actOn 11 = .ok (.aload_n 0, 1) := by decide +kernel
theorem dX12_actOn_12 : decode cX12_actOn 12 = .ok (.getfield 71, 3) := by decide +kernel
theorem dX12_actOn_15 : decode cX12_actOn 15 = .ok (.iload_n 2, 1) := by decide +kernel
theorem dX12_actOn_16 : decode cX12_actOn 16 = .ok (.iaload, 1) := by decide +kernel
theorem dX12_actOn_17 : decode cX12_actOn 17 = .ok (.iload_n 1, 1) := by decide +kernel
theorem dX12_actOn_18 : decode cX12_actOn 18 = .ok (.if_icmp .le 9, 3) := by decide +kernel
theorem dX12_actOn_21 : decode cX12_actOn 21 = .ok (.iinc 2 (-1), 3) := by decide +kernel
theorem dX12_actOn_24 : decode cX12_actOn 24 = .ok (.goto (-17), 3) := by decide +kernel
theorem dX12_actOn_27 : decode cX12_actOn 27 = .ok (.iload_n 2, 1) := by decide +kernel
theorem dX12_actOn_28 : decode cX12_actOn 28 = .ok (.ireturn, 1) := by decide +kernel
theorem bX12_actOn_0 {d : Nat} {h0 hE h : ea_H} {rv : Option ea_V} {r0 : Option Nat} {x1 : Int32} (H : ∃ a3, r0 = some a3 ∧ a3 < ea_n h ∧ ea_c h a3 = 12 ∧ ea_W mX12_actOn d h0 rv hE 7 [(0, vR r0), (1, vI x1), (2, vI ((ea_i h a3 25) - (1 : Int32)))] [] h) : ea_W mX12_actOn d h0 rv hE 0 [(0, vR r0), (1, vI x1)] [] h := by
  refine ea_aload_n (pc := 0) dX12_actOn_0 rfl 0 rfl ?_
  obtain ⟨a3, e4, f1, g2, H⟩ := H
  refine ea_deref0 e4 ?_
  refine ea_getI (pc := 1) dX12_actOn_1 ec_12 (k := 25) (Nat.le_of_ble_eq_true rfl) rfl (Or.inl ew_1370) f1 g2 ?_
  refine ea_iconst (pc := 4) dX12_actOn_4 (v := 1) rfl ?_
  refine ea_isub (pc := 5) dX12_actOn_5 ?_
  refine ea_istore_n (pc := 6) (lv' := [(0, vR r0), (1, vI x1), (2, vI ((ea_i h a3 25) - (1 : Int32)))]) dX12_actOn_6 rfl (Nat.le_of_ble_eq_true rfl) [1, 2, 0] rfl ?_
  exact H
theorem bX12_actOn_7 {d : Nat} {h0 hE h : ea_H} {rv : Option ea_V} {r0 : Option Nat} {x1 : Int32} {x2 : Int32} (H : (x2 < (0 : Int32) → rv = some (vI x2) ∧ hE = h) ∧ (¬ x2 < (0 : Int32) → ∃ a3, r0 = some a3 ∧ a3 < ea_n h ∧ ea_c h a3 = 12 ∧ ∃ a7, (ea_r h a3 26) = some a7 ∧ a7 < ea_n h ∧ ea_c h a7 = 20 ∧ vp_in x2 (ea_l h a7) ∧ ((ea_i h a7 (Int32.toNatClampNeg x2)) ≤ x1 → rv = some (vI x2) ∧ hE = h) ∧ (¬ (ea_i h a7 (Int32.toNatClampNeg x2)) ≤ x1 → ea_W mX12_actOn d h0 rv hE 7 [(0, vR r0), (1, vI x1), (2, vI (x2 + (-1)))] [] h))) : ea_W mX12_actOn d h0 rv hE 7 [(0, vR r0), (1, vI x1), (2, vI x2)] [] h := by
  refine ea_iload_n (pc := 7) dX12_actOn_7 rfl 2 rfl ?_
  refine ea_if_lt (pc := 8) (tgt := 27) dX12_actOn_8 rfl (fun c11 => ?_) (fun c11 => ?_)
  · have H := H.1 c11
    refine ea_iload_n (pc := 27) dX12_actOn_27 rfl 2 rfl ?_
    obtain ⟨rfl, rfl⟩ := H
    exact ea_ireturn (pc := 28) dX12_actOn_28 rfl rfl
  · have H := H.2 c11
    refine ea_aload_n (pc := 11) dX12_actOn_11 rfl 0 rfl ?_
    obtain ⟨a3, e4, f1, g2, H⟩ := H
    refine ea_deref0 e4 ?_
    refine ea_getR (pc := 12) dX12_actOn_12 ec_12 (k := 26) (Nat.le_of_ble_eq_true rfl) rfl (Or.inl ew_1371) f1 g2 rfl ?_
    refine ea_iload_n (pc := 15) dX12_actOn_15 rfl 2 rfl ?_
    obtain ⟨a7, e8, f5, g6, H⟩ := H
    refine ea_deref1 e8 ?_
    obtain ⟨z9, H⟩ := H
    refine ea_iald (pc := 16) dX12_actOn_16 f5 g6 z9 ?_
    refine ea_iload_n (pc := 17) dX12_actOn_17 rfl 1 rfl ?_
    refine ea_icmp_le (pc := 18) (tgt := 27) dX12_actOn_18 rfl (fun c10 => ?_) (fun c10 => ?_)
    · have H := H.1 c10
      refine ea_iload_n (pc := 27) dX12_actOn_27 rfl 2 rfl ?_
      obtain ⟨rfl, rfl⟩ := H
      exact ea_ireturn (pc := 28) dX12_actOn_28 rfl rfl
    · have H := H.2 c10
      refine ea_iinc (pc := 21) (v := (-1)) (lv' := [(0, vR r0), (1, vI x1), (2, vI (x2 + (-1)))]) dX12_actOn_21 2 rfl rfl (Nat.le_of_ble_eq_true rfl) [1, 2, 0] rfl ?_
      refine ea_goto (pc := 24) (tgt := 7) dX12_actOn_24 rfl ?_
      exact H
theorem dX12_inForce_0 : decode cX12_inForce 0 = .ok (.iload_n 1, 1) := by decide +kernel
theorem dX12_inForce_1 : decode cX12_inForce 1 = .ok (.invokestatic 316, 3) := by decide +kernel
theorem dX12_inForce_4 : decode cX12_inForce 4 = .ok (.ifCond .eq 11, 3) := by decide +kernel
theorem dX12_inForce_7 : decode cX12_inForce 7 = .ok (.aload_n 0, 1) := by decide +kernel
theorem dX12_inForce_8 : decode cX12_inForce 8 = .ok (.iload_n 1, 1) := by decide +kernel
theorem dX12_inForce_9 : decode cX12_inForce 9 = .ok (.invokevirtual 528, 3) := by decide +kernel
theorem dX12_inForce_12 : decode cX12_inForce 12 = .ok (.goto 4, 3) := by decide +kernel
theorem dX12_inForce_15 : decode cX12_inForce 15 = .ok (.iconst (-1), 1) := by decide +kernel
theorem dX12_inForce_16 : decode cX12_inForce 16 = .ok (.istore_n 3, 1) := by decide +kernel
theorem dX12_inForce_17 : decode cX12_inForce 17 = .ok (.iload_n 3, 1) := by decide +kernel
theorem dX12_inForce_18 : decode cX12_inForce 18 = .ok (.iconst (-1), 1) := by decide +kernel
theorem dX12_inForce_19 : decode cX12_inForce 19 = .ok (.if_icmp .ne 5, 3) := by decide +kernel
theorem dX12_inForce_22 : decode cX12_inForce 22 = .ok (.iconst (-1), 1) := by decide +kernel
theorem dX12_inForce_23 : decode cX12_inForce 23 = .ok (.ireturn, 1) := by decide +kernel
theorem dX12_inForce_24 : decode cX12_inForce 24 = .ok (.iload_n 2, 1) := by decide +kernel
theorem dX12_inForce_25 : decode cX12_inForce 25 = .ok (.tableswitch 98 0 7 #[47, 49, 56, 63, 70, 77, 84, 91], 47) := by decide +kernel
theorem dX12_inForce_72 : decode cX12_inForce 72 = .ok (.iload_n 3, 1) := by decide +kernel
theorem dX12_inForce_73 : decode cX12_inForce 73 = .ok (.ireturn, 1) := by decide +kernel
theorem dX12_inForce_74 : decode cX12_inForce 74 = .ok (.aload_n 0, 1) := by decide +kernel
theorem dX12_inForce_75 : decode cX12_inForce 75 = .ok (.getfield 74, 3) := by decide +kernel
theorem dX12_inForce_78 : decode cX12_inForce 78 = .ok (.iload_n 3, 1) := by decide +kernel
theorem dX12_inForce_79 : decode cX12_inForce 79 = .ok (.iaload, 1) := by decide +kernel
theorem dX12_inForce_80 : decode cX12_inForce 80 = .ok (.ireturn, 1) := by decide +kernel
theorem dX12_inForce_81 : decode cX12_inForce 81 = .ok (.aload_n 0, 1) := by decide +kernel
theorem dX12_inForce_82 : decode cX12_inForce 82 = .ok (.getfield 77, 3) := by decide +kernel
theorem dX12_inForce_85 : decode cX12_inForce 85 = .ok (.iload_n 3, 1) := by decide +kernel
theorem dX12_inForce_86 : decode cX12_inForce 86 = .ok (.iaload, 1) := by decide +kernel
theorem dX12_inForce_87 : decode cX12_inForce 87 = .ok (.ireturn, 1) := by decide +kernel
theorem dX12_inForce_88 : decode cX12_inForce 88 = .ok (.aload_n 0, 1) := by decide +kernel
theorem dX12_inForce_89 : decode cX12_inForce 89 = .ok (.getfield 80, 3) := by decide +kernel
theorem dX12_inForce_92 : decode cX12_inForce 92 = .ok (.iload_n 3, 1) := by decide +kernel
theorem dX12_inForce_93 : decode cX12_inForce 93 = .ok (.iaload, 1) := by decide +kernel
theorem dX12_inForce_94 : decode cX12_inForce 94 = .ok (.ireturn, 1) := by decide +kernel
theorem dX12_inForce_95 : decode cX12_inForce 95 = .ok (.aload_n 0, 1) := by decide +kernel
theorem dX12_inForce_96 : decode cX12_inForce 96 = .ok (.getfield 83, 3) := by decide +kernel
theorem dX12_inForce_99 : decode cX12_inForce 99 = .ok (.iload_n 3, 1) := by decide +kernel
theorem dX12_inForce_100 : decode cX12_inForce 100 = .ok (.iaload, 1) := by decide +kernel
theorem dX12_inForce_101 : decode cX12_inForce 101 = .ok (.ireturn, 1) := by decide +kernel
theorem dX12_inForce_102 : decode cX12_inForce 102 = .ok (.aload_n 0, 1) := by decide +kernel
theorem dX12_inForce_103 : decode cX12_inForce 103 = .ok (.getfield 86, 3) := by decide +kernel
theorem dX12_inForce_106 : decode cX12_inForce 106 = .ok (.iload_n 3, 1) := by decide +kernel
theorem dX12_inForce_107 : decode cX12_inForce 107 = .ok (.iaload, 1) := by decide +kernel
theorem dX12_inForce_108 : decode cX12_inForce 108 = .ok (.ireturn, 1) := by decide +kernel
theorem dX12_inForce_109 : decode cX12_inForce 109 = .ok (.aload_n 0, 1) := by decide +kernel
theorem dX12_inForce_110 : decode cX12_inForce 110 = .ok (.getfield 89, 3) := by decide +kernel
theorem dX12_inForce_113 : decode cX12_inForce 113 = .ok (.iload_n 3, 1) := by decide +kernel
theorem dX12_inForce_114 : decode cX12_inForce 114 = .ok (.iaload, 1) := by decide +kernel
theorem dX12_inForce_115 : decode cX12_inForce 115 = .ok (.ireturn, 1) := by decide +kernel
theorem dX12_inForce_116 : decode cX12_inForce 116 = .ok (.aload_n 0, 1) := by decide +kernel
theorem dX12_inForce_117 : decode cX12_inForce 117 = .ok (.getfield 92, 3) := by decide +kernel
theorem dX12_inForce_120 : decode cX12_inForce 120 = .ok (.iload_n 3, 1) := by decide +kernel
theorem dX12_inForce_121 : decode cX12_inForce 121 = .ok (.iaload, 1) := by decide +kernel
theorem dX12_inForce_122 : decode cX12_inForce 122 = .ok (.ireturn, 1) := by decide +kernel
theorem dX12_inForce_123 : decode cX12_inForce 123 = .ok (.iconst (-1), 1) := by decide +kernel
theorem dX12_inForce_124 : decode cX12_inForce 124 = .ok (.ireturn, 1) := by decide +kernel
theorem bX12_inForce_0 {d : Nat} {h0 hE h : ea_H} {rv : Option ea_V} {r0 : Option Nat} {x1 : Int32} {x2 : Int32} (H : ∃ (d1 : Nat) (xc5 : Int32) (h2 : ea_H), ea_Met mX12_isDay d1 [vI x1] h (some (vI xc5)) h2 ∧ d1 + 1 ≤ d ∧ (xc5 = (0 : Int32) → ea_W mX12_inForce d h0 rv hE 16 [(0, vR r0), (2, vI x2)] [vI (-1)] h2) ∧ (¬ xc5 = (0 : Int32) → ∃ a12, r0 = some a12 ∧ a12 < ea_n h2 ∧ ea_c h2 a12 = 12 ∧ ∃ (d6 : Nat) (xc14 : Int32) (h7 : ea_H), ea_Met mX12_actOn d6 [vR (some a12), vI x1] h2 (some (vI xc14)) h7 ∧ d6 + 1 ≤ d ∧ ea_W mX12_inForce d h0 rv hE 16 [(0, vR r0), (2, vI x2)] [vI xc14] h7)) : ea_W mX12_inForce d h0 rv hE 0 [(0, vR r0), (1, vI x1), (2, vI x2)] [] h := by
  refine ea_iload_n (pc := 0) dX12_inForce_0 rfl 1 rfl ?_
  obtain ⟨d1, xc5, h2, m3, q4, H⟩ := H
  refine ea_callS (pc := 1) (As := [vI x1]) (st := []) dX12_inForce_1 kX12_isDay m3 q4 rfl (Nat.le_of_ble_eq_true rfl) ew_1752 ew_1753 ?_
  refine ea_if_eq (pc := 4) (tgt := 15) dX12_inForce_4 rfl (fun c15 => ?_) (fun c15 => ?_)
  · have H := H.1 c15
    refine ea_iconst (pc := 15) dX12_inForce_15 (v := (-1)) rfl ?_
    exact ea_fewer [0, 2] rfl H
  · have H := H.2 c15
    refine ea_aload_n (pc := 7) dX12_inForce_7 rfl 0 rfl ?_
    refine ea_iload_n (pc := 8) dX12_inForce_8 rfl 1 rfl ?_
    obtain ⟨a12, e13, f10, g11, H⟩ := H
    refine ea_deref1 e13 ?_
    obtain ⟨d6, xc14, h7, m8, q9, H⟩ := H
    refine ea_callV (pc := 9) (As := [vI x1]) (st := []) dX12_inForce_9 kX12_actOn m8 q9 rfl (Nat.le_of_ble_eq_true rfl) ew_1975 ew_1977 ew_81 (ci := 12) rfl (by decide) f10 g11 ?_
    refine ea_goto (pc := 12) (tgt := 16) dX12_inForce_12 rfl ?_
    exact ea_fewer [0, 2] rfl H
theorem bX12_inForce_16 {d : Nat} {h0 hE h : ea_H} {rv : Option ea_V} {r0 : Option Nat} {x2 : Int32} {sx0 : Int32} (H : (¬ sx0 = ((-1) : Int32) → (Int32.toInt x2 = 0 → rv = some (vI sx0) ∧ hE = h) ∧ (Int32.toInt x2 = 1 → ∃ a3, r0 = some a3 ∧ a3 < ea_n h ∧ ea_c h a3 = 12 ∧ ∃ a7, (ea_r h a3 27) = some a7 ∧ a7 < ea_n h ∧ ea_c h a7 = 20 ∧ vp_in sx0 (ea_l h a7) ∧ rv = some (vI (ea_i h a7 (Int32.toNatClampNeg sx0))) ∧ hE = h) ∧ (Int32.toInt x2 = 2 → ∃ a12, r0 = some a12 ∧ a12 < ea_n h ∧ ea_c h a12 = 12 ∧ ∃ a16, (ea_r h a12 28) = some a16 ∧ a16 < ea_n h ∧ ea_c h a16 = 20 ∧ vp_in sx0 (ea_l h a16) ∧ rv = some (vI (ea_i h a16 (Int32.toNatClampNeg sx0))) ∧ hE = h) ∧ (Int32.toInt x2 = 3 → ∃ a21, r0 = some a21 ∧ a21 < ea_n h ∧ ea_c h a21 = 12 ∧ ∃ a25, (ea_r h a21 29) = some a25 ∧ a25 < ea_n h ∧ ea_c h a25 = 20 ∧ vp_in sx0 (ea_l h a25) ∧ rv = some (vI (ea_i h a25 (Int32.toNatClampNeg sx0))) ∧ hE = h) ∧ (Int32.toInt x2 = 4 → ∃ a30, r0 = some a30 ∧ a30 < ea_n h ∧ ea_c h a30 = 12 ∧ ∃ a34, (ea_r h a30 30) = some a34 ∧ a34 < ea_n h ∧ ea_c h a34 = 20 ∧ vp_in sx0 (ea_l h a34) ∧ rv = some (vI (ea_i h a34 (Int32.toNatClampNeg sx0))) ∧ hE = h) ∧ (Int32.toInt x2 = 5 → ∃ a39, r0 = some a39 ∧ a39 < ea_n h ∧ ea_c h a39 = 12 ∧ ∃ a43, (ea_r h a39 31) = some a43 ∧ a43 < ea_n h ∧ ea_c h a43 = 20 ∧ vp_in sx0 (ea_l h a43) ∧ rv = some (vI (ea_i h a43 (Int32.toNatClampNeg sx0))) ∧ hE = h) ∧ (Int32.toInt x2 = 6 → ∃ a48, r0 = some a48 ∧ a48 < ea_n h ∧ ea_c h a48 = 12 ∧ ∃ a52, (ea_r h a48 32) = some a52 ∧ a52 < ea_n h ∧ ea_c h a52 = 20 ∧ vp_in sx0 (ea_l h a52) ∧ rv = some (vI (ea_i h a52 (Int32.toNatClampNeg sx0))) ∧ hE = h) ∧ (Int32.toInt x2 = 7 → ∃ a57, r0 = some a57 ∧ a57 < ea_n h ∧ ea_c h a57 = 12 ∧ ∃ a61, (ea_r h a57 33) = some a61 ∧ a61 < ea_n h ∧ ea_c h a61 = 20 ∧ vp_in sx0 (ea_l h a61) ∧ rv = some (vI (ea_i h a61 (Int32.toNatClampNeg sx0))) ∧ hE = h) ∧ (Int32.toInt x2 < 0 ∨ 7 < Int32.toInt x2 → rv = some (vI (-1)) ∧ hE = h)) ∧ (sx0 = ((-1) : Int32) → rv = some (vI (-1)) ∧ hE = h)) : ea_W mX12_inForce d h0 rv hE 16 [(0, vR r0), (2, vI x2)] [vI sx0] h := by
  refine ea_istore_n (pc := 16) (lv' := [(0, vR r0), (2, vI x2), (3, vI sx0)]) dX12_inForce_16 rfl (Nat.le_of_ble_eq_true rfl) [1, 2, 0] rfl ?_
  refine ea_iload_n (pc := 17) dX12_inForce_17 rfl 2 rfl ?_
  refine ea_iconst (pc := 18) dX12_inForce_18 (v := (-1)) rfl ?_
  refine ea_icmp_ne (pc := 19) (tgt := 24) dX12_inForce_19 rfl (fun c64 => ?_) (fun c64 => ?_)
  · have H := H.1 c64
    refine ea_iload_n (pc := 24) dX12_inForce_24 rfl 1 rfl ?_
    by_cases qc1 : Int32.toInt x2 = 0
    · have H := H.1 qc1
      refine ea_tswIn (pc := 25) (tgt := 72) dX12_inForce_25 (by omega) (by omega) (by rw [qc1]; rfl) rfl ?_
      refine ea_iload_n (pc := 72) dX12_inForce_72 rfl 2 rfl ?_
      obtain ⟨rfl, rfl⟩ := H
      exact ea_ireturn (pc := 73) dX12_inForce_73 rfl rfl
    by_cases qc2 : Int32.toInt x2 = 1
    · have H := H.2.1 qc2
      refine ea_tswIn (pc := 25) (tgt := 74) dX12_inForce_25 (by omega) (by omega) (by rw [qc2]; rfl) rfl ?_
      refine ea_aload_n (pc := 74) dX12_inForce_74 rfl 0 rfl ?_
      obtain ⟨a3, e4, f1, g2, H⟩ := H
      refine ea_deref0 e4 ?_
      refine ea_getR (pc := 75) dX12_inForce_75 ec_12 (k := 27) (Nat.le_of_ble_eq_true rfl) rfl (Or.inl ew_1372) f1 g2 rfl ?_
      refine ea_iload_n (pc := 78) dX12_inForce_78 rfl 2 rfl ?_
      obtain ⟨a7, e8, f5, g6, H⟩ := H
      refine ea_deref1 e8 ?_
      obtain ⟨z9, H⟩ := H
      refine ea_iald (pc := 79) dX12_inForce_79 f5 g6 z9 ?_
      obtain ⟨rfl, rfl⟩ := H
      exact ea_ireturn (pc := 80) dX12_inForce_80 rfl rfl
    by_cases qc3 : Int32.toInt x2 = 2
    · have H := H.2.2.1 qc3
      refine ea_tswIn (pc := 25) (tgt := 81) dX12_inForce_25 (by omega) (by omega) (by rw [qc3]; rfl) rfl ?_
      refine ea_aload_n (pc := 81) dX12_inForce_81 rfl 0 rfl ?_
      obtain ⟨a12, e13, f10, g11, H⟩ := H
      refine ea_deref0 e13 ?_
      refine ea_getR (pc := 82) dX12_inForce_82 ec_12 (k := 28) (Nat.le_of_ble_eq_true rfl) rfl (Or.inl ew_1373) f10 g11 rfl ?_
      refine ea_iload_n (pc := 85) dX12_inForce_85 rfl 2 rfl ?_
      obtain ⟨a16, e17, f14, g15, H⟩ := H
      refine ea_deref1 e17 ?_
      obtain ⟨z18, H⟩ := H
      refine ea_iald (pc := 86) dX12_inForce_86 f14 g15 z18 ?_
      obtain ⟨rfl, rfl⟩ := H
      exact ea_ireturn (pc := 87) dX12_inForce_87 rfl rfl
    by_cases qc4 : Int32.toInt x2 = 3
    · have H := H.2.2.2.1 qc4
      refine ea_tswIn (pc := 25) (tgt := 88) dX12_inForce_25 (by omega) (by omega) (by rw [qc4]; rfl) rfl ?_
      refine ea_aload_n (pc := 88) dX12_inForce_88 rfl 0 rfl ?_
      obtain ⟨a21, e22, f19, g20, H⟩ := H
      refine ea_deref0 e22 ?_
      refine ea_getR (pc := 89) dX12_inForce_89 ec_12 (k := 29) (Nat.le_of_ble_eq_true rfl) rfl (Or.inl ew_1374) f19 g20 rfl ?_
      refine ea_iload_n (pc := 92) dX12_inForce_92 rfl 2 rfl ?_
      obtain ⟨a25, e26, f23, g24, H⟩ := H
      refine ea_deref1 e26 ?_
      obtain ⟨z27, H⟩ := H
      refine ea_iald (pc := 93) dX12_inForce_93 f23 g24 z27 ?_
      obtain ⟨rfl, rfl⟩ := H
      exact ea_ireturn (pc := 94) dX12_inForce_94 rfl rfl
    by_cases qc5 : Int32.toInt x2 = 4
    · have H := H.2.2.2.2.1 qc5
      refine ea_tswIn (pc := 25) (tgt := 95) dX12_inForce_25 (by omega) (by omega) (by rw [qc5]; rfl) rfl ?_
      refine ea_aload_n (pc := 95) dX12_inForce_95 rfl 0 rfl ?_
      obtain ⟨a30, e31, f28, g29, H⟩ := H
      refine ea_deref0 e31 ?_
      refine ea_getR (pc := 96) dX12_inForce_96 ec_12 (k := 30) (Nat.le_of_ble_eq_true rfl) rfl (Or.inl ew_1375) f28 g29 rfl ?_
      refine ea_iload_n (pc := 99) dX12_inForce_99 rfl 2 rfl ?_
      obtain ⟨a34, e35, f32, g33, H⟩ := H
      refine ea_deref1 e35 ?_
      obtain ⟨z36, H⟩ := H
      refine ea_iald (pc := 100) dX12_inForce_100 f32 g33 z36 ?_
      obtain ⟨rfl, rfl⟩ := H
      exact ea_ireturn (pc := 101) dX12_inForce_101 rfl rfl
    by_cases qc6 : Int32.toInt x2 = 5
    · have H := H.2.2.2.2.2.1 qc6
      refine ea_tswIn (pc := 25) (tgt := 102) dX12_inForce_25 (by omega) (by omega) (by rw [qc6]; rfl) rfl ?_
      refine ea_aload_n (pc := 102) dX12_inForce_102 rfl 0 rfl ?_
      obtain ⟨a39, e40, f37, g38, H⟩ := H
      refine ea_deref0 e40 ?_
      refine ea_getR (pc := 103) dX12_inForce_103 ec_12 (k := 31) (Nat.le_of_ble_eq_true rfl) rfl (Or.inl ew_1376) f37 g38 rfl ?_
      refine ea_iload_n (pc := 106) dX12_inForce_106 rfl 2 rfl ?_
      obtain ⟨a43, e44, f41, g42, H⟩ := H
      refine ea_deref1 e44 ?_
      obtain ⟨z45, H⟩ := H
      refine ea_iald (pc := 107) dX12_inForce_107 f41 g42 z45 ?_
      obtain ⟨rfl, rfl⟩ := H
      exact ea_ireturn (pc := 108) dX12_inForce_108 rfl rfl
    by_cases qc7 : Int32.toInt x2 = 6
    · have H := H.2.2.2.2.2.2.1 qc7
      refine ea_tswIn (pc := 25) (tgt := 109) dX12_inForce_25 (by omega) (by omega) (by rw [qc7]; rfl) rfl ?_
      refine ea_aload_n (pc := 109) dX12_inForce_109 rfl 0 rfl ?_
      obtain ⟨a48, e49, f46, g47, H⟩ := H
      refine ea_deref0 e49 ?_
      refine ea_getR (pc := 110) dX12_inForce_110 ec_12 (k := 32) (Nat.le_of_ble_eq_true rfl) rfl (Or.inl ew_1377) f46 g47 rfl ?_
      refine ea_iload_n (pc := 113) dX12_inForce_113 rfl 2 rfl ?_
      obtain ⟨a52, e53, f50, g51, H⟩ := H
      refine ea_deref1 e53 ?_
      obtain ⟨z54, H⟩ := H
      refine ea_iald (pc := 114) dX12_inForce_114 f50 g51 z54 ?_
      obtain ⟨rfl, rfl⟩ := H
      exact ea_ireturn (pc := 115) dX12_inForce_115 rfl rfl
    by_cases qc8 : Int32.toInt x2 = 7
    · have H := H.2.2.2.2.2.2.2.1 qc8
      refine ea_tswIn (pc := 25) (tgt := 116) dX12_inForce_25 (by omega) (by omega) (by rw [qc8]; rfl) rfl ?_
      refine ea_aload_n (pc := 116) dX12_inForce_116 rfl 0 rfl ?_
      obtain ⟨a57, e58, f55, g56, H⟩ := H
      refine ea_deref0 e58 ?_
      refine ea_getR (pc := 117) dX12_inForce_117 ec_12 (k := 33) (Nat.le_of_ble_eq_true rfl) rfl (Or.inl ew_1378) f55 g56 rfl ?_
      refine ea_iload_n (pc := 120) dX12_inForce_120 rfl 2 rfl ?_
      obtain ⟨a61, e62, f59, g60, H⟩ := H
      refine ea_deref1 e62 ?_
      obtain ⟨z63, H⟩ := H
      refine ea_iald (pc := 121) dX12_inForce_121 f59 g60 z63 ?_
      obtain ⟨rfl, rfl⟩ := H
      exact ea_ireturn (pc := 122) dX12_inForce_122 rfl rfl
    have qd : Int32.toInt x2 < 0 ∨ 7 < Int32.toInt x2 := by omega
    have H := H.2.2.2.2.2.2.2.2 qd
    refine ea_tswOut (pc := 25) (tgt := 123) dX12_inForce_25 qd rfl ?_
    refine ea_iconst (pc := 123) dX12_inForce_123 (v := (-1)) rfl ?_
    obtain ⟨rfl, rfl⟩ := H
    exact ea_ireturn (pc := 124) dX12_inForce_124 rfl rfl
  · have H := H.2 c64
    refine ea_iconst (pc := 22) dX12_inForce_22 (v := (-1)) rfl ?_
    obtain ⟨rfl, rfl⟩ := H
    exact ea_ireturn (pc := 23) dX12_inForce_23 rfl rfl
theorem dX12_isLetterOf_0 : decode cX12_isLetterOf 0 = .ok (.iload_n 1, 1) := by decide +kernel
theorem dX12_isLetterOf_1 : decode cX12_isLetterOf 1 = .ok (.iconst 0, 1) := by decide +kernel
theorem dX12_isLetterOf_2 : decode cX12_isLetterOf 2 = .ok (.aload_n 0, 1) := by decide +kernel
theorem dX12_isLetterOf_3 : decode cX12_isLetterOf 3 = .ok (.getfield 531, 3) := by decide +kernel
theorem dX12_isLetterOf_6 : decode cX12_isLetterOf 6 = .ok (.iconst 1, 1) := by decide +kernel
theorem dX12_isLetterOf_7 : decode cX12_isLetterOf 7 = .ok (.isub, 1) := by decide +kernel
theorem dX12_isLetterOf_8 : decode cX12_isLetterOf 8 = .ok (.invokestatic 286, 3) := by decide +kernel
theorem dX12_isLetterOf_11 : decode cX12_isLetterOf 11 = .ok (.ireturn, 1) := by decide +kernel
theorem bX12_isLetterOf_0 {d : Nat} {h0 hE h : ea_H} {rv : Option ea_V} {r0 : Option Nat} {x1 : Int32} (H : ∃ a3, r0 = some a3 ∧ a3 < ea_n h ∧ ea_c h a3 = 12 ∧ ∃ (d5 : Nat) (xc9 : Int32) (h6 : ea_H), ea_Met mX12_isIn d5 [vI x1, vI 0, vI ((ea_i h a3 63) - (1 : Int32))] h (some (vI xc9)) h6 ∧ d5 + 1 ≤ d ∧ (xc9 = 0 ∨ xc9 = 1) ∧ rv = some (vI xc9) ∧ hE = h6) : ea_W mX12_isLetterOf d h0 rv hE 0 [(0, vR r0), (1, vI x1)] [] h := by
  refine ea_iload_n (pc := 0) dX12_isLetterOf_0 rfl 1 rfl ?_
  refine ea_iconst (pc := 1) dX12_isLetterOf_1 (v := 0) rfl ?_
  refine ea_aload_n (pc := 2) dX12_isLetterOf_2 rfl 0 rfl ?_
  obtain ⟨a3, e4, f1, g2, H⟩ := H
  refine ea_deref0 e4 ?_
  refine ea_getI (pc := 3) dX12_isLetterOf_3 ec_12 (k := 63) (Nat.le_of_ble_eq_true rfl) rfl (Or.inl ew_1408) f1 g2 ?_
  refine ea_iconst (pc := 6) dX12_isLetterOf_6 (v := 1) rfl ?_
  refine ea_isub (pc := 7) dX12_isLetterOf_7 ?_
  obtain ⟨d5, xc9, h6, m7, q8, H⟩ := H
  refine ea_callS (pc := 8) (As := [vI x1, vI 0, vI ((ea_i h a3 63) - (1 : Int32))]) (st := []) dX12_isLetterOf_8 kX12_isIn m7 q8 rfl (Nat.le_of_ble_eq_true rfl) ew_1712 ew_1713 ?_
  obtain ⟨z10, rfl, rfl⟩ := H
  exact ea_ireturn (pc := 11) dX12_isLetterOf_11 rfl (ea_bn z10)
theorem dX12_isCross_0 : decode cX12_isCross 0 = .ok (.iload_n 1, 1) := by decide +kernel
theorem dX12_isCross_1 : decode cX12_isCross 1 = .ok (.ifCond .eq 7, 3) := by decide +kernel
theorem dX12_isCross_4 : decode cX12_isCross 4 = .ok (.iload_n 2, 1) := by decide +kernel
theorem dX12_isCross_5 : decode cX12_isCross 5 = .ok (.ifCond .ne 5, 3) := by decide +kernel
theorem dX12_isCross_8 : decode cX12_isCross 8 = .ok (.iconst 0, 1) := by decide +kernel
theorem dX12_isCross_9 : decode cX12_isCross 9 = .ok (.ireturn, 1) := by decide +kernel
theorem dX12_isCross_10 : decode cX12_isCross 10 = .ok (.aload_n 0, 1) := by decide +kernel
theorem dX12_isCross_11 : decode cX12_isCross 11 = .ok (.iload_n 1, 1) := by decide +kernel
theorem dX12_isCross_12 : decode cX12_isCross 12 = .ok (.iload_n 2, 1) := by decide +kernel
theorem dX12_isCross_13 : decode cX12_isCross 13 = .ok (.iconst 0, 1) := by decide +kernel
theorem dX12_isCross_14 : decode cX12_isCross 14 = .ok (.invokevirtual 306, 3) := by decide +kernel
theorem dX12_isCross_17 : decode cX12_isCross 17 = .ok (.istore_n 3, 1) := by decide +kernel
theorem dX12_isCross_18 : decode cX12_isCross 18 = .ok (.iload_n 3, 1) := by decide +kernel
theorem dX12_isCross_19 : decode cX12_isCross 19 = .ok (.ldc_w 301, 3) := by decide +kernel
theorem dX12_isCross_22 : decode cX12_isCross 22 = .ok (.if_icmp .eq 18, 3) := by decide +kernel
theorem dX12_isCross_25 : decode cX12_isCross 25 = .ok (.aload_n 0, 1) := by decide +kernel
theorem dX12_isCross_26 : decode cX12_isCross 26 = .ok (.iload_n 1, 1) := by decide +kernel
theorem dX12_isCross_27 : decode cX12_isCross 27 = .ok (.iload_n 2, 1) := by decide +kernel
theorem dX12_isCross_28 : decode cX12_isCross 28 = .ok (.iconst 1, 1) := by decide +kernel
theorem dX12_isCross_29 : decode cX12_isCross 29 = .ok (.invokevirtual 306, 3) := by decide +kernel
theorem dX12_isCross_32 : decode cX12_isCross 32 = .ok (.iload_n 3, 1) := by decide +kernel
theorem dX12_isCross_33 : decode cX12_isCross 33 = .ok (.if_icmp .ne 7, 3) := by decide +kernel
theorem dX12_isCross_36 : decode cX12_isCross 36 = .ok (.iconst 1, 1) := by decide +kernel
theorem dX12_isCross_37 : decode cX12_isCross 37 = .ok (.goto 4, 3) := by decide +kernel
theorem dX12_isCross_40 : decode cX12_isCross 40 = .ok (.iconst 0, 1) := by decide +kernel
theorem dX12_isCross_41 : decode cX12_isCross 41 = .ok (.ireturn, 1) := by decide +kernel
theorem bX12_isCross_0 {d : Nat} {h0 hE h : ea_H} {rv : Option ea_V} {r0 : Option Nat} {x1 : Int32} {x2 : Int32} (H : (x1 = (0 : Int32) → rv = some (vI 0) ∧ hE = h) ∧ (¬ x1 = (0 : Int32) → (¬ x2 = (0 : Int32) → ∃ a7, r0 = some a7 ∧ a7 < ea_n h ∧ ea_c h a7 = 12 ∧ ∃ (d1 : Nat) (xc9 : Int32) (h2 : ea_H), ea_Met mX12_milesOf d1 [vR (some a7), vI x1, vI x2, vI 0] h (some (vI xc9)) h2 ∧ d1 + 1 ≤ d ∧ (xc9 = (1000000 : Int32) → rv = some (vI 0) ∧ hE = h2) ∧ (¬ xc9 = (1000000 : Int32) → a7 < ea_n h2 ∧ ea_c h2 a7 = 12 ∧ ∃ (d10 : Nat) (xc16 : Int32) (h11 : ea_H), ea_Met mX12_milesOf d10 [vR (some a7), vI x1, vI x2, vI 1] h2 (some (vI xc16)) h11 ∧ d10 + 1 ≤ d ∧ (¬ xc16 = xc9 → rv = some (vI 0) ∧ hE = h11) ∧ (xc16 = xc9 → rv = some (vI 1) ∧ hE = h11))) ∧ (x2 = (0 : Int32) → rv = some (vI 0) ∧ hE = h))) : ea_W mX12_isCross d h0 rv hE 0 [(0, vR r0), (1, vI x1), (2, vI x2)] [] h := by
  refine ea_iload_n (pc := 0) dX12_isCross_0 rfl 1 rfl ?_
  refine ea_if_eq (pc := 1) (tgt := 8) dX12_isCross_1 rfl (fun c20 => ?_) (fun c20 => ?_)
  · have H := H.1 c20
    refine ea_iconst (pc := 8) dX12_isCross_8 (v := 0) rfl ?_
    obtain ⟨rfl, rfl⟩ := H
    exact ea_ireturn (pc := 9) dX12_isCross_9 rfl (ea_bn (Or.inl rfl))
  · have H := H.2 c20
    refine ea_iload_n (pc := 4) dX12_isCross_4 rfl 2 rfl ?_
    refine ea_if_ne (pc := 5) (tgt := 10) dX12_isCross_5 rfl (fun c19 => ?_) (fun c19 => ?_)
    · have H := H.1 c19
      refine ea_aload_n (pc := 10) dX12_isCross_10 rfl 0 rfl ?_
      refine ea_iload_n (pc := 11) dX12_isCross_11 rfl 1 rfl ?_
      refine ea_iload_n (pc := 12) dX12_isCross_12 rfl 2 rfl ?_
      refine ea_iconst (pc := 13) dX12_isCross_13 (v := 0) rfl ?_
      obtain ⟨a7, e8, f5, g6, H⟩ := H
      refine ea_deref3 e8 ?_
      obtain ⟨d1, xc9, h2, m3, q4, H⟩ := H
      refine ea_callV (pc := 14) (As := [vI x1, vI x2, vI 0]) (st := []) dX12_isCross_14 kX12_milesOf m3 q4 rfl (Nat.le_of_ble_eq_true rfl) ew_1719 ew_1721 ew_48 (ci := 12) rfl (by decide) f5 g6 ?_
      refine ea_istore_n (pc := 17) (lv' := [(0, vR r0), (1, vI x1), (2, vI x2), (3, vI xc9)]) dX12_isCross_17 rfl (Nat.le_of_ble_eq_true rfl) [1, 2, 3, 0] rfl ?_
      refine ea_iload_n (pc := 18) dX12_isCross_18 rfl 3 rfl ?_
      refine ea_ldcw (pc := 19) dX12_isCross_19 ew_1727 ?_
      refine ea_icmp_eq (pc := 22) (tgt := 40) dX12_isCross_22 rfl (fun c18 => ?_) (fun c18 => ?_)
      · have H := H.1 c18
        refine ea_iconst (pc := 40) dX12_isCross_40 (v := 0) rfl ?_
        obtain ⟨rfl, rfl⟩ := H
        exact ea_ireturn (pc := 41) dX12_isCross_41 rfl (ea_bn (Or.inl rfl))
      · have H := H.2 c18
        refine ea_aload_n (pc := 25) dX12_isCross_25 rfl 0 rfl ?_
        refine ea_iload_n (pc := 26) dX12_isCross_26 rfl 1 rfl ?_
        refine ea_iload_n (pc := 27) dX12_isCross_27 rfl 2 rfl ?_
        refine ea_iconst (pc := 28) dX12_isCross_28 (v := 1) rfl ?_
        obtain ⟨f14, g15, H⟩ := H
        refine ea_deref3 e8 ?_
        obtain ⟨d10, xc16, h11, m12, q13, H⟩ := H
        refine ea_callV (pc := 29) (As := [vI x1, vI x2, vI 1]) (st := []) dX12_isCross_29 kX12_milesOf m12 q13 rfl (Nat.le_of_ble_eq_true rfl) ew_1719 ew_1721 ew_48 (ci := 12) rfl (by decide) f14 g15 ?_
        refine ea_iload_n (pc := 32) dX12_isCross_32 rfl 3 rfl ?_
        refine ea_icmp_ne (pc := 33) (tgt := 40) dX12_isCross_33 rfl (fun c17 => ?_) (fun c17 => ?_)
        · have H := H.1 c17
          refine ea_iconst (pc := 40) dX12_isCross_40 (v := 0) rfl ?_
          obtain ⟨rfl, rfl⟩ := H
          exact ea_ireturn (pc := 41) dX12_isCross_41 rfl (ea_bn (Or.inl rfl))
        · have H := H.2 c17
          refine ea_iconst (pc := 36) dX12_isCross_36 (v := 1) rfl ?_
          refine ea_goto (pc := 37) (tgt := 41) dX12_isCross_37 rfl ?_
          obtain ⟨rfl, rfl⟩ := H
          exact ea_ireturn (pc := 41) dX12_isCross_41 rfl (ea_bn (Or.inr rfl))
    · have H := H.2 c19
      refine ea_iconst (pc := 8) dX12_isCross_8 (v := 0) rfl ?_
      obtain ⟨rfl, rfl⟩ := H
      exact ea_ireturn (pc := 9) dX12_isCross_9 rfl (ea_bn (Or.inl rfl))
theorem dX12_turns_0 : decode cX12_turns 0 = .ok (.aload_n 0, 1) := by decide +kernel
theorem dX12_turns_1 : decode cX12_turns 1 = .ok (.getfield 177, 3) := by decide +kernel
theorem dX12_turns_4 : decode cX12_turns 4 = .ok (.iload_n 1, 1) := by decide +kernel
theorem dX12_turns_5 : decode cX12_turns 5 = .ok (.iload_n 3, 1) := by decide +kernel
theorem dX12_turns_6 : decode cX12_turns 6 = .ok (.iastore, 1) := by decide +kernel
theorem dX12_turns_7 : decode cX12_turns 7 = .ok (.aload_n 0, 1) := by decide +kernel
theorem dX12_turns_8 : decode cX12_turns 8 = .ok (.getfield 180, 3) := by decide +kernel
theorem dX12_turns_11 : decode cX12_turns 11 = .ok (.iload_n 1, 1) := by decide +kernel
theorem dX12_turns_12 : decode cX12_turns 12 = .ok (.iload 4, 2) := by decide +kernel
theorem dX12_turns_14 : decode cX12_turns 14 = .ok (.iastore, 1) := by decide +kernel
theorem dX12_turns_15 : decode cX12_turns 15 = .ok (.aload_n 0, 1) := by decide +kernel
theorem dX12_turns_16 : decode cX12_turns 16 = .ok (.getfield 189, 3) := by decide +kernel
theorem dX12_turns_19 : decode cX12_turns 19 = .ok (.iload_n 1, 1) := by decide +kernel
theorem dX12_turns_20 : decode cX12_turns 20 = .ok (.iload_n 2, 1) := by decide +kernel
theorem dX12_turns_21 : decode cX12_turns 21 = .ok (.iastore, 1) := by decide +kernel
theorem dX12_turns_22 : decode cX12_turns 22 = .ok (.sipush 1000, 3) := by decide +kernel
theorem dX12_turns_25 : decode cX12_turns 25 = .ok (.iload_n 1, 1) := by decide +kernel
theorem dX12_turns_26 : decode cX12_turns 26 = .ok (.imul, 1) := by decide +kernel
theorem dX12_turns_27 : decode cX12_turns 27 = .ok (.aload_n 0, 1) := by decide +kernel
theorem dX12_turns_28 : decode cX12_turns 28 = .ok (.getfield 162, 3) := by decide +kernel
theorem dX12_turns_31 : decode cX12_turns 31 = .ok (.iload_n 1, 1) := by decide +kernel
theorem dX12_turns_32 : decode cX12_turns 32 = .ok (.iaload, 1) := by decide +kernel
theorem dX12_turns_33 : decode cX12_turns 33 = .ok (.iadd, 1) := by decide +kernel
theorem dX12_turns_34 : decode cX12_turns 34 = .ok (.istore 5, 2) := by decide +kernel
theorem dX12_turns_36 : decode cX12_turns 36 = .ok (.aload_n 0, 1) := by decide +kernel
theorem dX12_turns_37 : decode cX12_turns 37 = .ok (.getfield 199, 3) := by decide +kernel
theorem dX12_turns_40 : decode cX12_turns 40 = .ok (.iload 5, 2) := by decide +kernel
theorem dX12_turns_42 : decode cX12_turns 42 = .ok (.iload_n 2, 1) := by decide +kernel
theorem dX12_turns_43 : decode cX12_turns 43 = .ok (.iastore, 1) := by decide +kernel
theorem dX12_turns_44 : decode cX12_turns 44 = .ok (.aload_n 0, 1) := by decide +kernel
theorem dX12_turns_45 : decode cX12_turns 45 = .ok (.getfield 202, 3) := by decide +kernel
theorem dX12_turns_48 : decode cX12_turns 48 = .ok (.iload 5, 2) := by decide +kernel
theorem dX12_turns_50 : decode cX12_turns 50 = .ok (.iload_n 3, 1) := by decide +kernel
theorem dX12_turns_51 : decode cX12_turns 51 = .ok (.iastore, 1) := by decide +kernel
theorem dX12_turns_52 : decode cX12_turns 52 = .ok (.aload_n 0, 1) := by decide +kernel
theorem dX12_turns_53 : decode cX12_turns 53 = .ok (.getfield 205, 3) := by decide +kernel
theorem dX12_turns_56 : decode cX12_turns 56 = .ok (.iload 5, 2) := by decide +kernel
theorem dX12_turns_58 : decode cX12_turns 58 = .ok (.iload 4, 2) := by decide +kernel
theorem dX12_turns_60 : decode cX12_turns 60 = .ok (.iastore, 1) := by decide +kernel
theorem dX12_turns_61 : decode cX12_turns 61 = .ok (.aload_n 0, 1) := by decide +kernel
theorem dX12_turns_62 : decode cX12_turns 62 = .ok (.getfield 162, 3) := by decide +kernel
theorem dX12_turns_65 : decode cX12_turns 65 = .ok (.iload_n 1, 1) := by decide +kernel
theorem dX12_turns_66 : decode cX12_turns 66 = .ok (.dup2, 1) := by decide +kernel
theorem dX12_turns_67 : decode cX12_turns 67 = .ok (.iaload, 1) := by decide +kernel
theorem dX12_turns_68 : decode cX12_turns 68 = .ok (.iconst 1, 1) := by decide +kernel
theorem dX12_turns_69 : decode cX12_turns 69 = .ok (.iadd, 1) := by decide +kernel
theorem dX12_turns_70 : decode cX12_turns 70 = .ok (.iastore, 1) := by decide +kernel
theorem dX12_turns_71 : decode cX12_turns 71 = .ok (.return_, 1) := by decide +kernel
theorem bX12_turns_0 {d : Nat} {h0 hE h : ea_H} {rv : Option ea_V} {r0 : Option Nat} {x1 : Int32} {x2 : Int32} {x3 : Int32} {x4 : Int32} (H : ∃ a3, r0 = some a3 ∧ a3 < ea_n h ∧ ea_c h a3 = 12 ∧ ∃ a7, (ea_r h a3 81) = some a7 ∧ a7 < ea_n h ∧ ea_c h a7 = 20 ∧ vp_in x1 (ea_l h a7) ∧ ∀ h10, h10 = ea_wi h a7 (Int32.toNatClampNeg x1) x3 → a3 < ea_n h10 ∧ ea_c h10 a3 = 12 ∧ ∃ a16, (ea_r h10 a3 82) = some a16 ∧ a16 < ea_n h10 ∧ ea_c h10 a16 = 20 ∧ vp_in x1 (ea_l h10 a16) ∧ ∀ h19, h19 = ea_wi h10 a16 (Int32.toNatClampNeg x1) x4 → a3 < ea_n h19 ∧ ea_c h19 a3 = 12 ∧ ∃ a25, (ea_r h19 a3 85) = some a25 ∧ a25 < ea_n h19 ∧ ea_c h19 a25 = 20 ∧ vp_in x1 (ea_l h19 a25) ∧ ∀ h28, h28 = ea_wi h19 a25 (Int32.toNatClampNeg x1) x2 → a3 < ea_n h28 ∧ ea_c h28 a3 = 12 ∧ ∃ a34, (ea_r h28 a3 76) = some a34 ∧ a34 < ea_n h28 ∧ ea_c h28 a34 = 20 ∧ vp_in x1 (ea_l h28 a34) ∧ a3 < ea_n h28 ∧ ea_c h28 a3 = 12 ∧ ∃ a41, (ea_r h28 a3 88) = some a41 ∧ a41 < ea_n h28 ∧ ea_c h28 a41 = 20 ∧ vp_in (((1000 : Int32) * x1) + (ea_i h28 a34 (Int32.toNatClampNeg x1))) (ea_l h28 a41) ∧ ∀ h44, h44 = ea_wi h28 a41 (Int32.toNatClampNeg (((1000 : Int32) * x1) + (ea_i h28 a34 (Int32.toNatClampNeg x1)))) x2 → a3 < ea_n h44 ∧ ea_c h44 a3 = 12 ∧ ∃ a50, (ea_r h44 a3 89) = some a50 ∧ a50 < ea_n h44 ∧ ea_c h44 a50 = 20 ∧ vp_in (((1000 : Int32) * x1) + (ea_i h28 a34 (Int32.toNatClampNeg x1))) (ea_l h44 a50) ∧ ∀ h53, h53 = ea_wi h44 a50 (Int32.toNatClampNeg (((1000 : Int32) * x1) + (ea_i h28 a34 (Int32.toNatClampNeg x1)))) x3 → a3 < ea_n h53 ∧ ea_c h53 a3 = 12 ∧ ∃ a59, (ea_r h53 a3 90) = some a59 ∧ a59 < ea_n h53 ∧ ea_c h53 a59 = 20 ∧ vp_in (((1000 : Int32) * x1) + (ea_i h28 a34 (Int32.toNatClampNeg x1))) (ea_l h53 a59) ∧ ∀ h62, h62 = ea_wi h53 a59 (Int32.toNatClampNeg (((1000 : Int32) * x1) + (ea_i h28 a34 (Int32.toNatClampNeg x1)))) x4 → a3 < ea_n h62 ∧ ea_c h62 a3 = 12 ∧ ∃ a68, (ea_r h62 a3 76) = some a68 ∧ a68 < ea_n h62 ∧ ea_c h62 a68 = 20 ∧ vp_in x1 (ea_l h62 a68) ∧ a68 < ea_n h62 ∧ ea_c h62 a68 = 20 ∧ vp_in x1 (ea_l h62 a68) ∧ ∀ h74, h74 = ea_wi h62 a68 (Int32.toNatClampNeg x1) ((ea_i h62 a68 (Int32.toNatClampNeg x1)) + (1 : Int32)) → rv = none ∧ hE = h74) : ea_W mX12_turns d h0 rv hE 0 [(0, vR r0), (1, vI x1), (2, vI x2), (3, vI x3), (4, vI x4)] [] h := by
  refine ea_aload_n (pc := 0) dX12_turns_0 rfl 0 rfl ?_
  obtain ⟨a3, e4, f1, g2, H⟩ := H
  refine ea_deref0 e4 ?_
  refine ea_getR (pc := 1) dX12_turns_1 ec_12 (k := 81) (Nat.le_of_ble_eq_true rfl) rfl (Or.inl ew_1426) f1 g2 rfl ?_
  refine ea_iload_n (pc := 4) dX12_turns_4 rfl 1 rfl ?_
  refine ea_iload_n (pc := 5) dX12_turns_5 rfl 3 rfl ?_
  obtain ⟨a7, e8, f5, g6, H⟩ := H
  refine ea_deref2 e8 ?_
  obtain ⟨z9, H⟩ := H
  refine ea_iast (pc := 6) dX12_turns_6 f5 g6 z9 ?_
  obtain ⟨h10, E11⟩ : ∃ z, z = ea_wi h a7 (Int32.toNatClampNeg x1) x3 := ⟨_, rfl⟩
  have H := H h10 E11
  refine ea_nm E11 ?_
  refine ea_aload_n (pc := 7) dX12_turns_7 rfl 0 rfl ?_
  obtain ⟨f12, g13, H⟩ := H
  refine ea_deref0 e4 ?_
  refine ea_getR (pc := 8) dX12_turns_8 ec_12 (k := 82) (Nat.le_of_ble_eq_true rfl) rfl (Or.inl ew_1427) f12 g13 rfl ?_
  refine ea_iload_n (pc := 11) dX12_turns_11 rfl 1 rfl ?_
  refine ea_iload (pc := 12) dX12_turns_12 4 rfl ?_
  obtain ⟨a16, e17, f14, g15, H⟩ := H
  refine ea_deref2 e17 ?_
  obtain ⟨z18, H⟩ := H
  refine ea_iast (pc := 14) dX12_turns_14 f14 g15 z18 ?_
  obtain ⟨h19, E20⟩ : ∃ z, z = ea_wi h10 a16 (Int32.toNatClampNeg x1) x4 := ⟨_, rfl⟩
  have H := H h19 E20
  refine ea_nm E20 ?_
  refine ea_aload_n (pc := 15) dX12_turns_15 rfl 0 rfl ?_
  obtain ⟨f21, g22, H⟩ := H
  refine ea_deref0 e4 ?_
  refine ea_getR (pc := 16) dX12_turns_16 ec_12 (k := 85) (Nat.le_of_ble_eq_true rfl) rfl (Or.inl ew_1430) f21 g22 rfl ?_
  refine ea_iload_n (pc := 19) dX12_turns_19 rfl 1 rfl ?_
  refine ea_iload_n (pc := 20) dX12_turns_20 rfl 2 rfl ?_
  obtain ⟨a25, e26, f23, g24, H⟩ := H
  refine ea_deref2 e26 ?_
  obtain ⟨z27, H⟩ := H
  refine ea_iast (pc := 21) dX12_turns_21 f23 g24 z27 ?_
  obtain ⟨h28, E29⟩ : ∃ z, z = ea_wi h19 a25 (Int32.toNatClampNeg x1) x2 := ⟨_, rfl⟩
  have H := H h28 E29
  refine ea_nm E29 ?_
  refine ea_sipush (pc := 22) dX12_turns_22 (v := 1000) rfl ?_
  refine ea_iload_n (pc := 25) dX12_turns_25 rfl 1 rfl ?_
  refine ea_imul (pc := 26) dX12_turns_26 ?_
  refine ea_aload_n (pc := 27) dX12_turns_27 rfl 0 rfl ?_
  obtain ⟨f30, g31, H⟩ := H
  refine ea_deref0 e4 ?_
  refine ea_getR (pc := 28) dX12_turns_28 ec_12 (k := 76) (Nat.le_of_ble_eq_true rfl) rfl (Or.inl ew_1421) f30 g31 rfl ?_
  refine ea_iload_n (pc := 31) dX12_turns_31 rfl 1 rfl ?_
  obtain ⟨a34, e35, f32, g33, H⟩ := H
  refine ea_deref1 e35 ?_
  obtain ⟨z36, H⟩ := H
  refine ea_iald (pc := 32) dX12_turns_32 f32 g33 z36 ?_
  refine ea_iadd (pc := 33) dX12_turns_33 ?_
  refine ea_istore (pc := 34) (lv' := [(0, vR r0), (1, vI x1), (2, vI x2), (3, vI x3), (4, vI x4), (5, vI (((1000 : Int32) * x1) + (ea_i h28 a34 (Int32.toNatClampNeg x1))))]) dX12_turns_34 (Nat.le_of_ble_eq_true rfl) [1, 2, 3, 4, 5, 0] rfl ?_
  refine ea_aload_n (pc := 36) dX12_turns_36 rfl 0 rfl ?_
  obtain ⟨f37, g38, H⟩ := H
  refine ea_deref0 e4 ?_
  refine ea_getR (pc := 37) dX12_turns_37 ec_12 (k := 88) (Nat.le_of_ble_eq_true rfl) rfl (Or.inl ew_1433) f37 g38 rfl ?_
  refine ea_iload (pc := 40) dX12_turns_40 5 rfl ?_
  refine ea_iload_n (pc := 42) dX12_turns_42 rfl 2 rfl ?_
  obtain ⟨a41, e42, f39, g40, H⟩ := H
  refine ea_deref2 e42 ?_
  obtain ⟨z43, H⟩ := H
  refine ea_iast (pc := 43) dX12_turns_43 f39 g40 z43 ?_
  obtain ⟨h44, E45⟩ : ∃ z, z = ea_wi h28 a41 (Int32.toNatClampNeg (((1000 : Int32) * x1) + (ea_i h28 a34 (Int32.toNatClampNeg x1)))) x2 := ⟨_, rfl⟩
  have H := H h44 E45
  refine ea_nm E45 ?_
  refine ea_aload_n (pc := 44) dX12_turns_44 rfl 0 rfl ?_
  obtain ⟨f46, g47, H⟩ := H
  refine ea_deref0 e4 ?_
  refine ea_getR (pc := 45) dX12_turns_45 ec_12 (k := 89) (Nat.le_of_ble_eq_true rfl) rfl (Or.inl ew_1434) f46 g47 rfl ?_
  refine ea_iload (pc := 48) dX12_turns_48 5 rfl ?_
  refine ea_iload_n (pc := 50) dX12_turns_50 rfl 3 rfl ?_
  obtain ⟨a50, e51, f48, g49, H⟩ := H
  refine ea_deref2 e51 ?_
  obtain ⟨z52, H⟩ := H
  refine ea_iast (pc := 51) dX12_turns_51 f48 g49 z52 ?_
  obtain ⟨h53, E54⟩ : ∃ z, z = ea_wi h44 a50 (Int32.toNatClampNeg (((1000 : Int32) * x1) + (ea_i h28 a34 (Int32.toNatClampNeg x1)))) x3 := ⟨_, rfl⟩
  have H := H h53 E54
  refine ea_nm E54 ?_
  refine ea_aload_n (pc := 52) dX12_turns_52 rfl 0 rfl ?_
  obtain ⟨f55, g56, H⟩ := H
  refine ea_deref0 e4 ?_
  refine ea_getR (pc := 53) dX12_turns_53 ec_12 (k := 90) (Nat.le_of_ble_eq_true rfl) rfl (Or.inl ew_1435) f55 g56 rfl ?_
  refine ea_iload (pc := 56) dX12_turns_56 5 rfl ?_
  refine ea_iload (pc := 58) dX12_turns_58 4 rfl ?_
  obtain ⟨a59, e60, f57, g58, H⟩ := H
  refine ea_deref2 e60 ?_
  obtain ⟨z61, H⟩ := H
  refine ea_iast (pc := 60) dX12_turns_60 f57 g58 z61 ?_
  obtain ⟨h62, E63⟩ : ∃ z, z = ea_wi h53 a59 (Int32.toNatClampNeg (((1000 : Int32) * x1) + (ea_i h28 a34 (Int32.toNatClampNeg x1)))) x4 := ⟨_, rfl⟩
  have H := H h62 E63
  refine ea_nm E63 ?_
  refine ea_aload_n (pc := 61) dX12_turns_61 rfl 0 rfl ?_
  obtain ⟨f64, g65, H⟩ := H
  refine ea_deref0 e4 ?_
  refine ea_getR (pc := 62) dX12_turns_62 ec_12 (k := 76) (Nat.le_of_ble_eq_true rfl) rfl (Or.inl ew_1421) f64 g65 rfl ?_
  refine ea_iload_n (pc := 65) dX12_turns_65 rfl 1 rfl ?_
  refine ea_dup2 (pc := 66) dX12_turns_66 rfl rfl ?_
  obtain ⟨a68, e69, f66, g67, H⟩ := H
  refine ea_deref1 e69 ?_
  obtain ⟨z70, H⟩ := H
  refine ea_iald (pc := 67) dX12_turns_67 f66 g67 z70 ?_
  refine ea_iconst (pc := 68) dX12_turns_68 (v := 1) rfl ?_
  refine ea_iadd (pc := 69) dX12_turns_69 ?_
  obtain ⟨f71, g72, H⟩ := H
  refine ea_deref2 e69 ?_
  obtain ⟨z73, H⟩ := H
  refine ea_iast (pc := 70) dX12_turns_70 f71 g72 z73 ?_
  obtain ⟨h74, E75⟩ : ∃ z, z = ea_wi h62 a68 (Int32.toNatClampNeg x1) ((ea_i h62 a68 (Int32.toNatClampNeg x1)) + (1 : Int32)) := ⟨_, rfl⟩
  have H := H h74 E75
  refine ea_nm E75 ?_
  obtain ⟨rfl, rfl⟩ := H
  exact ea_return (pc := 71) dX12_turns_71 rfl
theorem dX12_gathers_0 : decode cX12_gathers 0 = .ok (.aload_n 0, 1) := by decide +kernel
theorem dX12_gathers_1 : decode cX12_gathers 1 = .ok (.getfield 208, 3) := by decide +kernel
theorem dX12_gathers_4 : decode cX12_gathers 4 = .ok (.iconst 1, 1) := by decide +kernel
theorem dX12_gathers_5 : decode cX12_gathers 5 = .ok (.aload_n 0, 1) := by decide +kernel
theorem dX12_gathers_6 : decode cX12_gathers 6 = .ok (.getfield 147, 3) := by decide +kernel
theorem dX12_gathers_9 : decode cX12_gathers 9 = .ok (.iload_n 1, 1) := by decide +kernel
theorem dX12_gathers_10 : decode cX12_gathers 10 = .ok (.iaload, 1) := by decide +kernel
theorem dX12_gathers_11 : decode cX12_gathers 11 = .ok (.ldc_w 301, 3) := by decide +kernel
theorem dX12_gathers_14 : decode cX12_gathers 14 = .ok (.if_icmp .ne 7, 3) := by decide +kernel
theorem dX12_gathers_17 : decode cX12_gathers 17 = .ok (.iconst 0, 1) := by decide +kernel
theorem dX12_gathers_18 : decode cX12_gathers 18 = .ok (.goto 9, 3) := by decide +kernel
theorem dX12_gathers_21 : decode cX12_gathers 21 = .ok (.aload_n 0, 1) := by decide +kernel
theorem dX12_gathers_22 : decode cX12_gathers 22 = .ok (.getfield 147, 3) := by decide +kernel
theorem dX12_gathers_25 : decode cX12_gathers 25 = .ok (.iload_n 1, 1) := by decide +kernel
theorem dX12_gathers_26 : decode cX12_gathers 26 = .ok (.iaload, 1) := by decide +kernel
theorem dX12_gathers_27 : decode cX12_gathers 27 = .ok (.iastore, 1) := by decide +kernel
theorem dX12_gathers_28 : decode cX12_gathers 28 = .ok (.aload_n 0, 1) := by decide +kernel
theorem dX12_gathers_29 : decode cX12_gathers 29 = .ok (.getfield 208, 3) := by decide +kernel
theorem dX12_gathers_32 : decode cX12_gathers 32 = .ok (.iconst 2, 1) := by decide +kernel
theorem dX12_gathers_33 : decode cX12_gathers 33 = .ok (.aload_n 0, 1) := by decide +kernel
theorem dX12_gathers_34 : decode cX12_gathers 34 = .ok (.getfield 135, 3) := by decide +kernel
theorem dX12_gathers_37 : decode cX12_gathers 37 = .ok (.iload_n 1, 1) := by decide +kernel
theorem dX12_gathers_38 : decode cX12_gathers 38 = .ok (.iaload, 1) := by decide +kernel
theorem dX12_gathers_39 : decode cX12_gathers 39 = .ok (.iastore, 1) := by decide +kernel
theorem dX12_gathers_40 : decode cX12_gathers 40 = .ok (.aload_n 0, 1) := by decide +kernel
theorem dX12_gathers_41 : decode cX12_gathers 41 = .ok (.getfield 208, 3) := by decide +kernel
theorem dX12_gathers_44 : decode cX12_gathers 44 = .ok (.iconst 3, 1) := by decide +kernel
theorem dX12_gathers_45 : decode cX12_gathers 45 = .ok (.aload_n 0, 1) := by decide +kernel
theorem dX12_gathers_46 : decode cX12_gathers 46 = .ok (.getfield 138, 3) := by decide +kernel
theorem dX12_gathers_49 : decode cX12_gathers 49 = .ok (.iload_n 1, 1) := by decide +kernel
theorem dX12_gathers_50 : decode cX12_gathers 50 = .ok (.iaload, 1) := by decide +kernel
theorem dX12_gathers_51 : decode cX12_gathers 51 = .ok (.iastore, 1) := by decide +kernel
theorem dX12_gathers_52 : decode cX12_gathers 52 = .ok (.aload_n 0, 1) := by decide +kernel
theorem dX12_gathers_53 : decode cX12_gathers 53 = .ok (.getfield 208, 3) := by decide +kernel
theorem dX12_gathers_56 : decode cX12_gathers 56 = .ok (.iconst 4, 1) := by decide +kernel
theorem dX12_gathers_57 : decode cX12_gathers 57 = .ok (.aload_n 0, 1) := by decide +kernel
theorem dX12_gathers_58 : decode cX12_gathers 58 = .ok (.getfield 144, 3) := by decide +kernel
theorem dX12_gathers_61 : decode cX12_gathers 61 = .ok (.iload_n 1, 1) := by decide +kernel
theorem dX12_gathers_62 : decode cX12_gathers 62 = .ok (.iaload, 1) := by decide +kernel
theorem dX12_gathers_63 : decode cX12_gathers 63 = .ok (.sipush 1440, 3) := by decide +kernel
theorem dX12_gathers_66 : decode cX12_gathers 66 = .ok (.irem, 1) := by decide +kernel
theorem dX12_gathers_67 : decode cX12_gathers 67 = .ok (.bipush 60, 2) := by decide +kernel
theorem dX12_gathers_69 : decode cX12_gathers 69 = .ok (.idiv, 1) := by decide +kernel
theorem dX12_gathers_70 : decode cX12_gathers 70 = .ok (.iastore, 1) := by decide +kernel
theorem dX12_gathers_71 : decode cX12_gathers 71 = .ok (.aload_n 0, 1) := by decide +kernel
theorem dX12_gathers_72 : decode cX12_gathers 72 = .ok (.getfield 208, 3) := by decide +kernel
theorem dX12_gathers_75 : decode cX12_gathers 75 = .ok (.iconst 5, 1) := by decide +kernel
theorem dX12_gathers_76 : decode cX12_gathers 76 = .ok (.aload_n 0, 1) := by decide +kernel
theorem dX12_gathers_77 : decode cX12_gathers 77 = .ok (.getfield 144, 3) := by decide +kernel
theorem dX12_gathers_80 : decode cX12_gathers 80 = .ok (.iload_n 1, 1) := by decide +kernel
theorem dX12_gathers_81 : decode cX12_gathers 81 = .ok (.iaload, 1) := by decide +kernel
theorem dX12_gathers_82 : decode cX12_gathers 82 = .ok (.sipush 1440, 3) := by decide +kernel
theorem dX12_gathers_85 : decode cX12_gathers 85 = .ok (.idiv, 1) := by decide +kernel
theorem dX12_gathers_86 : decode cX12_gathers 86 = .ok (.iastore, 1) := by decide +kernel
theorem dX12_gathers_87 : decode cX12_gathers 87 = .ok (.aload_n 0, 1) := by decide +kernel
theorem dX12_gathers_88 : decode cX12_gathers 88 = .ok (.getfield 208, 3) := by decide +kernel
theorem dX12_gathers_91 : decode cX12_gathers 91 = .ok (.bipush 6, 2) := by decide +kernel
theorem dX12_gathers_93 : decode cX12_gathers 93 = .ok (.aload_n 0, 1) := by decide +kernel
theorem dX12_gathers_94 : decode cX12_gathers 94 = .ok (.getfield 126, 3) := by decide +kernel
theorem dX12_gathers_97 : decode cX12_gathers 97 = .ok (.iload_n 1, 1) := by decide +kernel
theorem dX12_gathers_98 : decode cX12_gathers 98 = .ok (.iaload, 1) := by decide +kernel
theorem dX12_gathers_99 : decode cX12_gathers 99 = .ok (.iastore, 1) := by decide +kernel
theorem dX12_gathers_100 : decode cX12_gathers 100 = .ok (.aload_n 0, 1) := by decide +kernel
theorem dX12_gathers_101 : decode cX12_gathers 101 = .ok (.getfield 208, 3) := by decide +kernel
theorem dX12_gathers_104 : decode cX12_gathers 104 = .ok (.bipush 7, 2) := by decide +kernel
theorem dX12_gathers_106 : decode cX12_gathers 106 = .ok (.aload_n 0, 1) := by decide +kernel
theorem dX12_gathers_107 : decode cX12_gathers 107 = .ok (.getfield 168, 3) := by decide +kernel
theorem dX12_gathers_110 : decode cX12_gathers 110 = .ok (.iload_n 1, 1) := by decide +kernel
theorem dX12_gathers_111 : decode cX12_gathers 111 = .ok (.baload, 1) := by decide +kernel
theorem dX12_gathers_112 : decode cX12_gathers 112 = .ok (.ifCond .eq 7, 3) := by decide +kernel
theorem dX12_gathers_115 : decode cX12_gathers 115 = .ok (.iconst 1, 1) := by decide +kernel
theorem dX12_gathers_116 : decode cX12_gathers 116 = .ok (.goto 4, 3) := by decide +kernel
theorem dX12_gathers_119 : decode cX12_gathers 119 = .ok (.iconst 0, 1) := by decide +kernel
theorem dX12_gathers_120 : decode cX12_gathers 120 = .ok (.iastore, 1) := by decide +kernel
theorem dX12_gathers_121 : decode cX12_gathers 121 = .ok (.return_, 1) := by decide +kernel
theorem bX12_gathers_0 {d : Nat} {h0 hE h : ea_H} {rv : Option ea_V} {r0 : Option Nat} {x1 : Int32} (H : ∃ a3, r0 = some a3 ∧ a3 < ea_n h ∧ ea_c h a3 = 12 ∧ a3 < ea_n h ∧ ea_c h a3 = 12 ∧ ∃ a9, (ea_r h a3 71) = some a9 ∧ a9 < ea_n h ∧ ea_c h a9 = 20 ∧ vp_in x1 (ea_l h a9) ∧ (¬ (ea_i h a9 (Int32.toNatClampNeg x1)) = (1000000 : Int32) → a3 < ea_n h ∧ ea_c h a3 = 12 ∧ a9 < ea_n h ∧ ea_c h a9 = 20 ∧ vp_in x1 (ea_l h a9) ∧ ea_W mX12_gathers d h0 rv hE 27 [(0, vR r0), (1, vI x1)] [vI (ea_i h a9 (Int32.toNatClampNeg x1)), vI 1, vR (ea_r h a3 91)] h) ∧ ((ea_i h a9 (Int32.toNatClampNeg x1)) = (1000000 : Int32) → ea_W mX12_gathers d h0 rv hE 27 [(0, vR r0), (1, vI x1)] [vI 0, vI 1, vR (ea_r h a3 91)] h)) : ea_W mX12_gathers d h0 rv hE 0 [(0, vR r0), (1, vI x1)] [] h := by
  refine ea_aload_n (pc := 0) dX12_gathers_0 rfl 0 rfl ?_
  obtain ⟨a3, e4, f1, g2, H⟩ := H
  refine ea_deref0 e4 ?_
  refine ea_getR (pc := 1) dX12_gathers_1 ec_12 (k := 91) (Nat.le_of_ble_eq_true rfl) rfl (Or.inl ew_1436) f1 g2 rfl ?_
  refine ea_iconst (pc := 4) dX12_gathers_4 (v := 1) rfl ?_
  refine ea_aload_n (pc := 5) dX12_gathers_5 rfl 0 rfl ?_
  obtain ⟨f5, g6, H⟩ := H
  refine ea_deref0 e4 ?_
  refine ea_getR (pc := 6) dX12_gathers_6 ec_12 (k := 71) (Nat.le_of_ble_eq_true rfl) rfl (Or.inl ew_1416) f5 g6 rfl ?_
  refine ea_iload_n (pc := 9) dX12_gathers_9 rfl 1 rfl ?_
  obtain ⟨a9, e10, f7, g8, H⟩ := H
  refine ea_deref1 e10 ?_
  obtain ⟨z11, H⟩ := H
  refine ea_iald (pc := 10) dX12_gathers_10 f7 g8 z11 ?_
  refine ea_ldcw (pc := 11) dX12_gathers_11 ew_1727 ?_
  refine ea_icmp_ne (pc := 14) (tgt := 21) dX12_gathers_14 rfl (fun c17 => ?_) (fun c17 => ?_)
  · have H := H.1 c17
    refine ea_aload_n (pc := 21) dX12_gathers_21 rfl 0 rfl ?_
    obtain ⟨f12, g13, H⟩ := H
    refine ea_deref0 e4 ?_
    refine ea_getR (pc := 22) dX12_gathers_22 ec_12 (k := 71) (Nat.le_of_ble_eq_true rfl) rfl (Or.inl ew_1416) f12 g13 rfl ?_
    refine ea_iload_n (pc := 25) dX12_gathers_25 rfl 1 rfl ?_
    obtain ⟨f14, g15, H⟩ := H
    refine ea_deref1 e10 ?_
    obtain ⟨z16, H⟩ := H
    refine ea_iald (pc := 26) dX12_gathers_26 f14 g15 z16 ?_
    exact H
  · have H := H.2 c17
    refine ea_iconst (pc := 17) dX12_gathers_17 (v := 0) rfl ?_
    refine ea_goto (pc := 18) (tgt := 27) dX12_gathers_18 rfl ?_
    exact H
theorem bX12_gathers_27 {d : Nat} {h0 hE h : ea_H} {rv : Option ea_V} {r0 : Option Nat} {x1 : Int32} {sx0 : Int32} {sx1 : Int32} {sr2 : Option Nat} (H : ∃ a3, sr2 = some a3 ∧ a3 < ea_n h ∧ ea_c h a3 = 20 ∧ vp_in sx1 (ea_l h a3) ∧ ∀ h6, h6 = ea_wi h a3 (Int32.toNatClampNeg sx1) sx0 → ∃ a10, r0 = some a10 ∧ a10 < ea_n h6 ∧ ea_c h6 a10 = 12 ∧ a10 < ea_n h6 ∧ ea_c h6 a10 = 12 ∧ ∃ a16, (ea_r h6 a10 67) = some a16 ∧ a16 < ea_n h6 ∧ ea_c h6 a16 = 20 ∧ vp_in x1 (ea_l h6 a16) ∧ ∃ a21, (ea_r h6 a10 91) = some a21 ∧ a21 < ea_n h6 ∧ ea_c h6 a21 = 20 ∧ vp_in 2 (ea_l h6 a21) ∧ ∀ h24, h24 = ea_wi h6 a21 (Int32.toNatClampNeg 2) (ea_i h6 a16 (Int32.toNatClampNeg x1)) → a10 < ea_n h24 ∧ ea_c h24 a10 = 12 ∧ a10 < ea_n h24 ∧ ea_c h24 a10 = 12 ∧ ∃ a32, (ea_r h24 a10 68) = some a32 ∧ a32 < ea_n h24 ∧ ea_c h24 a32 = 20 ∧ vp_in x1 (ea_l h24 a32) ∧ ∃ a37, (ea_r h24 a10 91) = some a37 ∧ a37 < ea_n h24 ∧ ea_c h24 a37 = 20 ∧ vp_in 3 (ea_l h24 a37) ∧ ∀ h40, h40 = ea_wi h24 a37 (Int32.toNatClampNeg 3) (ea_i h24 a32 (Int32.toNatClampNeg x1)) → a10 < ea_n h40 ∧ ea_c h40 a10 = 12 ∧ a10 < ea_n h40 ∧ ea_c h40 a10 = 12 ∧ ∃ a48, (ea_r h40 a10 70) = some a48 ∧ a48 < ea_n h40 ∧ ea_c h40 a48 = 20 ∧ vp_in x1 (ea_l h40 a48) ∧ ∃ a53, (ea_r h40 a10 91) = some a53 ∧ a53 < ea_n h40 ∧ ea_c h40 a53 = 20 ∧ vp_in 4 (ea_l h40 a53) ∧ ∀ h56, h56 = ea_wi h40 a53 (Int32.toNatClampNeg 4) (((ea_i h40 a48 (Int32.toNatClampNeg x1)) - (ea_i h40 a48 (Int32.toNatClampNeg x1)) / (1440 : Int32) * (1440 : Int32)) / (60 : Int32)) → a10 < ea_n h56 ∧ ea_c h56 a10 = 12 ∧ a10 < ea_n h56 ∧ ea_c h56 a10 = 12 ∧ ∃ a64, (ea_r h56 a10 70) = some a64 ∧ a64 < ea_n h56 ∧ ea_c h56 a64 = 20 ∧ vp_in x1 (ea_l h56 a64) ∧ ∃ a69, (ea_r h56 a10 91) = some a69 ∧ a69 < ea_n h56 ∧ ea_c h56 a69 = 20 ∧ vp_in 5 (ea_l h56 a69) ∧ ∀ h72, h72 = ea_wi h56 a69 (Int32.toNatClampNeg 5) ((ea_i h56 a64 (Int32.toNatClampNeg x1)) / (1440 : Int32)) → a10 < ea_n h72 ∧ ea_c h72 a10 = 12 ∧ a10 < ea_n h72 ∧ ea_c h72 a10 = 12 ∧ ∃ a80, (ea_r h72 a10 64) = some a80 ∧ a80 < ea_n h72 ∧ ea_c h72 a80 = 20 ∧ vp_in x1 (ea_l h72 a80) ∧ ∃ a85, (ea_r h72 a10 91) = some a85 ∧ a85 < ea_n h72 ∧ ea_c h72 a85 = 20 ∧ vp_in 6 (ea_l h72 a85) ∧ ∀ h88, h88 = ea_wi h72 a85 (Int32.toNatClampNeg 6) (ea_i h72 a80 (Int32.toNatClampNeg x1)) → a10 < ea_n h88 ∧ ea_c h88 a10 = 12 ∧ a10 < ea_n h88 ∧ ea_c h88 a10 = 12 ∧ ∃ a96, (ea_r h88 a10 78) = some a96 ∧ a96 < ea_n h88 ∧ ea_c h88 a96 = 21 ∧ vp_in x1 (ea_l h88 a96) ∧ ((ea_i h88 a96 (Int32.toNatClampNeg x1)) = (0 : Int32) → ∃ a101, (ea_r h88 a10 91) = some a101 ∧ a101 < ea_n h88 ∧ ea_c h88 a101 = 20 ∧ vp_in 7 (ea_l h88 a101) ∧ ∀ h104, h104 = ea_wi h88 a101 (Int32.toNatClampNeg 7) 0 → rv = none ∧ hE = h104) ∧ (¬ (ea_i h88 a96 (Int32.toNatClampNeg x1)) = (0 : Int32) → ∃ a108, (ea_r h88 a10 91) = some a108 ∧ a108 < ea_n h88 ∧ ea_c h88 a108 = 20 ∧ vp_in 7 (ea_l h88 a108) ∧ ∀ h111, h111 = ea_wi h88 a108 (Int32.toNatClampNeg 7) 1 → rv = none ∧ hE = h111)) : ea_W mX12_gathers d h0 rv hE 27 [(0, vR r0), (1, vI x1)] [vI sx0, vI sx1, vR sr2] h := by
  obtain ⟨a3, e4, f1, g2, H⟩ := H
  refine ea_deref2 e4 ?_
  obtain ⟨z5, H⟩ := H
  refine ea_iast (pc := 27) dX12_gathers_27 f1 g2 z5 ?_
  obtain ⟨h6, E7⟩ : ∃ z, z = ea_wi h a3 (Int32.toNatClampNeg sx1) sx0 := ⟨_, rfl⟩
  have H := H h6 E7
  refine ea_nm E7 ?_
  refine ea_aload_n (pc := 28) dX12_gathers_28 rfl 0 rfl ?_
  obtain ⟨a10, e11, f8, g9, H⟩ := H
  refine ea_deref0 e11 ?_
  refine ea_getR (pc := 29) dX12_gathers_29 ec_12 (k := 91) (Nat.le_of_ble_eq_true rfl) rfl (Or.inl ew_1436) f8 g9 rfl ?_
  refine ea_iconst (pc := 32) dX12_gathers_32 (v := 2) rfl ?_
  refine ea_aload_n (pc := 33) dX12_gathers_33 rfl 0 rfl ?_
  obtain ⟨f12, g13, H⟩ := H
  refine ea_deref0 e11 ?_
  refine ea_getR (pc := 34) dX12_gathers_34 ec_12 (k := 67) (Nat.le_of_ble_eq_true rfl) rfl (Or.inl ew_1412) f12 g13 rfl ?_
  refine ea_iload_n (pc := 37) dX12_gathers_37 rfl 1 rfl ?_
  obtain ⟨a16, e17, f14, g15, H⟩ := H
  refine ea_deref1 e17 ?_
  obtain ⟨z18, H⟩ := H
  refine ea_iald (pc := 38) dX12_gathers_38 f14 g15 z18 ?_
  obtain ⟨a21, e22, f19, g20, H⟩ := H
  refine ea_deref2 e22 ?_
  obtain ⟨z23, H⟩ := H
  refine ea_iast (pc := 39) dX12_gathers_39 f19 g20 z23 ?_
  obtain ⟨h24, E25⟩ : ∃ z, z = ea_wi h6 a21 (Int32.toNatClampNeg 2) (ea_i h6 a16 (Int32.toNatClampNeg x1)) := ⟨_, rfl⟩
  have H := H h24 E25
  refine ea_nm E25 ?_
  refine ea_aload_n (pc := 40) dX12_gathers_40 rfl 0 rfl ?_
  obtain ⟨f26, g27, H⟩ := H
  refine ea_deref0 e11 ?_
  refine ea_getR (pc := 41) dX12_gathers_41 ec_12 (k := 91) (Nat.le_of_ble_eq_true rfl) rfl (Or.inl ew_1436) f26 g27 rfl ?_
  refine ea_iconst (pc := 44) dX12_gathers_44 (v := 3) rfl ?_
  refine ea_aload_n (pc := 45) dX12_gathers_45 rfl 0 rfl ?_
  obtain ⟨f28, g29, H⟩ := H
  refine ea_deref0 e11 ?_
  refine ea_getR (pc := 46) dX12_gathers_46 ec_12 (k := 68) (Nat.le_of_ble_eq_true rfl) rfl (Or.inl ew_1413) f28 g29 rfl ?_
  refine ea_iload_n (pc := 49) dX12_gathers_49 rfl 1 rfl ?_
  obtain ⟨a32, e33, f30, g31, H⟩ := H
  refine ea_deref1 e33 ?_
  obtain ⟨z34, H⟩ := H
  refine ea_iald (pc := 50) dX12_gathers_50 f30 g31 z34 ?_
  obtain ⟨a37, e38, f35, g36, H⟩ := H
  refine ea_deref2 e38 ?_
  obtain ⟨z39, H⟩ := H
  refine ea_iast (pc := 51) dX12_gathers_51 f35 g36 z39 ?_
  obtain ⟨h40, E41⟩ : ∃ z, z = ea_wi h24 a37 (Int32.toNatClampNeg 3) (ea_i h24 a32 (Int32.toNatClampNeg x1)) := ⟨_, rfl⟩
  have H := H h40 E41
  refine ea_nm E41 ?_
  refine ea_aload_n (pc := 52) dX12_gathers_52 rfl 0 rfl ?_
  obtain ⟨f42, g43, H⟩ := H
  refine ea_deref0 e11 ?_
  refine ea_getR (pc := 53) dX12_gathers_53 ec_12 (k := 91) (Nat.le_of_ble_eq_true rfl) rfl (Or.inl ew_1436) f42 g43 rfl ?_
  refine ea_iconst (pc := 56) dX12_gathers_56 (v := 4) rfl ?_
  refine ea_aload_n (pc := 57) dX12_gathers_57 rfl 0 rfl ?_
  obtain ⟨f44, g45, H⟩ := H
  refine ea_deref0 e11 ?_
  refine ea_getR (pc := 58) dX12_gathers_58 ec_12 (k := 70) (Nat.le_of_ble_eq_true rfl) rfl (Or.inl ew_1415) f44 g45 rfl ?_
  refine ea_iload_n (pc := 61) dX12_gathers_61 rfl 1 rfl ?_
  obtain ⟨a48, e49, f46, g47, H⟩ := H
  refine ea_deref1 e49 ?_
  obtain ⟨z50, H⟩ := H
  refine ea_iald (pc := 62) dX12_gathers_62 f46 g47 z50 ?_
  refine ea_sipush (pc := 63) dX12_gathers_63 (v := 1440) rfl ?_
  refine ea_irem (pc := 66) dX12_gathers_66 (by decide) ?_
  refine ea_bipush (pc := 67) dX12_gathers_67 (v := 60) rfl ?_
  refine ea_idiv (pc := 69) dX12_gathers_69 (by decide) ?_
  obtain ⟨a53, e54, f51, g52, H⟩ := H
  refine ea_deref2 e54 ?_
  obtain ⟨z55, H⟩ := H
  refine ea_iast (pc := 70) dX12_gathers_70 f51 g52 z55 ?_
  obtain ⟨h56, E57⟩ : ∃ z, z = ea_wi h40 a53 (Int32.toNatClampNeg 4) (((ea_i h40 a48 (Int32.toNatClampNeg x1)) - (ea_i h40 a48 (Int32.toNatClampNeg x1)) / (1440 : Int32) * (1440 : Int32)) / (60 : Int32)) := ⟨_, rfl⟩
  have H := H h56 E57
  refine ea_nm E57 ?_
  refine ea_aload_n (pc := 71) dX12_gathers_71 rfl 0 rfl ?_
  obtain ⟨f58, g59, H⟩ := H
  refine ea_deref0 e11 ?_
  refine ea_getR (pc := 72) dX12_gathers_72 ec_12 (k := 91) (Nat.le_of_ble_eq_true rfl) rfl (Or.inl ew_1436) f58 g59 rfl ?_
  refine ea_iconst (pc := 75) dX12_gathers_75 (v := 5) rfl ?_
  refine ea_aload_n (pc := 76) dX12_gathers_76 rfl 0 rfl ?_
  obtain ⟨f60, g61, H⟩ := H
  refine ea_deref0 e11 ?_
  refine ea_getR (pc := 77) dX12_gathers_77 ec_12 (k := 70) (Nat.le_of_ble_eq_true rfl) rfl (Or.inl ew_1415) f60 g61 rfl ?_
  refine ea_iload_n (pc := 80) dX12_gathers_80 rfl 1 rfl ?_
  obtain ⟨a64, e65, f62, g63, H⟩ := H
  refine ea_deref1 e65 ?_
  obtain ⟨z66, H⟩ := H
  refine ea_iald (pc := 81) dX12_gathers_81 f62 g63 z66 ?_
  refine ea_sipush (pc := 82) dX12_gathers_82 (v := 1440) rfl ?_
  refine ea_idiv (pc := 85) dX12_gathers_85 (by decide) ?_
  obtain ⟨a69, e70, f67, g68, H⟩ := H
  refine ea_deref2 e70 ?_
  obtain ⟨z71, H⟩ := H
  refine ea_iast (pc := 86) dX12_gathers_86 f67 g68 z71 ?_
  obtain ⟨h72, E73⟩ : ∃ z, z = ea_wi h56 a69 (Int32.toNatClampNeg 5) ((ea_i h56 a64 (Int32.toNatClampNeg x1)) / (1440 : Int32)) := ⟨_, rfl⟩
  have H := H h72 E73
  refine ea_nm E73 ?_
  refine ea_aload_n (pc := 87) dX12_gathers_87 rfl 0 rfl ?_
  obtain ⟨f74, g75, H⟩ := H
  refine ea_deref0 e11 ?_
  refine ea_getR (pc := 88) dX12_gathers_88 ec_12 (k := 91) (Nat.le_of_ble_eq_true rfl) rfl (Or.inl ew_1436) f74 g75 rfl ?_
  refine ea_bipush (pc := 91) dX12_gathers_91 (v := 6) rfl ?_
  refine ea_aload_n (pc := 93) dX12_gathers_93 rfl 0 rfl ?_
  obtain ⟨f76, g77, H⟩ := H
  refine ea_deref0 e11 ?_
  refine ea_getR (pc := 94) dX12_gathers_94 ec_12 (k := 64) (Nat.le_of_ble_eq_true rfl) rfl (Or.inl ew_1409) f76 g77 rfl ?_
  refine ea_iload_n (pc := 97) dX12_gathers_97 rfl 1 rfl ?_
  obtain ⟨a80, e81, f78, g79, H⟩ := H
  refine ea_deref1 e81 ?_
  obtain ⟨z82, H⟩ := H
  refine ea_iald (pc := 98) dX12_gathers_98 f78 g79 z82 ?_
  obtain ⟨a85, e86, f83, g84, H⟩ := H
  refine ea_deref2 e86 ?_
  obtain ⟨z87, H⟩ := H
  refine ea_iast (pc := 99) dX12_gathers_99 f83 g84 z87 ?_
  obtain ⟨h88, E89⟩ : ∃ z, z = ea_wi h72 a85 (Int32.toNatClampNeg 6) (ea_i h72 a80 (Int32.toNatClampNeg x1)) := ⟨_, rfl⟩
  have H := H h88 E89
  refine ea_nm E89 ?_
  refine ea_aload_n (pc := 100) dX12_gathers_100 rfl 0 rfl ?_
  obtain ⟨f90, g91, H⟩ := H
  refine ea_deref0 e11 ?_
  refine ea_getR (pc := 101) dX12_gathers_101 ec_12 (k := 91) (Nat.le_of_ble_eq_true rfl) rfl (Or.inl ew_1436) f90 g91 rfl ?_
  refine ea_bipush (pc := 104) dX12_gathers_104 (v := 7) rfl ?_
  refine ea_aload_n (pc := 106) dX12_gathers_106 rfl 0 rfl ?_
  obtain ⟨f92, g93, H⟩ := H
  refine ea_deref0 e11 ?_
  refine ea_getR (pc := 107) dX12_gathers_107 ec_12 (k := 78) (Nat.le_of_ble_eq_true rfl) rfl (Or.inl ew_1423) f92 g93 rfl ?_
  refine ea_iload_n (pc := 110) dX12_gathers_110 rfl 1 rfl ?_
  obtain ⟨a96, e97, f94, g95, H⟩ := H
  refine ea_deref1 e97 ?_
  obtain ⟨z98, H⟩ := H
  refine ea_zald (pc := 111) dX12_gathers_111 f94 g95 z98 ?_
  refine ea_if_eq (pc := 112) (tgt := 119) dX12_gathers_112 rfl (fun c113 => ?_) (fun c113 => ?_)
  · have H := H.1 c113
    refine ea_iconst (pc := 119) dX12_gathers_119 (v := 0) rfl ?_
    obtain ⟨a101, e102, f99, g100, H⟩ := H
    refine ea_deref2 e102 ?_
    obtain ⟨z103, H⟩ := H
    refine ea_iast (pc := 120) dX12_gathers_120 f99 g100 z103 ?_
    obtain ⟨h104, E105⟩ : ∃ z, z = ea_wi h88 a101 (Int32.toNatClampNeg 7) 0 := ⟨_, rfl⟩
    have H := H h104 E105
    refine ea_nm E105 ?_
    obtain ⟨rfl, rfl⟩ := H
    exact ea_return (pc := 121) dX12_gathers_121 rfl
  · have H := H.2 c113
    refine ea_iconst (pc := 115) dX12_gathers_115 (v := 1) rfl ?_
    refine ea_goto (pc := 116) (tgt := 120) dX12_gathers_116 rfl ?_
    obtain ⟨a108, e109, f106, g107, H⟩ := H
    refine ea_deref2 e109 ?_
    obtain ⟨z110, H⟩ := H
    refine ea_iast (pc := 120) dX12_gathers_120 f106 g107 z110 ?_
    obtain ⟨h111, E112⟩ : ∃ z, z = ea_wi h88 a108 (Int32.toNatClampNeg 7) 1 := ⟨_, rfl⟩
    have H := H h111 E112
    refine ea_nm E112 ?_
    obtain ⟨rfl, rfl⟩ := H
    exact ea_return (pc := 121) dX12_gathers_121 rfl
theorem dX12_both_0 : decode cX12_both 0 = .ok (.iload_n 0, 1) := by decide +kernel
theorem dX12_both_1 : decode cX12_both 1 = .ok (.tableswitch 100 8 16 #[51, 55, 59, 100, 63, 74, 85, 100, 96], 51) := by decide +kernel
theorem dX12_both_52 : decode cX12_both 52 = .ok (.iload_n 1, 1) := by decide +kernel
theorem dX12_both_53 : decode cX12_both 53 = .ok (.iload_n 2, 1) := by decide +kernel
theorem dX12_both_54 : decode cX12_both 54 = .ok (.iadd, 1) := by decide +kernel
theorem dX12_both_55 : decode cX12_both 55 = .ok (.ireturn, 1) := by decide +kernel
theorem dX12_both_56 : decode cX12_both 56 = .ok (.iload_n 1, 1) := by decide +kernel
theorem dX12_both_57 : decode cX12_both 57 = .ok (.iload_n 2, 1) := by decide +kernel
theorem dX12_both_58 : decode cX12_both 58 = .ok (.isub, 1) := by decide +kernel
theorem dX12_both_59 : decode cX12_both 59 = .ok (.ireturn, 1) := by decide +kernel
theorem dX12_both_60 : decode cX12_both 60 = .ok (.iload_n 1, 1) := by decide +kernel
theorem dX12_both_61 : decode cX12_both 61 = .ok (.iload_n 2, 1) := by decide +kernel
theorem dX12_both_62 : decode cX12_both 62 = .ok (.imul, 1) := by decide +kernel
theorem dX12_both_63 : decode cX12_both 63 = .ok (.ireturn, 1) := by decide +kernel
theorem dX12_both_64 : decode cX12_both 64 = .ok (.iload_n 1, 1) := by decide +kernel
theorem dX12_both_65 : decode cX12_both 65 = .ok (.iload_n 2, 1) := by decide +kernel
theorem dX12_both_66 : decode cX12_both 66 = .ok (.if_icmp .ge 7, 3) := by decide +kernel
theorem dX12_both_69 : decode cX12_both 69 = .ok (.iconst 1, 1) := by decide +kernel
theorem dX12_both_70 : decode cX12_both 70 = .ok (.goto 4, 3) := by decide +kernel
theorem dX12_both_73 : decode cX12_both 73 = .ok (.iconst 0, 1) := by decide +kernel
theorem dX12_both_74 : decode cX12_both 74 = .ok (.ireturn, 1) := by decide +kernel
theorem dX12_both_75 : decode cX12_both 75 = .ok (.iload_n 1, 1) := by decide +kernel
theorem dX12_both_76 : decode cX12_both 76 = .ok (.iload_n 2, 1) := by decide +kernel
theorem dX12_both_77 : decode cX12_both 77 = .ok (.if_icmp .ne 7, 3) := by decide +kernel
theorem dX12_both_80 : decode cX12_both 80 = .ok (.iconst 1, 1) := by decide +kernel
theorem dX12_both_81 : decode cX12_both 81 = .ok (.goto 4, 3) := by decide +kernel
theorem dX12_both_84 : decode cX12_both 84 = .ok (.iconst 0, 1) := by decide +kernel
theorem dX12_both_85 : decode cX12_both 85 = .ok (.ireturn, 1) := by decide +kernel
theorem dX12_both_86 : decode cX12_both 86 = .ok (.iload_n 1, 1) := by decide +kernel
theorem dX12_both_87 : decode cX12_both 87 = .ok (.iload_n 2, 1) := by decide +kernel
theorem dX12_both_88 : decode cX12_both 88 = .ok (.if_icmp .le 7, 3) := by decide +kernel
theorem dX12_both_91 : decode cX12_both 91 = .ok (.iconst 1, 1) := by decide +kernel
theorem dX12_both_92 : decode cX12_both 92 = .ok (.goto 4, 3) := by decide +kernel
theorem dX12_both_95 : decode cX12_both 95 = .ok (.iconst 0, 1) := by decide +kernel
theorem dX12_both_96 : decode cX12_both 96 = .ok (.ireturn, 1) := by decide +kernel
theorem dX12_both_97 : decode cX12_both 97 = .ok (.iload_n 1, 1) := by decide +kernel
theorem dX12_both_98 : decode cX12_both 98 = .ok (.iload_n 2, 1) := by decide +kernel
theorem dX12_both_99 : decode cX12_both 99 = .ok (.iand, 1) := by decide +kernel
theorem dX12_both_100 : decode cX12_both 100 = .ok (.ireturn, 1) := by decide +kernel
theorem dX12_both_101 : decode cX12_both 101 = .ok (.iload_n 1, 1) := by decide +kernel
theorem dX12_both_102 : decode cX12_both 102 = .ok (.iload_n 2, 1) := by decide +kernel
theorem dX12_both_103 : decode cX12_both 103 = .ok (.ior, 1) := by decide +kernel
theorem dX12_both_104 : decode cX12_both 104 = .ok (.ireturn, 1) := by decide +kernel
theorem bX12_both_0 {d : Nat} {h0 hE h : ea_H} {rv : Option ea_V} {x0 : Int32} {x1 : Int32} {x2 : Int32} (H : (Int32.toInt x0 = 8 → rv = some (vI (x1 + x2)) ∧ hE = h) ∧ (Int32.toInt x0 = 9 → rv = some (vI (x1 - x2)) ∧ hE = h) ∧ (Int32.toInt x0 = 10 → rv = some (vI (x1 * x2)) ∧ hE = h) ∧ (Int32.toInt x0 = 11 → rv = some (vI (x1 ||| x2)) ∧ hE = h) ∧ (Int32.toInt x0 = 12 → (x2 ≤ x1 → rv = some (vI 0) ∧ hE = h) ∧ (¬ x2 ≤ x1 → rv = some (vI 1) ∧ hE = h)) ∧ (Int32.toInt x0 = 13 → (¬ x1 = x2 → rv = some (vI 0) ∧ hE = h) ∧ (x1 = x2 → rv = some (vI 1) ∧ hE = h)) ∧ (Int32.toInt x0 = 14 → (x1 ≤ x2 → rv = some (vI 0) ∧ hE = h) ∧ (¬ x1 ≤ x2 → rv = some (vI 1) ∧ hE = h)) ∧ (Int32.toInt x0 = 15 → rv = some (vI (x1 ||| x2)) ∧ hE = h) ∧ (Int32.toInt x0 = 16 → rv = some (vI (x1 &&& x2)) ∧ hE = h) ∧ (Int32.toInt x0 < 8 ∨ 16 < Int32.toInt x0 → rv = some (vI (x1 ||| x2)) ∧ hE = h)) : ea_W mX12_both d h0 rv hE 0 [(0, vI x0), (1, vI x1), (2, vI x2)] [] h := by
  refine ea_iload_n (pc := 0) dX12_both_0 rfl 0 rfl ?_
  by_cases qc1 : Int32.toInt x0 = 8
  · have H := H.1 qc1
    refine ea_tswIn (pc := 1) (tgt := 52) dX12_both_1 (by omega) (by omega) (by rw [qc1]; rfl) rfl ?_
    refine ea_iload_n (pc := 52) dX12_both_52 rfl 1 rfl ?_
    refine ea_iload_n (pc := 53) dX12_both_53 rfl 2 rfl ?_
    refine ea_iadd (pc := 54) dX12_both_54 ?_
    obtain ⟨rfl, rfl⟩ := H
    exact ea_ireturn (pc := 55) dX12_both_55 rfl rfl
  by_cases qc2 : Int32.toInt x0 = 9
  · have H := H.2.1 qc2
    refine ea_tswIn (pc := 1) (tgt := 56) dX12_both_1 (by omega) (by omega) (by rw [qc2]; rfl) rfl ?_
    refine ea_iload_n (pc := 56) dX12_both_56 rfl 1 rfl ?_
    refine ea_iload_n (pc := 57) dX12_both_57 rfl 2 rfl ?_
    refine ea_isub (pc := 58) dX12_both_58 ?_
    obtain ⟨rfl, rfl⟩ := H
    exact ea_ireturn (pc := 59) dX12_both_59 rfl rfl
  by_cases qc3 : Int32.toInt x0 = 10
  · have H := H.2.2.1 qc3
    refine ea_tswIn (pc := 1) (tgt := 60) dX12_both_1 (by omega) (by omega) (by rw [qc3]; rfl) rfl ?_
    refine ea_iload_n (pc := 60) dX12_both_60 rfl 1 rfl ?_
    refine ea_iload_n (pc := 61) dX12_both_61 rfl 2 rfl ?_
    refine ea_imul (pc := 62) dX12_both_62 ?_
    obtain ⟨rfl, rfl⟩ := H
    exact ea_ireturn (pc := 63) dX12_both_63 rfl rfl
  by_cases qc4 : Int32.toInt x0 = 11
  · have H := H.2.2.2.1 qc4
    refine ea_tswIn (pc := 1) (tgt := 101) dX12_both_1 (by omega) (by omega) (by rw [qc4]; rfl) rfl ?_
    refine ea_iload_n (pc := 101) dX12_both_101 rfl 1 rfl ?_
    refine ea_iload_n (pc := 102) dX12_both_102 rfl 2 rfl ?_
    refine ea_ior (pc := 103) dX12_both_103 ?_
    obtain ⟨rfl, rfl⟩ := H
    exact ea_ireturn (pc := 104) dX12_both_104 rfl rfl
  by_cases qc5 : Int32.toInt x0 = 12
  · have H := H.2.2.2.2.1 qc5
    refine ea_tswIn (pc := 1) (tgt := 64) dX12_both_1 (by omega) (by omega) (by rw [qc5]; rfl) rfl ?_
    refine ea_iload_n (pc := 64) dX12_both_64 rfl 1 rfl ?_
    refine ea_iload_n (pc := 65) dX12_both_65 rfl 2 rfl ?_
    refine ea_icmp_ge (pc := 66) (tgt := 73) dX12_both_66 rfl (fun c1 => ?_) (fun c1 => ?_)
    · have H := H.1 c1
      refine ea_iconst (pc := 73) dX12_both_73 (v := 0) rfl ?_
      obtain ⟨rfl, rfl⟩ := H
      exact ea_ireturn (pc := 74) dX12_both_74 rfl rfl
    · have H := H.2 c1
      refine ea_iconst (pc := 69) dX12_both_69 (v := 1) rfl ?_
      refine ea_goto (pc := 70) (tgt := 74) dX12_both_70 rfl ?_
      obtain ⟨rfl, rfl⟩ := H
      exact ea_ireturn (pc := 74) dX12_both_74 rfl rfl
  by_cases qc6 : Int32.toInt x0 = 13
  · have H := H.2.2.2.2.2.1 qc6
    refine ea_tswIn (pc := 1) (tgt := 75) dX12_both_1 (by omega) (by omega) (by rw [qc6]; rfl) rfl ?_
    refine ea_iload_n (pc := 75) dX12_both_75 rfl 1 rfl ?_
    refine ea_iload_n (pc := 76) dX12_both_76 rfl 2 rfl ?_
    refine ea_icmp_ne (pc := 77) (tgt := 84) dX12_both_77 rfl (fun c2 => ?_) (fun c2 => ?_)
    · have H := H.1 c2
      refine ea_iconst (pc := 84) dX12_both_84 (v := 0) rfl ?_
      obtain ⟨rfl, rfl⟩ := H
      exact ea_ireturn (pc := 85) dX12_both_85 rfl rfl
    · have H := H.2 c2
      refine ea_iconst (pc := 80) dX12_both_80 (v := 1) rfl ?_
      refine ea_goto (pc := 81) (tgt := 85) dX12_both_81 rfl ?_
      obtain ⟨rfl, rfl⟩ := H
      exact ea_ireturn (pc := 85) dX12_both_85 rfl rfl
  by_cases qc7 : Int32.toInt x0 = 14
  · have H := H.2.2.2.2.2.2.1 qc7
    refine ea_tswIn (pc := 1) (tgt := 86) dX12_both_1 (by omega) (by omega) (by rw [qc7]; rfl) rfl ?_
    refine ea_iload_n (pc := 86) dX12_both_86 rfl 1 rfl ?_
    refine ea_iload_n (pc := 87) dX12_both_87 rfl 2 rfl ?_
    refine ea_icmp_le (pc := 88) (tgt := 95) dX12_both_88 rfl (fun c3 => ?_) (fun c3 => ?_)
    · have H := H.1 c3
      refine ea_iconst (pc := 95) dX12_both_95 (v := 0) rfl ?_
      obtain ⟨rfl, rfl⟩ := H
      exact ea_ireturn (pc := 96) dX12_both_96 rfl rfl
    · have H := H.2 c3
      refine ea_iconst (pc := 91) dX12_both_91 (v := 1) rfl ?_
      refine ea_goto (pc := 92) (tgt := 96) dX12_both_92 rfl ?_
      obtain ⟨rfl, rfl⟩ := H
      exact ea_ireturn (pc := 96) dX12_both_96 rfl rfl
  by_cases qc8 : Int32.toInt x0 = 15
  · have H := H.2.2.2.2.2.2.2.1 qc8
    refine ea_tswIn (pc := 1) (tgt := 101) dX12_both_1 (by omega) (by omega) (by rw [qc8]; rfl) rfl ?_
    refine ea_iload_n (pc := 101) dX12_both_101 rfl 1 rfl ?_
    refine ea_iload_n (pc := 102) dX12_both_102 rfl 2 rfl ?_
    refine ea_ior (pc := 103) dX12_both_103 ?_
    obtain ⟨rfl, rfl⟩ := H
    exact ea_ireturn (pc := 104) dX12_both_104 rfl rfl
  by_cases qc9 : Int32.toInt x0 = 16
  · have H := H.2.2.2.2.2.2.2.2.1 qc9
    refine ea_tswIn (pc := 1) (tgt := 97) dX12_both_1 (by omega) (by omega) (by rw [qc9]; rfl) rfl ?_
    refine ea_iload_n (pc := 97) dX12_both_97 rfl 1 rfl ?_
    refine ea_iload_n (pc := 98) dX12_both_98 rfl 2 rfl ?_
    refine ea_iand (pc := 99) dX12_both_99 ?_
    obtain ⟨rfl, rfl⟩ := H
    exact ea_ireturn (pc := 100) dX12_both_100 rfl rfl
  have qd : Int32.toInt x0 < 8 ∨ 16 < Int32.toInt x0 := by omega
  have H := H.2.2.2.2.2.2.2.2.2 qd
  refine ea_tswOut (pc := 1) (tgt := 101) dX12_both_1 qd rfl ?_
  refine ea_iload_n (pc := 101) dX12_both_101 rfl 1 rfl ?_
  refine ea_iload_n (pc := 102) dX12_both_102 rfl 2 rfl ?_
  refine ea_ior (pc := 103) dX12_both_103 ?_
  obtain ⟨rfl, rfl⟩ := H
  exact ea_ireturn (pc := 104) dX12_both_104 rfl rfl
theorem dX12_comesTo_0 : decode cX12_comesTo 0 = .ok (.iconst 0, 1) := by decide +kernel
theorem dX12_comesTo_1 : decode cX12_comesTo 1 = .ok (.istore 4, 2) := by decide +kernel
theorem dX12_comesTo_3 : decode cX12_comesTo 3 = .ok (.iload_n 2, 1) := by decide +kernel
theorem dX12_comesTo_4 : decode cX12_comesTo 4 = .ok (.istore 5, 2) := by decide +kernel
theorem dX12_comesTo_6 : decode cX12_comesTo 6 = .ok (.iload 5, 2) := by decide +kernel
theorem dX12_comesTo_8 : decode cX12_comesTo 8 = .ok (.iload_n 3, 1) := by decide +kernel
theorem dX12_comesTo_9 : decode cX12_comesTo 9 = .ok (.if_icmp .ge 169, 3) := by decide +kernel
theorem dX12_comesTo_12 : decode cX12_comesTo 12 = .ok (.aload_n 0, 1) := by decide +kernel
theorem dX12_comesTo_13 : decode cX12_comesTo 13 = .ok (.getfield 104, 3) := by decide +kernel
theorem dX12_comesTo_16 : decode cX12_comesTo 16 = .ok (.sipush 1220, 3) := by decide +kernel
theorem dX12_comesTo_19 : decode cX12_comesTo 19 = .ok (.iload_n 1, 1) := by decide +kernel
theorem dX12_comesTo_20 : decode cX12_comesTo 20 = .ok (.imul, 1) := by decide +kernel
theorem dX12_comesTo_21 : decode cX12_comesTo 21 = .ok (.iconst 2, 1) := by decide +kernel
theorem dX12_comesTo_22 : decode cX12_comesTo 22 = .ok (.iload 5, 2) := by decide +kernel
theorem dX12_comesTo_24 : decode cX12_comesTo 24 = .ok (.imul, 1) := by decide +kernel
theorem dX12_comesTo_25 : decode cX12_comesTo 25 = .ok (.iadd, 1) := by decide +kernel
theorem dX12_comesTo_26 : decode cX12_comesTo 26 = .ok (.iaload, 1) := by decide +kernel
theorem dX12_comesTo_27 : decode cX12_comesTo 27 = .ok (.istore 6, 2) := by decide +kernel
theorem dX12_comesTo_29 : decode cX12_comesTo 29 = .ok (.aload_n 0, 1) := by decide +kernel
theorem dX12_comesTo_30 : decode cX12_comesTo 30 = .ok (.getfield 104, 3) := by decide +kernel
theorem dX12_comesTo_33 : decode cX12_comesTo 33 = .ok (.sipush 1220, 3) := by decide +kernel
theorem dX12_comesTo_36 : decode cX12_comesTo 36 = .ok (.iload_n 1, 1) := by decide +kernel
theorem dX12_comesTo_37 : decode cX12_comesTo 37 = .ok (.imul, 1) := by decide +kernel
theorem dX12_comesTo_38 : decode cX12_comesTo 38 = .ok (.iconst 2, 1) := by decide +kernel
theorem dX12_comesTo_39 : decode cX12_comesTo 39 = .ok (.iload 5, 2) := by decide +kernel
theorem dX12_comesTo_41 : decode cX12_comesTo 41 = .ok (.imul, 1) := by decide +kernel
theorem dX12_comesTo_42 : decode cX12_comesTo 42 = .ok (.iadd, 1) := by decide +kernel
theorem dX12_comesTo_43 : decode cX12_comesTo 43 = .ok (.iconst 1, 1) := by decide +kernel
theorem dX12_comesTo_44 : decode cX12_comesTo 44 = .ok (.iadd, 1) := by decide +kernel
theorem dX12_comesTo_45 : decode cX12_comesTo 45 = .ok (.iaload, 1) := by decide +kernel
theorem dX12_comesTo_46 : decode cX12_comesTo 46 = .ok (.istore 7, 2) := by decide +kernel
theorem dX12_comesTo_48 : decode cX12_comesTo 48 = .ok (.iload 6, 2) := by decide +kernel
theorem dX12_comesTo_50 : decode cX12_comesTo 50 = .ok (.bipush 8, 2) := by decide +kernel
theorem dX12_comesTo_52 : decode cX12_comesTo 52 = .ok (.if_icmp .ge 33, 3) := by decide +kernel
theorem dX12_comesTo_55 : decode cX12_comesTo 55 = .ok (.aload_n 0, 1) := by decide +kernel
theorem dX12_comesTo_56 : decode cX12_comesTo 56 = .ok (.getfield 119, 3) := by decide +kernel
theorem dX12_comesTo_59 : decode cX12_comesTo 59 = .ok (.iload 4, 2) := by decide +kernel
theorem dX12_comesTo_61 : decode cX12_comesTo 61 = .ok (.iload 6, 2) := by decide +kernel
theorem dX12_comesTo_63 : decode cX12_comesTo 63 = .ok (.ifCond .ne 8, 3) := by decide +kernel
theorem dX12_comesTo_66 : decode cX12_comesTo 66 = .ok (.iload 7, 2) := by decide +kernel
theorem dX12_comesTo_68 : decode cX12_comesTo 68 = .ok (.goto 10, 3) := by decide +kernel
theorem dX12_comesTo_71 : decode cX12_comesTo 71 = .ok (.aload_n 0, 1) := by decide +kernel
theorem dX12_comesTo_72 : decode cX12_comesTo 72 = .ok (.getfield 208, 3) := by decide +kernel
theorem dX12_comesTo_75 : decode cX12_comesTo 75 = .ok (.iload 6, 2) := by decide +kernel
theorem dX12_comesTo_77 : decode cX12_comesTo 77 = .ok (.iaload, 1) := by decide +kernel
theorem dX12_comesTo_78 : decode cX12_comesTo 78 = .ok (.iastore, 1) := by decide +kernel
theorem dX12_comesTo_79 : decode cX12_comesTo 79 = .ok (.iinc 4 1, 3) := by decide +kernel
theorem dX12_comesTo_82 : decode cX12_comesTo 82 = .ok (.goto 90, 3) := by decide +kernel
theorem dX12_comesTo_85 : decode cX12_comesTo 85 = .ok (.iload 6, 2) := by decide +kernel
theorem dX12_comesTo_87 : decode cX12_comesTo 87 = .ok (.bipush 11, 2) := by decide +kernel
theorem dX12_comesTo_89 : decode cX12_comesTo 89 = .ok (.if_icmp .ne 20, 3) := by decide +kernel
theorem dX12_comesTo_92 : decode cX12_comesTo 92 = .ok (.aload_n 0, 1) := by decide +kernel
theorem dX12_comesTo_93 : decode cX12_comesTo 93 = .ok (.getfield 119, 3) := by decide +kernel
theorem dX12_comesTo_96 : decode cX12_comesTo 96 = .ok (.iload 4, 2) := by decide +kernel
theorem dX12_comesTo_98 : decode cX12_comesTo 98 = .ok (.iconst 1, 1) := by decide +kernel
theorem dX12_comesTo_99 : decode cX12_comesTo 99 = .ok (.isub, 1) := by decide +kernel
theorem dX12_comesTo_100 : decode cX12_comesTo 100 = .ok (.dup2, 1) := by decide +kernel
theorem dX12_comesTo_101 : decode cX12_comesTo 101 = .ok (.iaload, 1) := by decide +kernel
theorem dX12_comesTo_102 : decode cX12_comesTo 102 = .ok (.iload 7, 2) := by decide +kernel
theorem dX12_comesTo_104 : decode cX12_comesTo 104 = .ok (.idiv, 1) := by decide +kernel
theorem dX12_comesTo_105 : decode cX12_comesTo 105 = .ok (.iastore, 1) := by decide +kernel
theorem dX12_comesTo_106 : decode cX12_comesTo 106 = .ok (.goto 66, 3) := by decide +kernel
theorem dX12_comesTo_109 : decode cX12_comesTo 109 = .ok (.iload 6, 2) := by decide +kernel
theorem dX12_comesTo_111 : decode cX12_comesTo 111 = .ok (.bipush 15, 2) := by decide +kernel
theorem dX12_comesTo_113 : decode cX12_comesTo 113 = .ok (.if_icmp .ne 26, 3) := by decide +kernel
theorem dX12_comesTo_116 : decode cX12_comesTo 116 = .ok (.aload_n 0, 1) := by decide +kernel
theorem dX12_comesTo_117 : decode cX12_comesTo 117 = .ok (.getfield 119, 3) := by decide +kernel
theorem dX12_comesTo_120 : decode cX12_comesTo 120 = .ok (.iload 4, 2) := by decide +kernel
theorem dX12_comesTo_122 : decode cX12_comesTo 122 = .ok (.iconst 1, 1) := by decide +kernel
theorem dX12_comesTo_123 : decode cX12_comesTo 123 = .ok (.isub, 1) := by decide +kernel
theorem dX12_comesTo_124 : decode cX12_comesTo 124 = .ok (.iconst 1, 1) := by decide +kernel
theorem dX12_comesTo_125 : decode cX12_comesTo 125 = .ok (.aload_n 0, 1) := by decide +kernel
theorem dX12_comesTo_126 : decode cX12_comesTo 126 = .ok (.getfield 119, 3) := by decide +kernel
theorem dX12_comesTo_129 : decode cX12_comesTo 129 = .ok (.iload 4, 2) := by decide +kernel
theorem dX12_comesTo_131 : decode cX12_comesTo 131 = .ok (.iconst 1, 1) := by decide +kernel
theorem dX12_comesTo_132 : decode cX12_comesTo 132 = .ok (.isub, 1) := by decide +kernel
theorem dX12_comesTo_133 : decode cX12_comesTo 133 = .ok (.iaload, 1) := by decide +kernel
theorem dX12_comesTo_134 : decode cX12_comesTo 134 = .ok (.isub, 1) := by decide +kernel
theorem dX12_comesTo_135 : decode cX12_comesTo 135 = .ok (.iastore, 1) := by decide +kernel
theorem dX12_comesTo_136 : decode cX12_comesTo 136 = .ok (.goto 36, 3) := by decide +kernel
theorem dX12_comesTo_139 : decode cX12_comesTo 139 = .ok (.iinc 4 (-1), 3) := by decide +kernel
theorem dX12_comesTo_142 : decode cX12_comesTo 142 = .ok (.aload_n 0, 1) := by decide +kernel
theorem dX12_comesTo_143 : decode cX12_comesTo 143 = .ok (.getfield 119, 3) := by decide +kernel
theorem dX12_comesTo_146 : decode cX12_comesTo 146 = .ok (.iload 4, 2) := by decide +kernel
theorem dX12_comesTo_148 : decode cX12_comesTo 148 = .ok (.iconst 1, 1) := by decide +kernel
theorem dX12_comesTo_149 : decode cX12_comesTo 149 = .ok (.isub, 1) := by decide +kernel
theorem dX12_comesTo_150 : decode cX12_comesTo 150 = .ok (.iload 6, 2) := by decide +kernel
theorem dX12_comesTo_152 : decode cX12_comesTo 152 = .ok (.aload_n 0, 1) := by decide +kernel
theorem dX12_comesTo_153 : decode cX12_comesTo 153 = .ok (.getfield 119, 3) := by decide +kernel
theorem dX12_comesTo_156 : decode cX12_comesTo 156 = .ok (.iload 4, 2) := by decide +kernel
theorem dX12_comesTo_158 : decode cX12_comesTo 158 = .ok (.iconst 1, 1) := by decide +kernel
theorem dX12_comesTo_159 : decode cX12_comesTo 159 = .ok (.isub, 1) := by decide +kernel
theorem dX12_comesTo_160 : decode cX12_comesTo 160 = .ok (.iaload, 1) := by decide +kernel
theorem dX12_comesTo_161 : decode cX12_comesTo 161 = .ok (.aload_n 0, 1) := by decide +kernel
theorem dX12_comesTo_162 : decode cX12_comesTo 162 = .ok (.getfield 119, 3) := by decide +kernel
theorem dX12_comesTo_165 : decode cX12_comesTo 165 = .ok (.iload 4, 2) := by decide +kernel
theorem dX12_comesTo_167 : decode cX12_comesTo 167 = .ok (.iaload, 1) := by decide +kernel
theorem dX12_comesTo_168 : decode cX12_comesTo 168 = .ok (.invokestatic 534, 3) := by decide +kernel
theorem dX12_comesTo_171 : decode cX12_comesTo 171 = .ok (.iastore, 1) := by decide +kernel
theorem dX12_comesTo_172 : decode cX12_comesTo 172 = .ok (.iinc 5 1, 3) := by decide +kernel
theorem dX12_comesTo_175 : decode cX12_comesTo 175 = .ok (.goto (-169), 3) := by decide +kernel
theorem dX12_comesTo_178 : decode cX12_comesTo 178 = .ok (.aload_n 0, 1) := by decide +kernel
theorem dX12_comesTo_179 : decode cX12_comesTo 179 = .ok (.getfield 119, 3) := by decide +kernel
theorem dX12_comesTo_182 : decode cX12_comesTo 182 = .ok (.iconst 0, 1) := by decide +kernel
theorem dX12_comesTo_183 : decode cX12_comesTo 183 = .ok (.iaload, 1) := by decide +kernel
theorem dX12_comesTo_184 : decode cX12_comesTo 184 = .ok (.ireturn, 1) := by decide +kernel
theorem bX12_comesTo_0 {d : Nat} {h0 hE h : ea_H} {rv : Option ea_V} {r0 : Option Nat} {x1 : Int32} {x2 : Int32} {x3 : Int32} (H : ea_W mX12_comesTo d h0 rv hE 6 [(0, vR r0), (1, vI x1), (3, vI x3), (4, vI 0), (5, vI x2)] [] h) : ea_W mX12_comesTo d h0 rv hE 0 [(0, vR r0), (1, vI x1), (2, vI x2), (3, vI x3)] [] h := by
  refine ea_iconst (pc := 0) dX12_comesTo_0 (v := 0) rfl ?_
  refine ea_istore (pc := 1) (lv' := [(0, vR r0), (1, vI x1), (2, vI x2), (3, vI x3), (4, vI 0)]) dX12_comesTo_1 (Nat.le_of_ble_eq_true rfl) [1, 2, 3, 4, 0] rfl ?_
  refine ea_iload_n (pc := 3) dX12_comesTo_3 rfl 2 rfl ?_
  refine ea_istore (pc := 4) (lv' := [(0, vR r0), (1, vI x1), (3, vI x3), (4, vI 0), (5, vI x2)]) dX12_comesTo_4 (Nat.le_of_ble_eq_true rfl) [1, 2, 4, 5, 0] rfl ?_
  exact H
theorem bX12_comesTo_6 {d : Nat} {h0 hE h : ea_H} {rv : Option ea_V} {r0 : Option Nat} {x1 : Int32} {x3 : Int32} {x4 : Int32} {x5 : Int32} (H : (x3 ≤ x5 → ∃ a3, r0 = some a3 ∧ a3 < ea_n h ∧ ea_c h a3 = 12 ∧ ∃ a7, (ea_r h a3 42) = some a7 ∧ a7 < ea_n h ∧ ea_c h a7 = 20 ∧ vp_in 0 (ea_l h a7) ∧ rv = some (vI (ea_i h a7 (Int32.toNatClampNeg 0))) ∧ hE = h) ∧ (¬ x3 ≤ x5 → ∃ a12, r0 = some a12 ∧ a12 < ea_n h ∧ ea_c h a12 = 12 ∧ ∃ a16, (ea_r h a12 37) = some a16 ∧ a16 < ea_n h ∧ ea_c h a16 = 20 ∧ vp_in (((1220 : Int32) * x1) + ((2 : Int32) * x5)) (ea_l h a16) ∧ a12 < ea_n h ∧ ea_c h a12 = 12 ∧ a16 < ea_n h ∧ ea_c h a16 = 20 ∧ vp_in ((((1220 : Int32) * x1) + ((2 : Int32) * x5)) + (1 : Int32)) (ea_l h a16) ∧ ((8 : Int32) ≤ (ea_i h a16 (Int32.toNatClampNeg (((1220 : Int32) * x1) + ((2 : Int32) * x5)))) → (¬ (ea_i h a16 (Int32.toNatClampNeg (((1220 : Int32) * x1) + ((2 : Int32) * x5)))) = (11 : Int32) → (¬ (ea_i h a16 (Int32.toNatClampNeg (((1220 : Int32) * x1) + ((2 : Int32) * x5)))) = (15 : Int32) → a12 < ea_n h ∧ ea_c h a12 = 12 ∧ a12 < ea_n h ∧ ea_c h a12 = 12 ∧ ∃ a30, (ea_r h a12 42) = some a30 ∧ a30 < ea_n h ∧ ea_c h a30 = 20 ∧ vp_in ((x4 + (-1)) - (1 : Int32)) (ea_l h a30) ∧ a12 < ea_n h ∧ ea_c h a12 = 12 ∧ a30 < ea_n h ∧ ea_c h a30 = 20 ∧ vp_in (x4 + (-1)) (ea_l h a30) ∧ ∃ (d38 : Nat) (xc42 : Int32) (h39 : ea_H), ea_Met mX12_both d38 [vI (ea_i h a16 (Int32.toNatClampNeg (((1220 : Int32) * x1) + ((2 : Int32) * x5)))), vI (ea_i h a30 (Int32.toNatClampNeg ((x4 + (-1)) - (1 : Int32)))), vI (ea_i h a30 (Int32.toNatClampNeg (x4 + (-1))))] h (some (vI xc42)) h39 ∧ d38 + 1 ≤ d ∧ a30 < ea_n h39 ∧ ea_c h39 a30 = 20 ∧ vp_in ((x4 + (-1)) - (1 : Int32)) (ea_l h39 a30) ∧ ∀ h46, h46 = ea_wi h39 a30 (Int32.toNatClampNeg ((x4 + (-1)) - (1 : Int32))) xc42 → ea_W mX12_comesTo d h0 rv hE 6 [(0, vR r0), (1, vI x1), (3, vI x3), (4, vI (x4 + (-1))), (5, vI (x5 + 1))] [] h46) ∧ ((ea_i h a16 (Int32.toNatClampNeg (((1220 : Int32) * x1) + ((2 : Int32) * x5)))) = (15 : Int32) → a12 < ea_n h ∧ ea_c h a12 = 12 ∧ a12 < ea_n h ∧ ea_c h a12 = 12 ∧ ∃ a54, (ea_r h a12 42) = some a54 ∧ a54 < ea_n h ∧ ea_c h a54 = 20 ∧ vp_in (x4 - (1 : Int32)) (ea_l h a54) ∧ a54 < ea_n h ∧ ea_c h a54 = 20 ∧ vp_in (x4 - (1 : Int32)) (ea_l h a54) ∧ ∀ h60, h60 = ea_wi h a54 (Int32.toNatClampNeg (x4 - (1 : Int32))) ((1 : Int32) - (ea_i h a54 (Int32.toNatClampNeg (x4 - (1 : Int32))))) → ea_W mX12_comesTo d h0 rv hE 6 [(0, vR r0), (1, vI x1), (3, vI x3), (4, vI x4), (5, vI (x5 + 1))] [] h60)) ∧ ((ea_i h a16 (Int32.toNatClampNeg (((1220 : Int32) * x1) + ((2 : Int32) * x5)))) = (11 : Int32) → a12 < ea_n h ∧ ea_c h a12 = 12 ∧ ∃ a67, (ea_r h a12 42) = some a67 ∧ a67 < ea_n h ∧ ea_c h a67 = 20 ∧ vp_in (x4 - (1 : Int32)) (ea_l h a67) ∧ (¬ (ea_i h a16 (Int32.toNatClampNeg ((((1220 : Int32) * x1) + ((2 : Int32) * x5)) + (1 : Int32)))) = 0) ∧ a67 < ea_n h ∧ ea_c h a67 = 20 ∧ vp_in (x4 - (1 : Int32)) (ea_l h a67) ∧ ∀ h73, h73 = ea_wi h a67 (Int32.toNatClampNeg (x4 - (1 : Int32))) ((ea_i h a67 (Int32.toNatClampNeg (x4 - (1 : Int32)))) / (ea_i h a16 (Int32.toNatClampNeg ((((1220 : Int32) * x1) + ((2 : Int32) * x5)) + (1 : Int32))))) → ea_W mX12_comesTo d h0 rv hE 6 [(0, vR r0), (1, vI x1), (3, vI x3), (4, vI x4), (5, vI (x5 + 1))] [] h73)) ∧ (¬ (8 : Int32) ≤ (ea_i h a16 (Int32.toNatClampNeg (((1220 : Int32) * x1) + ((2 : Int32) * x5)))) → a12 < ea_n h ∧ ea_c h a12 = 12 ∧ (¬ (ea_i h a16 (Int32.toNatClampNeg (((1220 : Int32) * x1) + ((2 : Int32) * x5)))) = (0 : Int32) → a12 < ea_n h ∧ ea_c h a12 = 12 ∧ ∃ a83, (ea_r h a12 91) = some a83 ∧ a83 < ea_n h ∧ ea_c h a83 = 20 ∧ vp_in (ea_i h a16 (Int32.toNatClampNeg (((1220 : Int32) * x1) + ((2 : Int32) * x5)))) (ea_l h a83) ∧ ∃ a88, (ea_r h a12 42) = some a88 ∧ a88 < ea_n h ∧ ea_c h a88 = 20 ∧ vp_in x4 (ea_l h a88) ∧ ∀ h91, h91 = ea_wi h a88 (Int32.toNatClampNeg x4) (ea_i h a83 (Int32.toNatClampNeg (ea_i h a16 (Int32.toNatClampNeg (((1220 : Int32) * x1) + ((2 : Int32) * x5)))))) → ea_W mX12_comesTo d h0 rv hE 6 [(0, vR r0), (1, vI x1), (3, vI x3), (4, vI (x4 + 1)), (5, vI (x5 + 1))] [] h91) ∧ ((ea_i h a16 (Int32.toNatClampNeg (((1220 : Int32) * x1) + ((2 : Int32) * x5)))) = (0 : Int32) → ∃ a95, (ea_r h a12 42) = some a95 ∧ a95 < ea_n h ∧ ea_c h a95 = 20 ∧ vp_in x4 (ea_l h a95) ∧ ∀ h98, h98 = ea_wi h a95 (Int32.toNatClampNeg x4) (ea_i h a16 (Int32.toNatClampNeg ((((1220 : Int32) * x1) + ((2 : Int32) * x5)) + (1 : Int32)))) → ea_W mX12_comesTo d h0 rv hE 6 [(0, vR r0), (1, vI x1), (3, vI x3), (4, vI (x4 + 1)), (5, vI (x5 + 1))] [] h98)))) : ea_W mX12_comesTo d h0 rv hE 6 [(0, vR r0), (1, vI x1), (3, vI x3), (4, vI x4), (5, vI x5)] [] h := by
  refine ea_iload (pc := 6) dX12_comesTo_6 4 rfl ?_
  refine ea_iload_n (pc := 8) dX12_comesTo_8 rfl 2 rfl ?_
  refine ea_icmp_ge (pc := 9) (tgt := 178) dX12_comesTo_9 rfl (fun c102 => ?_) (fun c102 => ?_)
  · have H := H.1 c102
    refine ea_aload_n (pc := 178) dX12_comesTo_178 rfl 0 rfl ?_
    obtain ⟨a3, e4, f1, g2, H⟩ := H
    refine ea_deref0 e4 ?_
    refine ea_getR (pc := 179) dX12_comesTo_179 ec_12 (k := 42) (Nat.le_of_ble_eq_true rfl) rfl (Or.inl ew_1387) f1 g2 rfl ?_
    refine ea_iconst (pc := 182) dX12_comesTo_182 (v := 0) rfl ?_
    obtain ⟨a7, e8, f5, g6, H⟩ := H
    refine ea_deref1 e8 ?_
    obtain ⟨z9, H⟩ := H
    refine ea_iald (pc := 183) dX12_comesTo_183 f5 g6 z9 ?_
    obtain ⟨rfl, rfl⟩ := H
    exact ea_ireturn (pc := 184) dX12_comesTo_184 rfl rfl
  · have H := H.2 c102
    refine ea_aload_n (pc := 12) dX12_comesTo_12 rfl 0 rfl ?_
    obtain ⟨a12, e13, f10, g11, H⟩ := H
    refine ea_deref0 e13 ?_
    refine ea_getR (pc := 13) dX12_comesTo_13 ec_12 (k := 37) (Nat.le_of_ble_eq_true rfl) rfl (Or.inl ew_1382) f10 g11 rfl ?_
    refine ea_sipush (pc := 16) dX12_comesTo_16 (v := 1220) rfl ?_
    refine ea_iload_n (pc := 19) dX12_comesTo_19 rfl 1 rfl ?_
    refine ea_imul (pc := 20) dX12_comesTo_20 ?_
    refine ea_iconst (pc := 21) dX12_comesTo_21 (v := 2) rfl ?_
    refine ea_iload (pc := 22) dX12_comesTo_22 4 rfl ?_
    refine ea_imul (pc := 24) dX12_comesTo_24 ?_
    refine ea_iadd (pc := 25) dX12_comesTo_25 ?_
    obtain ⟨a16, e17, f14, g15, H⟩ := H
    refine ea_deref1 e17 ?_
    obtain ⟨z18, H⟩ := H
    refine ea_iald (pc := 26) dX12_comesTo_26 f14 g15 z18 ?_
    refine ea_istore (pc := 27) (lv' := [(0, vR r0), (1, vI x1), (3, vI x3), (4, vI x4), (5, vI x5), (6, vI (ea_i h a16 (Int32.toNatClampNeg (((1220 : Int32) * x1) + ((2 : Int32) * x5)))))]) dX12_comesTo_27 (Nat.le_of_ble_eq_true rfl) [1, 2, 3, 4, 5, 0] rfl ?_
    refine ea_aload_n (pc := 29) dX12_comesTo_29 rfl 0 rfl ?_
    obtain ⟨f19, g20, H⟩ := H
    refine ea_deref0 e13 ?_
    refine ea_getR (pc := 30) dX12_comesTo_30 ec_12 (k := 37) (Nat.le_of_ble_eq_true rfl) rfl (Or.inl ew_1382) f19 g20 rfl ?_
    refine ea_sipush (pc := 33) dX12_comesTo_33 (v := 1220) rfl ?_
    refine ea_iload_n (pc := 36) dX12_comesTo_36 rfl 1 rfl ?_
    refine ea_imul (pc := 37) dX12_comesTo_37 ?_
    refine ea_iconst (pc := 38) dX12_comesTo_38 (v := 2) rfl ?_
    refine ea_iload (pc := 39) dX12_comesTo_39 4 rfl ?_
    refine ea_imul (pc := 41) dX12_comesTo_41 ?_
    refine ea_iadd (pc := 42) dX12_comesTo_42 ?_
    refine ea_iconst (pc := 43) dX12_comesTo_43 (v := 1) rfl ?_
    refine ea_iadd (pc := 44) dX12_comesTo_44 ?_
    obtain ⟨f21, g22, H⟩ := H
    refine ea_deref1 e17 ?_
    obtain ⟨z23, H⟩ := H
    refine ea_iald (pc := 45) dX12_comesTo_45 f21 g22 z23 ?_
    refine ea_istore (pc := 46) (lv' := [(0, vR r0), (1, vI x1), (3, vI x3), (4, vI x4), (5, vI x5), (6, vI (ea_i h a16 (Int32.toNatClampNeg (((1220 : Int32) * x1) + ((2 : Int32) * x5))))), (7, vI (ea_i h a16 (Int32.toNatClampNeg ((((1220 : Int32) * x1) + ((2 : Int32) * x5)) + (1 : Int32)))))]) dX12_comesTo_46 (Nat.le_of_ble_eq_true rfl) [1, 2, 3, 4, 5, 6, 0] rfl ?_
    refine ea_iload (pc := 48) dX12_comesTo_48 5 rfl ?_
    refine ea_bipush (pc := 50) dX12_comesTo_50 (v := 8) rfl ?_
    refine ea_icmp_ge (pc := 52) (tgt := 85) dX12_comesTo_52 rfl (fun c101 => ?_) (fun c101 => ?_)
    · have H := H.1 c101
      refine ea_iload (pc := 85) dX12_comesTo_85 5 rfl ?_
      refine ea_bipush (pc := 87) dX12_comesTo_87 (v := 11) rfl ?_
      refine ea_icmp_ne (pc := 89) (tgt := 109) dX12_comesTo_89 rfl (fun c76 => ?_) (fun c76 => ?_)
      · have H := H.1 c76
        refine ea_iload (pc := 109) dX12_comesTo_109 5 rfl ?_
        refine ea_bipush (pc := 111) dX12_comesTo_111 (v := 15) rfl ?_
        refine ea_icmp_ne (pc := 113) (tgt := 139) dX12_comesTo_113 rfl (fun c62 => ?_) (fun c62 => ?_)
        · have H := H.1 c62
          refine ea_iinc (pc := 139) (v := (-1)) (lv' := [(0, vR r0), (1, vI x1), (3, vI x3), (4, vI (x4 + (-1))), (5, vI x5), (6, vI (ea_i h a16 (Int32.toNatClampNeg (((1220 : Int32) * x1) + ((2 : Int32) * x5)))))]) dX12_comesTo_139 3 rfl rfl (Nat.le_of_ble_eq_true rfl) [1, 2, 3, 0, 4, 5] rfl ?_
          refine ea_aload_n (pc := 142) dX12_comesTo_142 rfl 0 rfl ?_
          obtain ⟨f24, g25, H⟩ := H
          refine ea_deref0 e13 ?_
          refine ea_getR (pc := 143) dX12_comesTo_143 ec_12 (k := 42) (Nat.le_of_ble_eq_true rfl) rfl (Or.inl ew_1387) f24 g25 rfl ?_
          refine ea_iload (pc := 146) dX12_comesTo_146 3 rfl ?_
          refine ea_iconst (pc := 148) dX12_comesTo_148 (v := 1) rfl ?_
          refine ea_isub (pc := 149) dX12_comesTo_149 ?_
          refine ea_iload (pc := 150) dX12_comesTo_150 5 rfl ?_
          refine ea_aload_n (pc := 152) dX12_comesTo_152 rfl 0 rfl ?_
          obtain ⟨f26, g27, H⟩ := H
          refine ea_deref0 e13 ?_
          refine ea_getR (pc := 153) dX12_comesTo_153 ec_12 (k := 42) (Nat.le_of_ble_eq_true rfl) rfl (Or.inl ew_1387) f26 g27 rfl ?_
          refine ea_iload (pc := 156) dX12_comesTo_156 3 rfl ?_
          refine ea_iconst (pc := 158) dX12_comesTo_158 (v := 1) rfl ?_
          refine ea_isub (pc := 159) dX12_comesTo_159 ?_
          obtain ⟨a30, e31, f28, g29, H⟩ := H
          refine ea_deref1 e31 ?_
          obtain ⟨z32, H⟩ := H
          refine ea_iald (pc := 160) dX12_comesTo_160 f28 g29 z32 ?_
          refine ea_aload_n (pc := 161) dX12_comesTo_161 rfl 0 rfl ?_
          obtain ⟨f33, g34, H⟩ := H
          refine ea_deref0 e13 ?_
          refine ea_getR (pc := 162) dX12_comesTo_162 ec_12 (k := 42) (Nat.le_of_ble_eq_true rfl) rfl (Or.inl ew_1387) f33 g34 rfl ?_
          refine ea_iload (pc := 165) dX12_comesTo_165 3 rfl ?_
          obtain ⟨f35, g36, H⟩ := H
          refine ea_deref1 e31 ?_
          obtain ⟨z37, H⟩ := H
          refine ea_iald (pc := 167) dX12_comesTo_167 f35 g36 z37 ?_
          obtain ⟨d38, xc42, h39, m40, q41, H⟩ := H
          refine ea_callS (pc := 168) (As := [vI (ea_i h a16 (Int32.toNatClampNeg (((1220 : Int32) * x1) + ((2 : Int32) * x5)))), vI (ea_i h a30 (Int32.toNatClampNeg ((x4 + (-1)) - (1 : Int32)))), vI (ea_i h a30 (Int32.toNatClampNeg (x4 + (-1))))]) (st := [vI ((x4 + (-1)) - (1 : Int32)), vR (ea_r h a12 42)]) dX12_comesTo_168 kX12_both m40 q41 rfl (Nat.le_of_ble_eq_true rfl) ew_2007 ew_2008 ?_
          obtain ⟨f43, g44, H⟩ := H
          refine ea_deref2 e31 ?_
          obtain ⟨z45, H⟩ := H
          refine ea_iast (pc := 171) dX12_comesTo_171 f43 g44 z45 ?_
          obtain ⟨h46, E47⟩ : ∃ z, z = ea_wi h39 a30 (Int32.toNatClampNeg ((x4 + (-1)) - (1 : Int32))) xc42 := ⟨_, rfl⟩
          have H := H h46 E47
          refine ea_nm E47 ?_
          refine ea_iinc (pc := 172) (v := 1) (lv' := [(0, vR r0), (1, vI x1), (3, vI x3), (4, vI (x4 + (-1))), (5, vI (x5 + 1))]) dX12_comesTo_172 4 rfl rfl (Nat.le_of_ble_eq_true rfl) [1, 2, 3, 4, 0] rfl ?_
          refine ea_goto (pc := 175) (tgt := 6) dX12_comesTo_175 rfl ?_
          exact H
        · have H := H.2 c62
          refine ea_aload_n (pc := 116) dX12_comesTo_116 rfl 0 rfl ?_
          obtain ⟨f48, g49, H⟩ := H
          refine ea_deref0 e13 ?_
          refine ea_getR (pc := 117) dX12_comesTo_117 ec_12 (k := 42) (Nat.le_of_ble_eq_true rfl) rfl (Or.inl ew_1387) f48 g49 rfl ?_
          refine ea_iload (pc := 120) dX12_comesTo_120 3 rfl ?_
          refine ea_iconst (pc := 122) dX12_comesTo_122 (v := 1) rfl ?_
          refine ea_isub (pc := 123) dX12_comesTo_123 ?_
          refine ea_iconst (pc := 124) dX12_comesTo_124 (v := 1) rfl ?_
          refine ea_aload_n (pc := 125) dX12_comesTo_125 rfl 0 rfl ?_
          obtain ⟨f50, g51, H⟩ := H
          refine ea_deref0 e13 ?_
          refine ea_getR (pc := 126) dX12_comesTo_126 ec_12 (k := 42) (Nat.le_of_ble_eq_true rfl) rfl (Or.inl ew_1387) f50 g51 rfl ?_
          refine ea_iload (pc := 129) dX12_comesTo_129 3 rfl ?_
          refine ea_iconst (pc := 131) dX12_comesTo_131 (v := 1) rfl ?_
          refine ea_isub (pc := 132) dX12_comesTo_132 ?_
          obtain ⟨a54, e55, f52, g53, H⟩ := H
          refine ea_deref1 e55 ?_
          obtain ⟨z56, H⟩ := H
          refine ea_iald (pc := 133) dX12_comesTo_133 f52 g53 z56 ?_
          refine ea_isub (pc := 134) dX12_comesTo_134 ?_
          obtain ⟨f57, g58, H⟩ := H
          refine ea_deref2 e55 ?_
          obtain ⟨z59, H⟩ := H
          refine ea_iast (pc := 135) dX12_comesTo_135 f57 g58 z59 ?_
          obtain ⟨h60, E61⟩ : ∃ z, z = ea_wi h a54 (Int32.toNatClampNeg (x4 - (1 : Int32))) ((1 : Int32) - (ea_i h a54 (Int32.toNatClampNeg (x4 - (1 : Int32))))) := ⟨_, rfl⟩
          have H := H h60 E61
          refine ea_nm E61 ?_
          refine ea_goto (pc := 136) (tgt := 172) dX12_comesTo_136 rfl ?_
          refine ea_iinc (pc := 172) (v := 1) (lv' := [(0, vR r0), (1, vI x1), (3, vI x3), (4, vI x4), (5, vI (x5 + 1))]) dX12_comesTo_172 4 rfl rfl (Nat.le_of_ble_eq_true rfl) [1, 2, 3, 4, 0] rfl ?_
          refine ea_goto (pc := 175) (tgt := 6) dX12_comesTo_175 rfl ?_
          exact H
      · have H := H.2 c76
        refine ea_aload_n (pc := 92) dX12_comesTo_92 rfl 0 rfl ?_
        obtain ⟨f63, g64, H⟩ := H
        refine ea_deref0 e13 ?_
        refine ea_getR (pc := 93) dX12_comesTo_93 ec_12 (k := 42) (Nat.le_of_ble_eq_true rfl) rfl (Or.inl ew_1387) f63 g64 rfl ?_
        refine ea_iload (pc := 96) dX12_comesTo_96 3 rfl ?_
        refine ea_iconst (pc := 98) dX12_comesTo_98 (v := 1) rfl ?_
        refine ea_isub (pc := 99) dX12_comesTo_99 ?_
        refine ea_dup2 (pc := 100) dX12_comesTo_100 rfl rfl ?_
        obtain ⟨a67, e68, f65, g66, H⟩ := H
        refine ea_deref1 e68 ?_
        obtain ⟨z69, H⟩ := H
        refine ea_iald (pc := 101) dX12_comesTo_101 f65 g66 z69 ?_
        refine ea_iload (pc := 102) dX12_comesTo_102 6 rfl ?_
        obtain ⟨z75, H⟩ := H
        refine ea_idiv (pc := 104) dX12_comesTo_104 z75 ?_
        obtain ⟨f70, g71, H⟩ := H
        refine ea_deref2 e68 ?_
        obtain ⟨z72, H⟩ := H
        refine ea_iast (pc := 105) dX12_comesTo_105 f70 g71 z72 ?_
        obtain ⟨h73, E74⟩ : ∃ z, z = ea_wi h a67 (Int32.toNatClampNeg (x4 - (1 : Int32))) ((ea_i h a67 (Int32.toNatClampNeg (x4 - (1 : Int32)))) / (ea_i h a16 (Int32.toNatClampNeg ((((1220 : Int32) * x1) + ((2 : Int32) * x5)) + (1 : Int32))))) := ⟨_, rfl⟩
        have H := H h73 E74
        refine ea_nm E74 ?_
        refine ea_goto (pc := 106) (tgt := 172) dX12_comesTo_106 rfl ?_
        refine ea_iinc (pc := 172) (v := 1) (lv' := [(0, vR r0), (1, vI x1), (3, vI x3), (4, vI x4), (5, vI (x5 + 1))]) dX12_comesTo_172 4 rfl rfl (Nat.le_of_ble_eq_true rfl) [1, 2, 3, 4, 0] rfl ?_
        refine ea_goto (pc := 175) (tgt := 6) dX12_comesTo_175 rfl ?_
        exact H
    · have H := H.2 c101
      refine ea_aload_n (pc := 55) dX12_comesTo_55 rfl 0 rfl ?_
      obtain ⟨f77, g78, H⟩ := H
      refine ea_deref0 e13 ?_
      refine ea_getR (pc := 56) dX12_comesTo_56 ec_12 (k := 42) (Nat.le_of_ble_eq_true rfl) rfl (Or.inl ew_1387) f77 g78 rfl ?_
      refine ea_iload (pc := 59) dX12_comesTo_59 3 rfl ?_
      refine ea_iload (pc := 61) dX12_comesTo_61 5 rfl ?_
      refine ea_if_ne (pc := 63) (tgt := 71) dX12_comesTo_63 rfl (fun c100 => ?_) (fun c100 => ?_)
      · have H := H.1 c100
        refine ea_aload_n (pc := 71) dX12_comesTo_71 rfl 0 rfl ?_
        obtain ⟨f79, g80, H⟩ := H
        refine ea_deref0 e13 ?_
        refine ea_getR (pc := 72) dX12_comesTo_72 ec_12 (k := 91) (Nat.le_of_ble_eq_true rfl) rfl (Or.inl ew_1436) f79 g80 rfl ?_
        refine ea_iload (pc := 75) dX12_comesTo_75 5 rfl ?_
        obtain ⟨a83, e84, f81, g82, H⟩ := H
        refine ea_deref1 e84 ?_
        obtain ⟨z85, H⟩ := H
        refine ea_iald (pc := 77) dX12_comesTo_77 f81 g82 z85 ?_
        obtain ⟨a88, e89, f86, g87, H⟩ := H
        refine ea_deref2 e89 ?_
        obtain ⟨z90, H⟩ := H
        refine ea_iast (pc := 78) dX12_comesTo_78 f86 g87 z90 ?_
        obtain ⟨h91, E92⟩ : ∃ z, z = ea_wi h a88 (Int32.toNatClampNeg x4) (ea_i h a83 (Int32.toNatClampNeg (ea_i h a16 (Int32.toNatClampNeg (((1220 : Int32) * x1) + ((2 : Int32) * x5)))))) := ⟨_, rfl⟩
        have H := H h91 E92
        refine ea_nm E92 ?_
        refine ea_iinc (pc := 79) (v := 1) (lv' := [(0, vR r0), (1, vI x1), (3, vI x3), (4, vI (x4 + 1)), (5, vI x5)]) dX12_comesTo_79 3 rfl rfl (Nat.le_of_ble_eq_true rfl) [1, 2, 3, 0, 4] rfl ?_
        refine ea_goto (pc := 82) (tgt := 172) dX12_comesTo_82 rfl ?_
        refine ea_iinc (pc := 172) (v := 1) (lv' := [(0, vR r0), (1, vI x1), (3, vI x3), (4, vI (x4 + 1)), (5, vI (x5 + 1))]) dX12_comesTo_172 4 rfl rfl (Nat.le_of_ble_eq_true rfl) [1, 2, 3, 4, 0] rfl ?_
        refine ea_goto (pc := 175) (tgt := 6) dX12_comesTo_175 rfl ?_
        exact H
      · have H := H.2 c100
        refine ea_iload (pc := 66) dX12_comesTo_66 6 rfl ?_
        refine ea_goto (pc := 68) (tgt := 78) dX12_comesTo_68 rfl ?_
        obtain ⟨a95, e96, f93, g94, H⟩ := H
        refine ea_deref2 e96 ?_
        obtain ⟨z97, H⟩ := H
        refine ea_iast (pc := 78) dX12_comesTo_78 f93 g94 z97 ?_
        obtain ⟨h98, E99⟩ : ∃ z, z = ea_wi h a95 (Int32.toNatClampNeg x4) (ea_i h a16 (Int32.toNatClampNeg ((((1220 : Int32) * x1) + ((2 : Int32) * x5)) + (1 : Int32)))) := ⟨_, rfl⟩
        have H := H h98 E99
        refine ea_nm E99 ?_
        refine ea_iinc (pc := 79) (v := 1) (lv' := [(0, vR r0), (1, vI x1), (3, vI x3), (4, vI (x4 + 1)), (5, vI x5)]) dX12_comesTo_79 3 rfl rfl (Nat.le_of_ble_eq_true rfl) [1, 2, 3, 0, 4] rfl ?_
        refine ea_goto (pc := 82) (tgt := 172) dX12_comesTo_82 rfl ?_
        refine ea_iinc (pc := 172) (v := 1) (lv' := [(0, vR r0), (1, vI x1), (3, vI x3), (4, vI (x4 + 1)), (5, vI (x5 + 1))]) dX12_comesTo_172 4 rfl rfl (Nat.le_of_ble_eq_true rfl) [1, 2, 3, 4, 0] rfl ?_
        refine ea_goto (pc := 175) (tgt := 6) dX12_comesTo_175 rfl ?_
        exact H
theorem dX12_isFree_0 : decode cX12_isFree 0 = .ok (.aload_n 0, 1) := by decide +kernel
theorem dX12_isFree_1 : decode cX12_isFree 1 = .ok (.getfield 126, 3) := by decide +kernel
theorem dX12_isFree_4 : decode cX12_isFree 4 = .ok (.iload_n 1, 1) := by decide +kernel
theorem dX12_isFree_5 : decode cX12_isFree 5 = .ok (.iaload, 1) := by decide +kernel
theorem dX12_isFree_6 : decode cX12_isFree 6 = .ok (.iconst 2, 1) := by decide +kernel
theorem dX12_isFree_7 : decode cX12_isFree 7 = .ok (.if_icmp .ne 22, 3) := by decide +kernel
theorem dX12_isFree_10 : decode cX12_isFree 10 = .ok (.aload_n 0, 1) := by decide +kernel
theorem dX12_isFree_11 : decode cX12_isFree 11 = .ok (.getfield 150, 3) := by decide +kernel
theorem dX12_isFree_14 : decode cX12_isFree 14 = .ok (.iload_n 1, 1) := by decide +kernel
theorem dX12_isFree_15 : decode cX12_isFree 15 = .ok (.iaload, 1) := by decide +kernel
theorem dX12_isFree_16 : decode cX12_isFree 16 = .ok (.aload_n 0, 1) := by decide +kernel
theorem dX12_isFree_17 : decode cX12_isFree 17 = .ok (.getfield 83, 3) := by decide +kernel
theorem dX12_isFree_20 : decode cX12_isFree 20 = .ok (.iload_n 2, 1) := by decide +kernel
theorem dX12_isFree_21 : decode cX12_isFree 21 = .ok (.iaload, 1) := by decide +kernel
theorem dX12_isFree_22 : decode cX12_isFree 22 = .ok (.if_icmp .gt 7, 3) := by decide +kernel
theorem dX12_isFree_25 : decode cX12_isFree 25 = .ok (.iconst 1, 1) := by decide +kernel
theorem dX12_isFree_26 : decode cX12_isFree 26 = .ok (.goto 4, 3) := by decide +kernel
theorem dX12_isFree_29 : decode cX12_isFree 29 = .ok (.iconst 0, 1) := by decide +kernel
theorem dX12_isFree_30 : decode cX12_isFree 30 = .ok (.ireturn, 1) := by decide +kernel
theorem bX12_isFree_0 {d : Nat} {h0 hE h : ea_H} {rv : Option ea_V} {r0 : Option Nat} {x1 : Int32} {x2 : Int32} (H : ∃ a3, r0 = some a3 ∧ a3 < ea_n h ∧ ea_c h a3 = 12 ∧ ∃ a7, (ea_r h a3 64) = some a7 ∧ a7 < ea_n h ∧ ea_c h a7 = 20 ∧ vp_in x1 (ea_l h a7) ∧ (¬ (ea_i h a7 (Int32.toNatClampNeg x1)) = (2 : Int32) → rv = some (vI 0) ∧ hE = h) ∧ ((ea_i h a7 (Int32.toNatClampNeg x1)) = (2 : Int32) → a3 < ea_n h ∧ ea_c h a3 = 12 ∧ ∃ a14, (ea_r h a3 72) = some a14 ∧ a14 < ea_n h ∧ ea_c h a14 = 20 ∧ vp_in x1 (ea_l h a14) ∧ a3 < ea_n h ∧ ea_c h a3 = 12 ∧ ∃ a21, (ea_r h a3 30) = some a21 ∧ a21 < ea_n h ∧ ea_c h a21 = 20 ∧ vp_in x2 (ea_l h a21) ∧ ((ea_i h a21 (Int32.toNatClampNeg x2)) < (ea_i h a14 (Int32.toNatClampNeg x1)) → rv = some (vI 0) ∧ hE = h) ∧ (¬ (ea_i h a21 (Int32.toNatClampNeg x2)) < (ea_i h a14 (Int32.toNatClampNeg x1)) → rv = some (vI 1) ∧ hE = h))) : ea_W mX12_isFree d h0 rv hE 0 [(0, vR r0), (1, vI x1), (2, vI x2)] [] h := by
  refine ea_aload_n (pc := 0) dX12_isFree_0 rfl 0 rfl ?_
  obtain ⟨a3, e4, f1, g2, H⟩ := H
  refine ea_deref0 e4 ?_
  refine ea_getR (pc := 1) dX12_isFree_1 ec_12 (k := 64) (Nat.le_of_ble_eq_true rfl) rfl (Or.inl ew_1409) f1 g2 rfl ?_
  refine ea_iload_n (pc := 4) dX12_isFree_4 rfl 1 rfl ?_
  obtain ⟨a7, e8, f5, g6, H⟩ := H
  refine ea_deref1 e8 ?_
  obtain ⟨z9, H⟩ := H
  refine ea_iald (pc := 5) dX12_isFree_5 f5 g6 z9 ?_
  refine ea_iconst (pc := 6) dX12_isFree_6 (v := 2) rfl ?_
  refine ea_icmp_ne (pc := 7) (tgt := 29) dX12_isFree_7 rfl (fun c25 => ?_) (fun c25 => ?_)
  · have H := H.1 c25
    refine ea_iconst (pc := 29) dX12_isFree_29 (v := 0) rfl ?_
    obtain ⟨rfl, rfl⟩ := H
    exact ea_ireturn (pc := 30) dX12_isFree_30 rfl (ea_bn (Or.inl rfl))
  · have H := H.2 c25
    refine ea_aload_n (pc := 10) dX12_isFree_10 rfl 0 rfl ?_
    obtain ⟨f10, g11, H⟩ := H
    refine ea_deref0 e4 ?_
    refine ea_getR (pc := 11) dX12_isFree_11 ec_12 (k := 72) (Nat.le_of_ble_eq_true rfl) rfl (Or.inl ew_1417) f10 g11 rfl ?_
    refine ea_iload_n (pc := 14) dX12_isFree_14 rfl 1 rfl ?_
    obtain ⟨a14, e15, f12, g13, H⟩ := H
    refine ea_deref1 e15 ?_
    obtain ⟨z16, H⟩ := H
    refine ea_iald (pc := 15) dX12_isFree_15 f12 g13 z16 ?_
    refine ea_aload_n (pc := 16) dX12_isFree_16 rfl 0 rfl ?_
    obtain ⟨f17, g18, H⟩ := H
    refine ea_deref0 e4 ?_
    refine ea_getR (pc := 17) dX12_isFree_17 ec_12 (k := 30) (Nat.le_of_ble_eq_true rfl) rfl (Or.inl ew_1375) f17 g18 rfl ?_
    refine ea_iload_n (pc := 20) dX12_isFree_20 rfl 2 rfl ?_
    obtain ⟨a21, e22, f19, g20, H⟩ := H
    refine ea_deref1 e22 ?_
    obtain ⟨z23, H⟩ := H
    refine ea_iald (pc := 21) dX12_isFree_21 f19 g20 z23 ?_
    refine ea_icmp_gt (pc := 22) (tgt := 29) dX12_isFree_22 rfl (fun c24 => ?_) (fun c24 => ?_)
    · have H := H.1 c24
      refine ea_iconst (pc := 29) dX12_isFree_29 (v := 0) rfl ?_
      obtain ⟨rfl, rfl⟩ := H
      exact ea_ireturn (pc := 30) dX12_isFree_30 rfl (ea_bn (Or.inl rfl))
    · have H := H.2 c24
      refine ea_iconst (pc := 25) dX12_isFree_25 (v := 1) rfl ?_
      refine ea_goto (pc := 26) (tgt := 30) dX12_isFree_26 rfl ?_
      obtain ⟨rfl, rfl⟩ := H
      exact ea_ireturn (pc := 30) dX12_isFree_30 rfl (ea_bn (Or.inr rfl))
theorem dX12_lineOf_0 : decode cX12_lineOf 0 = .ok (.aload_n 0, 1) := by decide +kernel
theorem dX12_lineOf_1 : decode cX12_lineOf 1 = .ok (.iload_n 1, 1) := by decide +kernel
theorem dX12_lineOf_2 : decode cX12_lineOf 2 = .ok (.invokevirtual 537, 3) := by decide +kernel
theorem dX12_lineOf_5 : decode cX12_lineOf 5 = .ok (.iconst 0, 1) := by decide +kernel
theorem dX12_lineOf_6 : decode cX12_lineOf 6 = .ok (.istore_n 3, 1) := by decide +kernel
theorem dX12_lineOf_7 : decode cX12_lineOf 7 = .ok (.iload_n 3, 1) := by decide +kernel
theorem dX12_lineOf_8 : decode cX12_lineOf 8 = .ok (.aload_n 0, 1) := by decide +kernel
theorem dX12_lineOf_9 : decode cX12_lineOf 9 = .ok (.getfield 95, 3) := by decide +kernel
theorem dX12_lineOf_12 : decode cX12_lineOf 12 = .ok (.iload_n 2, 1) := by decide +kernel
theorem dX12_lineOf_13 : decode cX12_lineOf 13 = .ok (.iaload, 1) := by decide +kernel
theorem dX12_lineOf_14 : decode cX12_lineOf 14 = .ok (.if_icmp .ge 59, 3) := by decide +kernel
theorem dX12_lineOf_17 : decode cX12_lineOf 17 = .ok (.aload_n 0, 1) := by decide +kernel
theorem dX12_lineOf_18 : decode cX12_lineOf 18 = .ok (.getfield 101, 3) := by decide +kernel
theorem dX12_lineOf_21 : decode cX12_lineOf 21 = .ok (.bipush 24, 2) := by decide +kernel
theorem dX12_lineOf_23 : decode cX12_lineOf 23 = .ok (.iload_n 2, 1) := by decide +kernel
theorem dX12_lineOf_24 : decode cX12_lineOf 24 = .ok (.imul, 1) := by decide +kernel
theorem dX12_lineOf_25 : decode cX12_lineOf 25 = .ok (.iload_n 3, 1) := by decide +kernel
theorem dX12_lineOf_26 : decode cX12_lineOf 26 = .ok (.iadd, 1) := by decide +kernel
theorem dX12_lineOf_27 : decode cX12_lineOf 27 = .ok (.iaload, 1) := by decide +kernel
theorem dX12_lineOf_28 : decode cX12_lineOf 28 = .ok (.istore 4, 2) := by decide +kernel
theorem dX12_lineOf_30 : decode cX12_lineOf 30 = .ok (.aload_n 0, 1) := by decide +kernel
theorem dX12_lineOf_31 : decode cX12_lineOf 31 = .ok (.getfield 98, 3) := by decide +kernel
theorem dX12_lineOf_34 : decode cX12_lineOf 34 = .ok (.bipush 25, 2) := by decide +kernel
theorem dX12_lineOf_36 : decode cX12_lineOf 36 = .ok (.iload_n 2, 1) := by decide +kernel
theorem dX12_lineOf_37 : decode cX12_lineOf 37 = .ok (.imul, 1) := by decide +kernel
theorem dX12_lineOf_38 : decode cX12_lineOf 38 = .ok (.iload_n 3, 1) := by decide +kernel
theorem dX12_lineOf_39 : decode cX12_lineOf 39 = .ok (.iadd, 1) := by decide +kernel
theorem dX12_lineOf_40 : decode cX12_lineOf 40 = .ok (.iconst 1, 1) := by decide +kernel
theorem dX12_lineOf_41 : decode cX12_lineOf 41 = .ok (.iadd, 1) := by decide +kernel
theorem dX12_lineOf_42 : decode cX12_lineOf 42 = .ok (.iaload, 1) := by decide +kernel
theorem dX12_lineOf_43 : decode cX12_lineOf 43 = .ok (.istore 5, 2) := by decide +kernel
theorem dX12_lineOf_45 : decode cX12_lineOf 45 = .ok (.iload 4, 2) := by decide +kernel
theorem dX12_lineOf_47 : decode cX12_lineOf 47 = .ok (.iload 5, 2) := by decide +kernel
theorem dX12_lineOf_49 : decode cX12_lineOf 49 = .ok (.if_icmp .eq 16, 3) := by decide +kernel
theorem dX12_lineOf_52 : decode cX12_lineOf 52 = .ok (.aload_n 0, 1) := by decide +kernel
theorem dX12_lineOf_53 : decode cX12_lineOf 53 = .ok (.iload_n 2, 1) := by decide +kernel
theorem dX12_lineOf_54 : decode cX12_lineOf 54 = .ok (.iload 4, 2) := by decide +kernel
theorem dX12_lineOf_56 : decode cX12_lineOf 56 = .ok (.iload 5, 2) := by decide +kernel
theorem dX12_lineOf_58 : decode cX12_lineOf 58 = .ok (.invokevirtual 540, 3) := by decide +kernel
theorem dX12_lineOf_61 : decode cX12_lineOf 61 = .ok (.iconst 1, 1) := by decide +kernel
theorem dX12_lineOf_62 : decode cX12_lineOf 62 = .ok (.if_icmp .ne 5, 3) := by decide +kernel
theorem dX12_lineOf_65 : decode cX12_lineOf 65 = .ok (.iload_n 3, 1) := by decide +kernel
theorem dX12_lineOf_66 : decode cX12_lineOf 66 = .ok (.ireturn, 1) := by decide +kernel
theorem dX12_lineOf_67 : decode cX12_lineOf 67 = .ok (.iinc 3 1, 3) := by decide +kernel
theorem dX12_lineOf_70 : decode cX12_lineOf 70 = .ok (.goto (-63), 3) := by decide +kernel
theorem dX12_lineOf_73 : decode cX12_lineOf 73 = .ok (.iconst (-1), 1) := by decide +kernel
theorem dX12_lineOf_74 : decode cX12_lineOf 74 = .ok (.ireturn, 1) := by decide +kernel
theorem bX12_lineOf_0 {d : Nat} {h0 hE h : ea_H} {rv : Option ea_V} {r0 : Option Nat} {x1 : Int32} {x2 : Int32} (H : ∃ a7, r0 = some a7 ∧ a7 < ea_n h ∧ ea_c h a7 = 12 ∧ ∃ (d1 : Nat) (h2 : ea_H), ea_Met mX12_gathers d1 [vR (some a7), vI x1] h none h2 ∧ d1 + 1 ≤ d ∧ ea_W mX12_lineOf d h0 rv hE 7 [(0, vR r0), (2, vI x2), (3, vI 0)] [] h2) : ea_W mX12_lineOf d h0 rv hE 0 [(0, vR r0), (1, vI x1), (2, vI x2)] [] h := by
  refine ea_aload_n (pc := 0) dX12_lineOf_0 rfl 0 rfl ?_
  refine ea_iload_n (pc := 1) dX12_lineOf_1 rfl 1 rfl ?_
  obtain ⟨a7, e8, f5, g6, H⟩ := H
  refine ea_deref1 e8 ?_
  obtain ⟨d1, h2, m3, q4, H⟩ := H
  refine ea_callV (pc := 2) (As := [vI x1]) (st := []) dX12_lineOf_2 kX12_gathers m3 q4 rfl (Nat.le_of_ble_eq_true rfl) ew_1999 ew_2001 ew_86 (ci := 12) rfl (by decide) f5 g6 ?_
  refine ea_iconst (pc := 5) dX12_lineOf_5 (v := 0) rfl ?_
  refine ea_istore_n (pc := 6) (lv' := [(0, vR r0), (2, vI x2), (3, vI 0)]) dX12_lineOf_6 rfl (Nat.le_of_ble_eq_true rfl) [1, 3, 0] rfl ?_
  exact H
theorem bX12_lineOf_7 {d : Nat} {h0 hE h : ea_H} {rv : Option ea_V} {r0 : Option Nat} {x2 : Int32} {x3 : Int32} (H : ∃ a3, r0 = some a3 ∧ a3 < ea_n h ∧ ea_c h a3 = 12 ∧ ∃ a7, (ea_r h a3 34) = some a7 ∧ a7 < ea_n h ∧ ea_c h a7 = 20 ∧ vp_in x2 (ea_l h a7) ∧ ((ea_i h a7 (Int32.toNatClampNeg x2)) ≤ x3 → rv = some (vI (-1)) ∧ hE = h) ∧ (¬ (ea_i h a7 (Int32.toNatClampNeg x2)) ≤ x3 → a3 < ea_n h ∧ ea_c h a3 = 12 ∧ ∃ a14, (ea_r h a3 36) = some a14 ∧ a14 < ea_n h ∧ ea_c h a14 = 20 ∧ vp_in (((24 : Int32) * x2) + x3) (ea_l h a14) ∧ a3 < ea_n h ∧ ea_c h a3 = 12 ∧ ∃ a21, (ea_r h a3 35) = some a21 ∧ a21 < ea_n h ∧ ea_c h a21 = 20 ∧ vp_in ((((25 : Int32) * x2) + x3) + (1 : Int32)) (ea_l h a21) ∧ ((ea_i h a14 (Int32.toNatClampNeg (((24 : Int32) * x2) + x3))) = (ea_i h a21 (Int32.toNatClampNeg ((((25 : Int32) * x2) + x3) + (1 : Int32)))) → rv = some (vI x3) ∧ hE = h) ∧ (¬ (ea_i h a14 (Int32.toNatClampNeg (((24 : Int32) * x2) + x3))) = (ea_i h a21 (Int32.toNatClampNeg ((((25 : Int32) * x2) + x3) + (1 : Int32)))) → a3 < ea_n h ∧ ea_c h a3 = 12 ∧ ∃ (d24 : Nat) (xc30 : Int32) (h25 : ea_H), ea_Met mX12_comesTo d24 [vR (some a3), vI x2, vI (ea_i h a14 (Int32.toNatClampNeg (((24 : Int32) * x2) + x3))), vI (ea_i h a21 (Int32.toNatClampNeg ((((25 : Int32) * x2) + x3) + (1 : Int32))))] h (some (vI xc30)) h25 ∧ d24 + 1 ≤ d ∧ (¬ xc30 = (1 : Int32) → ea_W mX12_lineOf d h0 rv hE 7 [(0, vR r0), (2, vI x2), (3, vI (x3 + 1))] [] h25) ∧ (xc30 = (1 : Int32) → rv = some (vI x3) ∧ hE = h25)))) : ea_W mX12_lineOf d h0 rv hE 7 [(0, vR r0), (2, vI x2), (3, vI x3)] [] h := by
  refine ea_iload_n (pc := 7) dX12_lineOf_7 rfl 2 rfl ?_
  refine ea_aload_n (pc := 8) dX12_lineOf_8 rfl 0 rfl ?_
  obtain ⟨a3, e4, f1, g2, H⟩ := H
  refine ea_deref0 e4 ?_
  refine ea_getR (pc := 9) dX12_lineOf_9 ec_12 (k := 34) (Nat.le_of_ble_eq_true rfl) rfl (Or.inl ew_1379) f1 g2 rfl ?_
  refine ea_iload_n (pc := 12) dX12_lineOf_12 rfl 1 rfl ?_
  obtain ⟨a7, e8, f5, g6, H⟩ := H
  refine ea_deref1 e8 ?_
  obtain ⟨z9, H⟩ := H
  refine ea_iald (pc := 13) dX12_lineOf_13 f5 g6 z9 ?_
  refine ea_icmp_ge (pc := 14) (tgt := 73) dX12_lineOf_14 rfl (fun c33 => ?_) (fun c33 => ?_)
  · have H := H.1 c33
    refine ea_iconst (pc := 73) dX12_lineOf_73 (v := (-1)) rfl ?_
    obtain ⟨rfl, rfl⟩ := H
    exact ea_ireturn (pc := 74) dX12_lineOf_74 rfl rfl
  · have H := H.2 c33
    refine ea_aload_n (pc := 17) dX12_lineOf_17 rfl 0 rfl ?_
    obtain ⟨f10, g11, H⟩ := H
    refine ea_deref0 e4 ?_
    refine ea_getR (pc := 18) dX12_lineOf_18 ec_12 (k := 36) (Nat.le_of_ble_eq_true rfl) rfl (Or.inl ew_1381) f10 g11 rfl ?_
    refine ea_bipush (pc := 21) dX12_lineOf_21 (v := 24) rfl ?_
    refine ea_iload_n (pc := 23) dX12_lineOf_23 rfl 1 rfl ?_
    refine ea_imul (pc := 24) dX12_lineOf_24 ?_
    refine ea_iload_n (pc := 25) dX12_lineOf_25 rfl 2 rfl ?_
    refine ea_iadd (pc := 26) dX12_lineOf_26 ?_
    obtain ⟨a14, e15, f12, g13, H⟩ := H
    refine ea_deref1 e15 ?_
    obtain ⟨z16, H⟩ := H
    refine ea_iald (pc := 27) dX12_lineOf_27 f12 g13 z16 ?_
    refine ea_istore (pc := 28) (lv' := [(0, vR r0), (2, vI x2), (3, vI x3), (4, vI (ea_i h a14 (Int32.toNatClampNeg (((24 : Int32) * x2) + x3))))]) dX12_lineOf_28 (Nat.le_of_ble_eq_true rfl) [1, 2, 3, 0] rfl ?_
    refine ea_aload_n (pc := 30) dX12_lineOf_30 rfl 0 rfl ?_
    obtain ⟨f17, g18, H⟩ := H
    refine ea_deref0 e4 ?_
    refine ea_getR (pc := 31) dX12_lineOf_31 ec_12 (k := 35) (Nat.le_of_ble_eq_true rfl) rfl (Or.inl ew_1380) f17 g18 rfl ?_
    refine ea_bipush (pc := 34) dX12_lineOf_34 (v := 25) rfl ?_
    refine ea_iload_n (pc := 36) dX12_lineOf_36 rfl 1 rfl ?_
    refine ea_imul (pc := 37) dX12_lineOf_37 ?_
    refine ea_iload_n (pc := 38) dX12_lineOf_38 rfl 2 rfl ?_
    refine ea_iadd (pc := 39) dX12_lineOf_39 ?_
    refine ea_iconst (pc := 40) dX12_lineOf_40 (v := 1) rfl ?_
    refine ea_iadd (pc := 41) dX12_lineOf_41 ?_
    obtain ⟨a21, e22, f19, g20, H⟩ := H
    refine ea_deref1 e22 ?_
    obtain ⟨z23, H⟩ := H
    refine ea_iald (pc := 42) dX12_lineOf_42 f19 g20 z23 ?_
    refine ea_istore (pc := 43) (lv' := [(0, vR r0), (2, vI x2), (3, vI x3), (4, vI (ea_i h a14 (Int32.toNatClampNeg (((24 : Int32) * x2) + x3)))), (5, vI (ea_i h a21 (Int32.toNatClampNeg ((((25 : Int32) * x2) + x3) + (1 : Int32)))))]) dX12_lineOf_43 (Nat.le_of_ble_eq_true rfl) [1, 2, 3, 4, 0] rfl ?_
    refine ea_iload (pc := 45) dX12_lineOf_45 3 rfl ?_
    refine ea_iload (pc := 47) dX12_lineOf_47 4 rfl ?_
    refine ea_icmp_eq (pc := 49) (tgt := 65) dX12_lineOf_49 rfl (fun c32 => ?_) (fun c32 => ?_)
    · have H := H.1 c32
      refine ea_iload_n (pc := 65) dX12_lineOf_65 rfl 2 rfl ?_
      obtain ⟨rfl, rfl⟩ := H
      exact ea_ireturn (pc := 66) dX12_lineOf_66 rfl rfl
    · have H := H.2 c32
      refine ea_aload_n (pc := 52) dX12_lineOf_52 rfl 0 rfl ?_
      refine ea_iload_n (pc := 53) dX12_lineOf_53 rfl 1 rfl ?_
      refine ea_iload (pc := 54) dX12_lineOf_54 3 rfl ?_
      refine ea_iload (pc := 56) dX12_lineOf_56 4 rfl ?_
      obtain ⟨f28, g29, H⟩ := H
      refine ea_deref3 e4 ?_
      obtain ⟨d24, xc30, h25, m26, q27, H⟩ := H
      refine ea_callV (pc := 58) (As := [vI x2, vI (ea_i h a14 (Int32.toNatClampNeg (((24 : Int32) * x2) + x3))), vI (ea_i h a21 (Int32.toNatClampNeg ((((25 : Int32) * x2) + x3) + (1 : Int32))))]) (st := []) dX12_lineOf_58 kX12_comesTo m26 q27 rfl (Nat.le_of_ble_eq_true rfl) ew_2003 ew_2005 ew_87 (ci := 12) rfl (by decide) f28 g29 ?_
      refine ea_iconst (pc := 61) dX12_lineOf_61 (v := 1) rfl ?_
      refine ea_icmp_ne (pc := 62) (tgt := 67) dX12_lineOf_62 rfl (fun c31 => ?_) (fun c31 => ?_)
      · have H := H.1 c31
        refine ea_iinc (pc := 67) (v := 1) (lv' := [(0, vR r0), (2, vI x2), (3, vI (x3 + 1))]) dX12_lineOf_67 2 rfl rfl (Nat.le_of_ble_eq_true rfl) [1, 2, 0] rfl ?_
        refine ea_goto (pc := 70) (tgt := 7) dX12_lineOf_70 rfl ?_
        exact H
      · have H := H.2 c31
        refine ea_iload_n (pc := 65) dX12_lineOf_65 rfl 2 rfl ?_
        obtain ⟨rfl, rfl⟩ := H
        exact ea_ireturn (pc := 66) dX12_lineOf_66 rfl rfl
theorem dX12_chargeBy_0 : decode cX12_chargeBy 0 = .ok (.aload_n 0, 1) := by decide +kernel
theorem dX12_chargeBy_1 : decode cX12_chargeBy 1 = .ok (.iload_n 1, 1) := by decide +kernel
theorem dX12_chargeBy_2 : decode cX12_chargeBy 2 = .ok (.iload_n 2, 1) := by decide +kernel
theorem dX12_chargeBy_3 : decode cX12_chargeBy 3 = .ok (.invokevirtual 543, 3) := by decide +kernel
theorem dX12_chargeBy_6 : decode cX12_chargeBy 6 = .ok (.ifCond .eq 5, 3) := by decide +kernel
theorem dX12_chargeBy_9 : decode cX12_chargeBy 9 = .ok (.iconst 0, 1) := by decide +kernel
theorem dX12_chargeBy_10 : decode cX12_chargeBy 10 = .ok (.ireturn, 1) := by decide +kernel
theorem dX12_chargeBy_11 : decode cX12_chargeBy 11 = .ok (.aload_n 0, 1) := by decide +kernel
theorem dX12_chargeBy_12 : decode cX12_chargeBy 12 = .ok (.iload_n 1, 1) := by decide +kernel
theorem dX12_chargeBy_13 : decode cX12_chargeBy 13 = .ok (.iload_n 2, 1) := by decide +kernel
theorem dX12_chargeBy_14 : decode cX12_chargeBy 14 = .ok (.invokevirtual 546, 3) := by decide +kernel
theorem dX12_chargeBy_17 : decode cX12_chargeBy 17 = .ok (.istore_n 3, 1) := by decide +kernel
theorem dX12_chargeBy_18 : decode cX12_chargeBy 18 = .ok (.iload_n 3, 1) := by decide +kernel
theorem dX12_chargeBy_19 : decode cX12_chargeBy 19 = .ok (.iconst (-1), 1) := by decide +kernel
theorem dX12_chargeBy_20 : decode cX12_chargeBy 20 = .ok (.if_icmp .ne 7, 3) := by decide +kernel
theorem dX12_chargeBy_23 : decode cX12_chargeBy 23 = .ok (.iconst 0, 1) := by decide +kernel
theorem dX12_chargeBy_24 : decode cX12_chargeBy 24 = .ok (.goto 30, 3) := by decide +kernel
theorem dX12_chargeBy_27 : decode cX12_chargeBy 27 = .ok (.aload_n 0, 1) := by decide +kernel
theorem dX12_chargeBy_28 : decode cX12_chargeBy 28 = .ok (.iload_n 2, 1) := by decide +kernel
theorem dX12_chargeBy_29 : decode cX12_chargeBy 29 = .ok (.aload_n 0, 1) := by decide +kernel
theorem dX12_chargeBy_30 : decode cX12_chargeBy 30 = .ok (.getfield 98, 3) := by decide +kernel
theorem dX12_chargeBy_33 : decode cX12_chargeBy 33 = .ok (.bipush 25, 2) := by decide +kernel
theorem dX12_chargeBy_35 : decode cX12_chargeBy 35 = .ok (.iload_n 2, 1) := by decide +kernel
theorem dX12_chargeBy_36 : decode cX12_chargeBy 36 = .ok (.imul, 1) := by decide +kernel
theorem dX12_chargeBy_37 : decode cX12_chargeBy 37 = .ok (.iload_n 3, 1) := by decide +kernel
theorem dX12_chargeBy_38 : decode cX12_chargeBy 38 = .ok (.iadd, 1) := by decide +kernel
theorem dX12_chargeBy_39 : decode cX12_chargeBy 39 = .ok (.iaload, 1) := by decide +kernel
theorem dX12_chargeBy_40 : decode cX12_chargeBy 40 = .ok (.aload_n 0, 1) := by decide +kernel
theorem dX12_chargeBy_41 : decode cX12_chargeBy 41 = .ok (.getfield 101, 3) := by decide +kernel
theorem dX12_chargeBy_44 : decode cX12_chargeBy 44 = .ok (.bipush 24, 2) := by decide +kernel
theorem dX12_chargeBy_46 : decode cX12_chargeBy 46 = .ok (.iload_n 2, 1) := by decide +kernel
theorem dX12_chargeBy_47 : decode cX12_chargeBy 47 = .ok (.imul, 1) := by decide +kernel
theorem dX12_chargeBy_48 : decode cX12_chargeBy 48 = .ok (.iload_n 3, 1) := by decide +kernel
theorem dX12_chargeBy_49 : decode cX12_chargeBy 49 = .ok (.iadd, 1) := by decide +kernel
theorem dX12_chargeBy_50 : decode cX12_chargeBy 50 = .ok (.iaload, 1) := by decide +kernel
theorem dX12_chargeBy_51 : decode cX12_chargeBy 51 = .ok (.invokevirtual 540, 3) := by decide +kernel
theorem dX12_chargeBy_54 : decode cX12_chargeBy 54 = .ok (.istore 4, 2) := by decide +kernel
theorem dX12_chargeBy_56 : decode cX12_chargeBy 56 = .ok (.iload 4, 2) := by decide +kernel
theorem dX12_chargeBy_58 : decode cX12_chargeBy 58 = .ok (.ifCond .ge 7, 3) := by decide +kernel
theorem dX12_chargeBy_61 : decode cX12_chargeBy 61 = .ok (.iconst 0, 1) := by decide +kernel
theorem dX12_chargeBy_62 : decode cX12_chargeBy 62 = .ok (.goto 19, 3) := by decide +kernel
theorem dX12_chargeBy_65 : decode cX12_chargeBy 65 = .ok (.iload 4, 2) := by decide +kernel
theorem dX12_chargeBy_67 : decode cX12_chargeBy 67 = .ok (.ldc_w 549, 3) := by decide +kernel
theorem dX12_chargeBy_70 : decode cX12_chargeBy 70 = .ok (.if_icmp .le 9, 3) := by decide +kernel
theorem dX12_chargeBy_73 : decode cX12_chargeBy 73 = .ok (.ldc_w 549, 3) := by decide +kernel
theorem dX12_chargeBy_76 : decode cX12_chargeBy 76 = .ok (.goto 5, 3) := by decide +kernel
theorem dX12_chargeBy_79 : decode cX12_chargeBy 79 = .ok (.iload 4, 2) := by decide +kernel
theorem dX12_chargeBy_81 : decode cX12_chargeBy 81 = .ok (.istore 4, 2) := by decide +kernel
theorem dX12_chargeBy_83 : decode cX12_chargeBy 83 = .ok (.aload_n 0, 1) := by decide +kernel
theorem dX12_chargeBy_84 : decode cX12_chargeBy 84 = .ok (.getfield 144, 3) := by decide +kernel
theorem dX12_chargeBy_87 : decode cX12_chargeBy 87 = .ok (.iload_n 1, 1) := by decide +kernel
theorem dX12_chargeBy_88 : decode cX12_chargeBy 88 = .ok (.iaload, 1) := by decide +kernel
theorem dX12_chargeBy_89 : decode cX12_chargeBy 89 = .ok (.sipush 1440, 3) := by decide +kernel
theorem dX12_chargeBy_92 : decode cX12_chargeBy 92 = .ok (.irem, 1) := by decide +kernel
theorem dX12_chargeBy_93 : decode cX12_chargeBy 93 = .ok (.aload_n 0, 1) := by decide +kernel
theorem dX12_chargeBy_94 : decode cX12_chargeBy 94 = .ok (.getfield 80, 3) := by decide +kernel
theorem dX12_chargeBy_97 : decode cX12_chargeBy 97 = .ok (.iload_n 2, 1) := by decide +kernel
theorem dX12_chargeBy_98 : decode cX12_chargeBy 98 = .ok (.iaload, 1) := by decide +kernel
theorem dX12_chargeBy_99 : decode cX12_chargeBy 99 = .ok (.if_icmp .le 14, 3) := by decide +kernel
theorem dX12_chargeBy_102 : decode cX12_chargeBy 102 = .ok (.iload 4, 2) := by decide +kernel
theorem dX12_chargeBy_104 : decode cX12_chargeBy 104 = .ok (.aload_n 0, 1) := by decide +kernel
theorem dX12_chargeBy_105 : decode cX12_chargeBy 105 = .ok (.getfield 77, 3) := by decide +kernel
theorem dX12_chargeBy_108 : decode cX12_chargeBy 108 = .ok (.iload_n 2, 1) := by decide +kernel
theorem dX12_chargeBy_109 : decode cX12_chargeBy 109 = .ok (.iaload, 1) := by decide +kernel
theorem dX12_chargeBy_110 : decode cX12_chargeBy 110 = .ok (.iadd, 1) := by decide +kernel
theorem dX12_chargeBy_111 : decode cX12_chargeBy 111 = .ok (.istore 4, 2) := by decide +kernel
theorem dX12_chargeBy_113 : decode cX12_chargeBy 113 = .ok (.aload_n 0, 1) := by decide +kernel
theorem dX12_chargeBy_114 : decode cX12_chargeBy 114 = .ok (.getfield 126, 3) := by decide +kernel
theorem dX12_chargeBy_117 : decode cX12_chargeBy 117 = .ok (.iload_n 1, 1) := by decide +kernel
theorem dX12_chargeBy_118 : decode cX12_chargeBy 118 = .ok (.iaload, 1) := by decide +kernel
theorem dX12_chargeBy_119 : decode cX12_chargeBy 119 = .ok (.iconst 3, 1) := by decide +kernel
theorem dX12_chargeBy_120 : decode cX12_chargeBy 120 = .ok (.if_icmp .ne 14, 3) := by decide +kernel
theorem dX12_chargeBy_123 : decode cX12_chargeBy 123 = .ok (.iload 4, 2) := by decide +kernel
theorem dX12_chargeBy_125 : decode cX12_chargeBy 125 = .ok (.aload_n 0, 1) := by decide +kernel
theorem dX12_chargeBy_126 : decode cX12_chargeBy 126 = .ok (.getfield 86, 3) := by decide +kernel
theorem dX12_chargeBy_129 : decode cX12_chargeBy 129 = .ok (.iload_n 2, 1) := by decide +kernel
theorem dX12_chargeBy_130 : decode cX12_chargeBy 130 = .ok (.iaload, 1) := by decide +kernel
theorem dX12_chargeBy_131 : decode cX12_chargeBy 131 = .ok (.iadd, 1) := by decide +kernel
theorem dX12_chargeBy_132 : decode cX12_chargeBy 132 = .ok (.istore 4, 2) := by decide +kernel
theorem dX12_chargeBy_134 : decode cX12_chargeBy 134 = .ok (.aload_n 0, 1) := by decide +kernel
theorem dX12_chargeBy_135 : decode cX12_chargeBy 135 = .ok (.getfield 126, 3) := by decide +kernel
theorem dX12_chargeBy_138 : decode cX12_chargeBy 138 = .ok (.iload_n 1, 1) := by decide +kernel
theorem dX12_chargeBy_139 : decode cX12_chargeBy 139 = .ok (.iaload, 1) := by decide +kernel
theorem dX12_chargeBy_140 : decode cX12_chargeBy 140 = .ok (.iconst 4, 1) := by decide +kernel
theorem dX12_chargeBy_141 : decode cX12_chargeBy 141 = .ok (.if_icmp .ne 14, 3) := by decide +kernel
theorem dX12_chargeBy_144 : decode cX12_chargeBy 144 = .ok (.iload 4, 2) := by decide +kernel
theorem dX12_chargeBy_146 : decode cX12_chargeBy 146 = .ok (.aload_n 0, 1) := by decide +kernel
theorem dX12_chargeBy_147 : decode cX12_chargeBy 147 = .ok (.getfield 89, 3) := by decide +kernel
theorem dX12_chargeBy_150 : decode cX12_chargeBy 150 = .ok (.iload_n 2, 1) := by decide +kernel
theorem dX12_chargeBy_151 : decode cX12_chargeBy 151 = .ok (.iaload, 1) := by decide +kernel
theorem dX12_chargeBy_152 : decode cX12_chargeBy 152 = .ok (.iadd, 1) := by decide +kernel
theorem dX12_chargeBy_153 : decode cX12_chargeBy 153 = .ok (.istore 4, 2) := by decide +kernel
theorem dX12_chargeBy_155 : decode cX12_chargeBy 155 = .ok (.iload 4, 2) := by decide +kernel
theorem dX12_chargeBy_157 : decode cX12_chargeBy 157 = .ok (.ireturn, 1) := by decide +kernel
theorem bX12_chargeBy_0 {d : Nat} {h0 hE h : ea_H} {rv : Option ea_V} {r0 : Option Nat} {x1 : Int32} {x2 : Int32} (H : ∃ a7, r0 = some a7 ∧ a7 < ea_n h ∧ ea_c h a7 = 12 ∧ ∃ (d1 : Nat) (xc9 : Int32) (h2 : ea_H), ea_Met mX12_isFree d1 [vR (some a7), vI x1, vI x2] h (some (vI xc9)) h2 ∧ d1 + 1 ≤ d ∧ (xc9 = (0 : Int32) → a7 < ea_n h2 ∧ ea_c h2 a7 = 12 ∧ ∃ (d10 : Nat) (xc16 : Int32) (h11 : ea_H), ea_Met mX12_lineOf d10 [vR (some a7), vI x1, vI x2] h2 (some (vI xc16)) h11 ∧ d10 + 1 ≤ d ∧ (¬ xc16 = ((-1) : Int32) → a7 < ea_n h11 ∧ ea_c h11 a7 = 12 ∧ ∃ a21, (ea_r h11 a7 35) = some a21 ∧ a21 < ea_n h11 ∧ ea_c h11 a21 = 20 ∧ vp_in (((25 : Int32) * x2) + xc16) (ea_l h11 a21) ∧ a7 < ea_n h11 ∧ ea_c h11 a7 = 12 ∧ ∃ a28, (ea_r h11 a7 36) = some a28 ∧ a28 < ea_n h11 ∧ ea_c h11 a28 = 20 ∧ vp_in (((24 : Int32) * x2) + xc16) (ea_l h11 a28) ∧ a7 < ea_n h11 ∧ ea_c h11 a7 = 12 ∧ ∃ (d31 : Nat) (xc37 : Int32) (h32 : ea_H), ea_Met mX12_comesTo d31 [vR (some a7), vI x2, vI (ea_i h11 a21 (Int32.toNatClampNeg (((25 : Int32) * x2) + xc16))), vI (ea_i h11 a28 (Int32.toNatClampNeg (((24 : Int32) * x2) + xc16)))] h11 (some (vI xc37)) h32 ∧ d31 + 1 ≤ d ∧ ea_W mX12_chargeBy d h0 rv hE 54 [(0, vR r0), (1, vI x1), (2, vI x2)] [vI xc37] h32) ∧ (xc16 = ((-1) : Int32) → ea_W mX12_chargeBy d h0 rv hE 54 [(0, vR r0), (1, vI x1), (2, vI x2)] [vI 0] h11)) ∧ (¬ xc9 = (0 : Int32) → rv = some (vI 0) ∧ hE = h2)) : ea_W mX12_chargeBy d h0 rv hE 0 [(0, vR r0), (1, vI x1), (2, vI x2)] [] h := by
  refine ea_aload_n (pc := 0) dX12_chargeBy_0 rfl 0 rfl ?_
  refine ea_iload_n (pc := 1) dX12_chargeBy_1 rfl 1 rfl ?_
  refine ea_iload_n (pc := 2) dX12_chargeBy_2 rfl 2 rfl ?_
  obtain ⟨a7, e8, f5, g6, H⟩ := H
  refine ea_deref2 e8 ?_
  obtain ⟨d1, xc9, h2, m3, q4, H⟩ := H
  refine ea_callV (pc := 3) (As := [vI x1, vI x2]) (st := []) dX12_chargeBy_3 kX12_isFree m3 q4 rfl (Nat.le_of_ble_eq_true rfl) ew_1987 ew_1989 ew_83 (ci := 12) rfl (by decide) f5 g6 ?_
  refine ea_if_eq (pc := 6) (tgt := 11) dX12_chargeBy_6 rfl (fun c39 => ?_) (fun c39 => ?_)
  · have H := H.1 c39
    refine ea_aload_n (pc := 11) dX12_chargeBy_11 rfl 0 rfl ?_
    refine ea_iload_n (pc := 12) dX12_chargeBy_12 rfl 1 rfl ?_
    refine ea_iload_n (pc := 13) dX12_chargeBy_13 rfl 2 rfl ?_
    obtain ⟨f14, g15, H⟩ := H
    refine ea_deref2 e8 ?_
    obtain ⟨d10, xc16, h11, m12, q13, H⟩ := H
    refine ea_callV (pc := 14) (As := [vI x1, vI x2]) (st := []) dX12_chargeBy_14 kX12_lineOf m12 q13 rfl (Nat.le_of_ble_eq_true rfl) ew_1995 ew_1997 ew_85 (ci := 12) rfl (by decide) f14 g15 ?_
    refine ea_istore_n (pc := 17) (lv' := [(0, vR r0), (1, vI x1), (2, vI x2), (3, vI xc16)]) dX12_chargeBy_17 rfl (Nat.le_of_ble_eq_true rfl) [1, 2, 3, 0] rfl ?_
    refine ea_iload_n (pc := 18) dX12_chargeBy_18 rfl 3 rfl ?_
    refine ea_iconst (pc := 19) dX12_chargeBy_19 (v := (-1)) rfl ?_
    refine ea_icmp_ne (pc := 20) (tgt := 27) dX12_chargeBy_20 rfl (fun c38 => ?_) (fun c38 => ?_)
    · have H := H.1 c38
      refine ea_aload_n (pc := 27) dX12_chargeBy_27 rfl 0 rfl ?_
      refine ea_iload_n (pc := 28) dX12_chargeBy_28 rfl 2 rfl ?_
      refine ea_aload_n (pc := 29) dX12_chargeBy_29 rfl 0 rfl ?_
      obtain ⟨f17, g18, H⟩ := H
      refine ea_deref0 e8 ?_
      refine ea_getR (pc := 30) dX12_chargeBy_30 ec_12 (k := 35) (Nat.le_of_ble_eq_true rfl) rfl (Or.inl ew_1380) f17 g18 rfl ?_
      refine ea_bipush (pc := 33) dX12_chargeBy_33 (v := 25) rfl ?_
      refine ea_iload_n (pc := 35) dX12_chargeBy_35 rfl 2 rfl ?_
      refine ea_imul (pc := 36) dX12_chargeBy_36 ?_
      refine ea_iload_n (pc := 37) dX12_chargeBy_37 rfl 3 rfl ?_
      refine ea_iadd (pc := 38) dX12_chargeBy_38 ?_
      obtain ⟨a21, e22, f19, g20, H⟩ := H
      refine ea_deref1 e22 ?_
      obtain ⟨z23, H⟩ := H
      refine ea_iald (pc := 39) dX12_chargeBy_39 f19 g20 z23 ?_
      refine ea_aload_n (pc := 40) dX12_chargeBy_40 rfl 0 rfl ?_
      obtain ⟨f24, g25, H⟩ := H
      refine ea_deref0 e8 ?_
      refine ea_getR (pc := 41) dX12_chargeBy_41 ec_12 (k := 36) (Nat.le_of_ble_eq_true rfl) rfl (Or.inl ew_1381) f24 g25 rfl ?_
      refine ea_bipush (pc := 44) dX12_chargeBy_44 (v := 24) rfl ?_
      refine ea_iload_n (pc := 46) dX12_chargeBy_46 rfl 2 rfl ?_
      refine ea_imul (pc := 47) dX12_chargeBy_47 ?_
      refine ea_iload_n (pc := 48) dX12_chargeBy_48 rfl 3 rfl ?_
      refine ea_iadd (pc := 49) dX12_chargeBy_49 ?_
      obtain ⟨a28, e29, f26, g27, H⟩ := H
      refine ea_deref1 e29 ?_
      obtain ⟨z30, H⟩ := H
      refine ea_iald (pc := 50) dX12_chargeBy_50 f26 g27 z30 ?_
      obtain ⟨f35, g36, H⟩ := H
      refine ea_deref3 e8 ?_
      obtain ⟨d31, xc37, h32, m33, q34, H⟩ := H
      refine ea_callV (pc := 51) (As := [vI x2, vI (ea_i h11 a21 (Int32.toNatClampNeg (((25 : Int32) * x2) + xc16))), vI (ea_i h11 a28 (Int32.toNatClampNeg (((24 : Int32) * x2) + xc16)))]) (st := []) dX12_chargeBy_51 kX12_comesTo m33 q34 rfl (Nat.le_of_ble_eq_true rfl) ew_2003 ew_2005 ew_87 (ci := 12) rfl (by decide) f35 g36 ?_
      exact ea_fewer [0, 1, 2] rfl H
    · have H := H.2 c38
      refine ea_iconst (pc := 23) dX12_chargeBy_23 (v := 0) rfl ?_
      refine ea_goto (pc := 24) (tgt := 54) dX12_chargeBy_24 rfl ?_
      exact ea_fewer [0, 1, 2] rfl H
  · have H := H.2 c39
    refine ea_iconst (pc := 9) dX12_chargeBy_9 (v := 0) rfl ?_
    obtain ⟨rfl, rfl⟩ := H
    exact ea_ireturn (pc := 10) dX12_chargeBy_10 rfl rfl
theorem bX12_chargeBy_54 {d : Nat} {h0 hE h : ea_H} {rv : Option ea_V} {r0 : Option Nat} {x1 : Int32} {x2 : Int32} {sx0 : Int32} (H : ((0 : Int32) ≤ sx0 → (sx0 ≤ (99999 : Int32) → ea_W mX12_chargeBy d h0 rv hE 81 [(0, vR r0), (1, vI x1), (2, vI x2)] [vI sx0] h) ∧ (¬ sx0 ≤ (99999 : Int32) → ea_W mX12_chargeBy d h0 rv hE 81 [(0, vR r0), (1, vI x1), (2, vI x2)] [vI 99999] h)) ∧ (¬ (0 : Int32) ≤ sx0 → ea_W mX12_chargeBy d h0 rv hE 81 [(0, vR r0), (1, vI x1), (2, vI x2)] [vI 0] h)) : ea_W mX12_chargeBy d h0 rv hE 54 [(0, vR r0), (1, vI x1), (2, vI x2)] [vI sx0] h := by
  refine ea_istore (pc := 54) (lv' := [(0, vR r0), (1, vI x1), (2, vI x2), (4, vI sx0)]) dX12_chargeBy_54 (Nat.le_of_ble_eq_true rfl) [1, 2, 3, 0] rfl ?_
  refine ea_iload (pc := 56) dX12_chargeBy_56 3 rfl ?_
  refine ea_if_ge (pc := 58) (tgt := 65) dX12_chargeBy_58 rfl (fun c2 => ?_) (fun c2 => ?_)
  · have H := H.1 c2
    refine ea_iload (pc := 65) dX12_chargeBy_65 3 rfl ?_
    refine ea_ldcw (pc := 67) dX12_chargeBy_67 ew_2010 ?_
    refine ea_icmp_le (pc := 70) (tgt := 79) dX12_chargeBy_70 rfl (fun c1 => ?_) (fun c1 => ?_)
    · have H := H.1 c1
      refine ea_iload (pc := 79) dX12_chargeBy_79 3 rfl ?_
      exact ea_fewer [0, 1, 2] rfl H
    · have H := H.2 c1
      refine ea_ldcw (pc := 73) dX12_chargeBy_73 ew_2010 ?_
      refine ea_goto (pc := 76) (tgt := 81) dX12_chargeBy_76 rfl ?_
      exact ea_fewer [0, 1, 2] rfl H
  · have H := H.2 c2
    refine ea_iconst (pc := 61) dX12_chargeBy_61 (v := 0) rfl ?_
    refine ea_goto (pc := 62) (tgt := 81) dX12_chargeBy_62 rfl ?_
    exact ea_fewer [0, 1, 2] rfl H
theorem bX12_chargeBy_81 {d : Nat} {h0 hE h : ea_H} {rv : Option ea_V} {r0 : Option Nat} {x1 : Int32} {x2 : Int32} {sx0 : Int32} (H : ∃ a3, r0 = some a3 ∧ a3 < ea_n h ∧ ea_c h a3 = 12 ∧ ∃ a7, (ea_r h a3 70) = some a7 ∧ a7 < ea_n h ∧ ea_c h a7 = 20 ∧ vp_in x1 (ea_l h a7) ∧ a3 < ea_n h ∧ ea_c h a3 = 12 ∧ ∃ a14, (ea_r h a3 29) = some a14 ∧ a14 < ea_n h ∧ ea_c h a14 = 20 ∧ vp_in x2 (ea_l h a14) ∧ (((ea_i h a7 (Int32.toNatClampNeg x1)) - (ea_i h a7 (Int32.toNatClampNeg x1)) / (1440 : Int32) * (1440 : Int32)) ≤ (ea_i h a14 (Int32.toNatClampNeg x2)) → ea_W mX12_chargeBy d h0 rv hE 113 [(0, vR r0), (1, vI x1), (2, vI x2), (4, vI sx0)] [] h) ∧ (¬ ((ea_i h a7 (Int32.toNatClampNeg x1)) - (ea_i h a7 (Int32.toNatClampNeg x1)) / (1440 : Int32) * (1440 : Int32)) ≤ (ea_i h a14 (Int32.toNatClampNeg x2)) → a3 < ea_n h ∧ ea_c h a3 = 12 ∧ ∃ a21, (ea_r h a3 28) = some a21 ∧ a21 < ea_n h ∧ ea_c h a21 = 20 ∧ vp_in x2 (ea_l h a21) ∧ ea_W mX12_chargeBy d h0 rv hE 113 [(0, vR r0), (1, vI x1), (2, vI x2), (4, vI (sx0 + (ea_i h a21 (Int32.toNatClampNeg x2))))] [] h)) : ea_W mX12_chargeBy d h0 rv hE 81 [(0, vR r0), (1, vI x1), (2, vI x2)] [vI sx0] h := by
  refine ea_istore (pc := 81) (lv' := [(0, vR r0), (1, vI x1), (2, vI x2), (4, vI sx0)]) dX12_chargeBy_81 (Nat.le_of_ble_eq_true rfl) [1, 2, 3, 0] rfl ?_
  refine ea_aload_n (pc := 83) dX12_chargeBy_83 rfl 0 rfl ?_
  obtain ⟨a3, e4, f1, g2, H⟩ := H
  refine ea_deref0 e4 ?_
  refine ea_getR (pc := 84) dX12_chargeBy_84 ec_12 (k := 70) (Nat.le_of_ble_eq_true rfl) rfl (Or.inl ew_1415) f1 g2 rfl ?_
  refine ea_iload_n (pc := 87) dX12_chargeBy_87 rfl 1 rfl ?_
  obtain ⟨a7, e8, f5, g6, H⟩ := H
  refine ea_deref1 e8 ?_
  obtain ⟨z9, H⟩ := H
  refine ea_iald (pc := 88) dX12_chargeBy_88 f5 g6 z9 ?_
  refine ea_sipush (pc := 89) dX12_chargeBy_89 (v := 1440) rfl ?_
  refine ea_irem (pc := 92) dX12_chargeBy_92 (by decide) ?_
  refine ea_aload_n (pc := 93) dX12_chargeBy_93 rfl 0 rfl ?_
  obtain ⟨f10, g11, H⟩ := H
  refine ea_deref0 e4 ?_
  refine ea_getR (pc := 94) dX12_chargeBy_94 ec_12 (k := 29) (Nat.le_of_ble_eq_true rfl) rfl (Or.inl ew_1374) f10 g11 rfl ?_
  refine ea_iload_n (pc := 97) dX12_chargeBy_97 rfl 2 rfl ?_
  obtain ⟨a14, e15, f12, g13, H⟩ := H
  refine ea_deref1 e15 ?_
  obtain ⟨z16, H⟩ := H
  refine ea_iald (pc := 98) dX12_chargeBy_98 f12 g13 z16 ?_
  refine ea_icmp_le (pc := 99) (tgt := 113) dX12_chargeBy_99 rfl (fun c24 => ?_) (fun c24 => ?_)
  · have H := H.1 c24
    exact H
  · have H := H.2 c24
    refine ea_iload (pc := 102) dX12_chargeBy_102 3 rfl ?_
    refine ea_aload_n (pc := 104) dX12_chargeBy_104 rfl 0 rfl ?_
    obtain ⟨f17, g18, H⟩ := H
    refine ea_deref0 e4 ?_
    refine ea_getR (pc := 105) dX12_chargeBy_105 ec_12 (k := 28) (Nat.le_of_ble_eq_true rfl) rfl (Or.inl ew_1373) f17 g18 rfl ?_
    refine ea_iload_n (pc := 108) dX12_chargeBy_108 rfl 2 rfl ?_
    obtain ⟨a21, e22, f19, g20, H⟩ := H
    refine ea_deref1 e22 ?_
    obtain ⟨z23, H⟩ := H
    refine ea_iald (pc := 109) dX12_chargeBy_109 f19 g20 z23 ?_
    refine ea_iadd (pc := 110) dX12_chargeBy_110 ?_
    refine ea_istore (pc := 111) (lv' := [(0, vR r0), (1, vI x1), (2, vI x2), (4, vI (sx0 + (ea_i h a21 (Int32.toNatClampNeg x2))))]) dX12_chargeBy_111 (Nat.le_of_ble_eq_true rfl) [1, 2, 3, 0] rfl ?_
    exact H
theorem bX12_chargeBy_113 {d : Nat} {h0 hE h : ea_H} {rv : Option ea_V} {r0 : Option Nat} {x1 : Int32} {x2 : Int32} {x4 : Int32} (H : ∃ a3, r0 = some a3 ∧ a3 < ea_n h ∧ ea_c h a3 = 12 ∧ ∃ a7, (ea_r h a3 64) = some a7 ∧ a7 < ea_n h ∧ ea_c h a7 = 20 ∧ vp_in x1 (ea_l h a7) ∧ (¬ (ea_i h a7 (Int32.toNatClampNeg x1)) = (3 : Int32) → ea_W mX12_chargeBy d h0 rv hE 134 [(0, vR r0), (1, vI x1), (2, vI x2), (4, vI x4)] [] h) ∧ ((ea_i h a7 (Int32.toNatClampNeg x1)) = (3 : Int32) → a3 < ea_n h ∧ ea_c h a3 = 12 ∧ ∃ a14, (ea_r h a3 31) = some a14 ∧ a14 < ea_n h ∧ ea_c h a14 = 20 ∧ vp_in x2 (ea_l h a14) ∧ ea_W mX12_chargeBy d h0 rv hE 134 [(0, vR r0), (1, vI x1), (2, vI x2), (4, vI (x4 + (ea_i h a14 (Int32.toNatClampNeg x2))))] [] h)) : ea_W mX12_chargeBy d h0 rv hE 113 [(0, vR r0), (1, vI x1), (2, vI x2), (4, vI x4)] [] h := by
  refine ea_aload_n (pc := 113) dX12_chargeBy_113 rfl 0 rfl ?_
  obtain ⟨a3, e4, f1, g2, H⟩ := H
  refine ea_deref0 e4 ?_
  refine ea_getR (pc := 114) dX12_chargeBy_114 ec_12 (k := 64) (Nat.le_of_ble_eq_true rfl) rfl (Or.inl ew_1409) f1 g2 rfl ?_
  refine ea_iload_n (pc := 117) dX12_chargeBy_117 rfl 1 rfl ?_
  obtain ⟨a7, e8, f5, g6, H⟩ := H
  refine ea_deref1 e8 ?_
  obtain ⟨z9, H⟩ := H
  refine ea_iald (pc := 118) dX12_chargeBy_118 f5 g6 z9 ?_
  refine ea_iconst (pc := 119) dX12_chargeBy_119 (v := 3) rfl ?_
  refine ea_icmp_ne (pc := 120) (tgt := 134) dX12_chargeBy_120 rfl (fun c17 => ?_) (fun c17 => ?_)
  · have H := H.1 c17
    exact H
  · have H := H.2 c17
    refine ea_iload (pc := 123) dX12_chargeBy_123 3 rfl ?_
    refine ea_aload_n (pc := 125) dX12_chargeBy_125 rfl 0 rfl ?_
    obtain ⟨f10, g11, H⟩ := H
    refine ea_deref0 e4 ?_
    refine ea_getR (pc := 126) dX12_chargeBy_126 ec_12 (k := 31) (Nat.le_of_ble_eq_true rfl) rfl (Or.inl ew_1376) f10 g11 rfl ?_
    refine ea_iload_n (pc := 129) dX12_chargeBy_129 rfl 2 rfl ?_
    obtain ⟨a14, e15, f12, g13, H⟩ := H
    refine ea_deref1 e15 ?_
    obtain ⟨z16, H⟩ := H
    refine ea_iald (pc := 130) dX12_chargeBy_130 f12 g13 z16 ?_
    refine ea_iadd (pc := 131) dX12_chargeBy_131 ?_
    refine ea_istore (pc := 132) (lv' := [(0, vR r0), (1, vI x1), (2, vI x2), (4, vI (x4 + (ea_i h a14 (Int32.toNatClampNeg x2))))]) dX12_chargeBy_132 (Nat.le_of_ble_eq_true rfl) [1, 2, 3, 0] rfl ?_
    exact H
theorem bX12_chargeBy_134 {d : Nat} {h0 hE h : ea_H} {rv : Option ea_V} {r0 : Option Nat} {x1 : Int32} {x2 : Int32} {x4 : Int32} (H : ∃ a3, r0 = some a3 ∧ a3 < ea_n h ∧ ea_c h a3 = 12 ∧ ∃ a7, (ea_r h a3 64) = some a7 ∧ a7 < ea_n h ∧ ea_c h a7 = 20 ∧ vp_in x1 (ea_l h a7) ∧ (¬ (ea_i h a7 (Int32.toNatClampNeg x1)) = (4 : Int32) → rv = some (vI x4) ∧ hE = h) ∧ ((ea_i h a7 (Int32.toNatClampNeg x1)) = (4 : Int32) → a3 < ea_n h ∧ ea_c h a3 = 12 ∧ ∃ a14, (ea_r h a3 32) = some a14 ∧ a14 < ea_n h ∧ ea_c h a14 = 20 ∧ vp_in x2 (ea_l h a14) ∧ rv = some (vI (x4 + (ea_i h a14 (Int32.toNatClampNeg x2)))) ∧ hE = h)) : ea_W mX12_chargeBy d h0 rv hE 134 [(0, vR r0), (1, vI x1), (2, vI x2), (4, vI x4)] [] h := by
  refine ea_aload_n (pc := 134) dX12_chargeBy_134 rfl 0 rfl ?_
  obtain ⟨a3, e4, f1, g2, H⟩ := H
  refine ea_deref0 e4 ?_
  refine ea_getR (pc := 135) dX12_chargeBy_135 ec_12 (k := 64) (Nat.le_of_ble_eq_true rfl) rfl (Or.inl ew_1409) f1 g2 rfl ?_
  refine ea_iload_n (pc := 138) dX12_chargeBy_138 rfl 1 rfl ?_
  obtain ⟨a7, e8, f5, g6, H⟩ := H
  refine ea_deref1 e8 ?_
  obtain ⟨z9, H⟩ := H
  refine ea_iald (pc := 139) dX12_chargeBy_139 f5 g6 z9 ?_
  refine ea_iconst (pc := 140) dX12_chargeBy_140 (v := 4) rfl ?_
  refine ea_icmp_ne (pc := 141) (tgt := 155) dX12_chargeBy_141 rfl (fun c17 => ?_) (fun c17 => ?_)
  · have H := H.1 c17
    refine ea_iload (pc := 155) dX12_chargeBy_155 3 rfl ?_
    obtain ⟨rfl, rfl⟩ := H
    exact ea_ireturn (pc := 157) dX12_chargeBy_157 rfl rfl
  · have H := H.2 c17
    refine ea_iload (pc := 144) dX12_chargeBy_144 3 rfl ?_
    refine ea_aload_n (pc := 146) dX12_chargeBy_146 rfl 0 rfl ?_
    obtain ⟨f10, g11, H⟩ := H
    refine ea_deref0 e4 ?_
    refine ea_getR (pc := 147) dX12_chargeBy_147 ec_12 (k := 32) (Nat.le_of_ble_eq_true rfl) rfl (Or.inl ew_1377) f10 g11 rfl ?_
    refine ea_iload_n (pc := 150) dX12_chargeBy_150 rfl 2 rfl ?_
    obtain ⟨a14, e15, f12, g13, H⟩ := H
    refine ea_deref1 e15 ?_
    obtain ⟨z16, H⟩ := H
    refine ea_iald (pc := 151) dX12_chargeBy_151 f12 g13 z16 ?_
    refine ea_iadd (pc := 152) dX12_chargeBy_152 ?_
    refine ea_istore (pc := 153) (lv' := [(4, vI (x4 + (ea_i h a14 (Int32.toNatClampNeg x2))))]) dX12_chargeBy_153 (Nat.le_of_ble_eq_true rfl) [0] rfl ?_
    refine ea_iload (pc := 155) dX12_chargeBy_155 0 rfl ?_
    obtain ⟨rfl, rfl⟩ := H
    exact ea_ireturn (pc := 157) dX12_chargeBy_157 rfl rfl
theorem dX12_post_0 : decode cX12_post 0 = .ok (.iload_n 1, 1) := by decide +kernel
theorem dX12_post_1 : decode cX12_post 1 = .ok (.iconst 0, 1) := by decide +kernel
theorem dX12_post_2 : decode cX12_post 2 = .ok (.iconst 4, 1) := by decide +kernel
theorem dX12_post_3 : decode cX12_post 3 = .ok (.invokestatic 286, 3) := by decide +kernel
theorem dX12_post_6 : decode cX12_post 6 = .ok (.ifCond .eq 66, 3) := by decide +kernel
theorem dX12_post_9 : decode cX12_post 9 = .ok (.aload_n 0, 1) := by decide +kernel
theorem dX12_post_10 : decode cX12_post 10 = .ok (.iload_n 2, 1) := by decide +kernel
theorem dX12_post_11 : decode cX12_post 11 = .ok (.invokevirtual 297, 3) := by decide +kernel
theorem dX12_post_14 : decode cX12_post 14 = .ok (.ifCond .eq 58, 3) := by decide +kernel
theorem dX12_post_17 : decode cX12_post 17 = .ok (.aload_n 0, 1) := by decide +kernel
theorem dX12_post_18 : decode cX12_post 18 = .ok (.iload_n 3, 1) := by decide +kernel
theorem dX12_post_19 : decode cX12_post 19 = .ok (.invokevirtual 297, 3) := by decide +kernel
theorem dX12_post_22 : decode cX12_post 22 = .ok (.ifCond .eq 50, 3) := by decide +kernel
theorem dX12_post_25 : decode cX12_post 25 = .ok (.iload_n 2, 1) := by decide +kernel
theorem dX12_post_26 : decode cX12_post 26 = .ok (.iload_n 3, 1) := by decide +kernel
theorem dX12_post_27 : decode cX12_post 27 = .ok (.if_icmp .eq 45, 3) := by decide +kernel
theorem dX12_post_30 : decode cX12_post 30 = .ok (.iload 4, 2) := by decide +kernel
theorem dX12_post_32 : decode cX12_post 32 = .ok (.iconst 1, 1) := by decide +kernel
theorem dX12_post_33 : decode cX12_post 33 = .ok (.bipush 9, 2) := by decide +kernel
theorem dX12_post_35 : decode cX12_post 35 = .ok (.invokestatic 286, 3) := by decide +kernel
theorem dX12_post_38 : decode cX12_post 38 = .ok (.ifCond .eq 34, 3) := by decide +kernel
theorem dX12_post_41 : decode cX12_post 41 = .ok (.iload 5, 2) := by decide +kernel
theorem dX12_post_43 : decode cX12_post 43 = .ok (.iconst 0, 1) := by decide +kernel
theorem dX12_post_44 : decode cX12_post 44 = .ok (.bipush 99, 2) := by decide +kernel
theorem dX12_post_46 : decode cX12_post 46 = .ok (.invokestatic 286, 3) := by decide +kernel
theorem dX12_post_49 : decode cX12_post 49 = .ok (.ifCond .eq 23, 3) := by decide +kernel
theorem dX12_post_52 : decode cX12_post 52 = .ok (.iload 6, 2) := by decide +kernel
theorem dX12_post_54 : decode cX12_post 54 = .ok (.iconst 0, 1) := by decide +kernel
theorem dX12_post_55 : decode cX12_post 55 = .ok (.bipush 9, 2) := by decide +kernel
theorem dX12_post_57 : decode cX12_post 57 = .ok (.invokestatic 286, 3) := by decide +kernel
theorem dX12_post_60 : decode cX12_post 60 = .ok (.ifCond .eq 12, 3) := by decide +kernel
theorem dX12_post_63 : decode cX12_post 63 = .ok (.aload_n 0, 1) := by decide +kernel
theorem dX12_post_64 : decode cX12_post 64 = .ok (.getfield 531, 3) := by decide +kernel
theorem dX12_post_67 : decode cX12_post 67 = .ok (.bipush 120, 2) := by decide +kernel
theorem dX12_post_69 : decode cX12_post 69 = .ok (.if_icmp .ne 5, 3) := by decide +kernel
theorem dX12_post_72 : decode cX12_post 72 = .ok (.iconst (-1), 1) := by decide +kernel
theorem dX12_post_73 : decode cX12_post 73 = .ok (.ireturn, 1) := by decide +kernel
theorem dX12_post_74 : decode cX12_post 74 = .ok (.aload_n 0, 1) := by decide +kernel
theorem dX12_post_75 : decode cX12_post 75 = .ok (.getfield 531, 3) := by decide +kernel
theorem dX12_post_78 : decode cX12_post 78 = .ok (.istore 7, 2) := by decide +kernel
theorem dX12_post_80 : decode cX12_post 80 = .ok (.aload_n 0, 1) := by decide +kernel
theorem dX12_post_81 : decode cX12_post 81 = .ok (.dup, 1) := by decide +kernel
theorem dX12_post_82 : decode cX12_post 82 = .ok (.getfield 531, 3) := by decide +kernel
theorem dX12_post_85 : decode cX12_post 85 = .ok (.iconst 1, 1) := by decide +kernel
theorem dX12_post_86 : decode cX12_post 86 = .ok (.iadd, 1) := by decide +kernel
theorem dX12_post_87 : decode cX12_post 87 = .ok (.putfield 531, 3) := by decide +kernel
theorem dX12_post_90 : decode cX12_post 90 = .ok (.aload_n 0, 1) := by decide +kernel
theorem dX12_post_91 : decode cX12_post 91 = .ok (.getfield 126, 3) := by decide +kernel
theorem dX12_post_94 : decode cX12_post 94 = .ok (.iload 7, 2) := by decide +kernel
theorem dX12_post_96 : decode cX12_post 96 = .ok (.iload_n 1, 1) := by decide +kernel
theorem dX12_post_97 : decode cX12_post 97 = .ok (.iastore, 1) := by decide +kernel
theorem dX12_post_98 : decode cX12_post 98 = .ok (.aload_n 0, 1) := by decide +kernel
theorem dX12_post_99 : decode cX12_post 99 = .ok (.getfield 129, 3) := by decide +kernel
theorem dX12_post_102 : decode cX12_post 102 = .ok (.iload 7, 2) := by decide +kernel
theorem dX12_post_104 : decode cX12_post 104 = .ok (.iload_n 2, 1) := by decide +kernel
theorem dX12_post_105 : decode cX12_post 105 = .ok (.iastore, 1) := by decide +kernel
theorem dX12_post_106 : decode cX12_post 106 = .ok (.aload_n 0, 1) := by decide +kernel
theorem dX12_post_107 : decode cX12_post 107 = .ok (.getfield 132, 3) := by decide +kernel
theorem dX12_post_110 : decode cX12_post 110 = .ok (.iload 7, 2) := by decide +kernel
theorem dX12_post_112 : decode cX12_post 112 = .ok (.iload_n 3, 1) := by decide +kernel
theorem dX12_post_113 : decode cX12_post 113 = .ok (.iastore, 1) := by decide +kernel
theorem dX12_post_114 : decode cX12_post 114 = .ok (.aload_n 0, 1) := by decide +kernel
theorem dX12_post_115 : decode cX12_post 115 = .ok (.getfield 135, 3) := by decide +kernel
theorem dX12_post_118 : decode cX12_post 118 = .ok (.iload 7, 2) := by decide +kernel
theorem dX12_post_120 : decode cX12_post 120 = .ok (.iload 4, 2) := by decide +kernel
theorem dX12_post_122 : decode cX12_post 122 = .ok (.iastore, 1) := by decide +kernel
theorem dX12_post_123 : decode cX12_post 123 = .ok (.aload_n 0, 1) := by decide +kernel
theorem dX12_post_124 : decode cX12_post 124 = .ok (.getfield 138, 3) := by decide +kernel
theorem dX12_post_127 : decode cX12_post 127 = .ok (.iload 7, 2) := by decide +kernel
theorem dX12_post_129 : decode cX12_post 129 = .ok (.iload 5, 2) := by decide +kernel
theorem dX12_post_131 : decode cX12_post 131 = .ok (.iastore, 1) := by decide +kernel
theorem dX12_post_132 : decode cX12_post 132 = .ok (.aload_n 0, 1) := by decide +kernel
theorem dX12_post_133 : decode cX12_post 133 = .ok (.getfield 141, 3) := by decide +kernel
theorem dX12_post_136 : decode cX12_post 136 = .ok (.iload 7, 2) := by decide +kernel
theorem dX12_post_138 : decode cX12_post 138 = .ok (.iload 6, 2) := by decide +kernel
theorem dX12_post_140 : decode cX12_post 140 = .ok (.iastore, 1) := by decide +kernel
theorem dX12_post_141 : decode cX12_post 141 = .ok (.aload_n 0, 1) := by decide +kernel
theorem dX12_post_142 : decode cX12_post 142 = .ok (.getfield 144, 3) := by decide +kernel
theorem dX12_post_145 : decode cX12_post 145 = .ok (.iload 7, 2) := by decide +kernel
theorem dX12_post_147 : decode cX12_post 147 = .ok (.aload_n 0, 1) := by decide +kernel
theorem dX12_post_148 : decode cX12_post 148 = .ok (.getfield 313, 3) := by decide +kernel
theorem dX12_post_151 : decode cX12_post 151 = .ok (.iastore, 1) := by decide +kernel
theorem dX12_post_152 : decode cX12_post 152 = .ok (.aload_n 0, 1) := by decide +kernel
theorem dX12_post_153 : decode cX12_post 153 = .ok (.getfield 147, 3) := by decide +kernel
theorem dX12_post_156 : decode cX12_post 156 = .ok (.iload 7, 2) := by decide +kernel
theorem dX12_post_158 : decode cX12_post 158 = .ok (.aload_n 0, 1) := by decide +kernel
theorem dX12_post_159 : decode cX12_post 159 = .ok (.iload_n 2, 1) := by decide +kernel
theorem dX12_post_160 : decode cX12_post 160 = .ok (.iload_n 3, 1) := by decide +kernel
theorem dX12_post_161 : decode cX12_post 161 = .ok (.iconst 0, 1) := by decide +kernel
theorem dX12_post_162 : decode cX12_post 162 = .ok (.invokevirtual 306, 3) := by decide +kernel
theorem dX12_post_165 : decode cX12_post 165 = .ok (.iastore, 1) := by decide +kernel
theorem dX12_post_166 : decode cX12_post 166 = .ok (.aload_n 0, 1) := by decide +kernel
theorem dX12_post_167 : decode cX12_post 167 = .ok (.getfield 168, 3) := by decide +kernel
theorem dX12_post_170 : decode cX12_post 170 = .ok (.iload 7, 2) := by decide +kernel
theorem dX12_post_172 : decode cX12_post 172 = .ok (.aload_n 0, 1) := by decide +kernel
theorem dX12_post_173 : decode cX12_post 173 = .ok (.iload_n 2, 1) := by decide +kernel
theorem dX12_post_174 : decode cX12_post 174 = .ok (.iload_n 3, 1) := by decide +kernel
theorem dX12_post_175 : decode cX12_post 175 = .ok (.invokevirtual 550, 3) := by decide +kernel
theorem dX12_post_178 : decode cX12_post 178 = .ok (.bastore, 1) := by decide +kernel
theorem dX12_post_179 : decode cX12_post 179 = .ok (.aload_n 0, 1) := by decide +kernel
theorem dX12_post_180 : decode cX12_post 180 = .ok (.getfield 150, 3) := by decide +kernel
theorem dX12_post_183 : decode cX12_post 183 = .ok (.iload 7, 2) := by decide +kernel
theorem dX12_post_185 : decode cX12_post 185 = .ok (.iconst 0, 1) := by decide +kernel
theorem dX12_post_186 : decode cX12_post 186 = .ok (.iastore, 1) := by decide +kernel
theorem dX12_post_187 : decode cX12_post 187 = .ok (.iconst 0, 1) := by decide +kernel
theorem dX12_post_188 : decode cX12_post 188 = .ok (.istore 8, 2) := by decide +kernel
theorem dX12_post_190 : decode cX12_post 190 = .ok (.iload 8, 2) := by decide +kernel
theorem dX12_post_192 : decode cX12_post 192 = .ok (.iload 7, 2) := by decide +kernel
theorem dX12_post_194 : decode cX12_post 194 = .ok (.if_icmp .gt 69, 3) := by decide +kernel
theorem dX12_post_197 : decode cX12_post 197 = .ok (.aload_n 0, 1) := by decide +kernel
theorem dX12_post_198 : decode cX12_post 198 = .ok (.getfield 150, 3) := by decide +kernel
theorem dX12_post_201 : decode cX12_post 201 = .ok (.iload 7, 2) := by decide +kernel
theorem dX12_post_203 : decode cX12_post 203 = .ok (.dup2, 1) := by decide +kernel
theorem dX12_post_204 : decode cX12_post 204 = .ok (.iaload, 1) := by decide +kernel
theorem dX12_post_205 : decode cX12_post 205 = .ok (.aload_n 0, 1) := by decide +kernel
theorem dX12_post_206 : decode cX12_post 206 = .ok (.getfield 126, 3) := by decide +kernel
theorem dX12_post_209 : decode cX12_post 209 = .ok (.iload 8, 2) := by decide +kernel
theorem dX12_post_211 : decode cX12_post 211 = .ok (.iaload, 1) := by decide +kernel
theorem dX12_post_212 : decode cX12_post 212 = .ok (.iconst 2, 1) := by decide +kernel
theorem dX12_post_213 : decode cX12_post 213 = .ok (.if_icmp .ne 41, 3) := by decide +kernel
theorem dX12_post_216 : decode cX12_post 216 = .ok (.aload_n 0, 1) := by decide +kernel
theorem dX12_post_217 : decode cX12_post 217 = .ok (.getfield 141, 3) := by decide +kernel
theorem dX12_post_220 : decode cX12_post 220 = .ok (.iload 8, 2) := by decide +kernel
theorem dX12_post_222 : decode cX12_post 222 = .ok (.iaload, 1) := by decide +kernel
theorem dX12_post_223 : decode cX12_post 223 = .ok (.iload 6, 2) := by decide +kernel
theorem dX12_post_225 : decode cX12_post 225 = .ok (.if_icmp .ne 29, 3) := by decide +kernel
theorem dX12_post_228 : decode cX12_post 228 = .ok (.aload_n 0, 1) := by decide +kernel
theorem dX12_post_229 : decode cX12_post 229 = .ok (.getfield 144, 3) := by decide +kernel
theorem dX12_post_232 : decode cX12_post 232 = .ok (.iload 8, 2) := by decide +kernel
theorem dX12_post_234 : decode cX12_post 234 = .ok (.iaload, 1) := by decide +kernel
theorem dX12_post_235 : decode cX12_post 235 = .ok (.sipush 1440, 3) := by decide +kernel
theorem dX12_post_238 : decode cX12_post 238 = .ok (.idiv, 1) := by decide +kernel
theorem dX12_post_239 : decode cX12_post 239 = .ok (.aload_n 0, 1) := by decide +kernel
theorem dX12_post_240 : decode cX12_post 240 = .ok (.getfield 313, 3) := by decide +kernel
theorem dX12_post_243 : decode cX12_post 243 = .ok (.sipush 1440, 3) := by decide +kernel
theorem dX12_post_246 : decode cX12_post 246 = .ok (.idiv, 1) := by decide +kernel
theorem dX12_post_247 : decode cX12_post 247 = .ok (.if_icmp .ne 7, 3) := by decide +kernel
theorem dX12_post_250 : decode cX12_post 250 = .ok (.iconst 1, 1) := by decide +kernel
theorem dX12_post_251 : decode cX12_post 251 = .ok (.goto 4, 3) := by decide +kernel
theorem dX12_post_254 : decode cX12_post 254 = .ok (.iconst 0, 1) := by decide +kernel
theorem dX12_post_255 : decode cX12_post 255 = .ok (.iadd, 1) := by decide +kernel
theorem dX12_post_256 : decode cX12_post 256 = .ok (.iastore, 1) := by decide +kernel
theorem dX12_post_257 : decode cX12_post 257 = .ok (.iinc 8 1, 3) := by decide +kernel
theorem dX12_post_260 : decode cX12_post 260 = .ok (.goto (-70), 3) := by decide +kernel
theorem dX12_post_263 : decode cX12_post 263 = .ok (.aload_n 0, 1) := by decide +kernel
theorem dX12_post_264 : decode cX12_post 264 = .ok (.getfield 153, 3) := by decide +kernel
theorem dX12_post_267 : decode cX12_post 267 = .ok (.iload 7, 2) := by decide +kernel
theorem dX12_post_269 : decode cX12_post 269 = .ok (.aload_n 0, 1) := by decide +kernel
theorem dX12_post_270 : decode cX12_post 270 = .ok (.aload_n 0, 1) := by decide +kernel
theorem dX12_post_271 : decode cX12_post 271 = .ok (.getfield 313, 3) := by decide +kernel
theorem dX12_post_274 : decode cX12_post 274 = .ok (.sipush 1440, 3) := by decide +kernel
theorem dX12_post_277 : decode cX12_post 277 = .ok (.idiv, 1) := by decide +kernel
theorem dX12_post_278 : decode cX12_post 278 = .ok (.invokevirtual 528, 3) := by decide +kernel
theorem dX12_post_281 : decode cX12_post 281 = .ok (.iastore, 1) := by decide +kernel
theorem dX12_post_282 : decode cX12_post 282 = .ok (.aload_n 0, 1) := by decide +kernel
theorem dX12_post_283 : decode cX12_post 283 = .ok (.getfield 171, 3) := by decide +kernel
theorem dX12_post_286 : decode cX12_post 286 = .ok (.iload 7, 2) := by decide +kernel
theorem dX12_post_288 : decode cX12_post 288 = .ok (.aload_n 0, 1) := by decide +kernel
theorem dX12_post_289 : decode cX12_post 289 = .ok (.getfield 153, 3) := by decide +kernel
theorem dX12_post_292 : decode cX12_post 292 = .ok (.iload 7, 2) := by decide +kernel
theorem dX12_post_294 : decode cX12_post 294 = .ok (.iaload, 1) := by decide +kernel
theorem dX12_post_295 : decode cX12_post 295 = .ok (.iconst (-1), 1) := by decide +kernel
theorem dX12_post_296 : decode cX12_post 296 = .ok (.if_icmp .eq 23, 3) := by decide +kernel
theorem dX12_post_299 : decode cX12_post 299 = .ok (.aload_n 0, 1) := by decide +kernel
theorem dX12_post_300 : decode cX12_post 300 = .ok (.iload 7, 2) := by decide +kernel
theorem dX12_post_302 : decode cX12_post 302 = .ok (.aload_n 0, 1) := by decide +kernel
theorem dX12_post_303 : decode cX12_post 303 = .ok (.getfield 153, 3) := by decide +kernel
theorem dX12_post_306 : decode cX12_post 306 = .ok (.iload 7, 2) := by decide +kernel
theorem dX12_post_308 : decode cX12_post 308 = .ok (.iaload, 1) := by decide +kernel
theorem dX12_post_309 : decode cX12_post 309 = .ok (.invokevirtual 543, 3) := by decide +kernel
theorem dX12_post_312 : decode cX12_post 312 = .ok (.ifCond .eq 7, 3) := by decide +kernel
theorem dX12_post_315 : decode cX12_post 315 = .ok (.iconst 1, 1) := by decide +kernel
theorem dX12_post_316 : decode cX12_post 316 = .ok (.goto 4, 3) := by decide +kernel
theorem dX12_post_319 : decode cX12_post 319 = .ok (.iconst 0, 1) := by decide +kernel
theorem dX12_post_320 : decode cX12_post 320 = .ok (.bastore, 1) := by decide +kernel
theorem dX12_post_321 : decode cX12_post 321 = .ok (.aload_n 0, 1) := by decide +kernel
theorem dX12_post_322 : decode cX12_post 322 = .ok (.getfield 156, 3) := by decide +kernel
theorem dX12_post_325 : decode cX12_post 325 = .ok (.iload 7, 2) := by decide +kernel
theorem dX12_post_327 : decode cX12_post 327 = .ok (.aload_n 0, 1) := by decide +kernel
theorem dX12_post_328 : decode cX12_post 328 = .ok (.getfield 153, 3) := by decide +kernel
theorem dX12_post_331 : decode cX12_post 331 = .ok (.iload 7, 2) := by decide +kernel
theorem dX12_post_333 : decode cX12_post 333 = .ok (.iaload, 1) := by decide +kernel
theorem dX12_post_334 : decode cX12_post 334 = .ok (.iconst (-1), 1) := by decide +kernel
theorem dX12_post_335 : decode cX12_post 335 = .ok (.if_icmp .ne 7, 3) := by decide +kernel
theorem dX12_post_338 : decode cX12_post 338 = .ok (.iconst 0, 1) := by decide +kernel
theorem dX12_post_339 : decode cX12_post 339 = .ok (.goto 16, 3) := by decide +kernel
theorem dX12_post_342 : decode cX12_post 342 = .ok (.aload_n 0, 1) := by decide +kernel
theorem dX12_post_343 : decode cX12_post 343 = .ok (.iload 7, 2) := by decide +kernel
theorem dX12_post_345 : decode cX12_post 345 = .ok (.aload_n 0, 1) := by decide +kernel
theorem dX12_post_346 : decode cX12_post 346 = .ok (.getfield 153, 3) := by decide +kernel
theorem dX12_post_349 : decode cX12_post 349 = .ok (.iload 7, 2) := by decide +kernel
theorem dX12_post_351 : decode cX12_post 351 = .ok (.iaload, 1) := by decide +kernel
theorem dX12_post_352 : decode cX12_post 352 = .ok (.invokevirtual 553, 3) := by decide +kernel
theorem dX12_post_355 : decode cX12_post 355 = .ok (.iastore, 1) := by decide +kernel
theorem dX12_post_356 : decode cX12_post 356 = .ok (.aload_n 0, 1) := by decide +kernel
theorem dX12_post_357 : decode cX12_post 357 = .ok (.getfield 159, 3) := by decide +kernel
theorem dX12_post_360 : decode cX12_post 360 = .ok (.iload 7, 2) := by decide +kernel
theorem dX12_post_362 : decode cX12_post 362 = .ok (.aload_n 0, 1) := by decide +kernel
theorem dX12_post_363 : decode cX12_post 363 = .ok (.getfield 153, 3) := by decide +kernel
theorem dX12_post_366 : decode cX12_post 366 = .ok (.iload 7, 2) := by decide +kernel
theorem dX12_post_368 : decode cX12_post 368 = .ok (.iaload, 1) := by decide +kernel
theorem dX12_post_369 : decode cX12_post 369 = .ok (.iconst (-1), 1) := by decide +kernel
theorem dX12_post_370 : decode cX12_post 370 = .ok (.if_icmp .ne 7, 3) := by decide +kernel
theorem dX12_post_373 : decode cX12_post 373 = .ok (.iconst (-1), 1) := by decide +kernel
theorem dX12_post_374 : decode cX12_post 374 = .ok (.goto 16, 3) := by decide +kernel
theorem dX12_post_377 : decode cX12_post 377 = .ok (.aload_n 0, 1) := by decide +kernel
theorem dX12_post_378 : decode cX12_post 378 = .ok (.iload 7, 2) := by decide +kernel
theorem dX12_post_380 : decode cX12_post 380 = .ok (.aload_n 0, 1) := by decide +kernel
theorem dX12_post_381 : decode cX12_post 381 = .ok (.getfield 153, 3) := by decide +kernel
theorem dX12_post_384 : decode cX12_post 384 = .ok (.iload 7, 2) := by decide +kernel
theorem dX12_post_386 : decode cX12_post 386 = .ok (.iaload, 1) := by decide +kernel
theorem dX12_post_387 : decode cX12_post 387 = .ok (.invokevirtual 546, 3) := by decide +kernel
theorem dX12_post_390 : decode cX12_post 390 = .ok (.iastore, 1) := by decide +kernel
theorem dX12_post_391 : decode cX12_post 391 = .ok (.aload_n 0, 1) := by decide +kernel
theorem dX12_post_392 : decode cX12_post 392 = .ok (.getfield 183, 3) := by decide +kernel
theorem dX12_post_395 : decode cX12_post 395 = .ok (.iload 7, 2) := by decide +kernel
theorem dX12_post_397 : decode cX12_post 397 = .ok (.iconst (-1), 1) := by decide +kernel
theorem dX12_post_398 : decode cX12_post 398 = .ok (.iastore, 1) := by decide +kernel
theorem dX12_post_399 : decode cX12_post 399 = .ok (.aload_n 0, 1) := by decide +kernel
theorem dX12_post_400 : decode cX12_post 400 = .ok (.iload 7, 2) := by decide +kernel
theorem dX12_post_402 : decode cX12_post 402 = .ok (.aload_n 0, 1) := by decide +kernel
theorem dX12_post_403 : decode cX12_post 403 = .ok (.getfield 313, 3) := by decide +kernel
theorem dX12_post_406 : decode cX12_post 406 = .ok (.iconst 0, 1) := by decide +kernel
theorem dX12_post_407 : decode cX12_post 407 = .ok (.iload_n 2, 1) := by decide +kernel
theorem dX12_post_408 : decode cX12_post 408 = .ok (.invokevirtual 556, 3) := by decide +kernel
theorem dX12_post_411 : decode cX12_post 411 = .ok (.iload 7, 2) := by decide +kernel
theorem dX12_post_413 : decode cX12_post 413 = .ok (.ireturn, 1) := by decide +kernel
theorem bX12_post_0 {d : Nat} {h0 hE h : ea_H} {rv : Option ea_V} {r0 : Option Nat} {x1 : Int32} {x2 : Int32} {x3 : Int32} {x4 : Int32} {x5 : Int32} {x6 : Int32} (H : ∃ (d1 : Nat) (xc5 : Int32) (h2 : ea_H), ea_Met mX12_isIn d1 [vI x1, vI 0, vI 4] h (some (vI xc5)) h2 ∧ d1 + 1 ≤ d ∧ (xc5 = (0 : Int32) → rv = some (vI (-1)) ∧ hE = h2) ∧ (¬ xc5 = (0 : Int32) → ∃ a12, r0 = some a12 ∧ a12 < ea_n h2 ∧ ea_c h2 a12 = 12 ∧ ∃ (d6 : Nat) (xc14 : Int32) (h7 : ea_H), ea_Met mX12_isTown d6 [vR (some a12), vI x2] h2 (some (vI xc14)) h7 ∧ d6 + 1 ≤ d ∧ (xc14 = (0 : Int32) → rv = some (vI (-1)) ∧ hE = h7) ∧ (¬ xc14 = (0 : Int32) → a12 < ea_n h7 ∧ ea_c h7 a12 = 12 ∧ ∃ (d15 : Nat) (xc21 : Int32) (h16 : ea_H), ea_Met mX12_isTown d15 [vR (some a12), vI x3] h7 (some (vI xc21)) h16 ∧ d15 + 1 ≤ d ∧ (xc21 = (0 : Int32) → rv = some (vI (-1)) ∧ hE = h16) ∧ (¬ xc21 = (0 : Int32) → (x2 = x3 → rv = some (vI (-1)) ∧ hE = h16) ∧ (¬ x2 = x3 → ∃ (d22 : Nat) (xc26 : Int32) (h23 : ea_H), ea_Met mX12_isIn d22 [vI x4, vI 1, vI 9] h16 (some (vI xc26)) h23 ∧ d22 + 1 ≤ d ∧ (xc26 = (0 : Int32) → rv = some (vI (-1)) ∧ hE = h23) ∧ (¬ xc26 = (0 : Int32) → ∃ (d27 : Nat) (xc31 : Int32) (h28 : ea_H), ea_Met mX12_isIn d27 [vI x5, vI 0, vI 99] h23 (some (vI xc31)) h28 ∧ d27 + 1 ≤ d ∧ (xc31 = (0 : Int32) → rv = some (vI (-1)) ∧ hE = h28) ∧ (¬ xc31 = (0 : Int32) → ∃ (d32 : Nat) (xc36 : Int32) (h33 : ea_H), ea_Met mX12_isIn d32 [vI x6, vI 0, vI 9] h28 (some (vI xc36)) h33 ∧ d32 + 1 ≤ d ∧ (xc36 = (0 : Int32) → rv = some (vI (-1)) ∧ hE = h33) ∧ (¬ xc36 = (0 : Int32) → a12 < ea_n h33 ∧ ea_c h33 a12 = 12 ∧ (¬ (ea_i h33 a12 63) = (120 : Int32) → a12 < ea_n h33 ∧ ea_c h33 a12 = 12 ∧ a12 < ea_n h33 ∧ ea_c h33 a12 = 12 ∧ a12 < ea_n h33 ∧ ea_c h33 a12 = 12 ∧ ∀ h45, h45 = ea_wi h33 a12 63 ((ea_i h33 a12 63) + (1 : Int32)) → a12 < ea_n h45 ∧ ea_c h45 a12 = 12 ∧ ∃ a51, (ea_r h45 a12 64) = some a51 ∧ a51 < ea_n h45 ∧ ea_c h45 a51 = 20 ∧ vp_in (ea_i h33 a12 63) (ea_l h45 a51) ∧ ∀ h54, h54 = ea_wi h45 a51 (Int32.toNatClampNeg (ea_i h33 a12 63)) x1 → a12 < ea_n h54 ∧ ea_c h54 a12 = 12 ∧ ∃ a60, (ea_r h54 a12 65) = some a60 ∧ a60 < ea_n h54 ∧ ea_c h54 a60 = 20 ∧ vp_in (ea_i h33 a12 63) (ea_l h54 a60) ∧ ∀ h63, h63 = ea_wi h54 a60 (Int32.toNatClampNeg (ea_i h33 a12 63)) x2 → a12 < ea_n h63 ∧ ea_c h63 a12 = 12 ∧ ∃ a69, (ea_r h63 a12 66) = some a69 ∧ a69 < ea_n h63 ∧ ea_c h63 a69 = 20 ∧ vp_in (ea_i h33 a12 63) (ea_l h63 a69) ∧ ∀ h72, h72 = ea_wi h63 a69 (Int32.toNatClampNeg (ea_i h33 a12 63)) x3 → a12 < ea_n h72 ∧ ea_c h72 a12 = 12 ∧ ∃ a78, (ea_r h72 a12 67) = some a78 ∧ a78 < ea_n h72 ∧ ea_c h72 a78 = 20 ∧ vp_in (ea_i h33 a12 63) (ea_l h72 a78) ∧ ∀ h81, h81 = ea_wi h72 a78 (Int32.toNatClampNeg (ea_i h33 a12 63)) x4 → a12 < ea_n h81 ∧ ea_c h81 a12 = 12 ∧ ∃ a87, (ea_r h81 a12 68) = some a87 ∧ a87 < ea_n h81 ∧ ea_c h81 a87 = 20 ∧ vp_in (ea_i h33 a12 63) (ea_l h81 a87) ∧ ∀ h90, h90 = ea_wi h81 a87 (Int32.toNatClampNeg (ea_i h33 a12 63)) x5 → a12 < ea_n h90 ∧ ea_c h90 a12 = 12 ∧ ∃ a96, (ea_r h90 a12 69) = some a96 ∧ a96 < ea_n h90 ∧ ea_c h90 a96 = 20 ∧ vp_in (ea_i h33 a12 63) (ea_l h90 a96) ∧ ∀ h99, h99 = ea_wi h90 a96 (Int32.toNatClampNeg (ea_i h33 a12 63)) x6 → a12 < ea_n h99 ∧ ea_c h99 a12 = 12 ∧ a12 < ea_n h99 ∧ ea_c h99 a12 = 12 ∧ ∃ a107, (ea_r h99 a12 70) = some a107 ∧ a107 < ea_n h99 ∧ ea_c h99 a107 = 20 ∧ vp_in (ea_i h33 a12 63) (ea_l h99 a107) ∧ ∀ h110, h110 = ea_wi h99 a107 (Int32.toNatClampNeg (ea_i h33 a12 63)) (ea_i h99 a12 0) → a12 < ea_n h110 ∧ ea_c h110 a12 = 12 ∧ a12 < ea_n h110 ∧ ea_c h110 a12 = 12 ∧ ∃ (d114 : Nat) (xc120 : Int32) (h115 : ea_H), ea_Met mX12_milesOf d114 [vR (some a12), vI x2, vI x3, vI 0] h110 (some (vI xc120)) h115 ∧ d114 + 1 ≤ d ∧ ∃ a123, (ea_r h110 a12 71) = some a123 ∧ a123 < ea_n h115 ∧ ea_c h115 a123 = 20 ∧ vp_in (ea_i h33 a12 63) (ea_l h115 a123) ∧ ∀ h126, h126 = ea_wi h115 a123 (Int32.toNatClampNeg (ea_i h33 a12 63)) xc120 → a12 < ea_n h126 ∧ ea_c h126 a12 = 12 ∧ a12 < ea_n h126 ∧ ea_c h126 a12 = 12 ∧ ∃ (d130 : Nat) (xc136 : Int32) (h131 : ea_H), ea_Met mX12_isCross d130 [vR (some a12), vI x2, vI x3] h126 (some (vI xc136)) h131 ∧ d130 + 1 ≤ d ∧ ∃ a139, (ea_r h126 a12 78) = some a139 ∧ a139 < ea_n h131 ∧ ea_c h131 a139 = 21 ∧ vp_in (ea_i h33 a12 63) (ea_l h131 a139) ∧ (xc136 = 0 ∨ xc136 = 1) ∧ ∀ h142, h142 = ea_wi h131 a139 (Int32.toNatClampNeg (ea_i h33 a12 63)) xc136 → a12 < ea_n h142 ∧ ea_c h142 a12 = 12 ∧ ∃ a149, (ea_r h142 a12 72) = some a149 ∧ a149 < ea_n h142 ∧ ea_c h142 a149 = 20 ∧ vp_in (ea_i h33 a12 63) (ea_l h142 a149) ∧ ∀ h152, h152 = ea_wi h142 a149 (Int32.toNatClampNeg (ea_i h33 a12 63)) 0 → ea_W mX12_post d h0 rv hE 190 [(0, vR r0), (2, vI x2), (6, vI x6), (7, vI (ea_i h33 a12 63)), (8, vI 0)] [] h152) ∧ ((ea_i h33 a12 63) = (120 : Int32) → rv = some (vI (-1)) ∧ hE = h33))))))))) : ea_W mX12_post d h0 rv hE 0 [(0, vR r0), (1, vI x1), (2, vI x2), (3, vI x3), (4, vI x4), (5, vI x5), (6, vI x6)] [] h := by
  refine ea_iload_n (pc := 0) dX12_post_0 rfl 1 rfl ?_
  refine ea_iconst (pc := 1) dX12_post_1 (v := 0) rfl ?_
  refine ea_iconst (pc := 2) dX12_post_2 (v := 4) rfl ?_
  obtain ⟨d1, xc5, h2, m3, q4, H⟩ := H
  refine ea_callS (pc := 3) (As := [vI x1, vI 0, vI 4]) (st := []) dX12_post_3 kX12_isIn m3 q4 rfl (Nat.le_of_ble_eq_true rfl) ew_1712 ew_1713 ?_
  refine ea_if_eq (pc := 6) (tgt := 72) dX12_post_6 rfl (fun c161 => ?_) (fun c161 => ?_)
  · have H := H.1 c161
    refine ea_iconst (pc := 72) dX12_post_72 (v := (-1)) rfl ?_
    obtain ⟨rfl, rfl⟩ := H
    exact ea_ireturn (pc := 73) dX12_post_73 rfl rfl
  · have H := H.2 c161
    refine ea_aload_n (pc := 9) dX12_post_9 rfl 0 rfl ?_
    refine ea_iload_n (pc := 10) dX12_post_10 rfl 2 rfl ?_
    obtain ⟨a12, e13, f10, g11, H⟩ := H
    refine ea_deref1 e13 ?_
    obtain ⟨d6, xc14, h7, m8, q9, H⟩ := H
    refine ea_callV (pc := 11) (As := [vI x2]) (st := []) dX12_post_11 kX12_isTown m8 q9 rfl (Nat.le_of_ble_eq_true rfl) ew_1708 ew_1710 ew_47 (ci := 12) rfl (by decide) f10 g11 ?_
    refine ea_if_eq (pc := 14) (tgt := 72) dX12_post_14 rfl (fun c160 => ?_) (fun c160 => ?_)
    · have H := H.1 c160
      refine ea_iconst (pc := 72) dX12_post_72 (v := (-1)) rfl ?_
      obtain ⟨rfl, rfl⟩ := H
      exact ea_ireturn (pc := 73) dX12_post_73 rfl rfl
    · have H := H.2 c160
      refine ea_aload_n (pc := 17) dX12_post_17 rfl 0 rfl ?_
      refine ea_iload_n (pc := 18) dX12_post_18 rfl 3 rfl ?_
      obtain ⟨f19, g20, H⟩ := H
      refine ea_deref1 e13 ?_
      obtain ⟨d15, xc21, h16, m17, q18, H⟩ := H
      refine ea_callV (pc := 19) (As := [vI x3]) (st := []) dX12_post_19 kX12_isTown m17 q18 rfl (Nat.le_of_ble_eq_true rfl) ew_1708 ew_1710 ew_47 (ci := 12) rfl (by decide) f19 g20 ?_
      refine ea_if_eq (pc := 22) (tgt := 72) dX12_post_22 rfl (fun c159 => ?_) (fun c159 => ?_)
      · have H := H.1 c159
        refine ea_iconst (pc := 72) dX12_post_72 (v := (-1)) rfl ?_
        obtain ⟨rfl, rfl⟩ := H
        exact ea_ireturn (pc := 73) dX12_post_73 rfl rfl
      · have H := H.2 c159
        refine ea_iload_n (pc := 25) dX12_post_25 rfl 2 rfl ?_
        refine ea_iload_n (pc := 26) dX12_post_26 rfl 3 rfl ?_
        refine ea_icmp_eq (pc := 27) (tgt := 72) dX12_post_27 rfl (fun c158 => ?_) (fun c158 => ?_)
        · have H := H.1 c158
          refine ea_iconst (pc := 72) dX12_post_72 (v := (-1)) rfl ?_
          obtain ⟨rfl, rfl⟩ := H
          exact ea_ireturn (pc := 73) dX12_post_73 rfl rfl
        · have H := H.2 c158
          refine ea_iload (pc := 30) dX12_post_30 4 rfl ?_
          refine ea_iconst (pc := 32) dX12_post_32 (v := 1) rfl ?_
          refine ea_bipush (pc := 33) dX12_post_33 (v := 9) rfl ?_
          obtain ⟨d22, xc26, h23, m24, q25, H⟩ := H
          refine ea_callS (pc := 35) (As := [vI x4, vI 1, vI 9]) (st := []) dX12_post_35 kX12_isIn m24 q25 rfl (Nat.le_of_ble_eq_true rfl) ew_1712 ew_1713 ?_
          refine ea_if_eq (pc := 38) (tgt := 72) dX12_post_38 rfl (fun c157 => ?_) (fun c157 => ?_)
          · have H := H.1 c157
            refine ea_iconst (pc := 72) dX12_post_72 (v := (-1)) rfl ?_
            obtain ⟨rfl, rfl⟩ := H
            exact ea_ireturn (pc := 73) dX12_post_73 rfl rfl
          · have H := H.2 c157
            refine ea_iload (pc := 41) dX12_post_41 5 rfl ?_
            refine ea_iconst (pc := 43) dX12_post_43 (v := 0) rfl ?_
            refine ea_bipush (pc := 44) dX12_post_44 (v := 99) rfl ?_
            obtain ⟨d27, xc31, h28, m29, q30, H⟩ := H
            refine ea_callS (pc := 46) (As := [vI x5, vI 0, vI 99]) (st := []) dX12_post_46 kX12_isIn m29 q30 rfl (Nat.le_of_ble_eq_true rfl) ew_1712 ew_1713 ?_
            refine ea_if_eq (pc := 49) (tgt := 72) dX12_post_49 rfl (fun c156 => ?_) (fun c156 => ?_)
            · have H := H.1 c156
              refine ea_iconst (pc := 72) dX12_post_72 (v := (-1)) rfl ?_
              obtain ⟨rfl, rfl⟩ := H
              exact ea_ireturn (pc := 73) dX12_post_73 rfl rfl
            · have H := H.2 c156
              refine ea_iload (pc := 52) dX12_post_52 6 rfl ?_
              refine ea_iconst (pc := 54) dX12_post_54 (v := 0) rfl ?_
              refine ea_bipush (pc := 55) dX12_post_55 (v := 9) rfl ?_
              obtain ⟨d32, xc36, h33, m34, q35, H⟩ := H
              refine ea_callS (pc := 57) (As := [vI x6, vI 0, vI 9]) (st := []) dX12_post_57 kX12_isIn m34 q35 rfl (Nat.le_of_ble_eq_true rfl) ew_1712 ew_1713 ?_
              refine ea_if_eq (pc := 60) (tgt := 72) dX12_post_60 rfl (fun c155 => ?_) (fun c155 => ?_)
              · have H := H.1 c155
                refine ea_iconst (pc := 72) dX12_post_72 (v := (-1)) rfl ?_
                obtain ⟨rfl, rfl⟩ := H
                exact ea_ireturn (pc := 73) dX12_post_73 rfl rfl
              · have H := H.2 c155
                refine ea_aload_n (pc := 63) dX12_post_63 rfl 0 rfl ?_
                obtain ⟨f37, g38, H⟩ := H
                refine ea_deref0 e13 ?_
                refine ea_getI (pc := 64) dX12_post_64 ec_12 (k := 63) (Nat.le_of_ble_eq_true rfl) rfl (Or.inl ew_1408) f37 g38 ?_
                refine ea_bipush (pc := 67) dX12_post_67 (v := 120) rfl ?_
                refine ea_icmp_ne (pc := 69) (tgt := 74) dX12_post_69 rfl (fun c154 => ?_) (fun c154 => ?_)
                · have H := H.1 c154
                  refine ea_aload_n (pc := 74) dX12_post_74 rfl 0 rfl ?_
                  obtain ⟨f39, g40, H⟩ := H
                  refine ea_deref0 e13 ?_
                  refine ea_getI (pc := 75) dX12_post_75 ec_12 (k := 63) (Nat.le_of_ble_eq_true rfl) rfl (Or.inl ew_1408) f39 g40 ?_
                  refine ea_istore (pc := 78) (lv' := [(0, vR r0), (1, vI x1), (2, vI x2), (3, vI x3), (4, vI x4), (5, vI x5), (6, vI x6), (7, vI (ea_i h33 a12 63))]) dX12_post_78 (Nat.le_of_ble_eq_true rfl) [1, 2, 3, 4, 5, 6, 7, 0] rfl ?_
                  refine ea_aload_n (pc := 80) dX12_post_80 rfl 0 rfl ?_
                  refine ea_dup (pc := 81) dX12_post_81 rfl ?_
                  obtain ⟨f41, g42, H⟩ := H
                  refine ea_deref0 e13 ?_
                  refine ea_getI (pc := 82) dX12_post_82 ec_12 (k := 63) (Nat.le_of_ble_eq_true rfl) rfl (Or.inl ew_1408) f41 g42 ?_
                  refine ea_iconst (pc := 85) dX12_post_85 (v := 1) rfl ?_
                  refine ea_iadd (pc := 86) dX12_post_86 ?_
                  obtain ⟨f43, g44, H⟩ := H
                  refine ea_deref1 e13 ?_
                  refine ea_putI (pc := 87) dX12_post_87 ec_12 (k := 63) (Nat.le_of_ble_eq_true rfl) rfl (Or.inl ⟨rfl, Or.inl ew_1408⟩) rfl rfl f43 g44 ?_
                  obtain ⟨h45, E46⟩ : ∃ z, z = ea_wi h33 a12 63 ((ea_i h33 a12 63) + (1 : Int32)) := ⟨_, rfl⟩
                  have H := H h45 E46
                  refine ea_nm E46 ?_
                  refine ea_aload_n (pc := 90) dX12_post_90 rfl 0 rfl ?_
                  obtain ⟨f47, g48, H⟩ := H
                  refine ea_deref0 e13 ?_
                  refine ea_getR (pc := 91) dX12_post_91 ec_12 (k := 64) (Nat.le_of_ble_eq_true rfl) rfl (Or.inl ew_1409) f47 g48 rfl ?_
                  refine ea_iload (pc := 94) dX12_post_94 7 rfl ?_
                  refine ea_iload_n (pc := 96) dX12_post_96 rfl 1 rfl ?_
                  obtain ⟨a51, e52, f49, g50, H⟩ := H
                  refine ea_deref2 e52 ?_
                  obtain ⟨z53, H⟩ := H
                  refine ea_iast (pc := 97) dX12_post_97 f49 g50 z53 ?_
                  obtain ⟨h54, E55⟩ : ∃ z, z = ea_wi h45 a51 (Int32.toNatClampNeg (ea_i h33 a12 63)) x1 := ⟨_, rfl⟩
                  have H := H h54 E55
                  refine ea_nm E55 ?_
                  refine ea_aload_n (pc := 98) dX12_post_98 rfl 0 rfl ?_
                  obtain ⟨f56, g57, H⟩ := H
                  refine ea_deref0 e13 ?_
                  refine ea_getR (pc := 99) dX12_post_99 ec_12 (k := 65) (Nat.le_of_ble_eq_true rfl) rfl (Or.inl ew_1410) f56 g57 rfl ?_
                  refine ea_iload (pc := 102) dX12_post_102 7 rfl ?_
                  refine ea_iload_n (pc := 104) dX12_post_104 rfl 2 rfl ?_
                  obtain ⟨a60, e61, f58, g59, H⟩ := H
                  refine ea_deref2 e61 ?_
                  obtain ⟨z62, H⟩ := H
                  refine ea_iast (pc := 105) dX12_post_105 f58 g59 z62 ?_
                  obtain ⟨h63, E64⟩ : ∃ z, z = ea_wi h54 a60 (Int32.toNatClampNeg (ea_i h33 a12 63)) x2 := ⟨_, rfl⟩
                  have H := H h63 E64
                  refine ea_nm E64 ?_
                  refine ea_aload_n (pc := 106) dX12_post_106 rfl 0 rfl ?_
                  obtain ⟨f65, g66, H⟩ := H
                  refine ea_deref0 e13 ?_
                  refine ea_getR (pc := 107) dX12_post_107 ec_12 (k := 66) (Nat.le_of_ble_eq_true rfl) rfl (Or.inl ew_1411) f65 g66 rfl ?_
                  refine ea_iload (pc := 110) dX12_post_110 7 rfl ?_
                  refine ea_iload_n (pc := 112) dX12_post_112 rfl 3 rfl ?_
                  obtain ⟨a69, e70, f67, g68, H⟩ := H
                  refine ea_deref2 e70 ?_
                  obtain ⟨z71, H⟩ := H
                  refine ea_iast (pc := 113) dX12_post_113 f67 g68 z71 ?_
                  obtain ⟨h72, E73⟩ : ∃ z, z = ea_wi h63 a69 (Int32.toNatClampNeg (ea_i h33 a12 63)) x3 := ⟨_, rfl⟩
                  have H := H h72 E73
                  refine ea_nm E73 ?_
                  refine ea_aload_n (pc := 114) dX12_post_114 rfl 0 rfl ?_
                  obtain ⟨f74, g75, H⟩ := H
                  refine ea_deref0 e13 ?_
                  refine ea_getR (pc := 115) dX12_post_115 ec_12 (k := 67) (Nat.le_of_ble_eq_true rfl) rfl (Or.inl ew_1412) f74 g75 rfl ?_
                  refine ea_iload (pc := 118) dX12_post_118 7 rfl ?_
                  refine ea_iload (pc := 120) dX12_post_120 4 rfl ?_
                  obtain ⟨a78, e79, f76, g77, H⟩ := H
                  refine ea_deref2 e79 ?_
                  obtain ⟨z80, H⟩ := H
                  refine ea_iast (pc := 122) dX12_post_122 f76 g77 z80 ?_
                  obtain ⟨h81, E82⟩ : ∃ z, z = ea_wi h72 a78 (Int32.toNatClampNeg (ea_i h33 a12 63)) x4 := ⟨_, rfl⟩
                  have H := H h81 E82
                  refine ea_nm E82 ?_
                  refine ea_aload_n (pc := 123) dX12_post_123 rfl 0 rfl ?_
                  obtain ⟨f83, g84, H⟩ := H
                  refine ea_deref0 e13 ?_
                  refine ea_getR (pc := 124) dX12_post_124 ec_12 (k := 68) (Nat.le_of_ble_eq_true rfl) rfl (Or.inl ew_1413) f83 g84 rfl ?_
                  refine ea_iload (pc := 127) dX12_post_127 7 rfl ?_
                  refine ea_iload (pc := 129) dX12_post_129 5 rfl ?_
                  obtain ⟨a87, e88, f85, g86, H⟩ := H
                  refine ea_deref2 e88 ?_
                  obtain ⟨z89, H⟩ := H
                  refine ea_iast (pc := 131) dX12_post_131 f85 g86 z89 ?_
                  obtain ⟨h90, E91⟩ : ∃ z, z = ea_wi h81 a87 (Int32.toNatClampNeg (ea_i h33 a12 63)) x5 := ⟨_, rfl⟩
                  have H := H h90 E91
                  refine ea_nm E91 ?_
                  refine ea_aload_n (pc := 132) dX12_post_132 rfl 0 rfl ?_
                  obtain ⟨f92, g93, H⟩ := H
                  refine ea_deref0 e13 ?_
                  refine ea_getR (pc := 133) dX12_post_133 ec_12 (k := 69) (Nat.le_of_ble_eq_true rfl) rfl (Or.inl ew_1414) f92 g93 rfl ?_
                  refine ea_iload (pc := 136) dX12_post_136 7 rfl ?_
                  refine ea_iload (pc := 138) dX12_post_138 6 rfl ?_
                  obtain ⟨a96, e97, f94, g95, H⟩ := H
                  refine ea_deref2 e97 ?_
                  obtain ⟨z98, H⟩ := H
                  refine ea_iast (pc := 140) dX12_post_140 f94 g95 z98 ?_
                  obtain ⟨h99, E100⟩ : ∃ z, z = ea_wi h90 a96 (Int32.toNatClampNeg (ea_i h33 a12 63)) x6 := ⟨_, rfl⟩
                  have H := H h99 E100
                  refine ea_nm E100 ?_
                  refine ea_aload_n (pc := 141) dX12_post_141 rfl 0 rfl ?_
                  obtain ⟨f101, g102, H⟩ := H
                  refine ea_deref0 e13 ?_
                  refine ea_getR (pc := 142) dX12_post_142 ec_12 (k := 70) (Nat.le_of_ble_eq_true rfl) rfl (Or.inl ew_1415) f101 g102 rfl ?_
                  refine ea_iload (pc := 145) dX12_post_145 7 rfl ?_
                  refine ea_aload_n (pc := 147) dX12_post_147 rfl 0 rfl ?_
                  obtain ⟨f103, g104, H⟩ := H
                  refine ea_deref0 e13 ?_
                  refine ea_getI (pc := 148) dX12_post_148 ec_12 (k := 0) (Nat.le_of_ble_eq_true rfl) rfl (Or.inl ew_1345) f103 g104 ?_
                  obtain ⟨a107, e108, f105, g106, H⟩ := H
                  refine ea_deref2 e108 ?_
                  obtain ⟨z109, H⟩ := H
                  refine ea_iast (pc := 151) dX12_post_151 f105 g106 z109 ?_
                  obtain ⟨h110, E111⟩ : ∃ z, z = ea_wi h99 a107 (Int32.toNatClampNeg (ea_i h33 a12 63)) (ea_i h99 a12 0) := ⟨_, rfl⟩
                  have H := H h110 E111
                  refine ea_nm E111 ?_
                  refine ea_aload_n (pc := 152) dX12_post_152 rfl 0 rfl ?_
                  obtain ⟨f112, g113, H⟩ := H
                  refine ea_deref0 e13 ?_
                  refine ea_getR (pc := 153) dX12_post_153 ec_12 (k := 71) (Nat.le_of_ble_eq_true rfl) rfl (Or.inl ew_1416) f112 g113 rfl ?_
                  refine ea_iload (pc := 156) dX12_post_156 7 rfl ?_
                  refine ea_aload_n (pc := 158) dX12_post_158 rfl 0 rfl ?_
                  refine ea_iload_n (pc := 159) dX12_post_159 rfl 2 rfl ?_
                  refine ea_iload_n (pc := 160) dX12_post_160 rfl 3 rfl ?_
                  refine ea_iconst (pc := 161) dX12_post_161 (v := 0) rfl ?_
                  obtain ⟨f118, g119, H⟩ := H
                  refine ea_deref3 e13 ?_
                  obtain ⟨d114, xc120, h115, m116, q117, H⟩ := H
                  refine ea_callV (pc := 162) (As := [vI x2, vI x3, vI 0]) (st := [vI (ea_i h33 a12 63), vR (ea_r h110 a12 71)]) dX12_post_162 kX12_milesOf m116 q117 rfl (Nat.le_of_ble_eq_true rfl) ew_1719 ew_1721 ew_48 (ci := 12) rfl (by decide) f118 g119 ?_
                  obtain ⟨a123, e124, f121, g122, H⟩ := H
                  refine ea_deref2 e124 ?_
                  obtain ⟨z125, H⟩ := H
                  refine ea_iast (pc := 165) dX12_post_165 f121 g122 z125 ?_
                  obtain ⟨h126, E127⟩ : ∃ z, z = ea_wi h115 a123 (Int32.toNatClampNeg (ea_i h33 a12 63)) xc120 := ⟨_, rfl⟩
                  have H := H h126 E127
                  refine ea_nm E127 ?_
                  refine ea_aload_n (pc := 166) dX12_post_166 rfl 0 rfl ?_
                  obtain ⟨f128, g129, H⟩ := H
                  refine ea_deref0 e13 ?_
                  refine ea_getR (pc := 167) dX12_post_167 ec_12 (k := 78) (Nat.le_of_ble_eq_true rfl) rfl (Or.inl ew_1423) f128 g129 rfl ?_
                  refine ea_iload (pc := 170) dX12_post_170 7 rfl ?_
                  refine ea_aload_n (pc := 172) dX12_post_172 rfl 0 rfl ?_
                  refine ea_iload_n (pc := 173) dX12_post_173 rfl 2 rfl ?_
                  refine ea_iload_n (pc := 174) dX12_post_174 rfl 3 rfl ?_
                  obtain ⟨f134, g135, H⟩ := H
                  refine ea_deref2 e13 ?_
                  obtain ⟨d130, xc136, h131, m132, q133, H⟩ := H
                  refine ea_callV (pc := 175) (As := [vI x2, vI x3]) (st := [vI (ea_i h33 a12 63), vR (ea_r h126 a12 78)]) dX12_post_175 kX12_isCross m132 q133 rfl (Nat.le_of_ble_eq_true rfl) ew_1983 ew_1985 ew_82 (ci := 12) rfl (by decide) f134 g135 ?_
                  obtain ⟨a139, e140, f137, g138, H⟩ := H
                  refine ea_deref2 e140 ?_
                  obtain ⟨z141, H⟩ := H
                  obtain ⟨z144, H⟩ := H
                  refine ea_zast (pc := 178) dX12_post_178 (y := xc136) (ea_bn z144) f137 g138 z141 ?_
                  obtain ⟨h142, E143⟩ : ∃ z, z = ea_wi h131 a139 (Int32.toNatClampNeg (ea_i h33 a12 63)) xc136 := ⟨_, rfl⟩
                  have H := H h142 E143
                  refine ea_nm E143 ?_
                  refine ea_aload_n (pc := 179) dX12_post_179 rfl 0 rfl ?_
                  obtain ⟨f145, g146, H⟩ := H
                  refine ea_deref0 e13 ?_
                  refine ea_getR (pc := 180) dX12_post_180 ec_12 (k := 72) (Nat.le_of_ble_eq_true rfl) rfl (Or.inl ew_1417) f145 g146 rfl ?_
                  refine ea_iload (pc := 183) dX12_post_183 7 rfl ?_
                  refine ea_iconst (pc := 185) dX12_post_185 (v := 0) rfl ?_
                  obtain ⟨a149, e150, f147, g148, H⟩ := H
                  refine ea_deref2 e150 ?_
                  obtain ⟨z151, H⟩ := H
                  refine ea_iast (pc := 186) dX12_post_186 f147 g148 z151 ?_
                  obtain ⟨h152, E153⟩ : ∃ z, z = ea_wi h142 a149 (Int32.toNatClampNeg (ea_i h33 a12 63)) 0 := ⟨_, rfl⟩
                  have H := H h152 E153
                  refine ea_nm E153 ?_
                  refine ea_iconst (pc := 187) dX12_post_187 (v := 0) rfl ?_
                  refine ea_istore (pc := 188) (lv' := [(0, vR r0), (2, vI x2), (6, vI x6), (7, vI (ea_i h33 a12 63)), (8, vI 0)]) dX12_post_188 (Nat.le_of_ble_eq_true rfl) [1, 3, 7, 8, 0] rfl ?_
                  exact H
                · have H := H.2 c154
                  refine ea_iconst (pc := 72) dX12_post_72 (v := (-1)) rfl ?_
                  obtain ⟨rfl, rfl⟩ := H
                  exact ea_ireturn (pc := 73) dX12_post_73 rfl rfl
theorem bX12_post_190 {d : Nat} {h0 hE h : ea_H} {rv : Option ea_V} {r0 : Option Nat} {x2 : Int32} {x6 : Int32} {x7 : Int32} {x8 : Int32} (H : (x7 < x8 → ∃ a3, r0 = some a3 ∧ a3 < ea_n h ∧ ea_c h a3 = 12 ∧ a3 < ea_n h ∧ ea_c h a3 = 12 ∧ a3 < ea_n h ∧ ea_c h a3 = 12 ∧ ∃ (d7 : Nat) (xc13 : Int32) (h8 : ea_H), ea_Met mX12_actOn d7 [vR (some a3), vI ((ea_i h a3 0) / (1440 : Int32))] h (some (vI xc13)) h8 ∧ d7 + 1 ≤ d ∧ ∃ a16, (ea_r h a3 73) = some a16 ∧ a16 < ea_n h8 ∧ ea_c h8 a16 = 20 ∧ vp_in x7 (ea_l h8 a16) ∧ ∀ h19, h19 = ea_wi h8 a16 (Int32.toNatClampNeg x7) xc13 → a3 < ea_n h19 ∧ ea_c h19 a3 = 12 ∧ a3 < ea_n h19 ∧ ea_c h19 a3 = 12 ∧ ∃ a27, (ea_r h19 a3 73) = some a27 ∧ a27 < ea_n h19 ∧ ea_c h19 a27 = 20 ∧ vp_in x7 (ea_l h19 a27) ∧ ((ea_i h19 a27 (Int32.toNatClampNeg x7)) = ((-1) : Int32) → ea_W mX12_post d h0 rv hE 320 [(0, vR r0), (2, vI x2), (7, vI x7)] [vI 0, vI x7, vR (ea_r h19 a3 79)] h19) ∧ (¬ (ea_i h19 a27 (Int32.toNatClampNeg x7)) = ((-1) : Int32) → a3 < ea_n h19 ∧ ea_c h19 a3 = 12 ∧ a27 < ea_n h19 ∧ ea_c h19 a27 = 20 ∧ vp_in x7 (ea_l h19 a27) ∧ a3 < ea_n h19 ∧ ea_c h19 a3 = 12 ∧ ∃ (d35 : Nat) (xc41 : Int32) (h36 : ea_H), ea_Met mX12_isFree d35 [vR (some a3), vI x7, vI (ea_i h19 a27 (Int32.toNatClampNeg x7))] h19 (some (vI xc41)) h36 ∧ d35 + 1 ≤ d ∧ (xc41 = (0 : Int32) → ea_W mX12_post d h0 rv hE 320 [(0, vR r0), (2, vI x2), (7, vI x7)] [vI 0, vI x7, vR (ea_r h19 a3 79)] h36) ∧ (¬ xc41 = (0 : Int32) → ea_W mX12_post d h0 rv hE 320 [(0, vR r0), (2, vI x2), (7, vI x7)] [vI 1, vI x7, vR (ea_r h19 a3 79)] h36))) ∧ (¬ x7 < x8 → ∃ a46, r0 = some a46 ∧ a46 < ea_n h ∧ ea_c h a46 = 12 ∧ ∃ a50, (ea_r h a46 72) = some a50 ∧ a50 < ea_n h ∧ ea_c h a50 = 20 ∧ vp_in x7 (ea_l h a50) ∧ a46 < ea_n h ∧ ea_c h a46 = 12 ∧ ∃ a57, (ea_r h a46 64) = some a57 ∧ a57 < ea_n h ∧ ea_c h a57 = 20 ∧ vp_in x8 (ea_l h a57) ∧ (¬ (ea_i h a57 (Int32.toNatClampNeg x8)) = (2 : Int32) → a50 < ea_n h ∧ ea_c h a50 = 20 ∧ vp_in x7 (ea_l h a50) ∧ ∀ h63, h63 = ea_wi h a50 (Int32.toNatClampNeg x7) ((ea_i h a50 (Int32.toNatClampNeg x7)) + (0 : Int32)) → ea_W mX12_post d h0 rv hE 190 [(0, vR r0), (2, vI x2), (6, vI x6), (7, vI x7), (8, vI (x8 + 1))] [] h63) ∧ ((ea_i h a57 (Int32.toNatClampNeg x8)) = (2 : Int32) → a46 < ea_n h ∧ ea_c h a46 = 12 ∧ ∃ a69, (ea_r h a46 69) = some a69 ∧ a69 < ea_n h ∧ ea_c h a69 = 20 ∧ vp_in x8 (ea_l h a69) ∧ (¬ (ea_i h a69 (Int32.toNatClampNeg x8)) = x6 → a50 < ea_n h ∧ ea_c h a50 = 20 ∧ vp_in x7 (ea_l h a50) ∧ ∀ h75, h75 = ea_wi h a50 (Int32.toNatClampNeg x7) ((ea_i h a50 (Int32.toNatClampNeg x7)) + (0 : Int32)) → ea_W mX12_post d h0 rv hE 190 [(0, vR r0), (2, vI x2), (6, vI x6), (7, vI x7), (8, vI (x8 + 1))] [] h75) ∧ ((ea_i h a69 (Int32.toNatClampNeg x8)) = x6 → a46 < ea_n h ∧ ea_c h a46 = 12 ∧ ∃ a81, (ea_r h a46 70) = some a81 ∧ a81 < ea_n h ∧ ea_c h a81 = 20 ∧ vp_in x8 (ea_l h a81) ∧ a46 < ea_n h ∧ ea_c h a46 = 12 ∧ (¬ ((ea_i h a81 (Int32.toNatClampNeg x8)) / (1440 : Int32)) = ((ea_i h a46 0) / (1440 : Int32)) → a50 < ea_n h ∧ ea_c h a50 = 20 ∧ vp_in x7 (ea_l h a50) ∧ ∀ h89, h89 = ea_wi h a50 (Int32.toNatClampNeg x7) ((ea_i h a50 (Int32.toNatClampNeg x7)) + (0 : Int32)) → ea_W mX12_post d h0 rv hE 190 [(0, vR r0), (2, vI x2), (6, vI x6), (7, vI x7), (8, vI (x8 + 1))] [] h89) ∧ (((ea_i h a81 (Int32.toNatClampNeg x8)) / (1440 : Int32)) = ((ea_i h a46 0) / (1440 : Int32)) → a50 < ea_n h ∧ ea_c h a50 = 20 ∧ vp_in x7 (ea_l h a50) ∧ ∀ h94, h94 = ea_wi h a50 (Int32.toNatClampNeg x7) ((ea_i h a50 (Int32.toNatClampNeg x7)) + (1 : Int32)) → ea_W mX12_post d h0 rv hE 190 [(0, vR r0), (2, vI x2), (6, vI x6), (7, vI x7), (8, vI (x8 + 1))] [] h94))))) : ea_W mX12_post d h0 rv hE 190 [(0, vR r0), (2, vI x2), (6, vI x6), (7, vI x7), (8, vI x8)] [] h := by
  refine ea_iload (pc := 190) dX12_post_190 4 rfl ?_
  refine ea_iload (pc := 192) dX12_post_192 3 rfl ?_
  refine ea_icmp_gt (pc := 194) (tgt := 263) dX12_post_194 rfl (fun c99 => ?_) (fun c99 => ?_)
  · have H := H.1 c99
    refine ea_aload_n (pc := 263) dX12_post_263 rfl 0 rfl ?_
    obtain ⟨a3, e4, f1, g2, H⟩ := H
    refine ea_deref0 e4 ?_
    refine ea_getR (pc := 264) dX12_post_264 ec_12 (k := 73) (Nat.le_of_ble_eq_true rfl) rfl (Or.inl ew_1418) f1 g2 rfl ?_
    refine ea_iload (pc := 267) dX12_post_267 3 rfl ?_
    refine ea_aload_n (pc := 269) dX12_post_269 rfl 0 rfl ?_
    refine ea_aload_n (pc := 270) dX12_post_270 rfl 0 rfl ?_
    obtain ⟨f5, g6, H⟩ := H
    refine ea_deref0 e4 ?_
    refine ea_getI (pc := 271) dX12_post_271 ec_12 (k := 0) (Nat.le_of_ble_eq_true rfl) rfl (Or.inl ew_1345) f5 g6 ?_
    refine ea_sipush (pc := 274) dX12_post_274 (v := 1440) rfl ?_
    refine ea_idiv (pc := 277) dX12_post_277 (by decide) ?_
    obtain ⟨f11, g12, H⟩ := H
    refine ea_deref1 e4 ?_
    obtain ⟨d7, xc13, h8, m9, q10, H⟩ := H
    refine ea_callV (pc := 278) (As := [vI ((ea_i h a3 0) / (1440 : Int32))]) (st := [vI x7, vR (ea_r h a3 73)]) dX12_post_278 kX12_actOn m9 q10 rfl (Nat.le_of_ble_eq_true rfl) ew_1975 ew_1977 ew_81 (ci := 12) rfl (by decide) f11 g12 ?_
    obtain ⟨a16, e17, f14, g15, H⟩ := H
    refine ea_deref2 e17 ?_
    obtain ⟨z18, H⟩ := H
    refine ea_iast (pc := 281) dX12_post_281 f14 g15 z18 ?_
    obtain ⟨h19, E20⟩ : ∃ z, z = ea_wi h8 a16 (Int32.toNatClampNeg x7) xc13 := ⟨_, rfl⟩
    have H := H h19 E20
    refine ea_nm E20 ?_
    refine ea_aload_n (pc := 282) dX12_post_282 rfl 0 rfl ?_
    obtain ⟨f21, g22, H⟩ := H
    refine ea_deref0 e4 ?_
    refine ea_getR (pc := 283) dX12_post_283 ec_12 (k := 79) (Nat.le_of_ble_eq_true rfl) rfl (Or.inl ew_1424) f21 g22 rfl ?_
    refine ea_iload (pc := 286) dX12_post_286 3 rfl ?_
    refine ea_aload_n (pc := 288) dX12_post_288 rfl 0 rfl ?_
    obtain ⟨f23, g24, H⟩ := H
    refine ea_deref0 e4 ?_
    refine ea_getR (pc := 289) dX12_post_289 ec_12 (k := 73) (Nat.le_of_ble_eq_true rfl) rfl (Or.inl ew_1418) f23 g24 rfl ?_
    refine ea_iload (pc := 292) dX12_post_292 3 rfl ?_
    obtain ⟨a27, e28, f25, g26, H⟩ := H
    refine ea_deref1 e28 ?_
    obtain ⟨z29, H⟩ := H
    refine ea_iald (pc := 294) dX12_post_294 f25 g26 z29 ?_
    refine ea_iconst (pc := 295) dX12_post_295 (v := (-1)) rfl ?_
    refine ea_icmp_eq (pc := 296) (tgt := 319) dX12_post_296 rfl (fun c43 => ?_) (fun c43 => ?_)
    · have H := H.1 c43
      refine ea_iconst (pc := 319) dX12_post_319 (v := 0) rfl ?_
      exact ea_fewer [0, 1, 3] rfl H
    · have H := H.2 c43
      refine ea_aload_n (pc := 299) dX12_post_299 rfl 0 rfl ?_
      refine ea_iload (pc := 300) dX12_post_300 3 rfl ?_
      refine ea_aload_n (pc := 302) dX12_post_302 rfl 0 rfl ?_
      obtain ⟨f30, g31, H⟩ := H
      refine ea_deref0 e4 ?_
      refine ea_getR (pc := 303) dX12_post_303 ec_12 (k := 73) (Nat.le_of_ble_eq_true rfl) rfl (Or.inl ew_1418) f30 g31 rfl ?_
      refine ea_iload (pc := 306) dX12_post_306 3 rfl ?_
      obtain ⟨f32, g33, H⟩ := H
      refine ea_deref1 e28 ?_
      obtain ⟨z34, H⟩ := H
      refine ea_iald (pc := 308) dX12_post_308 f32 g33 z34 ?_
      obtain ⟨f39, g40, H⟩ := H
      refine ea_deref2 e4 ?_
      obtain ⟨d35, xc41, h36, m37, q38, H⟩ := H
      refine ea_callV (pc := 309) (As := [vI x7, vI (ea_i h19 a27 (Int32.toNatClampNeg x7))]) (st := [vI x7, vR (ea_r h19 a3 79)]) dX12_post_309 kX12_isFree m37 q38 rfl (Nat.le_of_ble_eq_true rfl) ew_1987 ew_1989 ew_83 (ci := 12) rfl (by decide) f39 g40 ?_
      refine ea_if_eq (pc := 312) (tgt := 319) dX12_post_312 rfl (fun c42 => ?_) (fun c42 => ?_)
      · have H := H.1 c42
        refine ea_iconst (pc := 319) dX12_post_319 (v := 0) rfl ?_
        exact ea_fewer [0, 1, 3] rfl H
      · have H := H.2 c42
        refine ea_iconst (pc := 315) dX12_post_315 (v := 1) rfl ?_
        refine ea_goto (pc := 316) (tgt := 320) dX12_post_316 rfl ?_
        exact ea_fewer [0, 1, 3] rfl H
  · have H := H.2 c99
    refine ea_aload_n (pc := 197) dX12_post_197 rfl 0 rfl ?_
    obtain ⟨a46, e47, f44, g45, H⟩ := H
    refine ea_deref0 e47 ?_
    refine ea_getR (pc := 198) dX12_post_198 ec_12 (k := 72) (Nat.le_of_ble_eq_true rfl) rfl (Or.inl ew_1417) f44 g45 rfl ?_
    refine ea_iload (pc := 201) dX12_post_201 3 rfl ?_
    refine ea_dup2 (pc := 203) dX12_post_203 rfl rfl ?_
    obtain ⟨a50, e51, f48, g49, H⟩ := H
    refine ea_deref1 e51 ?_
    obtain ⟨z52, H⟩ := H
    refine ea_iald (pc := 204) dX12_post_204 f48 g49 z52 ?_
    refine ea_aload_n (pc := 205) dX12_post_205 rfl 0 rfl ?_
    obtain ⟨f53, g54, H⟩ := H
    refine ea_deref0 e47 ?_
    refine ea_getR (pc := 206) dX12_post_206 ec_12 (k := 64) (Nat.le_of_ble_eq_true rfl) rfl (Or.inl ew_1409) f53 g54 rfl ?_
    refine ea_iload (pc := 209) dX12_post_209 4 rfl ?_
    obtain ⟨a57, e58, f55, g56, H⟩ := H
    refine ea_deref1 e58 ?_
    obtain ⟨z59, H⟩ := H
    refine ea_iald (pc := 211) dX12_post_211 f55 g56 z59 ?_
    refine ea_iconst (pc := 212) dX12_post_212 (v := 2) rfl ?_
    refine ea_icmp_ne (pc := 213) (tgt := 254) dX12_post_213 rfl (fun c98 => ?_) (fun c98 => ?_)
    · have H := H.1 c98
      refine ea_iconst (pc := 254) dX12_post_254 (v := 0) rfl ?_
      refine ea_iadd (pc := 255) dX12_post_255 ?_
      obtain ⟨f60, g61, H⟩ := H
      refine ea_deref2 e51 ?_
      obtain ⟨z62, H⟩ := H
      refine ea_iast (pc := 256) dX12_post_256 f60 g61 z62 ?_
      obtain ⟨h63, E64⟩ : ∃ z, z = ea_wi h a50 (Int32.toNatClampNeg x7) ((ea_i h a50 (Int32.toNatClampNeg x7)) + (0 : Int32)) := ⟨_, rfl⟩
      have H := H h63 E64
      refine ea_nm E64 ?_
      refine ea_iinc (pc := 257) (v := 1) (lv' := [(0, vR r0), (2, vI x2), (6, vI x6), (7, vI x7), (8, vI (x8 + 1))]) dX12_post_257 4 rfl rfl (Nat.le_of_ble_eq_true rfl) [1, 2, 3, 4, 0] rfl ?_
      refine ea_goto (pc := 260) (tgt := 190) dX12_post_260 rfl ?_
      exact H
    · have H := H.2 c98
      refine ea_aload_n (pc := 216) dX12_post_216 rfl 0 rfl ?_
      obtain ⟨f65, g66, H⟩ := H
      refine ea_deref0 e47 ?_
      refine ea_getR (pc := 217) dX12_post_217 ec_12 (k := 69) (Nat.le_of_ble_eq_true rfl) rfl (Or.inl ew_1414) f65 g66 rfl ?_
      refine ea_iload (pc := 220) dX12_post_220 4 rfl ?_
      obtain ⟨a69, e70, f67, g68, H⟩ := H
      refine ea_deref1 e70 ?_
      obtain ⟨z71, H⟩ := H
      refine ea_iald (pc := 222) dX12_post_222 f67 g68 z71 ?_
      refine ea_iload (pc := 223) dX12_post_223 2 rfl ?_
      refine ea_icmp_ne (pc := 225) (tgt := 254) dX12_post_225 rfl (fun c97 => ?_) (fun c97 => ?_)
      · have H := H.1 c97
        refine ea_iconst (pc := 254) dX12_post_254 (v := 0) rfl ?_
        refine ea_iadd (pc := 255) dX12_post_255 ?_
        obtain ⟨f72, g73, H⟩ := H
        refine ea_deref2 e51 ?_
        obtain ⟨z74, H⟩ := H
        refine ea_iast (pc := 256) dX12_post_256 f72 g73 z74 ?_
        obtain ⟨h75, E76⟩ : ∃ z, z = ea_wi h a50 (Int32.toNatClampNeg x7) ((ea_i h a50 (Int32.toNatClampNeg x7)) + (0 : Int32)) := ⟨_, rfl⟩
        have H := H h75 E76
        refine ea_nm E76 ?_
        refine ea_iinc (pc := 257) (v := 1) (lv' := [(0, vR r0), (2, vI x2), (6, vI x6), (7, vI x7), (8, vI (x8 + 1))]) dX12_post_257 4 rfl rfl (Nat.le_of_ble_eq_true rfl) [1, 2, 3, 4, 0] rfl ?_
        refine ea_goto (pc := 260) (tgt := 190) dX12_post_260 rfl ?_
        exact H
      · have H := H.2 c97
        refine ea_aload_n (pc := 228) dX12_post_228 rfl 0 rfl ?_
        obtain ⟨f77, g78, H⟩ := H
        refine ea_deref0 e47 ?_
        refine ea_getR (pc := 229) dX12_post_229 ec_12 (k := 70) (Nat.le_of_ble_eq_true rfl) rfl (Or.inl ew_1415) f77 g78 rfl ?_
        refine ea_iload (pc := 232) dX12_post_232 4 rfl ?_
        obtain ⟨a81, e82, f79, g80, H⟩ := H
        refine ea_deref1 e82 ?_
        obtain ⟨z83, H⟩ := H
        refine ea_iald (pc := 234) dX12_post_234 f79 g80 z83 ?_
        refine ea_sipush (pc := 235) dX12_post_235 (v := 1440) rfl ?_
        refine ea_idiv (pc := 238) dX12_post_238 (by decide) ?_
        refine ea_aload_n (pc := 239) dX12_post_239 rfl 0 rfl ?_
        obtain ⟨f84, g85, H⟩ := H
        refine ea_deref0 e47 ?_
        refine ea_getI (pc := 240) dX12_post_240 ec_12 (k := 0) (Nat.le_of_ble_eq_true rfl) rfl (Or.inl ew_1345) f84 g85 ?_
        refine ea_sipush (pc := 243) dX12_post_243 (v := 1440) rfl ?_
        refine ea_idiv (pc := 246) dX12_post_246 (by decide) ?_
        refine ea_icmp_ne (pc := 247) (tgt := 254) dX12_post_247 rfl (fun c96 => ?_) (fun c96 => ?_)
        · have H := H.1 c96
          refine ea_iconst (pc := 254) dX12_post_254 (v := 0) rfl ?_
          refine ea_iadd (pc := 255) dX12_post_255 ?_
          obtain ⟨f86, g87, H⟩ := H
          refine ea_deref2 e51 ?_
          obtain ⟨z88, H⟩ := H
          refine ea_iast (pc := 256) dX12_post_256 f86 g87 z88 ?_
          obtain ⟨h89, E90⟩ : ∃ z, z = ea_wi h a50 (Int32.toNatClampNeg x7) ((ea_i h a50 (Int32.toNatClampNeg x7)) + (0 : Int32)) := ⟨_, rfl⟩
          have H := H h89 E90
          refine ea_nm E90 ?_
          refine ea_iinc (pc := 257) (v := 1) (lv' := [(0, vR r0), (2, vI x2), (6, vI x6), (7, vI x7), (8, vI (x8 + 1))]) dX12_post_257 4 rfl rfl (Nat.le_of_ble_eq_true rfl) [1, 2, 3, 4, 0] rfl ?_
          refine ea_goto (pc := 260) (tgt := 190) dX12_post_260 rfl ?_
          exact H
        · have H := H.2 c96
          refine ea_iconst (pc := 250) dX12_post_250 (v := 1) rfl ?_
          refine ea_goto (pc := 251) (tgt := 255) dX12_post_251 rfl ?_
          refine ea_iadd (pc := 255) dX12_post_255 ?_
          obtain ⟨f91, g92, H⟩ := H
          refine ea_deref2 e51 ?_
          obtain ⟨z93, H⟩ := H
          refine ea_iast (pc := 256) dX12_post_256 f91 g92 z93 ?_
          obtain ⟨h94, E95⟩ : ∃ z, z = ea_wi h a50 (Int32.toNatClampNeg x7) ((ea_i h a50 (Int32.toNatClampNeg x7)) + (1 : Int32)) := ⟨_, rfl⟩
          have H := H h94 E95
          refine ea_nm E95 ?_
          refine ea_iinc (pc := 257) (v := 1) (lv' := [(0, vR r0), (2, vI x2), (6, vI x6), (7, vI x7), (8, vI (x8 + 1))]) dX12_post_257 4 rfl rfl (Nat.le_of_ble_eq_true rfl) [1, 2, 3, 4, 0] rfl ?_
          refine ea_goto (pc := 260) (tgt := 190) dX12_post_260 rfl ?_
          exact H
theorem bX12_post_320 {d : Nat} {h0 hE h : ea_H} {rv : Option ea_V} {r0 : Option Nat} {x2 : Int32} {x7 : Int32} {sx0 : Int32} {sx1 : Int32} {sr2 : Option Nat} (H : ∃ a3, sr2 = some a3 ∧ a3 < ea_n h ∧ ea_c h a3 = 21 ∧ vp_in sx1 (ea_l h a3) ∧ (sx0 = 0 ∨ sx0 = 1) ∧ ∀ h6, h6 = ea_wi h a3 (Int32.toNatClampNeg sx1) sx0 → ∃ a11, r0 = some a11 ∧ a11 < ea_n h6 ∧ ea_c h6 a11 = 12 ∧ a11 < ea_n h6 ∧ ea_c h6 a11 = 12 ∧ ∃ a17, (ea_r h6 a11 73) = some a17 ∧ a17 < ea_n h6 ∧ ea_c h6 a17 = 20 ∧ vp_in x7 (ea_l h6 a17) ∧ (¬ (ea_i h6 a17 (Int32.toNatClampNeg x7)) = ((-1) : Int32) → a11 < ea_n h6 ∧ ea_c h6 a11 = 12 ∧ a17 < ea_n h6 ∧ ea_c h6 a17 = 20 ∧ vp_in x7 (ea_l h6 a17) ∧ a11 < ea_n h6 ∧ ea_c h6 a11 = 12 ∧ ∃ (d25 : Nat) (xc31 : Int32) (h26 : ea_H), ea_Met mX12_chargeBy d25 [vR (some a11), vI x7, vI (ea_i h6 a17 (Int32.toNatClampNeg x7))] h6 (some (vI xc31)) h26 ∧ d25 + 1 ≤ d ∧ ea_W mX12_post d h0 rv hE 355 [(0, vR r0), (2, vI x2), (7, vI x7)] [vI xc31, vI x7, vR (ea_r h6 a11 74)] h26) ∧ ((ea_i h6 a17 (Int32.toNatClampNeg x7)) = ((-1) : Int32) → ea_W mX12_post d h0 rv hE 355 [(0, vR r0), (2, vI x2), (7, vI x7)] [vI 0, vI x7, vR (ea_r h6 a11 74)] h6)) : ea_W mX12_post d h0 rv hE 320 [(0, vR r0), (2, vI x2), (7, vI x7)] [vI sx0, vI sx1, vR sr2] h := by
  obtain ⟨a3, e4, f1, g2, H⟩ := H
  refine ea_deref2 e4 ?_
  obtain ⟨z5, H⟩ := H
  obtain ⟨z8, H⟩ := H
  refine ea_zast (pc := 320) dX12_post_320 (y := sx0) (ea_bn z8) f1 g2 z5 ?_
  obtain ⟨h6, E7⟩ : ∃ z, z = ea_wi h a3 (Int32.toNatClampNeg sx1) sx0 := ⟨_, rfl⟩
  have H := H h6 E7
  refine ea_nm E7 ?_
  refine ea_aload_n (pc := 321) dX12_post_321 rfl 0 rfl ?_
  obtain ⟨a11, e12, f9, g10, H⟩ := H
  refine ea_deref0 e12 ?_
  refine ea_getR (pc := 322) dX12_post_322 ec_12 (k := 74) (Nat.le_of_ble_eq_true rfl) rfl (Or.inl ew_1419) f9 g10 rfl ?_
  refine ea_iload (pc := 325) dX12_post_325 2 rfl ?_
  refine ea_aload_n (pc := 327) dX12_post_327 rfl 0 rfl ?_
  obtain ⟨f13, g14, H⟩ := H
  refine ea_deref0 e12 ?_
  refine ea_getR (pc := 328) dX12_post_328 ec_12 (k := 73) (Nat.le_of_ble_eq_true rfl) rfl (Or.inl ew_1418) f13 g14 rfl ?_
  refine ea_iload (pc := 331) dX12_post_331 2 rfl ?_
  obtain ⟨a17, e18, f15, g16, H⟩ := H
  refine ea_deref1 e18 ?_
  obtain ⟨z19, H⟩ := H
  refine ea_iald (pc := 333) dX12_post_333 f15 g16 z19 ?_
  refine ea_iconst (pc := 334) dX12_post_334 (v := (-1)) rfl ?_
  refine ea_icmp_ne (pc := 335) (tgt := 342) dX12_post_335 rfl (fun c32 => ?_) (fun c32 => ?_)
  · have H := H.1 c32
    refine ea_aload_n (pc := 342) dX12_post_342 rfl 0 rfl ?_
    refine ea_iload (pc := 343) dX12_post_343 2 rfl ?_
    refine ea_aload_n (pc := 345) dX12_post_345 rfl 0 rfl ?_
    obtain ⟨f20, g21, H⟩ := H
    refine ea_deref0 e12 ?_
    refine ea_getR (pc := 346) dX12_post_346 ec_12 (k := 73) (Nat.le_of_ble_eq_true rfl) rfl (Or.inl ew_1418) f20 g21 rfl ?_
    refine ea_iload (pc := 349) dX12_post_349 2 rfl ?_
    obtain ⟨f22, g23, H⟩ := H
    refine ea_deref1 e18 ?_
    obtain ⟨z24, H⟩ := H
    refine ea_iald (pc := 351) dX12_post_351 f22 g23 z24 ?_
    obtain ⟨f29, g30, H⟩ := H
    refine ea_deref2 e12 ?_
    obtain ⟨d25, xc31, h26, m27, q28, H⟩ := H
    refine ea_callV (pc := 352) (As := [vI x7, vI (ea_i h6 a17 (Int32.toNatClampNeg x7))]) (st := [vI x7, vR (ea_r h6 a11 74)]) dX12_post_352 kX12_chargeBy m27 q28 rfl (Nat.le_of_ble_eq_true rfl) ew_1991 ew_1993 ew_84 (ci := 12) rfl (by decide) f29 g30 ?_
    exact H
  · have H := H.2 c32
    refine ea_iconst (pc := 338) dX12_post_338 (v := 0) rfl ?_
    refine ea_goto (pc := 339) (tgt := 355) dX12_post_339 rfl ?_
    exact H
theorem bX12_post_355 {d : Nat} {h0 hE h : ea_H} {rv : Option ea_V} {r0 : Option Nat} {x2 : Int32} {x7 : Int32} {sx0 : Int32} {sx1 : Int32} {sr2 : Option Nat} (H : ∃ a3, sr2 = some a3 ∧ a3 < ea_n h ∧ ea_c h a3 = 20 ∧ vp_in sx1 (ea_l h a3) ∧ ∀ h6, h6 = ea_wi h a3 (Int32.toNatClampNeg sx1) sx0 → ∃ a10, r0 = some a10 ∧ a10 < ea_n h6 ∧ ea_c h6 a10 = 12 ∧ a10 < ea_n h6 ∧ ea_c h6 a10 = 12 ∧ ∃ a16, (ea_r h6 a10 73) = some a16 ∧ a16 < ea_n h6 ∧ ea_c h6 a16 = 20 ∧ vp_in x7 (ea_l h6 a16) ∧ (¬ (ea_i h6 a16 (Int32.toNatClampNeg x7)) = ((-1) : Int32) → a10 < ea_n h6 ∧ ea_c h6 a10 = 12 ∧ a16 < ea_n h6 ∧ ea_c h6 a16 = 20 ∧ vp_in x7 (ea_l h6 a16) ∧ a10 < ea_n h6 ∧ ea_c h6 a10 = 12 ∧ ∃ (d24 : Nat) (xc30 : Int32) (h25 : ea_H), ea_Met mX12_lineOf d24 [vR (some a10), vI x7, vI (ea_i h6 a16 (Int32.toNatClampNeg x7))] h6 (some (vI xc30)) h25 ∧ d24 + 1 ≤ d ∧ ea_W mX12_post d h0 rv hE 390 [(0, vR r0), (2, vI x2), (7, vI x7)] [vI xc30, vI x7, vR (ea_r h6 a10 75)] h25) ∧ ((ea_i h6 a16 (Int32.toNatClampNeg x7)) = ((-1) : Int32) → ea_W mX12_post d h0 rv hE 390 [(0, vR r0), (2, vI x2), (7, vI x7)] [vI (-1), vI x7, vR (ea_r h6 a10 75)] h6)) : ea_W mX12_post d h0 rv hE 355 [(0, vR r0), (2, vI x2), (7, vI x7)] [vI sx0, vI sx1, vR sr2] h := by
  obtain ⟨a3, e4, f1, g2, H⟩ := H
  refine ea_deref2 e4 ?_
  obtain ⟨z5, H⟩ := H
  refine ea_iast (pc := 355) dX12_post_355 f1 g2 z5 ?_
  obtain ⟨h6, E7⟩ : ∃ z, z = ea_wi h a3 (Int32.toNatClampNeg sx1) sx0 := ⟨_, rfl⟩
  have H := H h6 E7
  refine ea_nm E7 ?_
  refine ea_aload_n (pc := 356) dX12_post_356 rfl 0 rfl ?_
  obtain ⟨a10, e11, f8, g9, H⟩ := H
  refine ea_deref0 e11 ?_
  refine ea_getR (pc := 357) dX12_post_357 ec_12 (k := 75) (Nat.le_of_ble_eq_true rfl) rfl (Or.inl ew_1420) f8 g9 rfl ?_
  refine ea_iload (pc := 360) dX12_post_360 2 rfl ?_
  refine ea_aload_n (pc := 362) dX12_post_362 rfl 0 rfl ?_
  obtain ⟨f12, g13, H⟩ := H
  refine ea_deref0 e11 ?_
  refine ea_getR (pc := 363) dX12_post_363 ec_12 (k := 73) (Nat.le_of_ble_eq_true rfl) rfl (Or.inl ew_1418) f12 g13 rfl ?_
  refine ea_iload (pc := 366) dX12_post_366 2 rfl ?_
  obtain ⟨a16, e17, f14, g15, H⟩ := H
  refine ea_deref1 e17 ?_
  obtain ⟨z18, H⟩ := H
  refine ea_iald (pc := 368) dX12_post_368 f14 g15 z18 ?_
  refine ea_iconst (pc := 369) dX12_post_369 (v := (-1)) rfl ?_
  refine ea_icmp_ne (pc := 370) (tgt := 377) dX12_post_370 rfl (fun c31 => ?_) (fun c31 => ?_)
  · have H := H.1 c31
    refine ea_aload_n (pc := 377) dX12_post_377 rfl 0 rfl ?_
    refine ea_iload (pc := 378) dX12_post_378 2 rfl ?_
    refine ea_aload_n (pc := 380) dX12_post_380 rfl 0 rfl ?_
    obtain ⟨f19, g20, H⟩ := H
    refine ea_deref0 e11 ?_
    refine ea_getR (pc := 381) dX12_post_381 ec_12 (k := 73) (Nat.le_of_ble_eq_true rfl) rfl (Or.inl ew_1418) f19 g20 rfl ?_
    refine ea_iload (pc := 384) dX12_post_384 2 rfl ?_
    obtain ⟨f21, g22, H⟩ := H
    refine ea_deref1 e17 ?_
    obtain ⟨z23, H⟩ := H
    refine ea_iald (pc := 386) dX12_post_386 f21 g22 z23 ?_
    obtain ⟨f28, g29, H⟩ := H
    refine ea_deref2 e11 ?_
    obtain ⟨d24, xc30, h25, m26, q27, H⟩ := H
    refine ea_callV (pc := 387) (As := [vI x7, vI (ea_i h6 a16 (Int32.toNatClampNeg x7))]) (st := [vI x7, vR (ea_r h6 a10 75)]) dX12_post_387 kX12_lineOf m26 q27 rfl (Nat.le_of_ble_eq_true rfl) ew_1995 ew_1997 ew_85 (ci := 12) rfl (by decide) f28 g29 ?_
    exact H
  · have H := H.2 c31
    refine ea_iconst (pc := 373) dX12_post_373 (v := (-1)) rfl ?_
    refine ea_goto (pc := 374) (tgt := 390) dX12_post_374 rfl ?_
    exact H
theorem bX12_post_390 {d : Nat} {h0 hE h : ea_H} {rv : Option ea_V} {r0 : Option Nat} {x2 : Int32} {x7 : Int32} {sx0 : Int32} {sx1 : Int32} {sr2 : Option Nat} (H : ∃ a3, sr2 = some a3 ∧ a3 < ea_n h ∧ ea_c h a3 = 20 ∧ vp_in sx1 (ea_l h a3) ∧ ∀ h6, h6 = ea_wi h a3 (Int32.toNatClampNeg sx1) sx0 → ∃ a10, r0 = some a10 ∧ a10 < ea_n h6 ∧ ea_c h6 a10 = 12 ∧ ∃ a14, (ea_r h6 a10 83) = some a14 ∧ a14 < ea_n h6 ∧ ea_c h6 a14 = 20 ∧ vp_in x7 (ea_l h6 a14) ∧ ∀ h17, h17 = ea_wi h6 a14 (Int32.toNatClampNeg x7) (-1) → a10 < ea_n h17 ∧ ea_c h17 a10 = 12 ∧ a10 < ea_n h17 ∧ ea_c h17 a10 = 12 ∧ ∃ (d21 : Nat) (h22 : ea_H), ea_Met mX12_turns d21 [vR (some a10), vI x7, vI (ea_i h17 a10 0), vI 0, vI x2] h17 none h22 ∧ d21 + 1 ≤ d ∧ rv = some (vI x7) ∧ hE = h22) : ea_W mX12_post d h0 rv hE 390 [(0, vR r0), (2, vI x2), (7, vI x7)] [vI sx0, vI sx1, vR sr2] h := by
  obtain ⟨a3, e4, f1, g2, H⟩ := H
  refine ea_deref2 e4 ?_
  obtain ⟨z5, H⟩ := H
  refine ea_iast (pc := 390) dX12_post_390 f1 g2 z5 ?_
  obtain ⟨h6, E7⟩ : ∃ z, z = ea_wi h a3 (Int32.toNatClampNeg sx1) sx0 := ⟨_, rfl⟩
  have H := H h6 E7
  refine ea_nm E7 ?_
  refine ea_aload_n (pc := 391) dX12_post_391 rfl 0 rfl ?_
  obtain ⟨a10, e11, f8, g9, H⟩ := H
  refine ea_deref0 e11 ?_
  refine ea_getR (pc := 392) dX12_post_392 ec_12 (k := 83) (Nat.le_of_ble_eq_true rfl) rfl (Or.inl ew_1428) f8 g9 rfl ?_
  refine ea_iload (pc := 395) dX12_post_395 2 rfl ?_
  refine ea_iconst (pc := 397) dX12_post_397 (v := (-1)) rfl ?_
  obtain ⟨a14, e15, f12, g13, H⟩ := H
  refine ea_deref2 e15 ?_
  obtain ⟨z16, H⟩ := H
  refine ea_iast (pc := 398) dX12_post_398 f12 g13 z16 ?_
  obtain ⟨h17, E18⟩ : ∃ z, z = ea_wi h6 a14 (Int32.toNatClampNeg x7) (-1) := ⟨_, rfl⟩
  have H := H h17 E18
  refine ea_nm E18 ?_
  refine ea_aload_n (pc := 399) dX12_post_399 rfl 0 rfl ?_
  refine ea_iload (pc := 400) dX12_post_400 2 rfl ?_
  refine ea_aload_n (pc := 402) dX12_post_402 rfl 0 rfl ?_
  obtain ⟨f19, g20, H⟩ := H
  refine ea_deref0 e11 ?_
  refine ea_getI (pc := 403) dX12_post_403 ec_12 (k := 0) (Nat.le_of_ble_eq_true rfl) rfl (Or.inl ew_1345) f19 g20 ?_
  refine ea_iconst (pc := 406) dX12_post_406 (v := 0) rfl ?_
  refine ea_iload_n (pc := 407) dX12_post_407 rfl 1 rfl ?_
  obtain ⟨f25, g26, H⟩ := H
  refine ea_deref4 e11 ?_
  obtain ⟨d21, h22, m23, q24, H⟩ := H
  refine ea_callV (pc := 408) (As := [vI x7, vI (ea_i h17 a10 0), vI 0, vI x2]) (st := []) dX12_post_408 kX12_turns m23 q24 rfl (Nat.le_of_ble_eq_true rfl) ew_2011 ew_2013 ew_88 (ci := 12) rfl (by decide) f25 g26 ?_
  refine ea_iload (pc := 411) dX12_post_411 2 rfl ?_
  obtain ⟨rfl, rfl⟩ := H
  exact ea_ireturn (pc := 413) dX12_post_413 rfl rfl
theorem dX12_isOwed_0 : decode cX12_isOwed 0 = .ok (.aload_n 0, 1) := by decide +kernel
theorem dX12_isOwed_1 : decode cX12_isOwed 1 = .ok (.getfield 126, 3) := by decide +kernel
theorem dX12_isOwed_4 : decode cX12_isOwed 4 = .ok (.iload_n 1, 1) := by decide +kernel
theorem dX12_isOwed_5 : decode cX12_isOwed 5 = .ok (.iaload, 1) := by decide +kernel
theorem dX12_isOwed_6 : decode cX12_isOwed 6 = .ok (.ifCond .eq 13, 3) := by decide +kernel
theorem dX12_isOwed_9 : decode cX12_isOwed 9 = .ok (.aload_n 0, 1) := by decide +kernel
theorem dX12_isOwed_10 : decode cX12_isOwed 10 = .ok (.getfield 126, 3) := by decide +kernel
theorem dX12_isOwed_13 : decode cX12_isOwed 13 = .ok (.iload_n 1, 1) := by decide +kernel
theorem dX12_isOwed_14 : decode cX12_isOwed 14 = .ok (.iaload, 1) := by decide +kernel
theorem dX12_isOwed_15 : decode cX12_isOwed 15 = .ok (.iconst 3, 1) := by decide +kernel
theorem dX12_isOwed_16 : decode cX12_isOwed 16 = .ok (.if_icmp .ne 7, 3) := by decide +kernel
theorem dX12_isOwed_19 : decode cX12_isOwed 19 = .ok (.iconst 1, 1) := by decide +kernel
theorem dX12_isOwed_20 : decode cX12_isOwed 20 = .ok (.goto 4, 3) := by decide +kernel
theorem dX12_isOwed_23 : decode cX12_isOwed 23 = .ok (.iconst 0, 1) := by decide +kernel
theorem dX12_isOwed_24 : decode cX12_isOwed 24 = .ok (.ireturn, 1) := by decide +kernel
theorem bX12_isOwed_0 {d : Nat} {h0 hE h : ea_H} {rv : Option ea_V} {r0 : Option Nat} {x1 : Int32} (H : ∃ a3, r0 = some a3 ∧ a3 < ea_n h ∧ ea_c h a3 = 12 ∧ ∃ a7, (ea_r h a3 64) = some a7 ∧ a7 < ea_n h ∧ ea_c h a7 = 20 ∧ vp_in x1 (ea_l h a7) ∧ ((ea_i h a7 (Int32.toNatClampNeg x1)) = (0 : Int32) → rv = some (vI 1) ∧ hE = h) ∧ (¬ (ea_i h a7 (Int32.toNatClampNeg x1)) = (0 : Int32) → a3 < ea_n h ∧ ea_c h a3 = 12 ∧ a7 < ea_n h ∧ ea_c h a7 = 20 ∧ vp_in x1 (ea_l h a7) ∧ (¬ (ea_i h a7 (Int32.toNatClampNeg x1)) = (3 : Int32) → rv = some (vI 0) ∧ hE = h) ∧ ((ea_i h a7 (Int32.toNatClampNeg x1)) = (3 : Int32) → rv = some (vI 1) ∧ hE = h))) : ea_W mX12_isOwed d h0 rv hE 0 [(0, vR r0), (1, vI x1)] [] h := by
  refine ea_aload_n (pc := 0) dX12_isOwed_0 rfl 0 rfl ?_
  obtain ⟨a3, e4, f1, g2, H⟩ := H
  refine ea_deref0 e4 ?_
  refine ea_getR (pc := 1) dX12_isOwed_1 ec_12 (k := 64) (Nat.le_of_ble_eq_true rfl) rfl (Or.inl ew_1409) f1 g2 rfl ?_
  refine ea_iload_n (pc := 4) dX12_isOwed_4 rfl 1 rfl ?_
  obtain ⟨a7, e8, f5, g6, H⟩ := H
  refine ea_deref1 e8 ?_
  obtain ⟨z9, H⟩ := H
  refine ea_iald (pc := 5) dX12_isOwed_5 f5 g6 z9 ?_
  refine ea_if_eq (pc := 6) (tgt := 19) dX12_isOwed_6 rfl (fun c16 => ?_) (fun c16 => ?_)
  · have H := H.1 c16
    refine ea_iconst (pc := 19) dX12_isOwed_19 (v := 1) rfl ?_
    refine ea_goto (pc := 20) (tgt := 24) dX12_isOwed_20 rfl ?_
    obtain ⟨rfl, rfl⟩ := H
    exact ea_ireturn (pc := 24) dX12_isOwed_24 rfl (ea_bn (Or.inr rfl))
  · have H := H.2 c16
    refine ea_aload_n (pc := 9) dX12_isOwed_9 rfl 0 rfl ?_
    obtain ⟨f10, g11, H⟩ := H
    refine ea_deref0 e4 ?_
    refine ea_getR (pc := 10) dX12_isOwed_10 ec_12 (k := 64) (Nat.le_of_ble_eq_true rfl) rfl (Or.inl ew_1409) f10 g11 rfl ?_
    refine ea_iload_n (pc := 13) dX12_isOwed_13 rfl 1 rfl ?_
    obtain ⟨f12, g13, H⟩ := H
    refine ea_deref1 e8 ?_
    obtain ⟨z14, H⟩ := H
    refine ea_iald (pc := 14) dX12_isOwed_14 f12 g13 z14 ?_
    refine ea_iconst (pc := 15) dX12_isOwed_15 (v := 3) rfl ?_
    refine ea_icmp_ne (pc := 16) (tgt := 23) dX12_isOwed_16 rfl (fun c15 => ?_) (fun c15 => ?_)
    · have H := H.1 c15
      refine ea_iconst (pc := 23) dX12_isOwed_23 (v := 0) rfl ?_
      obtain ⟨rfl, rfl⟩ := H
      exact ea_ireturn (pc := 24) dX12_isOwed_24 rfl (ea_bn (Or.inl rfl))
    · have H := H.2 c15
      refine ea_iconst (pc := 19) dX12_isOwed_19 (v := 1) rfl ?_
      refine ea_goto (pc := 20) (tgt := 24) dX12_isOwed_20 rfl ?_
      obtain ⟨rfl, rfl⟩ := H
      exact ea_ireturn (pc := 24) dX12_isOwed_24 rfl (ea_bn (Or.inr rfl))
theorem dX12_owed_0 : decode cX12_owed 0 = .ok (.aload_n 0, 1) := by decide +kernel
theorem dX12_owed_1 : decode cX12_owed 1 = .ok (.iload_n 1, 1) := by decide +kernel
theorem dX12_owed_2 : decode cX12_owed 2 = .ok (.invokevirtual 560, 3) := by decide +kernel
theorem dX12_owed_5 : decode cX12_owed 5 = .ok (.ifCond .eq 12, 3) := by decide +kernel
theorem dX12_owed_8 : decode cX12_owed 8 = .ok (.aload_n 0, 1) := by decide +kernel
theorem dX12_owed_9 : decode cX12_owed 9 = .ok (.getfield 156, 3) := by decide +kernel
theorem dX12_owed_12 : decode cX12_owed 12 = .ok (.iload_n 1, 1) := by decide +kernel
theorem dX12_owed_13 : decode cX12_owed 13 = .ok (.iaload, 1) := by decide +kernel
theorem dX12_owed_14 : decode cX12_owed 14 = .ok (.goto 4, 3) := by decide +kernel
theorem dX12_owed_17 : decode cX12_owed 17 = .ok (.iconst 0, 1) := by decide +kernel
theorem dX12_owed_18 : decode cX12_owed 18 = .ok (.ireturn, 1) := by decide +kernel
theorem bX12_owed_0 {d : Nat} {h0 hE h : ea_H} {rv : Option ea_V} {r0 : Option Nat} {x1 : Int32} (H : ∃ a7, r0 = some a7 ∧ a7 < ea_n h ∧ ea_c h a7 = 12 ∧ ∃ (d1 : Nat) (xc9 : Int32) (h2 : ea_H), ea_Met mX12_isOwed d1 [vR (some a7), vI x1] h (some (vI xc9)) h2 ∧ d1 + 1 ≤ d ∧ (xc9 = (0 : Int32) → rv = some (vI 0) ∧ hE = h2) ∧ (¬ xc9 = (0 : Int32) → a7 < ea_n h2 ∧ ea_c h2 a7 = 12 ∧ ∃ a14, (ea_r h2 a7 74) = some a14 ∧ a14 < ea_n h2 ∧ ea_c h2 a14 = 20 ∧ vp_in x1 (ea_l h2 a14) ∧ rv = some (vI (ea_i h2 a14 (Int32.toNatClampNeg x1))) ∧ hE = h2)) : ea_W mX12_owed d h0 rv hE 0 [(0, vR r0), (1, vI x1)] [] h := by
  refine ea_aload_n (pc := 0) dX12_owed_0 rfl 0 rfl ?_
  refine ea_iload_n (pc := 1) dX12_owed_1 rfl 1 rfl ?_
  obtain ⟨a7, e8, f5, g6, H⟩ := H
  refine ea_deref1 e8 ?_
  obtain ⟨d1, xc9, h2, m3, q4, H⟩ := H
  refine ea_callV (pc := 2) (As := [vI x1]) (st := []) dX12_owed_2 kX12_isOwed m3 q4 rfl (Nat.le_of_ble_eq_true rfl) ew_2031 ew_2033 ew_91 (ci := 12) rfl (by decide) f5 g6 ?_
  refine ea_if_eq (pc := 5) (tgt := 17) dX12_owed_5 rfl (fun c17 => ?_) (fun c17 => ?_)
  · have H := H.1 c17
    refine ea_iconst (pc := 17) dX12_owed_17 (v := 0) rfl ?_
    obtain ⟨rfl, rfl⟩ := H
    exact ea_ireturn (pc := 18) dX12_owed_18 rfl rfl
  · have H := H.2 c17
    refine ea_aload_n (pc := 8) dX12_owed_8 rfl 0 rfl ?_
    obtain ⟨f10, g11, H⟩ := H
    refine ea_deref0 e8 ?_
    refine ea_getR (pc := 9) dX12_owed_9 ec_12 (k := 74) (Nat.le_of_ble_eq_true rfl) rfl (Or.inl ew_1419) f10 g11 rfl ?_
    refine ea_iload_n (pc := 12) dX12_owed_12 rfl 1 rfl ?_
    obtain ⟨a14, e15, f12, g13, H⟩ := H
    refine ea_deref1 e15 ?_
    obtain ⟨z16, H⟩ := H
    refine ea_iald (pc := 13) dX12_owed_13 f12 g13 z16 ?_
    refine ea_goto (pc := 14) (tgt := 18) dX12_owed_14 rfl ?_
    obtain ⟨rfl, rfl⟩ := H
    exact ea_ireturn (pc := 18) dX12_owed_18 rfl rfl
theorem dX12_of_0 : decode cX12_of 0 = .ok (.aload_n 0, 1) := by decide +kernel
theorem dX12_of_1 : decode cX12_of 1 = .ok (.iload_n 1, 1) := by decide +kernel
theorem dX12_of_2 : decode cX12_of 2 = .ok (.invokevirtual 563, 3) := by decide +kernel
theorem dX12_of_5 : decode cX12_of 5 = .ok (.ifCond .ne 5, 3) := by decide +kernel
theorem dX12_of_8 : decode cX12_of 8 = .ok (.iconst (-1), 1) := by decide +kernel
theorem dX12_of_9 : decode cX12_of 9 = .ok (.ireturn, 1) := by decide +kernel
theorem dX12_of_10 : decode cX12_of 10 = .ok (.iload_n 2, 1) := by decide +kernel
theorem dX12_of_11 : decode cX12_of 11 = .ok (.tableswitch 196 0 12 #[65, 72, 79, 86, 93, 100, 107, 114, 121, 128, 143, 168, 189], 65) := by decide +kernel
theorem dX12_of_76 : decode cX12_of 76 = .ok (.aload_n 0, 1) := by decide +kernel
theorem dX12_of_77 : decode cX12_of 77 = .ok (.getfield 126, 3) := by decide +kernel
theorem dX12_of_80 : decode cX12_of 80 = .ok (.iload_n 1, 1) := by decide +kernel
theorem dX12_of_81 : decode cX12_of 81 = .ok (.iaload, 1) := by decide +kernel
theorem dX12_of_82 : decode cX12_of 82 = .ok (.ireturn, 1) := by decide +kernel
theorem dX12_of_83 : decode cX12_of 83 = .ok (.aload_n 0, 1) := by decide +kernel
theorem dX12_of_84 : decode cX12_of 84 = .ok (.getfield 129, 3) := by decide +kernel
theorem dX12_of_87 : decode cX12_of 87 = .ok (.iload_n 1, 1) := by decide +kernel
theorem dX12_of_88 : decode cX12_of 88 = .ok (.iaload, 1) := by decide +kernel
theorem dX12_of_89 : decode cX12_of 89 = .ok (.ireturn, 1) := by decide +kernel
theorem dX12_of_90 : decode cX12_of 90 = .ok (.aload_n 0, 1) := by decide +kernel
theorem dX12_of_91 : decode cX12_of 91 = .ok (.getfield 132, 3) := by decide +kernel
theorem dX12_of_94 : decode cX12_of 94 = .ok (.iload_n 1, 1) := by decide +kernel
theorem dX12_of_95 : decode cX12_of 95 = .ok (.iaload, 1) := by decide +kernel
theorem dX12_of_96 : decode cX12_of 96 = .ok (.ireturn, 1) := by decide +kernel
theorem dX12_of_97 : decode cX12_of 97 = .ok (.aload_n 0, 1) := by decide +kernel
theorem dX12_of_98 : decode cX12_of 98 = .ok (.getfield 135, 3) := by decide +kernel
theorem dX12_of_101 : decode cX12_of 101 = .ok (.iload_n 1, 1) := by decide +kernel
theorem dX12_of_102 : decode cX12_of 102 = .ok (.iaload, 1) := by decide +kernel
theorem dX12_of_103 : decode cX12_of 103 = .ok (.ireturn, 1) := by decide +kernel
theorem dX12_of_104 : decode cX12_of 104 = .ok (.aload_n 0, 1) := by decide +kernel
theorem dX12_of_105 : decode cX12_of 105 = .ok (.getfield 138, 3) := by decide +kernel
theorem dX12_of_108 : decode cX12_of 108 = .ok (.iload_n 1, 1) := by decide +kernel
theorem dX12_of_109 : decode cX12_of 109 = .ok (.iaload, 1) := by decide +kernel
theorem dX12_of_110 : decode cX12_of 110 = .ok (.ireturn, 1) := by decide +kernel
theorem dX12_of_111 : decode cX12_of 111 = .ok (.aload_n 0, 1) := by decide +kernel
theorem dX12_of_112 : decode cX12_of 112 = .ok (.getfield 141, 3) := by decide +kernel
theorem dX12_of_115 : decode cX12_of 115 = .ok (.iload_n 1, 1) := by decide +kernel
theorem dX12_of_116 : decode cX12_of 116 = .ok (.iaload, 1) := by decide +kernel
theorem dX12_of_117 : decode cX12_of 117 = .ok (.ireturn, 1) := by decide +kernel
theorem dX12_of_118 : decode cX12_of 118 = .ok (.aload_n 0, 1) := by decide +kernel
theorem dX12_of_119 : decode cX12_of 119 = .ok (.getfield 144, 3) := by decide +kernel
theorem dX12_of_122 : decode cX12_of 122 = .ok (.iload_n 1, 1) := by decide +kernel
theorem dX12_of_123 : decode cX12_of 123 = .ok (.iaload, 1) := by decide +kernel
theorem dX12_of_124 : decode cX12_of 124 = .ok (.ireturn, 1) := by decide +kernel
theorem dX12_of_125 : decode cX12_of 125 = .ok (.aload_n 0, 1) := by decide +kernel
theorem dX12_of_126 : decode cX12_of 126 = .ok (.getfield 177, 3) := by decide +kernel
theorem dX12_of_129 : decode cX12_of 129 = .ok (.iload_n 1, 1) := by decide +kernel
theorem dX12_of_130 : decode cX12_of 130 = .ok (.iaload, 1) := by decide +kernel
theorem dX12_of_131 : decode cX12_of 131 = .ok (.ireturn, 1) := by decide +kernel
theorem dX12_of_132 : decode cX12_of 132 = .ok (.aload_n 0, 1) := by decide +kernel
theorem dX12_of_133 : decode cX12_of 133 = .ok (.getfield 180, 3) := by decide +kernel
theorem dX12_of_136 : decode cX12_of 136 = .ok (.iload_n 1, 1) := by decide +kernel
theorem dX12_of_137 : decode cX12_of 137 = .ok (.iaload, 1) := by decide +kernel
theorem dX12_of_138 : decode cX12_of 138 = .ok (.ireturn, 1) := by decide +kernel
theorem dX12_of_139 : decode cX12_of 139 = .ok (.aload_n 0, 1) := by decide +kernel
theorem dX12_of_140 : decode cX12_of 140 = .ok (.getfield 168, 3) := by decide +kernel
theorem dX12_of_143 : decode cX12_of 143 = .ok (.iload_n 1, 1) := by decide +kernel
theorem dX12_of_144 : decode cX12_of 144 = .ok (.baload, 1) := by decide +kernel
theorem dX12_of_145 : decode cX12_of 145 = .ok (.ifCond .eq 7, 3) := by decide +kernel
theorem dX12_of_148 : decode cX12_of 148 = .ok (.iconst 1, 1) := by decide +kernel
theorem dX12_of_149 : decode cX12_of 149 = .ok (.goto 4, 3) := by decide +kernel
theorem dX12_of_152 : decode cX12_of 152 = .ok (.iconst 0, 1) := by decide +kernel
theorem dX12_of_153 : decode cX12_of 153 = .ok (.ireturn, 1) := by decide +kernel
theorem dX12_of_154 : decode cX12_of 154 = .ok (.aload_n 0, 1) := by decide +kernel
theorem dX12_of_155 : decode cX12_of 155 = .ok (.getfield 177, 3) := by decide +kernel
theorem dX12_of_158 : decode cX12_of 158 = .ok (.iload_n 1, 1) := by decide +kernel
theorem dX12_of_159 : decode cX12_of 159 = .ok (.iaload, 1) := by decide +kernel
theorem dX12_of_160 : decode cX12_of 160 = .ok (.iconst 1, 1) := by decide +kernel
theorem dX12_of_161 : decode cX12_of 161 = .ok (.if_icmp .ne 16, 3) := by decide +kernel
theorem dX12_of_164 : decode cX12_of 164 = .ok (.aload_n 0, 1) := by decide +kernel
theorem dX12_of_165 : decode cX12_of 165 = .ok (.getfield 195, 3) := by decide +kernel
theorem dX12_of_168 : decode cX12_of 168 = .ok (.iload_n 1, 1) := by decide +kernel
theorem dX12_of_169 : decode cX12_of 169 = .ok (.baload, 1) := by decide +kernel
theorem dX12_of_170 : decode cX12_of 170 = .ok (.ifCond .eq 7, 3) := by decide +kernel
theorem dX12_of_173 : decode cX12_of 173 = .ok (.iconst 1, 1) := by decide +kernel
theorem dX12_of_174 : decode cX12_of 174 = .ok (.goto 4, 3) := by decide +kernel
theorem dX12_of_177 : decode cX12_of 177 = .ok (.iconst 0, 1) := by decide +kernel
theorem dX12_of_178 : decode cX12_of 178 = .ok (.ireturn, 1) := by decide +kernel
theorem dX12_of_179 : decode cX12_of 179 = .ok (.aload_n 0, 1) := by decide +kernel
theorem dX12_of_180 : decode cX12_of 180 = .ok (.getfield 177, 3) := by decide +kernel
theorem dX12_of_183 : decode cX12_of 183 = .ok (.iload_n 1, 1) := by decide +kernel
theorem dX12_of_184 : decode cX12_of 184 = .ok (.iaload, 1) := by decide +kernel
theorem dX12_of_185 : decode cX12_of 185 = .ok (.iconst 1, 1) := by decide +kernel
theorem dX12_of_186 : decode cX12_of 186 = .ok (.if_icmp .ne 12, 3) := by decide +kernel
theorem dX12_of_189 : decode cX12_of 189 = .ok (.aload_n 0, 1) := by decide +kernel
theorem dX12_of_190 : decode cX12_of 190 = .ok (.getfield 183, 3) := by decide +kernel
theorem dX12_of_193 : decode cX12_of 193 = .ok (.iload_n 1, 1) := by decide +kernel
theorem dX12_of_194 : decode cX12_of 194 = .ok (.iaload, 1) := by decide +kernel
theorem dX12_of_195 : decode cX12_of 195 = .ok (.goto 4, 3) := by decide +kernel
theorem dX12_of_198 : decode cX12_of 198 = .ok (.iconst (-1), 1) := by decide +kernel
theorem dX12_of_199 : decode cX12_of 199 = .ok (.ireturn, 1) := by decide +kernel
theorem dX12_of_200 : decode cX12_of 200 = .ok (.aload_n 0, 1) := by decide +kernel
theorem dX12_of_201 : decode cX12_of 201 = .ok (.getfield 186, 3) := by decide +kernel
theorem dX12_of_204 : decode cX12_of 204 = .ok (.iload_n 1, 1) := by decide +kernel
theorem dX12_of_205 : decode cX12_of 205 = .ok (.iaload, 1) := by decide +kernel
theorem dX12_of_206 : decode cX12_of 206 = .ok (.ireturn, 1) := by decide +kernel
theorem dX12_of_207 : decode cX12_of 207 = .ok (.iconst (-1), 1) := by decide +kernel
theorem dX12_of_208 : decode cX12_of 208 = .ok (.ireturn, 1) := by decide +kernel
theorem bX12_of_0 {d : Nat} {h0 hE h : ea_H} {rv : Option ea_V} {r0 : Option Nat} {x1 : Int32} {x2 : Int32} (H : ∃ a7, r0 = some a7 ∧ a7 < ea_n h ∧ ea_c h a7 = 12 ∧ ∃ (d1 : Nat) (xc9 : Int32) (h2 : ea_H), ea_Met mX12_isLetterOf d1 [vR (some a7), vI x1] h (some (vI xc9)) h2 ∧ d1 + 1 ≤ d ∧ (¬ xc9 = (0 : Int32) → (Int32.toInt x2 = 0 → a7 < ea_n h2 ∧ ea_c h2 a7 = 12 ∧ ∃ a14, (ea_r h2 a7 64) = some a14 ∧ a14 < ea_n h2 ∧ ea_c h2 a14 = 20 ∧ vp_in x1 (ea_l h2 a14) ∧ rv = some (vI (ea_i h2 a14 (Int32.toNatClampNeg x1))) ∧ hE = h2) ∧ (Int32.toInt x2 = 1 → a7 < ea_n h2 ∧ ea_c h2 a7 = 12 ∧ ∃ a21, (ea_r h2 a7 65) = some a21 ∧ a21 < ea_n h2 ∧ ea_c h2 a21 = 20 ∧ vp_in x1 (ea_l h2 a21) ∧ rv = some (vI (ea_i h2 a21 (Int32.toNatClampNeg x1))) ∧ hE = h2) ∧ (Int32.toInt x2 = 2 → a7 < ea_n h2 ∧ ea_c h2 a7 = 12 ∧ ∃ a28, (ea_r h2 a7 66) = some a28 ∧ a28 < ea_n h2 ∧ ea_c h2 a28 = 20 ∧ vp_in x1 (ea_l h2 a28) ∧ rv = some (vI (ea_i h2 a28 (Int32.toNatClampNeg x1))) ∧ hE = h2) ∧ (Int32.toInt x2 = 3 → a7 < ea_n h2 ∧ ea_c h2 a7 = 12 ∧ ∃ a35, (ea_r h2 a7 67) = some a35 ∧ a35 < ea_n h2 ∧ ea_c h2 a35 = 20 ∧ vp_in x1 (ea_l h2 a35) ∧ rv = some (vI (ea_i h2 a35 (Int32.toNatClampNeg x1))) ∧ hE = h2) ∧ (Int32.toInt x2 = 4 → a7 < ea_n h2 ∧ ea_c h2 a7 = 12 ∧ ∃ a42, (ea_r h2 a7 68) = some a42 ∧ a42 < ea_n h2 ∧ ea_c h2 a42 = 20 ∧ vp_in x1 (ea_l h2 a42) ∧ rv = some (vI (ea_i h2 a42 (Int32.toNatClampNeg x1))) ∧ hE = h2) ∧ (Int32.toInt x2 = 5 → a7 < ea_n h2 ∧ ea_c h2 a7 = 12 ∧ ∃ a49, (ea_r h2 a7 69) = some a49 ∧ a49 < ea_n h2 ∧ ea_c h2 a49 = 20 ∧ vp_in x1 (ea_l h2 a49) ∧ rv = some (vI (ea_i h2 a49 (Int32.toNatClampNeg x1))) ∧ hE = h2) ∧ (Int32.toInt x2 = 6 → a7 < ea_n h2 ∧ ea_c h2 a7 = 12 ∧ ∃ a56, (ea_r h2 a7 70) = some a56 ∧ a56 < ea_n h2 ∧ ea_c h2 a56 = 20 ∧ vp_in x1 (ea_l h2 a56) ∧ rv = some (vI (ea_i h2 a56 (Int32.toNatClampNeg x1))) ∧ hE = h2) ∧ (Int32.toInt x2 = 7 → a7 < ea_n h2 ∧ ea_c h2 a7 = 12 ∧ ∃ a63, (ea_r h2 a7 81) = some a63 ∧ a63 < ea_n h2 ∧ ea_c h2 a63 = 20 ∧ vp_in x1 (ea_l h2 a63) ∧ rv = some (vI (ea_i h2 a63 (Int32.toNatClampNeg x1))) ∧ hE = h2) ∧ (Int32.toInt x2 = 8 → a7 < ea_n h2 ∧ ea_c h2 a7 = 12 ∧ ∃ a70, (ea_r h2 a7 82) = some a70 ∧ a70 < ea_n h2 ∧ ea_c h2 a70 = 20 ∧ vp_in x1 (ea_l h2 a70) ∧ rv = some (vI (ea_i h2 a70 (Int32.toNatClampNeg x1))) ∧ hE = h2) ∧ (Int32.toInt x2 = 9 → a7 < ea_n h2 ∧ ea_c h2 a7 = 12 ∧ ∃ a77, (ea_r h2 a7 78) = some a77 ∧ a77 < ea_n h2 ∧ ea_c h2 a77 = 21 ∧ vp_in x1 (ea_l h2 a77) ∧ ((ea_i h2 a77 (Int32.toNatClampNeg x1)) = (0 : Int32) → rv = some (vI 0) ∧ hE = h2) ∧ (¬ (ea_i h2 a77 (Int32.toNatClampNeg x1)) = (0 : Int32) → rv = some (vI 1) ∧ hE = h2)) ∧ (Int32.toInt x2 = 10 → a7 < ea_n h2 ∧ ea_c h2 a7 = 12 ∧ ∃ a85, (ea_r h2 a7 81) = some a85 ∧ a85 < ea_n h2 ∧ ea_c h2 a85 = 20 ∧ vp_in x1 (ea_l h2 a85) ∧ (¬ (ea_i h2 a85 (Int32.toNatClampNeg x1)) = (1 : Int32) → rv = some (vI 0) ∧ hE = h2) ∧ ((ea_i h2 a85 (Int32.toNatClampNeg x1)) = (1 : Int32) → a7 < ea_n h2 ∧ ea_c h2 a7 = 12 ∧ ∃ a92, (ea_r h2 a7 87) = some a92 ∧ a92 < ea_n h2 ∧ ea_c h2 a92 = 21 ∧ vp_in x1 (ea_l h2 a92) ∧ ((ea_i h2 a92 (Int32.toNatClampNeg x1)) = (0 : Int32) → rv = some (vI 0) ∧ hE = h2) ∧ (¬ (ea_i h2 a92 (Int32.toNatClampNeg x1)) = (0 : Int32) → rv = some (vI 1) ∧ hE = h2))) ∧ (Int32.toInt x2 = 11 → a7 < ea_n h2 ∧ ea_c h2 a7 = 12 ∧ ∃ a101, (ea_r h2 a7 81) = some a101 ∧ a101 < ea_n h2 ∧ ea_c h2 a101 = 20 ∧ vp_in x1 (ea_l h2 a101) ∧ (¬ (ea_i h2 a101 (Int32.toNatClampNeg x1)) = (1 : Int32) → rv = some (vI (-1)) ∧ hE = h2) ∧ ((ea_i h2 a101 (Int32.toNatClampNeg x1)) = (1 : Int32) → a7 < ea_n h2 ∧ ea_c h2 a7 = 12 ∧ ∃ a108, (ea_r h2 a7 83) = some a108 ∧ a108 < ea_n h2 ∧ ea_c h2 a108 = 20 ∧ vp_in x1 (ea_l h2 a108) ∧ rv = some (vI (ea_i h2 a108 (Int32.toNatClampNeg x1))) ∧ hE = h2)) ∧ (Int32.toInt x2 = 12 → a7 < ea_n h2 ∧ ea_c h2 a7 = 12 ∧ ∃ a116, (ea_r h2 a7 84) = some a116 ∧ a116 < ea_n h2 ∧ ea_c h2 a116 = 20 ∧ vp_in x1 (ea_l h2 a116) ∧ rv = some (vI (ea_i h2 a116 (Int32.toNatClampNeg x1))) ∧ hE = h2) ∧ (Int32.toInt x2 < 0 ∨ 12 < Int32.toInt x2 → rv = some (vI (-1)) ∧ hE = h2)) ∧ (xc9 = (0 : Int32) → rv = some (vI (-1)) ∧ hE = h2)) : ea_W mX12_of d h0 rv hE 0 [(0, vR r0), (1, vI x1), (2, vI x2)] [] h := by
  refine ea_aload_n (pc := 0) dX12_of_0 rfl 0 rfl ?_
  refine ea_iload_n (pc := 1) dX12_of_1 rfl 1 rfl ?_
  obtain ⟨a7, e8, f5, g6, H⟩ := H
  refine ea_deref1 e8 ?_
  obtain ⟨d1, xc9, h2, m3, q4, H⟩ := H
  refine ea_callV (pc := 2) (As := [vI x1]) (st := []) dX12_of_2 kX12_isLetterOf m3 q4 rfl (Nat.le_of_ble_eq_true rfl) ew_2019 ew_2021 ew_89 (ci := 12) rfl (by decide) f5 g6 ?_
  refine ea_if_ne (pc := 5) (tgt := 10) dX12_of_5 rfl (fun c119 => ?_) (fun c119 => ?_)
  · have H := H.1 c119
    refine ea_iload_n (pc := 10) dX12_of_10 rfl 2 rfl ?_
    by_cases qc1 : Int32.toInt x2 = 0
    · have H := H.1 qc1
      refine ea_tswIn (pc := 11) (tgt := 76) dX12_of_11 (by omega) (by omega) (by rw [qc1]; rfl) rfl ?_
      refine ea_aload_n (pc := 76) dX12_of_76 rfl 0 rfl ?_
      obtain ⟨f10, g11, H⟩ := H
      refine ea_deref0 e8 ?_
      refine ea_getR (pc := 77) dX12_of_77 ec_12 (k := 64) (Nat.le_of_ble_eq_true rfl) rfl (Or.inl ew_1409) f10 g11 rfl ?_
      refine ea_iload_n (pc := 80) dX12_of_80 rfl 1 rfl ?_
      obtain ⟨a14, e15, f12, g13, H⟩ := H
      refine ea_deref1 e15 ?_
      obtain ⟨z16, H⟩ := H
      refine ea_iald (pc := 81) dX12_of_81 f12 g13 z16 ?_
      obtain ⟨rfl, rfl⟩ := H
      exact ea_ireturn (pc := 82) dX12_of_82 rfl rfl
    by_cases qc2 : Int32.toInt x2 = 1
    · have H := H.2.1 qc2
      refine ea_tswIn (pc := 11) (tgt := 83) dX12_of_11 (by omega) (by omega) (by rw [qc2]; rfl) rfl ?_
      refine ea_aload_n (pc := 83) dX12_of_83 rfl 0 rfl ?_
      obtain ⟨f17, g18, H⟩ := H
      refine ea_deref0 e8 ?_
      refine ea_getR (pc := 84) dX12_of_84 ec_12 (k := 65) (Nat.le_of_ble_eq_true rfl) rfl (Or.inl ew_1410) f17 g18 rfl ?_
      refine ea_iload_n (pc := 87) dX12_of_87 rfl 1 rfl ?_
      obtain ⟨a21, e22, f19, g20, H⟩ := H
      refine ea_deref1 e22 ?_
      obtain ⟨z23, H⟩ := H
      refine ea_iald (pc := 88) dX12_of_88 f19 g20 z23 ?_
      obtain ⟨rfl, rfl⟩ := H
      exact ea_ireturn (pc := 89) dX12_of_89 rfl rfl
    by_cases qc3 : Int32.toInt x2 = 2
    · have H := H.2.2.1 qc3
      refine ea_tswIn (pc := 11) (tgt := 90) dX12_of_11 (by omega) (by omega) (by rw [qc3]; rfl) rfl ?_
      refine ea_aload_n (pc := 90) dX12_of_90 rfl 0 rfl ?_
      obtain ⟨f24, g25, H⟩ := H
      refine ea_deref0 e8 ?_
      refine ea_getR (pc := 91) dX12_of_91 ec_12 (k := 66) (Nat.le_of_ble_eq_true rfl) rfl (Or.inl ew_1411) f24 g25 rfl ?_
      refine ea_iload_n (pc := 94) dX12_of_94 rfl 1 rfl ?_
      obtain ⟨a28, e29, f26, g27, H⟩ := H
      refine ea_deref1 e29 ?_
      obtain ⟨z30, H⟩ := H
      refine ea_iald (pc := 95) dX12_of_95 f26 g27 z30 ?_
      obtain ⟨rfl, rfl⟩ := H
      exact ea_ireturn (pc := 96) dX12_of_96 rfl rfl
    by_cases qc4 : Int32.toInt x2 = 3
    · have H := H.2.2.2.1 qc4
      refine ea_tswIn (pc := 11) (tgt := 97) dX12_of_11 (by omega) (by omega) (by rw [qc4]; rfl) rfl ?_
      refine ea_aload_n (pc := 97) dX12_of_97 rfl 0 rfl ?_
      obtain ⟨f31, g32, H⟩ := H
      refine ea_deref0 e8 ?_
      refine ea_getR (pc := 98) dX12_of_98 ec_12 (k := 67) (Nat.le_of_ble_eq_true rfl) rfl (Or.inl ew_1412) f31 g32 rfl ?_
      refine ea_iload_n (pc := 101) dX12_of_101 rfl 1 rfl ?_
      obtain ⟨a35, e36, f33, g34, H⟩ := H
      refine ea_deref1 e36 ?_
      obtain ⟨z37, H⟩ := H
      refine ea_iald (pc := 102) dX12_of_102 f33 g34 z37 ?_
      obtain ⟨rfl, rfl⟩ := H
      exact ea_ireturn (pc := 103) dX12_of_103 rfl rfl
    by_cases qc5 : Int32.toInt x2 = 4
    · have H := H.2.2.2.2.1 qc5
      refine ea_tswIn (pc := 11) (tgt := 104) dX12_of_11 (by omega) (by omega) (by rw [qc5]; rfl) rfl ?_
      refine ea_aload_n (pc := 104) dX12_of_104 rfl 0 rfl ?_
      obtain ⟨f38, g39, H⟩ := H
      refine ea_deref0 e8 ?_
      refine ea_getR (pc := 105) dX12_of_105 ec_12 (k := 68) (Nat.le_of_ble_eq_true rfl) rfl (Or.inl ew_1413) f38 g39 rfl ?_
      refine ea_iload_n (pc := 108) dX12_of_108 rfl 1 rfl ?_
      obtain ⟨a42, e43, f40, g41, H⟩ := H
      refine ea_deref1 e43 ?_
      obtain ⟨z44, H⟩ := H
      refine ea_iald (pc := 109) dX12_of_109 f40 g41 z44 ?_
      obtain ⟨rfl, rfl⟩ := H
      exact ea_ireturn (pc := 110) dX12_of_110 rfl rfl
    by_cases qc6 : Int32.toInt x2 = 5
    · have H := H.2.2.2.2.2.1 qc6
      refine ea_tswIn (pc := 11) (tgt := 111) dX12_of_11 (by omega) (by omega) (by rw [qc6]; rfl) rfl ?_
      refine ea_aload_n (pc := 111) dX12_of_111 rfl 0 rfl ?_
      obtain ⟨f45, g46, H⟩ := H
      refine ea_deref0 e8 ?_
      refine ea_getR (pc := 112) dX12_of_112 ec_12 (k := 69) (Nat.le_of_ble_eq_true rfl) rfl (Or.inl ew_1414) f45 g46 rfl ?_
      refine ea_iload_n (pc := 115) dX12_of_115 rfl 1 rfl ?_
      obtain ⟨a49, e50, f47, g48, H⟩ := H
      refine ea_deref1 e50 ?_
      obtain ⟨z51, H⟩ := H
      refine ea_iald (pc := 116) dX12_of_116 f47 g48 z51 ?_
      obtain ⟨rfl, rfl⟩ := H
      exact ea_ireturn (pc := 117) dX12_of_117 rfl rfl
    by_cases qc7 : Int32.toInt x2 = 6
    · have H := H.2.2.2.2.2.2.1 qc7
      refine ea_tswIn (pc := 11) (tgt := 118) dX12_of_11 (by omega) (by omega) (by rw [qc7]; rfl) rfl ?_
      refine ea_aload_n (pc := 118) dX12_of_118 rfl 0 rfl ?_
      obtain ⟨f52, g53, H⟩ := H
      refine ea_deref0 e8 ?_
      refine ea_getR (pc := 119) dX12_of_119 ec_12 (k := 70) (Nat.le_of_ble_eq_true rfl) rfl (Or.inl ew_1415) f52 g53 rfl ?_
      refine ea_iload_n (pc := 122) dX12_of_122 rfl 1 rfl ?_
      obtain ⟨a56, e57, f54, g55, H⟩ := H
      refine ea_deref1 e57 ?_
      obtain ⟨z58, H⟩ := H
      refine ea_iald (pc := 123) dX12_of_123 f54 g55 z58 ?_
      obtain ⟨rfl, rfl⟩ := H
      exact ea_ireturn (pc := 124) dX12_of_124 rfl rfl
    by_cases qc8 : Int32.toInt x2 = 7
    · have H := H.2.2.2.2.2.2.2.1 qc8
      refine ea_tswIn (pc := 11) (tgt := 125) dX12_of_11 (by omega) (by omega) (by rw [qc8]; rfl) rfl ?_
      refine ea_aload_n (pc := 125) dX12_of_125 rfl 0 rfl ?_
      obtain ⟨f59, g60, H⟩ := H
      refine ea_deref0 e8 ?_
      refine ea_getR (pc := 126) dX12_of_126 ec_12 (k := 81) (Nat.le_of_ble_eq_true rfl) rfl (Or.inl ew_1426) f59 g60 rfl ?_
      refine ea_iload_n (pc := 129) dX12_of_129 rfl 1 rfl ?_
      obtain ⟨a63, e64, f61, g62, H⟩ := H
      refine ea_deref1 e64 ?_
      obtain ⟨z65, H⟩ := H
      refine ea_iald (pc := 130) dX12_of_130 f61 g62 z65 ?_
      obtain ⟨rfl, rfl⟩ := H
      exact ea_ireturn (pc := 131) dX12_of_131 rfl rfl
    by_cases qc9 : Int32.toInt x2 = 8
    · have H := H.2.2.2.2.2.2.2.2.1 qc9
      refine ea_tswIn (pc := 11) (tgt := 132) dX12_of_11 (by omega) (by omega) (by rw [qc9]; rfl) rfl ?_
      refine ea_aload_n (pc := 132) dX12_of_132 rfl 0 rfl ?_
      obtain ⟨f66, g67, H⟩ := H
      refine ea_deref0 e8 ?_
      refine ea_getR (pc := 133) dX12_of_133 ec_12 (k := 82) (Nat.le_of_ble_eq_true rfl) rfl (Or.inl ew_1427) f66 g67 rfl ?_
      refine ea_iload_n (pc := 136) dX12_of_136 rfl 1 rfl ?_
      obtain ⟨a70, e71, f68, g69, H⟩ := H
      refine ea_deref1 e71 ?_
      obtain ⟨z72, H⟩ := H
      refine ea_iald (pc := 137) dX12_of_137 f68 g69 z72 ?_
      obtain ⟨rfl, rfl⟩ := H
      exact ea_ireturn (pc := 138) dX12_of_138 rfl rfl
    by_cases qc10 : Int32.toInt x2 = 9
    · have H := H.2.2.2.2.2.2.2.2.2.1 qc10
      refine ea_tswIn (pc := 11) (tgt := 139) dX12_of_11 (by omega) (by omega) (by rw [qc10]; rfl) rfl ?_
      refine ea_aload_n (pc := 139) dX12_of_139 rfl 0 rfl ?_
      obtain ⟨f73, g74, H⟩ := H
      refine ea_deref0 e8 ?_
      refine ea_getR (pc := 140) dX12_of_140 ec_12 (k := 78) (Nat.le_of_ble_eq_true rfl) rfl (Or.inl ew_1423) f73 g74 rfl ?_
      refine ea_iload_n (pc := 143) dX12_of_143 rfl 1 rfl ?_
      obtain ⟨a77, e78, f75, g76, H⟩ := H
      refine ea_deref1 e78 ?_
      obtain ⟨z79, H⟩ := H
      refine ea_zald (pc := 144) dX12_of_144 f75 g76 z79 ?_
      refine ea_if_eq (pc := 145) (tgt := 152) dX12_of_145 rfl (fun c80 => ?_) (fun c80 => ?_)
      · have H := H.1 c80
        refine ea_iconst (pc := 152) dX12_of_152 (v := 0) rfl ?_
        obtain ⟨rfl, rfl⟩ := H
        exact ea_ireturn (pc := 153) dX12_of_153 rfl rfl
      · have H := H.2 c80
        refine ea_iconst (pc := 148) dX12_of_148 (v := 1) rfl ?_
        refine ea_goto (pc := 149) (tgt := 153) dX12_of_149 rfl ?_
        obtain ⟨rfl, rfl⟩ := H
        exact ea_ireturn (pc := 153) dX12_of_153 rfl rfl
    by_cases qc11 : Int32.toInt x2 = 10
    · have H := H.2.2.2.2.2.2.2.2.2.2.1 qc11
      refine ea_tswIn (pc := 11) (tgt := 154) dX12_of_11 (by omega) (by omega) (by rw [qc11]; rfl) rfl ?_
      refine ea_aload_n (pc := 154) dX12_of_154 rfl 0 rfl ?_
      obtain ⟨f81, g82, H⟩ := H
      refine ea_deref0 e8 ?_
      refine ea_getR (pc := 155) dX12_of_155 ec_12 (k := 81) (Nat.le_of_ble_eq_true rfl) rfl (Or.inl ew_1426) f81 g82 rfl ?_
      refine ea_iload_n (pc := 158) dX12_of_158 rfl 1 rfl ?_
      obtain ⟨a85, e86, f83, g84, H⟩ := H
      refine ea_deref1 e86 ?_
      obtain ⟨z87, H⟩ := H
      refine ea_iald (pc := 159) dX12_of_159 f83 g84 z87 ?_
      refine ea_iconst (pc := 160) dX12_of_160 (v := 1) rfl ?_
      refine ea_icmp_ne (pc := 161) (tgt := 177) dX12_of_161 rfl (fun c96 => ?_) (fun c96 => ?_)
      · have H := H.1 c96
        refine ea_iconst (pc := 177) dX12_of_177 (v := 0) rfl ?_
        obtain ⟨rfl, rfl⟩ := H
        exact ea_ireturn (pc := 178) dX12_of_178 rfl rfl
      · have H := H.2 c96
        refine ea_aload_n (pc := 164) dX12_of_164 rfl 0 rfl ?_
        obtain ⟨f88, g89, H⟩ := H
        refine ea_deref0 e8 ?_
        refine ea_getR (pc := 165) dX12_of_165 ec_12 (k := 87) (Nat.le_of_ble_eq_true rfl) rfl (Or.inl ew_1432) f88 g89 rfl ?_
        refine ea_iload_n (pc := 168) dX12_of_168 rfl 1 rfl ?_
        obtain ⟨a92, e93, f90, g91, H⟩ := H
        refine ea_deref1 e93 ?_
        obtain ⟨z94, H⟩ := H
        refine ea_zald (pc := 169) dX12_of_169 f90 g91 z94 ?_
        refine ea_if_eq (pc := 170) (tgt := 177) dX12_of_170 rfl (fun c95 => ?_) (fun c95 => ?_)
        · have H := H.1 c95
          refine ea_iconst (pc := 177) dX12_of_177 (v := 0) rfl ?_
          obtain ⟨rfl, rfl⟩ := H
          exact ea_ireturn (pc := 178) dX12_of_178 rfl rfl
        · have H := H.2 c95
          refine ea_iconst (pc := 173) dX12_of_173 (v := 1) rfl ?_
          refine ea_goto (pc := 174) (tgt := 178) dX12_of_174 rfl ?_
          obtain ⟨rfl, rfl⟩ := H
          exact ea_ireturn (pc := 178) dX12_of_178 rfl rfl
    by_cases qc12 : Int32.toInt x2 = 11
    · have H := H.2.2.2.2.2.2.2.2.2.2.2.1 qc12
      refine ea_tswIn (pc := 11) (tgt := 179) dX12_of_11 (by omega) (by omega) (by rw [qc12]; rfl) rfl ?_
      refine ea_aload_n (pc := 179) dX12_of_179 rfl 0 rfl ?_
      obtain ⟨f97, g98, H⟩ := H
      refine ea_deref0 e8 ?_
      refine ea_getR (pc := 180) dX12_of_180 ec_12 (k := 81) (Nat.le_of_ble_eq_true rfl) rfl (Or.inl ew_1426) f97 g98 rfl ?_
      refine ea_iload_n (pc := 183) dX12_of_183 rfl 1 rfl ?_
      obtain ⟨a101, e102, f99, g100, H⟩ := H
      refine ea_deref1 e102 ?_
      obtain ⟨z103, H⟩ := H
      refine ea_iald (pc := 184) dX12_of_184 f99 g100 z103 ?_
      refine ea_iconst (pc := 185) dX12_of_185 (v := 1) rfl ?_
      refine ea_icmp_ne (pc := 186) (tgt := 198) dX12_of_186 rfl (fun c111 => ?_) (fun c111 => ?_)
      · have H := H.1 c111
        refine ea_iconst (pc := 198) dX12_of_198 (v := (-1)) rfl ?_
        obtain ⟨rfl, rfl⟩ := H
        exact ea_ireturn (pc := 199) dX12_of_199 rfl rfl
      · have H := H.2 c111
        refine ea_aload_n (pc := 189) dX12_of_189 rfl 0 rfl ?_
        obtain ⟨f104, g105, H⟩ := H
        refine ea_deref0 e8 ?_
        refine ea_getR (pc := 190) dX12_of_190 ec_12 (k := 83) (Nat.le_of_ble_eq_true rfl) rfl (Or.inl ew_1428) f104 g105 rfl ?_
        refine ea_iload_n (pc := 193) dX12_of_193 rfl 1 rfl ?_
        obtain ⟨a108, e109, f106, g107, H⟩ := H
        refine ea_deref1 e109 ?_
        obtain ⟨z110, H⟩ := H
        refine ea_iald (pc := 194) dX12_of_194 f106 g107 z110 ?_
        refine ea_goto (pc := 195) (tgt := 199) dX12_of_195 rfl ?_
        obtain ⟨rfl, rfl⟩ := H
        exact ea_ireturn (pc := 199) dX12_of_199 rfl rfl
    by_cases qc13 : Int32.toInt x2 = 12
    · have H := H.2.2.2.2.2.2.2.2.2.2.2.2.1 qc13
      refine ea_tswIn (pc := 11) (tgt := 200) dX12_of_11 (by omega) (by omega) (by rw [qc13]; rfl) rfl ?_
      refine ea_aload_n (pc := 200) dX12_of_200 rfl 0 rfl ?_
      obtain ⟨f112, g113, H⟩ := H
      refine ea_deref0 e8 ?_
      refine ea_getR (pc := 201) dX12_of_201 ec_12 (k := 84) (Nat.le_of_ble_eq_true rfl) rfl (Or.inl ew_1429) f112 g113 rfl ?_
      refine ea_iload_n (pc := 204) dX12_of_204 rfl 1 rfl ?_
      obtain ⟨a116, e117, f114, g115, H⟩ := H
      refine ea_deref1 e117 ?_
      obtain ⟨z118, H⟩ := H
      refine ea_iald (pc := 205) dX12_of_205 f114 g115 z118 ?_
      obtain ⟨rfl, rfl⟩ := H
      exact ea_ireturn (pc := 206) dX12_of_206 rfl rfl
    have qd : Int32.toInt x2 < 0 ∨ 12 < Int32.toInt x2 := by omega
    have H := H.2.2.2.2.2.2.2.2.2.2.2.2.2 qd
    refine ea_tswOut (pc := 11) (tgt := 207) dX12_of_11 qd rfl ?_
    refine ea_iconst (pc := 207) dX12_of_207 (v := (-1)) rfl ?_
    obtain ⟨rfl, rfl⟩ := H
    exact ea_ireturn (pc := 208) dX12_of_208 rfl rfl
  · have H := H.2 c119
    refine ea_iconst (pc := 8) dX12_of_8 (v := (-1)) rfl ?_
    obtain ⟨rfl, rfl⟩ := H
    exact ea_ireturn (pc := 9) dX12_of_9 rfl rfl
theorem dX12_charge_0 : decode cX12_charge 0 = .ok (.aload_n 0, 1) := by decide +kernel
theorem dX12_charge_1 : decode cX12_charge 1 = .ok (.iload_n 1, 1) := by decide +kernel
theorem dX12_charge_2 : decode cX12_charge 2 = .ok (.invokevirtual 563, 3) := by decide +kernel
theorem dX12_charge_5 : decode cX12_charge 5 = .ok (.ifCond .ne 5, 3) := by decide +kernel
theorem dX12_charge_8 : decode cX12_charge 8 = .ok (.iconst (-1), 1) := by decide +kernel
theorem dX12_charge_9 : decode cX12_charge 9 = .ok (.ireturn, 1) := by decide +kernel
theorem dX12_charge_10 : decode cX12_charge 10 = .ok (.iload_n 2, 1) := by decide +kernel
theorem dX12_charge_11 : decode cX12_charge 11 = .ok (.tableswitch 111 0 5 #[37, 44, 51, 71, 77, 96], 37) := by decide +kernel
theorem dX12_charge_48 : decode cX12_charge 48 = .ok (.aload_n 0, 1) := by decide +kernel
theorem dX12_charge_49 : decode cX12_charge 49 = .ok (.getfield 156, 3) := by decide +kernel
theorem dX12_charge_52 : decode cX12_charge 52 = .ok (.iload_n 1, 1) := by decide +kernel
theorem dX12_charge_53 : decode cX12_charge 53 = .ok (.iaload, 1) := by decide +kernel
theorem dX12_charge_54 : decode cX12_charge 54 = .ok (.ireturn, 1) := by decide +kernel
theorem dX12_charge_55 : decode cX12_charge 55 = .ok (.aload_n 0, 1) := by decide +kernel
theorem dX12_charge_56 : decode cX12_charge 56 = .ok (.getfield 153, 3) := by decide +kernel
theorem dX12_charge_59 : decode cX12_charge 59 = .ok (.iload_n 1, 1) := by decide +kernel
theorem dX12_charge_60 : decode cX12_charge 60 = .ok (.iaload, 1) := by decide +kernel
theorem dX12_charge_61 : decode cX12_charge 61 = .ok (.ireturn, 1) := by decide +kernel
theorem dX12_charge_62 : decode cX12_charge 62 = .ok (.aload_n 0, 1) := by decide +kernel
theorem dX12_charge_63 : decode cX12_charge 63 = .ok (.getfield 171, 3) := by decide +kernel
theorem dX12_charge_66 : decode cX12_charge 66 = .ok (.iload_n 1, 1) := by decide +kernel
theorem dX12_charge_67 : decode cX12_charge 67 = .ok (.baload, 1) := by decide +kernel
theorem dX12_charge_68 : decode cX12_charge 68 = .ok (.ifCond .eq 7, 3) := by decide +kernel
theorem dX12_charge_71 : decode cX12_charge 71 = .ok (.iconst (-1), 1) := by decide +kernel
theorem dX12_charge_72 : decode cX12_charge 72 = .ok (.goto 9, 3) := by decide +kernel
theorem dX12_charge_75 : decode cX12_charge 75 = .ok (.aload_n 0, 1) := by decide +kernel
theorem dX12_charge_76 : decode cX12_charge 76 = .ok (.getfield 159, 3) := by decide +kernel
theorem dX12_charge_79 : decode cX12_charge 79 = .ok (.iload_n 1, 1) := by decide +kernel
theorem dX12_charge_80 : decode cX12_charge 80 = .ok (.iaload, 1) := by decide +kernel
theorem dX12_charge_81 : decode cX12_charge 81 = .ok (.ireturn, 1) := by decide +kernel
theorem dX12_charge_82 : decode cX12_charge 82 = .ok (.aload_n 0, 1) := by decide +kernel
theorem dX12_charge_83 : decode cX12_charge 83 = .ok (.iload_n 1, 1) := by decide +kernel
theorem dX12_charge_84 : decode cX12_charge 84 = .ok (.invokevirtual 566, 3) := by decide +kernel
theorem dX12_charge_87 : decode cX12_charge 87 = .ok (.ireturn, 1) := by decide +kernel
theorem dX12_charge_88 : decode cX12_charge 88 = .ok (.aload_n 0, 1) := by decide +kernel
theorem dX12_charge_89 : decode cX12_charge 89 = .ok (.iload_n 1, 1) := by decide +kernel
theorem dX12_charge_90 : decode cX12_charge 90 = .ok (.invokevirtual 560, 3) := by decide +kernel
theorem dX12_charge_93 : decode cX12_charge 93 = .ok (.ifCond .eq 7, 3) := by decide +kernel
theorem dX12_charge_96 : decode cX12_charge 96 = .ok (.iconst 0, 1) := by decide +kernel
theorem dX12_charge_97 : decode cX12_charge 97 = .ok (.goto 9, 3) := by decide +kernel
theorem dX12_charge_100 : decode cX12_charge 100 = .ok (.aload_n 0, 1) := by decide +kernel
theorem dX12_charge_101 : decode cX12_charge 101 = .ok (.getfield 156, 3) := by decide +kernel
theorem dX12_charge_104 : decode cX12_charge 104 = .ok (.iload_n 1, 1) := by decide +kernel
theorem dX12_charge_105 : decode cX12_charge 105 = .ok (.iaload, 1) := by decide +kernel
theorem dX12_charge_106 : decode cX12_charge 106 = .ok (.ireturn, 1) := by decide +kernel
theorem dX12_charge_107 : decode cX12_charge 107 = .ok (.aload_n 0, 1) := by decide +kernel
theorem dX12_charge_108 : decode cX12_charge 108 = .ok (.getfield 171, 3) := by decide +kernel
theorem dX12_charge_111 : decode cX12_charge 111 = .ok (.iload_n 1, 1) := by decide +kernel
theorem dX12_charge_112 : decode cX12_charge 112 = .ok (.baload, 1) := by decide +kernel
theorem dX12_charge_113 : decode cX12_charge 113 = .ok (.ifCond .eq 7, 3) := by decide +kernel
theorem dX12_charge_116 : decode cX12_charge 116 = .ok (.iconst 1, 1) := by decide +kernel
theorem dX12_charge_117 : decode cX12_charge 117 = .ok (.goto 4, 3) := by decide +kernel
theorem dX12_charge_120 : decode cX12_charge 120 = .ok (.iconst 0, 1) := by decide +kernel
theorem dX12_charge_121 : decode cX12_charge 121 = .ok (.ireturn, 1) := by decide +kernel
theorem dX12_charge_122 : decode cX12_charge 122 = .ok (.iconst (-1), 1) := by decide +kernel
theorem dX12_charge_123 : decode cX12_charge 123 = .ok (.ireturn, 1) := by decide +kernel
theorem bX12_charge_0 {d : Nat} {h0 hE h : ea_H} {rv : Option ea_V} {r0 : Option Nat} {x1 : Int32} {x2 : Int32} (H : ∃ a7, r0 = some a7 ∧ a7 < ea_n h ∧ ea_c h a7 = 12 ∧ ∃ (d1 : Nat) (xc9 : Int32) (h2 : ea_H), ea_Met mX12_isLetterOf d1 [vR (some a7), vI x1] h (some (vI xc9)) h2 ∧ d1 + 1 ≤ d ∧ (¬ xc9 = (0 : Int32) → (Int32.toInt x2 = 0 → a7 < ea_n h2 ∧ ea_c h2 a7 = 12 ∧ ∃ a14, (ea_r h2 a7 74) = some a14 ∧ a14 < ea_n h2 ∧ ea_c h2 a14 = 20 ∧ vp_in x1 (ea_l h2 a14) ∧ rv = some (vI (ea_i h2 a14 (Int32.toNatClampNeg x1))) ∧ hE = h2) ∧ (Int32.toInt x2 = 1 → a7 < ea_n h2 ∧ ea_c h2 a7 = 12 ∧ ∃ a21, (ea_r h2 a7 73) = some a21 ∧ a21 < ea_n h2 ∧ ea_c h2 a21 = 20 ∧ vp_in x1 (ea_l h2 a21) ∧ rv = some (vI (ea_i h2 a21 (Int32.toNatClampNeg x1))) ∧ hE = h2) ∧ (Int32.toInt x2 = 2 → a7 < ea_n h2 ∧ ea_c h2 a7 = 12 ∧ ∃ a28, (ea_r h2 a7 79) = some a28 ∧ a28 < ea_n h2 ∧ ea_c h2 a28 = 21 ∧ vp_in x1 (ea_l h2 a28) ∧ ((ea_i h2 a28 (Int32.toNatClampNeg x1)) = (0 : Int32) → a7 < ea_n h2 ∧ ea_c h2 a7 = 12 ∧ ∃ a35, (ea_r h2 a7 75) = some a35 ∧ a35 < ea_n h2 ∧ ea_c h2 a35 = 20 ∧ vp_in x1 (ea_l h2 a35) ∧ rv = some (vI (ea_i h2 a35 (Int32.toNatClampNeg x1))) ∧ hE = h2) ∧ (¬ (ea_i h2 a28 (Int32.toNatClampNeg x1)) = (0 : Int32) → rv = some (vI (-1)) ∧ hE = h2)) ∧ (Int32.toInt x2 = 3 → a7 < ea_n h2 ∧ ea_c h2 a7 = 12 ∧ ∃ (d39 : Nat) (xc45 : Int32) (h40 : ea_H), ea_Met mX12_owed d39 [vR (some a7), vI x1] h2 (some (vI xc45)) h40 ∧ d39 + 1 ≤ d ∧ rv = some (vI xc45) ∧ hE = h40) ∧ (Int32.toInt x2 = 4 → a7 < ea_n h2 ∧ ea_c h2 a7 = 12 ∧ ∃ (d46 : Nat) (xc52 : Int32) (h47 : ea_H), ea_Met mX12_isOwed d46 [vR (some a7), vI x1] h2 (some (vI xc52)) h47 ∧ d46 + 1 ≤ d ∧ (xc52 = (0 : Int32) → a7 < ea_n h47 ∧ ea_c h47 a7 = 12 ∧ ∃ a57, (ea_r h47 a7 74) = some a57 ∧ a57 < ea_n h47 ∧ ea_c h47 a57 = 20 ∧ vp_in x1 (ea_l h47 a57) ∧ rv = some (vI (ea_i h47 a57 (Int32.toNatClampNeg x1))) ∧ hE = h47) ∧ (¬ xc52 = (0 : Int32) → rv = some (vI 0) ∧ hE = h47)) ∧ (Int32.toInt x2 = 5 → a7 < ea_n h2 ∧ ea_c h2 a7 = 12 ∧ ∃ a65, (ea_r h2 a7 79) = some a65 ∧ a65 < ea_n h2 ∧ ea_c h2 a65 = 21 ∧ vp_in x1 (ea_l h2 a65) ∧ ((ea_i h2 a65 (Int32.toNatClampNeg x1)) = (0 : Int32) → rv = some (vI 0) ∧ hE = h2) ∧ (¬ (ea_i h2 a65 (Int32.toNatClampNeg x1)) = (0 : Int32) → rv = some (vI 1) ∧ hE = h2)) ∧ (Int32.toInt x2 < 0 ∨ 5 < Int32.toInt x2 → rv = some (vI (-1)) ∧ hE = h2)) ∧ (xc9 = (0 : Int32) → rv = some (vI (-1)) ∧ hE = h2)) : ea_W mX12_charge d h0 rv hE 0 [(0, vR r0), (1, vI x1), (2, vI x2)] [] h := by
  refine ea_aload_n (pc := 0) dX12_charge_0 rfl 0 rfl ?_
  refine ea_iload_n (pc := 1) dX12_charge_1 rfl 1 rfl ?_
  obtain ⟨a7, e8, f5, g6, H⟩ := H
  refine ea_deref1 e8 ?_
  obtain ⟨d1, xc9, h2, m3, q4, H⟩ := H
  refine ea_callV (pc := 2) (As := [vI x1]) (st := []) dX12_charge_2 kX12_isLetterOf m3 q4 rfl (Nat.le_of_ble_eq_true rfl) ew_2019 ew_2021 ew_89 (ci := 12) rfl (by decide) f5 g6 ?_
  refine ea_if_ne (pc := 5) (tgt := 10) dX12_charge_5 rfl (fun c69 => ?_) (fun c69 => ?_)
  · have H := H.1 c69
    refine ea_iload_n (pc := 10) dX12_charge_10 rfl 2 rfl ?_
    by_cases qc1 : Int32.toInt x2 = 0
    · have H := H.1 qc1
      refine ea_tswIn (pc := 11) (tgt := 48) dX12_charge_11 (by omega) (by omega) (by rw [qc1]; rfl) rfl ?_
      refine ea_aload_n (pc := 48) dX12_charge_48 rfl 0 rfl ?_
      obtain ⟨f10, g11, H⟩ := H
      refine ea_deref0 e8 ?_
      refine ea_getR (pc := 49) dX12_charge_49 ec_12 (k := 74) (Nat.le_of_ble_eq_true rfl) rfl (Or.inl ew_1419) f10 g11 rfl ?_
      refine ea_iload_n (pc := 52) dX12_charge_52 rfl 1 rfl ?_
      obtain ⟨a14, e15, f12, g13, H⟩ := H
      refine ea_deref1 e15 ?_
      obtain ⟨z16, H⟩ := H
      refine ea_iald (pc := 53) dX12_charge_53 f12 g13 z16 ?_
      obtain ⟨rfl, rfl⟩ := H
      exact ea_ireturn (pc := 54) dX12_charge_54 rfl rfl
    by_cases qc2 : Int32.toInt x2 = 1
    · have H := H.2.1 qc2
      refine ea_tswIn (pc := 11) (tgt := 55) dX12_charge_11 (by omega) (by omega) (by rw [qc2]; rfl) rfl ?_
      refine ea_aload_n (pc := 55) dX12_charge_55 rfl 0 rfl ?_
      obtain ⟨f17, g18, H⟩ := H
      refine ea_deref0 e8 ?_
      refine ea_getR (pc := 56) dX12_charge_56 ec_12 (k := 73) (Nat.le_of_ble_eq_true rfl) rfl (Or.inl ew_1418) f17 g18 rfl ?_
      refine ea_iload_n (pc := 59) dX12_charge_59 rfl 1 rfl ?_
      obtain ⟨a21, e22, f19, g20, H⟩ := H
      refine ea_deref1 e22 ?_
      obtain ⟨z23, H⟩ := H
      refine ea_iald (pc := 60) dX12_charge_60 f19 g20 z23 ?_
      obtain ⟨rfl, rfl⟩ := H
      exact ea_ireturn (pc := 61) dX12_charge_61 rfl rfl
    by_cases qc3 : Int32.toInt x2 = 2
    · have H := H.2.2.1 qc3
      refine ea_tswIn (pc := 11) (tgt := 62) dX12_charge_11 (by omega) (by omega) (by rw [qc3]; rfl) rfl ?_
      refine ea_aload_n (pc := 62) dX12_charge_62 rfl 0 rfl ?_
      obtain ⟨f24, g25, H⟩ := H
      refine ea_deref0 e8 ?_
      refine ea_getR (pc := 63) dX12_charge_63 ec_12 (k := 79) (Nat.le_of_ble_eq_true rfl) rfl (Or.inl ew_1424) f24 g25 rfl ?_
      refine ea_iload_n (pc := 66) dX12_charge_66 rfl 1 rfl ?_
      obtain ⟨a28, e29, f26, g27, H⟩ := H
      refine ea_deref1 e29 ?_
      obtain ⟨z30, H⟩ := H
      refine ea_zald (pc := 67) dX12_charge_67 f26 g27 z30 ?_
      refine ea_if_eq (pc := 68) (tgt := 75) dX12_charge_68 rfl (fun c38 => ?_) (fun c38 => ?_)
      · have H := H.1 c38
        refine ea_aload_n (pc := 75) dX12_charge_75 rfl 0 rfl ?_
        obtain ⟨f31, g32, H⟩ := H
        refine ea_deref0 e8 ?_
        refine ea_getR (pc := 76) dX12_charge_76 ec_12 (k := 75) (Nat.le_of_ble_eq_true rfl) rfl (Or.inl ew_1420) f31 g32 rfl ?_
        refine ea_iload_n (pc := 79) dX12_charge_79 rfl 1 rfl ?_
        obtain ⟨a35, e36, f33, g34, H⟩ := H
        refine ea_deref1 e36 ?_
        obtain ⟨z37, H⟩ := H
        refine ea_iald (pc := 80) dX12_charge_80 f33 g34 z37 ?_
        obtain ⟨rfl, rfl⟩ := H
        exact ea_ireturn (pc := 81) dX12_charge_81 rfl rfl
      · have H := H.2 c38
        refine ea_iconst (pc := 71) dX12_charge_71 (v := (-1)) rfl ?_
        refine ea_goto (pc := 72) (tgt := 81) dX12_charge_72 rfl ?_
        obtain ⟨rfl, rfl⟩ := H
        exact ea_ireturn (pc := 81) dX12_charge_81 rfl rfl
    by_cases qc4 : Int32.toInt x2 = 3
    · have H := H.2.2.2.1 qc4
      refine ea_tswIn (pc := 11) (tgt := 82) dX12_charge_11 (by omega) (by omega) (by rw [qc4]; rfl) rfl ?_
      refine ea_aload_n (pc := 82) dX12_charge_82 rfl 0 rfl ?_
      refine ea_iload_n (pc := 83) dX12_charge_83 rfl 1 rfl ?_
      obtain ⟨f43, g44, H⟩ := H
      refine ea_deref1 e8 ?_
      obtain ⟨d39, xc45, h40, m41, q42, H⟩ := H
      refine ea_callV (pc := 84) (As := [vI x1]) (st := []) dX12_charge_84 kX12_owed m41 q42 rfl (Nat.le_of_ble_eq_true rfl) ew_2027 ew_2029 ew_90 (ci := 12) rfl (by decide) f43 g44 ?_
      obtain ⟨rfl, rfl⟩ := H
      exact ea_ireturn (pc := 87) dX12_charge_87 rfl rfl
    by_cases qc5 : Int32.toInt x2 = 4
    · have H := H.2.2.2.2.1 qc5
      refine ea_tswIn (pc := 11) (tgt := 88) dX12_charge_11 (by omega) (by omega) (by rw [qc5]; rfl) rfl ?_
      refine ea_aload_n (pc := 88) dX12_charge_88 rfl 0 rfl ?_
      refine ea_iload_n (pc := 89) dX12_charge_89 rfl 1 rfl ?_
      obtain ⟨f50, g51, H⟩ := H
      refine ea_deref1 e8 ?_
      obtain ⟨d46, xc52, h47, m48, q49, H⟩ := H
      refine ea_callV (pc := 90) (As := [vI x1]) (st := []) dX12_charge_90 kX12_isOwed m48 q49 rfl (Nat.le_of_ble_eq_true rfl) ew_2031 ew_2033 ew_91 (ci := 12) rfl (by decide) f50 g51 ?_
      refine ea_if_eq (pc := 93) (tgt := 100) dX12_charge_93 rfl (fun c60 => ?_) (fun c60 => ?_)
      · have H := H.1 c60
        refine ea_aload_n (pc := 100) dX12_charge_100 rfl 0 rfl ?_
        obtain ⟨f53, g54, H⟩ := H
        refine ea_deref0 e8 ?_
        refine ea_getR (pc := 101) dX12_charge_101 ec_12 (k := 74) (Nat.le_of_ble_eq_true rfl) rfl (Or.inl ew_1419) f53 g54 rfl ?_
        refine ea_iload_n (pc := 104) dX12_charge_104 rfl 1 rfl ?_
        obtain ⟨a57, e58, f55, g56, H⟩ := H
        refine ea_deref1 e58 ?_
        obtain ⟨z59, H⟩ := H
        refine ea_iald (pc := 105) dX12_charge_105 f55 g56 z59 ?_
        obtain ⟨rfl, rfl⟩ := H
        exact ea_ireturn (pc := 106) dX12_charge_106 rfl rfl
      · have H := H.2 c60
        refine ea_iconst (pc := 96) dX12_charge_96 (v := 0) rfl ?_
        refine ea_goto (pc := 97) (tgt := 106) dX12_charge_97 rfl ?_
        obtain ⟨rfl, rfl⟩ := H
        exact ea_ireturn (pc := 106) dX12_charge_106 rfl rfl
    by_cases qc6 : Int32.toInt x2 = 5
    · have H := H.2.2.2.2.2.1 qc6
      refine ea_tswIn (pc := 11) (tgt := 107) dX12_charge_11 (by omega) (by omega) (by rw [qc6]; rfl) rfl ?_
      refine ea_aload_n (pc := 107) dX12_charge_107 rfl 0 rfl ?_
      obtain ⟨f61, g62, H⟩ := H
      refine ea_deref0 e8 ?_
      refine ea_getR (pc := 108) dX12_charge_108 ec_12 (k := 79) (Nat.le_of_ble_eq_true rfl) rfl (Or.inl ew_1424) f61 g62 rfl ?_
      refine ea_iload_n (pc := 111) dX12_charge_111 rfl 1 rfl ?_
      obtain ⟨a65, e66, f63, g64, H⟩ := H
      refine ea_deref1 e66 ?_
      obtain ⟨z67, H⟩ := H
      refine ea_zald (pc := 112) dX12_charge_112 f63 g64 z67 ?_
      refine ea_if_eq (pc := 113) (tgt := 120) dX12_charge_113 rfl (fun c68 => ?_) (fun c68 => ?_)
      · have H := H.1 c68
        refine ea_iconst (pc := 120) dX12_charge_120 (v := 0) rfl ?_
        obtain ⟨rfl, rfl⟩ := H
        exact ea_ireturn (pc := 121) dX12_charge_121 rfl rfl
      · have H := H.2 c68
        refine ea_iconst (pc := 116) dX12_charge_116 (v := 1) rfl ?_
        refine ea_goto (pc := 117) (tgt := 121) dX12_charge_117 rfl ?_
        obtain ⟨rfl, rfl⟩ := H
        exact ea_ireturn (pc := 121) dX12_charge_121 rfl rfl
    have qd : Int32.toInt x2 < 0 ∨ 5 < Int32.toInt x2 := by omega
    have H := H.2.2.2.2.2.2 qd
    refine ea_tswOut (pc := 11) (tgt := 122) dX12_charge_11 qd rfl ?_
    refine ea_iconst (pc := 122) dX12_charge_122 (v := (-1)) rfl ?_
    obtain ⟨rfl, rfl⟩ := H
    exact ea_ireturn (pc := 123) dX12_charge_123 rfl rfl
  · have H := H.2 c69
    refine ea_iconst (pc := 8) dX12_charge_8 (v := (-1)) rfl ?_
    obtain ⟨rfl, rfl⟩ := H
    exact ea_ireturn (pc := 9) dX12_charge_9 rfl rfl
theorem dX12_lead_0 : decode cX12_lead 0 = .ok (.aload_n 0, 1) := by decide +kernel
theorem dX12_lead_1 : decode cX12_lead 1 = .ok (.iload_n 1, 1) := by decide +kernel
theorem dX12_lead_2 : decode cX12_lead 2 = .ok (.invokevirtual 563, 3) := by decide +kernel
theorem dX12_lead_5 : decode cX12_lead 5 = .ok (.ifCond .eq 19, 3) := by decide +kernel
theorem dX12_lead_8 : decode cX12_lead 8 = .ok (.iload_n 2, 1) := by decide +kernel
theorem dX12_lead_9 : decode cX12_lead 9 = .ok (.iconst 0, 1) := by decide +kernel
theorem dX12_lead_10 : decode cX12_lead 10 = .ok (.aload_n 0, 1) := by decide +kernel
theorem dX12_lead_11 : decode cX12_lead 11 = .ok (.getfield 162, 3) := by decide +kernel
theorem dX12_lead_14 : decode cX12_lead 14 = .ok (.iload_n 1, 1) := by decide +kernel
theorem dX12_lead_15 : decode cX12_lead 15 = .ok (.iaload, 1) := by decide +kernel
theorem dX12_lead_16 : decode cX12_lead 16 = .ok (.iconst 1, 1) := by decide +kernel
theorem dX12_lead_17 : decode cX12_lead 17 = .ok (.isub, 1) := by decide +kernel
theorem dX12_lead_18 : decode cX12_lead 18 = .ok (.invokestatic 286, 3) := by decide +kernel
theorem dX12_lead_21 : decode cX12_lead 21 = .ok (.ifCond .ne 5, 3) := by decide +kernel
theorem dX12_lead_24 : decode cX12_lead 24 = .ok (.iconst (-1), 1) := by decide +kernel
theorem dX12_lead_25 : decode cX12_lead 25 = .ok (.ireturn, 1) := by decide +kernel
theorem dX12_lead_26 : decode cX12_lead 26 = .ok (.sipush 1000, 3) := by decide +kernel
theorem dX12_lead_29 : decode cX12_lead 29 = .ok (.iload_n 1, 1) := by decide +kernel
theorem dX12_lead_30 : decode cX12_lead 30 = .ok (.imul, 1) := by decide +kernel
theorem dX12_lead_31 : decode cX12_lead 31 = .ok (.iload_n 2, 1) := by decide +kernel
theorem dX12_lead_32 : decode cX12_lead 32 = .ok (.iadd, 1) := by decide +kernel
theorem dX12_lead_33 : decode cX12_lead 33 = .ok (.istore 4, 2) := by decide +kernel
theorem dX12_lead_35 : decode cX12_lead 35 = .ok (.iload_n 3, 1) := by decide +kernel
theorem dX12_lead_36 : decode cX12_lead 36 = .ok (.ifCond .ne 13, 3) := by decide +kernel
theorem dX12_lead_39 : decode cX12_lead 39 = .ok (.aload_n 0, 1) := by decide +kernel
theorem dX12_lead_40 : decode cX12_lead 40 = .ok (.getfield 199, 3) := by decide +kernel
theorem dX12_lead_43 : decode cX12_lead 43 = .ok (.iload 4, 2) := by decide +kernel
theorem dX12_lead_45 : decode cX12_lead 45 = .ok (.iaload, 1) := by decide +kernel
theorem dX12_lead_46 : decode cX12_lead 46 = .ok (.goto 34, 3) := by decide +kernel
theorem dX12_lead_49 : decode cX12_lead 49 = .ok (.iload_n 3, 1) := by decide +kernel
theorem dX12_lead_50 : decode cX12_lead 50 = .ok (.iconst 1, 1) := by decide +kernel
theorem dX12_lead_51 : decode cX12_lead 51 = .ok (.if_icmp .ne 13, 3) := by decide +kernel
theorem dX12_lead_54 : decode cX12_lead 54 = .ok (.aload_n 0, 1) := by decide +kernel
theorem dX12_lead_55 : decode cX12_lead 55 = .ok (.getfield 202, 3) := by decide +kernel
theorem dX12_lead_58 : decode cX12_lead 58 = .ok (.iload 4, 2) := by decide +kernel
theorem dX12_lead_60 : decode cX12_lead 60 = .ok (.iaload, 1) := by decide +kernel
theorem dX12_lead_61 : decode cX12_lead 61 = .ok (.goto 19, 3) := by decide +kernel
theorem dX12_lead_64 : decode cX12_lead 64 = .ok (.iload_n 3, 1) := by decide +kernel
theorem dX12_lead_65 : decode cX12_lead 65 = .ok (.iconst 2, 1) := by decide +kernel
theorem dX12_lead_66 : decode cX12_lead 66 = .ok (.if_icmp .ne 13, 3) := by decide +kernel
theorem dX12_lead_69 : decode cX12_lead 69 = .ok (.aload_n 0, 1) := by decide +kernel
theorem dX12_lead_70 : decode cX12_lead 70 = .ok (.getfield 205, 3) := by decide +kernel
theorem dX12_lead_73 : decode cX12_lead 73 = .ok (.iload 4, 2) := by decide +kernel
theorem dX12_lead_75 : decode cX12_lead 75 = .ok (.iaload, 1) := by decide +kernel
theorem dX12_lead_76 : decode cX12_lead 76 = .ok (.goto 4, 3) := by decide +kernel
theorem dX12_lead_79 : decode cX12_lead 79 = .ok (.iconst (-1), 1) := by decide +kernel
theorem dX12_lead_80 : decode cX12_lead 80 = .ok (.ireturn, 1) := by decide +kernel
theorem bX12_lead_0 {d : Nat} {h0 hE h : ea_H} {rv : Option ea_V} {r0 : Option Nat} {x1 : Int32} {x2 : Int32} {x3 : Int32} (H : ∃ a7, r0 = some a7 ∧ a7 < ea_n h ∧ ea_c h a7 = 12 ∧ ∃ (d1 : Nat) (xc9 : Int32) (h2 : ea_H), ea_Met mX12_isLetterOf d1 [vR (some a7), vI x1] h (some (vI xc9)) h2 ∧ d1 + 1 ≤ d ∧ (xc9 = (0 : Int32) → rv = some (vI (-1)) ∧ hE = h2) ∧ (¬ xc9 = (0 : Int32) → a7 < ea_n h2 ∧ ea_c h2 a7 = 12 ∧ ∃ a14, (ea_r h2 a7 76) = some a14 ∧ a14 < ea_n h2 ∧ ea_c h2 a14 = 20 ∧ vp_in x1 (ea_l h2 a14) ∧ ∃ (d17 : Nat) (xc21 : Int32) (h18 : ea_H), ea_Met mX12_isIn d17 [vI x2, vI 0, vI ((ea_i h2 a14 (Int32.toNatClampNeg x1)) - (1 : Int32))] h2 (some (vI xc21)) h18 ∧ d17 + 1 ≤ d ∧ (¬ xc21 = (0 : Int32) → (¬ x3 = (0 : Int32) → (¬ x3 = (1 : Int32) → (¬ x3 = (2 : Int32) → rv = some (vI (-1)) ∧ hE = h18) ∧ (x3 = (2 : Int32) → a7 < ea_n h18 ∧ ea_c h18 a7 = 12 ∧ ∃ a26, (ea_r h18 a7 90) = some a26 ∧ a26 < ea_n h18 ∧ ea_c h18 a26 = 20 ∧ vp_in (((1000 : Int32) * x1) + x2) (ea_l h18 a26) ∧ rv = some (vI (ea_i h18 a26 (Int32.toNatClampNeg (((1000 : Int32) * x1) + x2)))) ∧ hE = h18)) ∧ (x3 = (1 : Int32) → a7 < ea_n h18 ∧ ea_c h18 a7 = 12 ∧ ∃ a34, (ea_r h18 a7 89) = some a34 ∧ a34 < ea_n h18 ∧ ea_c h18 a34 = 20 ∧ vp_in (((1000 : Int32) * x1) + x2) (ea_l h18 a34) ∧ rv = some (vI (ea_i h18 a34 (Int32.toNatClampNeg (((1000 : Int32) * x1) + x2)))) ∧ hE = h18)) ∧ (x3 = (0 : Int32) → a7 < ea_n h18 ∧ ea_c h18 a7 = 12 ∧ ∃ a42, (ea_r h18 a7 88) = some a42 ∧ a42 < ea_n h18 ∧ ea_c h18 a42 = 20 ∧ vp_in (((1000 : Int32) * x1) + x2) (ea_l h18 a42) ∧ rv = some (vI (ea_i h18 a42 (Int32.toNatClampNeg (((1000 : Int32) * x1) + x2)))) ∧ hE = h18)) ∧ (xc21 = (0 : Int32) → rv = some (vI (-1)) ∧ hE = h18))) : ea_W mX12_lead d h0 rv hE 0 [(0, vR r0), (1, vI x1), (2, vI x2), (3, vI x3)] [] h := by
  refine ea_aload_n (pc := 0) dX12_lead_0 rfl 0 rfl ?_
  refine ea_iload_n (pc := 1) dX12_lead_1 rfl 1 rfl ?_
  obtain ⟨a7, e8, f5, g6, H⟩ := H
  refine ea_deref1 e8 ?_
  obtain ⟨d1, xc9, h2, m3, q4, H⟩ := H
  refine ea_callV (pc := 2) (As := [vI x1]) (st := []) dX12_lead_2 kX12_isLetterOf m3 q4 rfl (Nat.le_of_ble_eq_true rfl) ew_2019 ew_2021 ew_89 (ci := 12) rfl (by decide) f5 g6 ?_
  refine ea_if_eq (pc := 5) (tgt := 24) dX12_lead_5 rfl (fun c47 => ?_) (fun c47 => ?_)
  · have H := H.1 c47
    refine ea_iconst (pc := 24) dX12_lead_24 (v := (-1)) rfl ?_
    obtain ⟨rfl, rfl⟩ := H
    exact ea_ireturn (pc := 25) dX12_lead_25 rfl rfl
  · have H := H.2 c47
    refine ea_iload_n (pc := 8) dX12_lead_8 rfl 2 rfl ?_
    refine ea_iconst (pc := 9) dX12_lead_9 (v := 0) rfl ?_
    refine ea_aload_n (pc := 10) dX12_lead_10 rfl 0 rfl ?_
    obtain ⟨f10, g11, H⟩ := H
    refine ea_deref0 e8 ?_
    refine ea_getR (pc := 11) dX12_lead_11 ec_12 (k := 76) (Nat.le_of_ble_eq_true rfl) rfl (Or.inl ew_1421) f10 g11 rfl ?_
    refine ea_iload_n (pc := 14) dX12_lead_14 rfl 1 rfl ?_
    obtain ⟨a14, e15, f12, g13, H⟩ := H
    refine ea_deref1 e15 ?_
    obtain ⟨z16, H⟩ := H
    refine ea_iald (pc := 15) dX12_lead_15 f12 g13 z16 ?_
    refine ea_iconst (pc := 16) dX12_lead_16 (v := 1) rfl ?_
    refine ea_isub (pc := 17) dX12_lead_17 ?_
    obtain ⟨d17, xc21, h18, m19, q20, H⟩ := H
    refine ea_callS (pc := 18) (As := [vI x2, vI 0, vI ((ea_i h2 a14 (Int32.toNatClampNeg x1)) - (1 : Int32))]) (st := []) dX12_lead_18 kX12_isIn m19 q20 rfl (Nat.le_of_ble_eq_true rfl) ew_1712 ew_1713 ?_
    refine ea_if_ne (pc := 21) (tgt := 26) dX12_lead_21 rfl (fun c46 => ?_) (fun c46 => ?_)
    · have H := H.1 c46
      refine ea_sipush (pc := 26) dX12_lead_26 (v := 1000) rfl ?_
      refine ea_iload_n (pc := 29) dX12_lead_29 rfl 1 rfl ?_
      refine ea_imul (pc := 30) dX12_lead_30 ?_
      refine ea_iload_n (pc := 31) dX12_lead_31 rfl 2 rfl ?_
      refine ea_iadd (pc := 32) dX12_lead_32 ?_
      refine ea_istore (pc := 33) (lv' := [(0, vR r0), (3, vI x3), (4, vI (((1000 : Int32) * x1) + x2))]) dX12_lead_33 (Nat.le_of_ble_eq_true rfl) [1, 4, 0] rfl ?_
      refine ea_iload_n (pc := 35) dX12_lead_35 rfl 1 rfl ?_
      refine ea_if_ne (pc := 36) (tgt := 49) dX12_lead_36 rfl (fun c45 => ?_) (fun c45 => ?_)
      · have H := H.1 c45
        refine ea_iload_n (pc := 49) dX12_lead_49 rfl 1 rfl ?_
        refine ea_iconst (pc := 50) dX12_lead_50 (v := 1) rfl ?_
        refine ea_icmp_ne (pc := 51) (tgt := 64) dX12_lead_51 rfl (fun c37 => ?_) (fun c37 => ?_)
        · have H := H.1 c37
          refine ea_iload_n (pc := 64) dX12_lead_64 rfl 1 rfl ?_
          refine ea_iconst (pc := 65) dX12_lead_65 (v := 2) rfl ?_
          refine ea_icmp_ne (pc := 66) (tgt := 79) dX12_lead_66 rfl (fun c29 => ?_) (fun c29 => ?_)
          · have H := H.1 c29
            refine ea_iconst (pc := 79) dX12_lead_79 (v := (-1)) rfl ?_
            obtain ⟨rfl, rfl⟩ := H
            exact ea_ireturn (pc := 80) dX12_lead_80 rfl rfl
          · have H := H.2 c29
            refine ea_aload_n (pc := 69) dX12_lead_69 rfl 0 rfl ?_
            obtain ⟨f22, g23, H⟩ := H
            refine ea_deref0 e8 ?_
            refine ea_getR (pc := 70) dX12_lead_70 ec_12 (k := 90) (Nat.le_of_ble_eq_true rfl) rfl (Or.inl ew_1435) f22 g23 rfl ?_
            refine ea_iload (pc := 73) dX12_lead_73 2 rfl ?_
            obtain ⟨a26, e27, f24, g25, H⟩ := H
            refine ea_deref1 e27 ?_
            obtain ⟨z28, H⟩ := H
            refine ea_iald (pc := 75) dX12_lead_75 f24 g25 z28 ?_
            refine ea_goto (pc := 76) (tgt := 80) dX12_lead_76 rfl ?_
            obtain ⟨rfl, rfl⟩ := H
            exact ea_ireturn (pc := 80) dX12_lead_80 rfl rfl
        · have H := H.2 c37
          refine ea_aload_n (pc := 54) dX12_lead_54 rfl 0 rfl ?_
          obtain ⟨f30, g31, H⟩ := H
          refine ea_deref0 e8 ?_
          refine ea_getR (pc := 55) dX12_lead_55 ec_12 (k := 89) (Nat.le_of_ble_eq_true rfl) rfl (Or.inl ew_1434) f30 g31 rfl ?_
          refine ea_iload (pc := 58) dX12_lead_58 2 rfl ?_
          obtain ⟨a34, e35, f32, g33, H⟩ := H
          refine ea_deref1 e35 ?_
          obtain ⟨z36, H⟩ := H
          refine ea_iald (pc := 60) dX12_lead_60 f32 g33 z36 ?_
          refine ea_goto (pc := 61) (tgt := 80) dX12_lead_61 rfl ?_
          obtain ⟨rfl, rfl⟩ := H
          exact ea_ireturn (pc := 80) dX12_lead_80 rfl rfl
      · have H := H.2 c45
        refine ea_aload_n (pc := 39) dX12_lead_39 rfl 0 rfl ?_
        obtain ⟨f38, g39, H⟩ := H
        refine ea_deref0 e8 ?_
        refine ea_getR (pc := 40) dX12_lead_40 ec_12 (k := 88) (Nat.le_of_ble_eq_true rfl) rfl (Or.inl ew_1433) f38 g39 rfl ?_
        refine ea_iload (pc := 43) dX12_lead_43 2 rfl ?_
        obtain ⟨a42, e43, f40, g41, H⟩ := H
        refine ea_deref1 e43 ?_
        obtain ⟨z44, H⟩ := H
        refine ea_iald (pc := 45) dX12_lead_45 f40 g41 z44 ?_
        refine ea_goto (pc := 46) (tgt := 80) dX12_lead_46 rfl ?_
        obtain ⟨rfl, rfl⟩ := H
        exact ea_ireturn (pc := 80) dX12_lead_80 rfl rfl
    · have H := H.2 c46
      refine ea_iconst (pc := 24) dX12_lead_24 (v := (-1)) rfl ?_
      obtain ⟨rfl, rfl⟩ := H
      exact ea_ireturn (pc := 25) dX12_lead_25 rfl rfl
theorem dX12_where_0 : decode cX12_where 0 = .ok (.aload_n 0, 1) := by decide +kernel
theorem dX12_where_1 : decode cX12_where 1 = .ok (.iload_n 1, 1) := by decide +kernel
theorem dX12_where_2 : decode cX12_where 2 = .ok (.invokevirtual 563, 3) := by decide +kernel
theorem dX12_where_5 : decode cX12_where 5 = .ok (.ifCond .eq 29, 3) := by decide +kernel
theorem dX12_where_8 : decode cX12_where 8 = .ok (.iload_n 2, 1) := by decide +kernel
theorem dX12_where_9 : decode cX12_where 9 = .ok (.aload_n 0, 1) := by decide +kernel
theorem dX12_where_10 : decode cX12_where 10 = .ok (.getfield 144, 3) := by decide +kernel
theorem dX12_where_13 : decode cX12_where 13 = .ok (.iload_n 1, 1) := by decide +kernel
theorem dX12_where_14 : decode cX12_where 14 = .ok (.iaload, 1) := by decide +kernel
theorem dX12_where_15 : decode cX12_where 15 = .ok (.aload_n 0, 1) := by decide +kernel
theorem dX12_where_16 : decode cX12_where 16 = .ok (.getfield 313, 3) := by decide +kernel
theorem dX12_where_19 : decode cX12_where 19 = .ok (.invokestatic 286, 3) := by decide +kernel
theorem dX12_where_22 : decode cX12_where 22 = .ok (.ifCond .eq 12, 3) := by decide +kernel
theorem dX12_where_25 : decode cX12_where 25 = .ok (.iload_n 3, 1) := by decide +kernel
theorem dX12_where_26 : decode cX12_where 26 = .ok (.iconst 0, 1) := by decide +kernel
theorem dX12_where_27 : decode cX12_where 27 = .ok (.iconst 1, 1) := by decide +kernel
theorem dX12_where_28 : decode cX12_where 28 = .ok (.invokestatic 286, 3) := by decide +kernel
theorem dX12_where_31 : decode cX12_where 31 = .ok (.ifCond .ne 5, 3) := by decide +kernel
theorem dX12_where_34 : decode cX12_where 34 = .ok (.iconst (-1), 1) := by decide +kernel
theorem dX12_where_35 : decode cX12_where 35 = .ok (.ireturn, 1) := by decide +kernel
theorem dX12_where_36 : decode cX12_where 36 = .ok (.aload_n 0, 1) := by decide +kernel
theorem dX12_where_37 : decode cX12_where 37 = .ok (.getfield 162, 3) := by decide +kernel
theorem dX12_where_40 : decode cX12_where 40 = .ok (.iload_n 1, 1) := by decide +kernel
theorem dX12_where_41 : decode cX12_where 41 = .ok (.iaload, 1) := by decide +kernel
theorem dX12_where_42 : decode cX12_where 42 = .ok (.iconst 1, 1) := by decide +kernel
theorem dX12_where_43 : decode cX12_where 43 = .ok (.isub, 1) := by decide +kernel
theorem dX12_where_44 : decode cX12_where 44 = .ok (.istore 4, 2) := by decide +kernel
theorem dX12_where_46 : decode cX12_where 46 = .ok (.aload_n 0, 1) := by decide +kernel
theorem dX12_where_47 : decode cX12_where 47 = .ok (.getfield 199, 3) := by decide +kernel
theorem dX12_where_50 : decode cX12_where 50 = .ok (.sipush 1000, 3) := by decide +kernel
theorem dX12_where_53 : decode cX12_where 53 = .ok (.iload_n 1, 1) := by decide +kernel
theorem dX12_where_54 : decode cX12_where 54 = .ok (.imul, 1) := by decide +kernel
theorem dX12_where_55 : decode cX12_where 55 = .ok (.iload 4, 2) := by decide +kernel
theorem dX12_where_57 : decode cX12_where 57 = .ok (.iadd, 1) := by decide +kernel
theorem dX12_where_58 : decode cX12_where 58 = .ok (.iaload, 1) := by decide +kernel
theorem dX12_where_59 : decode cX12_where 59 = .ok (.iload_n 2, 1) := by decide +kernel
theorem dX12_where_60 : decode cX12_where 60 = .ok (.if_icmp .le 9, 3) := by decide +kernel
theorem dX12_where_63 : decode cX12_where 63 = .ok (.iinc 4 (-1), 3) := by decide +kernel
theorem dX12_where_66 : decode cX12_where 66 = .ok (.goto (-20), 3) := by decide +kernel
theorem dX12_where_69 : decode cX12_where 69 = .ok (.iload_n 3, 1) := by decide +kernel
theorem dX12_where_70 : decode cX12_where 70 = .ok (.ifCond .ne 19, 3) := by decide +kernel
theorem dX12_where_73 : decode cX12_where 73 = .ok (.aload_n 0, 1) := by decide +kernel
theorem dX12_where_74 : decode cX12_where 74 = .ok (.getfield 202, 3) := by decide +kernel
theorem dX12_where_77 : decode cX12_where 77 = .ok (.sipush 1000, 3) := by decide +kernel
theorem dX12_where_80 : decode cX12_where 80 = .ok (.iload_n 1, 1) := by decide +kernel
theorem dX12_where_81 : decode cX12_where 81 = .ok (.imul, 1) := by decide +kernel
theorem dX12_where_82 : decode cX12_where 82 = .ok (.iload 4, 2) := by decide +kernel
theorem dX12_where_84 : decode cX12_where 84 = .ok (.iadd, 1) := by decide +kernel
theorem dX12_where_85 : decode cX12_where 85 = .ok (.iaload, 1) := by decide +kernel
theorem dX12_where_86 : decode cX12_where 86 = .ok (.goto 16, 3) := by decide +kernel
theorem dX12_where_89 : decode cX12_where 89 = .ok (.aload_n 0, 1) := by decide +kernel
theorem dX12_where_90 : decode cX12_where 90 = .ok (.getfield 205, 3) := by decide +kernel
theorem dX12_where_93 : decode cX12_where 93 = .ok (.sipush 1000, 3) := by decide +kernel
theorem dX12_where_96 : decode cX12_where 96 = .ok (.iload_n 1, 1) := by decide +kernel
theorem dX12_where_97 : decode cX12_where 97 = .ok (.imul, 1) := by decide +kernel
theorem dX12_where_98 : decode cX12_where 98 = .ok (.iload 4, 2) := by decide +kernel
theorem dX12_where_100 : decode cX12_where 100 = .ok (.iadd, 1) := by decide +kernel
theorem dX12_where_101 : decode cX12_where 101 = .ok (.iaload, 1) := by decide +kernel
theorem dX12_where_102 : decode cX12_where 102 = .ok (.ireturn, 1) := by decide +kernel
theorem bX12_where_0 {d : Nat} {h0 hE h : ea_H} {rv : Option ea_V} {r0 : Option Nat} {x1 : Int32} {x2 : Int32} {x3 : Int32} (H : ∃ a7, r0 = some a7 ∧ a7 < ea_n h ∧ ea_c h a7 = 12 ∧ ∃ (d1 : Nat) (xc9 : Int32) (h2 : ea_H), ea_Met mX12_isLetterOf d1 [vR (some a7), vI x1] h (some (vI xc9)) h2 ∧ d1 + 1 ≤ d ∧ (xc9 = (0 : Int32) → rv = some (vI (-1)) ∧ hE = h2) ∧ (¬ xc9 = (0 : Int32) → a7 < ea_n h2 ∧ ea_c h2 a7 = 12 ∧ ∃ a14, (ea_r h2 a7 70) = some a14 ∧ a14 < ea_n h2 ∧ ea_c h2 a14 = 20 ∧ vp_in x1 (ea_l h2 a14) ∧ a7 < ea_n h2 ∧ ea_c h2 a7 = 12 ∧ ∃ (d19 : Nat) (xc23 : Int32) (h20 : ea_H), ea_Met mX12_isIn d19 [vI x2, vI (ea_i h2 a14 (Int32.toNatClampNeg x1)), vI (ea_i h2 a7 0)] h2 (some (vI xc23)) h20 ∧ d19 + 1 ≤ d ∧ (xc23 = (0 : Int32) → rv = some (vI (-1)) ∧ hE = h20) ∧ (¬ xc23 = (0 : Int32) → ∃ (d24 : Nat) (xc28 : Int32) (h25 : ea_H), ea_Met mX12_isIn d24 [vI x3, vI 0, vI 1] h20 (some (vI xc28)) h25 ∧ d24 + 1 ≤ d ∧ (¬ xc28 = (0 : Int32) → a7 < ea_n h25 ∧ ea_c h25 a7 = 12 ∧ ∃ a33, (ea_r h25 a7 76) = some a33 ∧ a33 < ea_n h25 ∧ ea_c h25 a33 = 20 ∧ vp_in x1 (ea_l h25 a33) ∧ ea_W mX12_where d h0 rv hE 46 [(0, vR r0), (1, vI x1), (2, vI x2), (3, vI x3), (4, vI ((ea_i h25 a33 (Int32.toNatClampNeg x1)) - (1 : Int32)))] [] h25) ∧ (xc28 = (0 : Int32) → rv = some (vI (-1)) ∧ hE = h25)))) : ea_W mX12_where d h0 rv hE 0 [(0, vR r0), (1, vI x1), (2, vI x2), (3, vI x3)] [] h := by
  refine ea_aload_n (pc := 0) dX12_where_0 rfl 0 rfl ?_
  refine ea_iload_n (pc := 1) dX12_where_1 rfl 1 rfl ?_
  obtain ⟨a7, e8, f5, g6, H⟩ := H
  refine ea_deref1 e8 ?_
  obtain ⟨d1, xc9, h2, m3, q4, H⟩ := H
  refine ea_callV (pc := 2) (As := [vI x1]) (st := []) dX12_where_2 kX12_isLetterOf m3 q4 rfl (Nat.le_of_ble_eq_true rfl) ew_2019 ew_2021 ew_89 (ci := 12) rfl (by decide) f5 g6 ?_
  refine ea_if_eq (pc := 5) (tgt := 34) dX12_where_5 rfl (fun c38 => ?_) (fun c38 => ?_)
  · have H := H.1 c38
    refine ea_iconst (pc := 34) dX12_where_34 (v := (-1)) rfl ?_
    obtain ⟨rfl, rfl⟩ := H
    exact ea_ireturn (pc := 35) dX12_where_35 rfl rfl
  · have H := H.2 c38
    refine ea_iload_n (pc := 8) dX12_where_8 rfl 2 rfl ?_
    refine ea_aload_n (pc := 9) dX12_where_9 rfl 0 rfl ?_
    obtain ⟨f10, g11, H⟩ := H
    refine ea_deref0 e8 ?_
    refine ea_getR (pc := 10) dX12_where_10 ec_12 (k := 70) (Nat.le_of_ble_eq_true rfl) rfl (Or.inl ew_1415) f10 g11 rfl ?_
    refine ea_iload_n (pc := 13) dX12_where_13 rfl 1 rfl ?_
    obtain ⟨a14, e15, f12, g13, H⟩ := H
    refine ea_deref1 e15 ?_
    obtain ⟨z16, H⟩ := H
    refine ea_iald (pc := 14) dX12_where_14 f12 g13 z16 ?_
    refine ea_aload_n (pc := 15) dX12_where_15 rfl 0 rfl ?_
    obtain ⟨f17, g18, H⟩ := H
    refine ea_deref0 e8 ?_
    refine ea_getI (pc := 16) dX12_where_16 ec_12 (k := 0) (Nat.le_of_ble_eq_true rfl) rfl (Or.inl ew_1345) f17 g18 ?_
    obtain ⟨d19, xc23, h20, m21, q22, H⟩ := H
    refine ea_callS (pc := 19) (As := [vI x2, vI (ea_i h2 a14 (Int32.toNatClampNeg x1)), vI (ea_i h2 a7 0)]) (st := []) dX12_where_19 kX12_isIn m21 q22 rfl (Nat.le_of_ble_eq_true rfl) ew_1712 ew_1713 ?_
    refine ea_if_eq (pc := 22) (tgt := 34) dX12_where_22 rfl (fun c37 => ?_) (fun c37 => ?_)
    · have H := H.1 c37
      refine ea_iconst (pc := 34) dX12_where_34 (v := (-1)) rfl ?_
      obtain ⟨rfl, rfl⟩ := H
      exact ea_ireturn (pc := 35) dX12_where_35 rfl rfl
    · have H := H.2 c37
      refine ea_iload_n (pc := 25) dX12_where_25 rfl 3 rfl ?_
      refine ea_iconst (pc := 26) dX12_where_26 (v := 0) rfl ?_
      refine ea_iconst (pc := 27) dX12_where_27 (v := 1) rfl ?_
      obtain ⟨d24, xc28, h25, m26, q27, H⟩ := H
      refine ea_callS (pc := 28) (As := [vI x3, vI 0, vI 1]) (st := []) dX12_where_28 kX12_isIn m26 q27 rfl (Nat.le_of_ble_eq_true rfl) ew_1712 ew_1713 ?_
      refine ea_if_ne (pc := 31) (tgt := 36) dX12_where_31 rfl (fun c36 => ?_) (fun c36 => ?_)
      · have H := H.1 c36
        refine ea_aload_n (pc := 36) dX12_where_36 rfl 0 rfl ?_
        obtain ⟨f29, g30, H⟩ := H
        refine ea_deref0 e8 ?_
        refine ea_getR (pc := 37) dX12_where_37 ec_12 (k := 76) (Nat.le_of_ble_eq_true rfl) rfl (Or.inl ew_1421) f29 g30 rfl ?_
        refine ea_iload_n (pc := 40) dX12_where_40 rfl 1 rfl ?_
        obtain ⟨a33, e34, f31, g32, H⟩ := H
        refine ea_deref1 e34 ?_
        obtain ⟨z35, H⟩ := H
        refine ea_iald (pc := 41) dX12_where_41 f31 g32 z35 ?_
        refine ea_iconst (pc := 42) dX12_where_42 (v := 1) rfl ?_
        refine ea_isub (pc := 43) dX12_where_43 ?_
        refine ea_istore (pc := 44) (lv' := [(0, vR r0), (1, vI x1), (2, vI x2), (3, vI x3), (4, vI ((ea_i h25 a33 (Int32.toNatClampNeg x1)) - (1 : Int32)))]) dX12_where_44 (Nat.le_of_ble_eq_true rfl) [1, 2, 3, 4, 0] rfl ?_
        exact H
      · have H := H.2 c36
        refine ea_iconst (pc := 34) dX12_where_34 (v := (-1)) rfl ?_
        obtain ⟨rfl, rfl⟩ := H
        exact ea_ireturn (pc := 35) dX12_where_35 rfl rfl
theorem bX12_where_46 {d : Nat} {h0 hE h : ea_H} {rv : Option ea_V} {r0 : Option Nat} {x1 : Int32} {x2 : Int32} {x3 : Int32} {x4 : Int32} (H : ∃ a3, r0 = some a3 ∧ a3 < ea_n h ∧ ea_c h a3 = 12 ∧ ∃ a7, (ea_r h a3 88) = some a7 ∧ a7 < ea_n h ∧ ea_c h a7 = 20 ∧ vp_in (((1000 : Int32) * x1) + x4) (ea_l h a7) ∧ ((ea_i h a7 (Int32.toNatClampNeg (((1000 : Int32) * x1) + x4))) ≤ x2 → (¬ x3 = (0 : Int32) → a3 < ea_n h ∧ ea_c h a3 = 12 ∧ ∃ a14, (ea_r h a3 90) = some a14 ∧ a14 < ea_n h ∧ ea_c h a14 = 20 ∧ vp_in (((1000 : Int32) * x1) + x4) (ea_l h a14) ∧ rv = some (vI (ea_i h a14 (Int32.toNatClampNeg (((1000 : Int32) * x1) + x4)))) ∧ hE = h) ∧ (x3 = (0 : Int32) → a3 < ea_n h ∧ ea_c h a3 = 12 ∧ ∃ a21, (ea_r h a3 89) = some a21 ∧ a21 < ea_n h ∧ ea_c h a21 = 20 ∧ vp_in (((1000 : Int32) * x1) + x4) (ea_l h a21) ∧ rv = some (vI (ea_i h a21 (Int32.toNatClampNeg (((1000 : Int32) * x1) + x4)))) ∧ hE = h)) ∧ (¬ (ea_i h a7 (Int32.toNatClampNeg (((1000 : Int32) * x1) + x4))) ≤ x2 → ea_W mX12_where d h0 rv hE 46 [(0, vR r0), (1, vI x1), (2, vI x2), (3, vI x3), (4, vI (x4 + (-1)))] [] h)) : ea_W mX12_where d h0 rv hE 46 [(0, vR r0), (1, vI x1), (2, vI x2), (3, vI x3), (4, vI x4)] [] h := by
  refine ea_aload_n (pc := 46) dX12_where_46 rfl 0 rfl ?_
  obtain ⟨a3, e4, f1, g2, H⟩ := H
  refine ea_deref0 e4 ?_
  refine ea_getR (pc := 47) dX12_where_47 ec_12 (k := 88) (Nat.le_of_ble_eq_true rfl) rfl (Or.inl ew_1433) f1 g2 rfl ?_
  refine ea_sipush (pc := 50) dX12_where_50 (v := 1000) rfl ?_
  refine ea_iload_n (pc := 53) dX12_where_53 rfl 1 rfl ?_
  refine ea_imul (pc := 54) dX12_where_54 ?_
  refine ea_iload (pc := 55) dX12_where_55 4 rfl ?_
  refine ea_iadd (pc := 57) dX12_where_57 ?_
  obtain ⟨a7, e8, f5, g6, H⟩ := H
  refine ea_deref1 e8 ?_
  obtain ⟨z9, H⟩ := H
  refine ea_iald (pc := 58) dX12_where_58 f5 g6 z9 ?_
  refine ea_iload_n (pc := 59) dX12_where_59 rfl 2 rfl ?_
  refine ea_icmp_le (pc := 60) (tgt := 69) dX12_where_60 rfl (fun c25 => ?_) (fun c25 => ?_)
  · have H := H.1 c25
    refine ea_iload_n (pc := 69) dX12_where_69 rfl 3 rfl ?_
    refine ea_if_ne (pc := 70) (tgt := 89) dX12_where_70 rfl (fun c24 => ?_) (fun c24 => ?_)
    · have H := H.1 c24
      refine ea_aload_n (pc := 89) dX12_where_89 rfl 0 rfl ?_
      obtain ⟨f10, g11, H⟩ := H
      refine ea_deref0 e4 ?_
      refine ea_getR (pc := 90) dX12_where_90 ec_12 (k := 90) (Nat.le_of_ble_eq_true rfl) rfl (Or.inl ew_1435) f10 g11 rfl ?_
      refine ea_sipush (pc := 93) dX12_where_93 (v := 1000) rfl ?_
      refine ea_iload_n (pc := 96) dX12_where_96 rfl 1 rfl ?_
      refine ea_imul (pc := 97) dX12_where_97 ?_
      refine ea_iload (pc := 98) dX12_where_98 4 rfl ?_
      refine ea_iadd (pc := 100) dX12_where_100 ?_
      obtain ⟨a14, e15, f12, g13, H⟩ := H
      refine ea_deref1 e15 ?_
      obtain ⟨z16, H⟩ := H
      refine ea_iald (pc := 101) dX12_where_101 f12 g13 z16 ?_
      obtain ⟨rfl, rfl⟩ := H
      exact ea_ireturn (pc := 102) dX12_where_102 rfl rfl
    · have H := H.2 c24
      refine ea_aload_n (pc := 73) dX12_where_73 rfl 0 rfl ?_
      obtain ⟨f17, g18, H⟩ := H
      refine ea_deref0 e4 ?_
      refine ea_getR (pc := 74) dX12_where_74 ec_12 (k := 89) (Nat.le_of_ble_eq_true rfl) rfl (Or.inl ew_1434) f17 g18 rfl ?_
      refine ea_sipush (pc := 77) dX12_where_77 (v := 1000) rfl ?_
      refine ea_iload_n (pc := 80) dX12_where_80 rfl 1 rfl ?_
      refine ea_imul (pc := 81) dX12_where_81 ?_
      refine ea_iload (pc := 82) dX12_where_82 4 rfl ?_
      refine ea_iadd (pc := 84) dX12_where_84 ?_
      obtain ⟨a21, e22, f19, g20, H⟩ := H
      refine ea_deref1 e22 ?_
      obtain ⟨z23, H⟩ := H
      refine ea_iald (pc := 85) dX12_where_85 f19 g20 z23 ?_
      refine ea_goto (pc := 86) (tgt := 102) dX12_where_86 rfl ?_
      obtain ⟨rfl, rfl⟩ := H
      exact ea_ireturn (pc := 102) dX12_where_102 rfl rfl
  · have H := H.2 c25
    refine ea_iinc (pc := 63) (v := (-1)) (lv' := [(0, vR r0), (1, vI x1), (2, vI x2), (3, vI x3), (4, vI (x4 + (-1)))]) dX12_where_63 4 rfl rfl (Nat.le_of_ble_eq_true rfl) [1, 2, 3, 4, 0] rfl ?_
    refine ea_goto (pc := 66) (tgt := 46) dX12_where_66 rfl ?_
    exact H
theorem dX12_sorter_0 : decode cX12_sorter 0 = .ok (.iload_n 1, 1) := by decide +kernel
theorem dX12_sorter_1 : decode cX12_sorter 1 = .ok (.iconst 1, 1) := by decide +kernel
theorem dX12_sorter_2 : decode cX12_sorter 2 = .ok (.bipush 99, 2) := by decide +kernel
theorem dX12_sorter_4 : decode cX12_sorter 4 = .ok (.invokestatic 286, 3) := by decide +kernel
theorem dX12_sorter_7 : decode cX12_sorter 7 = .ok (.ifCond .eq 23, 3) := by decide +kernel
theorem dX12_sorter_10 : decode cX12_sorter 10 = .ok (.iload_n 2, 1) := by decide +kernel
theorem dX12_sorter_11 : decode cX12_sorter 11 = .ok (.iconst 0, 1) := by decide +kernel
theorem dX12_sorter_12 : decode cX12_sorter 12 = .ok (.sipush 4095, 3) := by decide +kernel
theorem dX12_sorter_15 : decode cX12_sorter 15 = .ok (.invokestatic 286, 3) := by decide +kernel
theorem dX12_sorter_18 : decode cX12_sorter 18 = .ok (.ifCond .eq 12, 3) := by decide +kernel
theorem dX12_sorter_21 : decode cX12_sorter 21 = .ok (.aload_n 0, 1) := by decide +kernel
theorem dX12_sorter_22 : decode cX12_sorter 22 = .ok (.getfield 569, 3) := by decide +kernel
theorem dX12_sorter_25 : decode cX12_sorter 25 = .ok (.bipush 8, 2) := by decide +kernel
theorem dX12_sorter_27 : decode cX12_sorter 27 = .ok (.if_icmp .ne 5, 3) := by decide +kernel
theorem dX12_sorter_30 : decode cX12_sorter 30 = .ok (.iconst (-1), 1) := by decide +kernel
theorem dX12_sorter_31 : decode cX12_sorter 31 = .ok (.ireturn, 1) := by decide +kernel
theorem dX12_sorter_32 : decode cX12_sorter 32 = .ok (.aload_n 0, 1) := by decide +kernel
theorem dX12_sorter_33 : decode cX12_sorter 33 = .ok (.getfield 211, 3) := by decide +kernel
theorem dX12_sorter_36 : decode cX12_sorter 36 = .ok (.aload_n 0, 1) := by decide +kernel
theorem dX12_sorter_37 : decode cX12_sorter 37 = .ok (.getfield 569, 3) := by decide +kernel
theorem dX12_sorter_40 : decode cX12_sorter 40 = .ok (.iload_n 1, 1) := by decide +kernel
theorem dX12_sorter_41 : decode cX12_sorter 41 = .ok (.iastore, 1) := by decide +kernel
theorem dX12_sorter_42 : decode cX12_sorter 42 = .ok (.aload_n 0, 1) := by decide +kernel
theorem dX12_sorter_43 : decode cX12_sorter 43 = .ok (.getfield 214, 3) := by decide +kernel
theorem dX12_sorter_46 : decode cX12_sorter 46 = .ok (.aload_n 0, 1) := by decide +kernel
theorem dX12_sorter_47 : decode cX12_sorter 47 = .ok (.getfield 569, 3) := by decide +kernel
theorem dX12_sorter_50 : decode cX12_sorter 50 = .ok (.iload_n 2, 1) := by decide +kernel
theorem dX12_sorter_51 : decode cX12_sorter 51 = .ok (.iastore, 1) := by decide +kernel
theorem dX12_sorter_52 : decode cX12_sorter 52 = .ok (.aload_n 0, 1) := by decide +kernel
theorem dX12_sorter_53 : decode cX12_sorter 53 = .ok (.dup, 1) := by decide +kernel
theorem dX12_sorter_54 : decode cX12_sorter 54 = .ok (.getfield 569, 3) := by decide +kernel
theorem dX12_sorter_57 : decode cX12_sorter 57 = .ok (.iconst 1, 1) := by decide +kernel
theorem dX12_sorter_58 : decode cX12_sorter 58 = .ok (.iadd, 1) := by decide +kernel
theorem dX12_sorter_59 : decode cX12_sorter 59 = .ok (.putfield 569, 3) := by decide +kernel
theorem dX12_sorter_62 : decode cX12_sorter 62 = .ok (.aload_n 0, 1) := by decide +kernel
theorem dX12_sorter_63 : decode cX12_sorter 63 = .ok (.getfield 569, 3) := by decide +kernel
theorem dX12_sorter_66 : decode cX12_sorter 66 = .ok (.iconst 1, 1) := by decide +kernel
theorem dX12_sorter_67 : decode cX12_sorter 67 = .ok (.isub, 1) := by decide +kernel
theorem dX12_sorter_68 : decode cX12_sorter 68 = .ok (.ireturn, 1) := by decide +kernel
theorem bX12_sorter_0 {d : Nat} {h0 hE h : ea_H} {rv : Option ea_V} {r0 : Option Nat} {x1 : Int32} {x2 : Int32} (H : ∃ (d1 : Nat) (xc5 : Int32) (h2 : ea_H), ea_Met mX12_isIn d1 [vI x1, vI 1, vI 99] h (some (vI xc5)) h2 ∧ d1 + 1 ≤ d ∧ (xc5 = (0 : Int32) → rv = some (vI (-1)) ∧ hE = h2) ∧ (¬ xc5 = (0 : Int32) → ∃ (d6 : Nat) (xc10 : Int32) (h7 : ea_H), ea_Met mX12_isIn d6 [vI x2, vI 0, vI 4095] h2 (some (vI xc10)) h7 ∧ d6 + 1 ≤ d ∧ (xc10 = (0 : Int32) → rv = some (vI (-1)) ∧ hE = h7) ∧ (¬ xc10 = (0 : Int32) → ∃ a13, r0 = some a13 ∧ a13 < ea_n h7 ∧ ea_c h7 a13 = 12 ∧ (¬ (ea_i h7 a13 92) = (8 : Int32) → a13 < ea_n h7 ∧ ea_c h7 a13 = 12 ∧ a13 < ea_n h7 ∧ ea_c h7 a13 = 12 ∧ ∃ a21, (ea_r h7 a13 93) = some a21 ∧ a21 < ea_n h7 ∧ ea_c h7 a21 = 20 ∧ vp_in (ea_i h7 a13 92) (ea_l h7 a21) ∧ ∀ h24, h24 = ea_wi h7 a21 (Int32.toNatClampNeg (ea_i h7 a13 92)) x1 → a13 < ea_n h24 ∧ ea_c h24 a13 = 12 ∧ a13 < ea_n h24 ∧ ea_c h24 a13 = 12 ∧ ∃ a32, (ea_r h24 a13 94) = some a32 ∧ a32 < ea_n h24 ∧ ea_c h24 a32 = 20 ∧ vp_in (ea_i h24 a13 92) (ea_l h24 a32) ∧ ∀ h35, h35 = ea_wi h24 a32 (Int32.toNatClampNeg (ea_i h24 a13 92)) x2 → a13 < ea_n h35 ∧ ea_c h35 a13 = 12 ∧ a13 < ea_n h35 ∧ ea_c h35 a13 = 12 ∧ ∀ h41, h41 = ea_wi h35 a13 92 ((ea_i h35 a13 92) + (1 : Int32)) → a13 < ea_n h41 ∧ ea_c h41 a13 = 12 ∧ rv = some (vI ((ea_i h41 a13 92) - (1 : Int32))) ∧ hE = h41) ∧ ((ea_i h7 a13 92) = (8 : Int32) → rv = some (vI (-1)) ∧ hE = h7)))) : ea_W mX12_sorter d h0 rv hE 0 [(0, vR r0), (1, vI x1), (2, vI x2)] [] h := by
  refine ea_iload_n (pc := 0) dX12_sorter_0 rfl 1 rfl ?_
  refine ea_iconst (pc := 1) dX12_sorter_1 (v := 1) rfl ?_
  refine ea_bipush (pc := 2) dX12_sorter_2 (v := 99) rfl ?_
  obtain ⟨d1, xc5, h2, m3, q4, H⟩ := H
  refine ea_callS (pc := 4) (As := [vI x1, vI 1, vI 99]) (st := []) dX12_sorter_4 kX12_isIn m3 q4 rfl (Nat.le_of_ble_eq_true rfl) ew_1712 ew_1713 ?_
  refine ea_if_eq (pc := 7) (tgt := 30) dX12_sorter_7 rfl (fun c47 => ?_) (fun c47 => ?_)
  · have H := H.1 c47
    refine ea_iconst (pc := 30) dX12_sorter_30 (v := (-1)) rfl ?_
    obtain ⟨rfl, rfl⟩ := H
    exact ea_ireturn (pc := 31) dX12_sorter_31 rfl rfl
  · have H := H.2 c47
    refine ea_iload_n (pc := 10) dX12_sorter_10 rfl 2 rfl ?_
    refine ea_iconst (pc := 11) dX12_sorter_11 (v := 0) rfl ?_
    refine ea_sipush (pc := 12) dX12_sorter_12 (v := 4095) rfl ?_
    obtain ⟨d6, xc10, h7, m8, q9, H⟩ := H
    refine ea_callS (pc := 15) (As := [vI x2, vI 0, vI 4095]) (st := []) dX12_sorter_15 kX12_isIn m8 q9 rfl (Nat.le_of_ble_eq_true rfl) ew_1712 ew_1713 ?_
    refine ea_if_eq (pc := 18) (tgt := 30) dX12_sorter_18 rfl (fun c46 => ?_) (fun c46 => ?_)
    · have H := H.1 c46
      refine ea_iconst (pc := 30) dX12_sorter_30 (v := (-1)) rfl ?_
      obtain ⟨rfl, rfl⟩ := H
      exact ea_ireturn (pc := 31) dX12_sorter_31 rfl rfl
    · have H := H.2 c46
      refine ea_aload_n (pc := 21) dX12_sorter_21 rfl 0 rfl ?_
      obtain ⟨a13, e14, f11, g12, H⟩ := H
      refine ea_deref0 e14 ?_
      refine ea_getI (pc := 22) dX12_sorter_22 ec_12 (k := 92) (Nat.le_of_ble_eq_true rfl) rfl (Or.inl ew_1437) f11 g12 ?_
      refine ea_bipush (pc := 25) dX12_sorter_25 (v := 8) rfl ?_
      refine ea_icmp_ne (pc := 27) (tgt := 32) dX12_sorter_27 rfl (fun c45 => ?_) (fun c45 => ?_)
      · have H := H.1 c45
        refine ea_aload_n (pc := 32) dX12_sorter_32 rfl 0 rfl ?_
        obtain ⟨f15, g16, H⟩ := H
        refine ea_deref0 e14 ?_
        refine ea_getR (pc := 33) dX12_sorter_33 ec_12 (k := 93) (Nat.le_of_ble_eq_true rfl) rfl (Or.inl ew_1438) f15 g16 rfl ?_
        refine ea_aload_n (pc := 36) dX12_sorter_36 rfl 0 rfl ?_
        obtain ⟨f17, g18, H⟩ := H
        refine ea_deref0 e14 ?_
        refine ea_getI (pc := 37) dX12_sorter_37 ec_12 (k := 92) (Nat.le_of_ble_eq_true rfl) rfl (Or.inl ew_1437) f17 g18 ?_
        refine ea_iload_n (pc := 40) dX12_sorter_40 rfl 1 rfl ?_
        obtain ⟨a21, e22, f19, g20, H⟩ := H
        refine ea_deref2 e22 ?_
        obtain ⟨z23, H⟩ := H
        refine ea_iast (pc := 41) dX12_sorter_41 f19 g20 z23 ?_
        obtain ⟨h24, E25⟩ : ∃ z, z = ea_wi h7 a21 (Int32.toNatClampNeg (ea_i h7 a13 92)) x1 := ⟨_, rfl⟩
        have H := H h24 E25
        refine ea_nm E25 ?_
        refine ea_aload_n (pc := 42) dX12_sorter_42 rfl 0 rfl ?_
        obtain ⟨f26, g27, H⟩ := H
        refine ea_deref0 e14 ?_
        refine ea_getR (pc := 43) dX12_sorter_43 ec_12 (k := 94) (Nat.le_of_ble_eq_true rfl) rfl (Or.inl ew_1439) f26 g27 rfl ?_
        refine ea_aload_n (pc := 46) dX12_sorter_46 rfl 0 rfl ?_
        obtain ⟨f28, g29, H⟩ := H
        refine ea_deref0 e14 ?_
        refine ea_getI (pc := 47) dX12_sorter_47 ec_12 (k := 92) (Nat.le_of_ble_eq_true rfl) rfl (Or.inl ew_1437) f28 g29 ?_
        refine ea_iload_n (pc := 50) dX12_sorter_50 rfl 2 rfl ?_
        obtain ⟨a32, e33, f30, g31, H⟩ := H
        refine ea_deref2 e33 ?_
        obtain ⟨z34, H⟩ := H
        refine ea_iast (pc := 51) dX12_sorter_51 f30 g31 z34 ?_
        obtain ⟨h35, E36⟩ : ∃ z, z = ea_wi h24 a32 (Int32.toNatClampNeg (ea_i h24 a13 92)) x2 := ⟨_, rfl⟩
        have H := H h35 E36
        refine ea_nm E36 ?_
        refine ea_aload_n (pc := 52) dX12_sorter_52 rfl 0 rfl ?_
        refine ea_dup (pc := 53) dX12_sorter_53 rfl ?_
        obtain ⟨f37, g38, H⟩ := H
        refine ea_deref0 e14 ?_
        refine ea_getI (pc := 54) dX12_sorter_54 ec_12 (k := 92) (Nat.le_of_ble_eq_true rfl) rfl (Or.inl ew_1437) f37 g38 ?_
        refine ea_iconst (pc := 57) dX12_sorter_57 (v := 1) rfl ?_
        refine ea_iadd (pc := 58) dX12_sorter_58 ?_
        obtain ⟨f39, g40, H⟩ := H
        refine ea_deref1 e14 ?_
        refine ea_putI (pc := 59) dX12_sorter_59 ec_12 (k := 92) (Nat.le_of_ble_eq_true rfl) rfl (Or.inl ⟨rfl, Or.inl ew_1437⟩) rfl rfl f39 g40 ?_
        obtain ⟨h41, E42⟩ : ∃ z, z = ea_wi h35 a13 92 ((ea_i h35 a13 92) + (1 : Int32)) := ⟨_, rfl⟩
        have H := H h41 E42
        refine ea_nm E42 ?_
        refine ea_aload_n (pc := 62) dX12_sorter_62 rfl 0 rfl ?_
        obtain ⟨f43, g44, H⟩ := H
        refine ea_deref0 e14 ?_
        refine ea_getI (pc := 63) dX12_sorter_63 ec_12 (k := 92) (Nat.le_of_ble_eq_true rfl) rfl (Or.inl ew_1437) f43 g44 ?_
        refine ea_iconst (pc := 66) dX12_sorter_66 (v := 1) rfl ?_
        refine ea_isub (pc := 67) dX12_sorter_67 ?_
        obtain ⟨rfl, rfl⟩ := H
        exact ea_ireturn (pc := 68) dX12_sorter_68 rfl rfl
      · have H := H.2 c45
        refine ea_iconst (pc := 30) dX12_sorter_30 (v := (-1)) rfl ?_
        obtain ⟨rfl, rfl⟩ := H
        exact ea_ireturn (pc := 31) dX12_sorter_31 rfl rfl
theorem dX12_seat_0 : decode cX12_seat 0 = .ok (.iload_n 1, 1) := by decide +kernel
theorem dX12_seat_1 : decode cX12_seat 1 = .ok (.iconst 0, 1) := by decide +kernel
theorem dX12_seat_2 : decode cX12_seat 2 = .ok (.aload_n 0, 1) := by decide +kernel
theorem dX12_seat_3 : decode cX12_seat 3 = .ok (.getfield 569, 3) := by decide +kernel
theorem dX12_seat_6 : decode cX12_seat 6 = .ok (.iconst 1, 1) := by decide +kernel
theorem dX12_seat_7 : decode cX12_seat 7 = .ok (.isub, 1) := by decide +kernel
theorem dX12_seat_8 : decode cX12_seat 8 = .ok (.invokestatic 286, 3) := by decide +kernel
theorem dX12_seat_11 : decode cX12_seat 11 = .ok (.ifCond .eq 16, 3) := by decide +kernel
theorem dX12_seat_14 : decode cX12_seat 14 = .ok (.iload_n 2, 1) := by decide +kernel
theorem dX12_seat_15 : decode cX12_seat 15 = .ok (.iconst (-1), 1) := by decide +kernel
theorem dX12_seat_16 : decode cX12_seat 16 = .ok (.if_icmp .eq 13, 3) := by decide +kernel
theorem dX12_seat_19 : decode cX12_seat 19 = .ok (.aload_n 0, 1) := by decide +kernel
theorem dX12_seat_20 : decode cX12_seat 20 = .ok (.iload_n 2, 1) := by decide +kernel
theorem dX12_seat_21 : decode cX12_seat 21 = .ok (.invokevirtual 310, 3) := by decide +kernel
theorem dX12_seat_24 : decode cX12_seat 24 = .ok (.ifCond .ne 5, 3) := by decide +kernel
theorem dX12_seat_27 : decode cX12_seat 27 = .ok (.iconst 0, 1) := by decide +kernel
theorem dX12_seat_28 : decode cX12_seat 28 = .ok (.ireturn, 1) := by decide +kernel
theorem dX12_seat_29 : decode cX12_seat 29 = .ok (.aload_n 0, 1) := by decide +kernel
theorem dX12_seat_30 : decode cX12_seat 30 = .ok (.getfield 217, 3) := by decide +kernel
theorem dX12_seat_33 : decode cX12_seat 33 = .ok (.iload_n 1, 1) := by decide +kernel
theorem dX12_seat_34 : decode cX12_seat 34 = .ok (.iload_n 2, 1) := by decide +kernel
theorem dX12_seat_35 : decode cX12_seat 35 = .ok (.iastore, 1) := by decide +kernel
theorem dX12_seat_36 : decode cX12_seat 36 = .ok (.iconst 1, 1) := by decide +kernel
theorem dX12_seat_37 : decode cX12_seat 37 = .ok (.ireturn, 1) := by decide +kernel
theorem bX12_seat_0 {d : Nat} {h0 hE h : ea_H} {rv : Option ea_V} {r0 : Option Nat} {x1 : Int32} {x2 : Int32} (H : ∃ a3, r0 = some a3 ∧ a3 < ea_n h ∧ ea_c h a3 = 12 ∧ ∃ (d5 : Nat) (xc9 : Int32) (h6 : ea_H), ea_Met mX12_isIn d5 [vI x1, vI 0, vI ((ea_i h a3 92) - (1 : Int32))] h (some (vI xc9)) h6 ∧ d5 + 1 ≤ d ∧ (xc9 = (0 : Int32) → rv = some (vI 0) ∧ hE = h6) ∧ (¬ xc9 = (0 : Int32) → (x2 = ((-1) : Int32) → a3 < ea_n h6 ∧ ea_c h6 a3 = 12 ∧ ∃ a14, (ea_r h6 a3 95) = some a14 ∧ a14 < ea_n h6 ∧ ea_c h6 a14 = 20 ∧ vp_in x1 (ea_l h6 a14) ∧ ∀ h17, h17 = ea_wi h6 a14 (Int32.toNatClampNeg x1) x2 → rv = some (vI 1) ∧ hE = h17) ∧ (¬ x2 = ((-1) : Int32) → a3 < ea_n h6 ∧ ea_c h6 a3 = 12 ∧ ∃ (d19 : Nat) (xc25 : Int32) (h20 : ea_H), ea_Met mX12_isTrain d19 [vR (some a3), vI x2] h6 (some (vI xc25)) h20 ∧ d19 + 1 ≤ d ∧ (¬ xc25 = (0 : Int32) → a3 < ea_n h20 ∧ ea_c h20 a3 = 12 ∧ ∃ a30, (ea_r h20 a3 95) = some a30 ∧ a30 < ea_n h20 ∧ ea_c h20 a30 = 20 ∧ vp_in x1 (ea_l h20 a30) ∧ ∀ h33, h33 = ea_wi h20 a30 (Int32.toNatClampNeg x1) x2 → rv = some (vI 1) ∧ hE = h33) ∧ (xc25 = (0 : Int32) → rv = some (vI 0) ∧ hE = h20)))) : ea_W mX12_seat d h0 rv hE 0 [(0, vR r0), (1, vI x1), (2, vI x2)] [] h := by
  refine ea_iload_n (pc := 0) dX12_seat_0 rfl 1 rfl ?_
  refine ea_iconst (pc := 1) dX12_seat_1 (v := 0) rfl ?_
  refine ea_aload_n (pc := 2) dX12_seat_2 rfl 0 rfl ?_
  obtain ⟨a3, e4, f1, g2, H⟩ := H
  refine ea_deref0 e4 ?_
  refine ea_getI (pc := 3) dX12_seat_3 ec_12 (k := 92) (Nat.le_of_ble_eq_true rfl) rfl (Or.inl ew_1437) f1 g2 ?_
  refine ea_iconst (pc := 6) dX12_seat_6 (v := 1) rfl ?_
  refine ea_isub (pc := 7) dX12_seat_7 ?_
  obtain ⟨d5, xc9, h6, m7, q8, H⟩ := H
  refine ea_callS (pc := 8) (As := [vI x1, vI 0, vI ((ea_i h a3 92) - (1 : Int32))]) (st := []) dX12_seat_8 kX12_isIn m7 q8 rfl (Nat.le_of_ble_eq_true rfl) ew_1712 ew_1713 ?_
  refine ea_if_eq (pc := 11) (tgt := 27) dX12_seat_11 rfl (fun c37 => ?_) (fun c37 => ?_)
  · have H := H.1 c37
    refine ea_iconst (pc := 27) dX12_seat_27 (v := 0) rfl ?_
    obtain ⟨rfl, rfl⟩ := H
    exact ea_ireturn (pc := 28) dX12_seat_28 rfl (ea_bn (Or.inl rfl))
  · have H := H.2 c37
    refine ea_iload_n (pc := 14) dX12_seat_14 rfl 2 rfl ?_
    refine ea_iconst (pc := 15) dX12_seat_15 (v := (-1)) rfl ?_
    refine ea_icmp_eq (pc := 16) (tgt := 29) dX12_seat_16 rfl (fun c36 => ?_) (fun c36 => ?_)
    · have H := H.1 c36
      refine ea_aload_n (pc := 29) dX12_seat_29 rfl 0 rfl ?_
      obtain ⟨f10, g11, H⟩ := H
      refine ea_deref0 e4 ?_
      refine ea_getR (pc := 30) dX12_seat_30 ec_12 (k := 95) (Nat.le_of_ble_eq_true rfl) rfl (Or.inl ew_1440) f10 g11 rfl ?_
      refine ea_iload_n (pc := 33) dX12_seat_33 rfl 1 rfl ?_
      refine ea_iload_n (pc := 34) dX12_seat_34 rfl 2 rfl ?_
      obtain ⟨a14, e15, f12, g13, H⟩ := H
      refine ea_deref2 e15 ?_
      obtain ⟨z16, H⟩ := H
      refine ea_iast (pc := 35) dX12_seat_35 f12 g13 z16 ?_
      obtain ⟨h17, E18⟩ : ∃ z, z = ea_wi h6 a14 (Int32.toNatClampNeg x1) x2 := ⟨_, rfl⟩
      have H := H h17 E18
      refine ea_nm E18 ?_
      refine ea_iconst (pc := 36) dX12_seat_36 (v := 1) rfl ?_
      obtain ⟨rfl, rfl⟩ := H
      exact ea_ireturn (pc := 37) dX12_seat_37 rfl (ea_bn (Or.inr rfl))
    · have H := H.2 c36
      refine ea_aload_n (pc := 19) dX12_seat_19 rfl 0 rfl ?_
      refine ea_iload_n (pc := 20) dX12_seat_20 rfl 2 rfl ?_
      obtain ⟨f23, g24, H⟩ := H
      refine ea_deref1 e4 ?_
      obtain ⟨d19, xc25, h20, m21, q22, H⟩ := H
      refine ea_callV (pc := 21) (As := [vI x2]) (st := []) dX12_seat_21 kX12_isTrain m21 q22 rfl (Nat.le_of_ble_eq_true rfl) ew_1736 ew_1738 ew_50 (ci := 12) rfl (by decide) f23 g24 ?_
      refine ea_if_ne (pc := 24) (tgt := 29) dX12_seat_24 rfl (fun c35 => ?_) (fun c35 => ?_)
      · have H := H.1 c35
        refine ea_aload_n (pc := 29) dX12_seat_29 rfl 0 rfl ?_
        obtain ⟨f26, g27, H⟩ := H
        refine ea_deref0 e4 ?_
        refine ea_getR (pc := 30) dX12_seat_30 ec_12 (k := 95) (Nat.le_of_ble_eq_true rfl) rfl (Or.inl ew_1440) f26 g27 rfl ?_
        refine ea_iload_n (pc := 33) dX12_seat_33 rfl 1 rfl ?_
        refine ea_iload_n (pc := 34) dX12_seat_34 rfl 2 rfl ?_
        obtain ⟨a30, e31, f28, g29, H⟩ := H
        refine ea_deref2 e31 ?_
        obtain ⟨z32, H⟩ := H
        refine ea_iast (pc := 35) dX12_seat_35 f28 g29 z32 ?_
        obtain ⟨h33, E34⟩ : ∃ z, z = ea_wi h20 a30 (Int32.toNatClampNeg x1) x2 := ⟨_, rfl⟩
        have H := H h33 E34
        refine ea_nm E34 ?_
        refine ea_iconst (pc := 36) dX12_seat_36 (v := 1) rfl ?_
        obtain ⟨rfl, rfl⟩ := H
        exact ea_ireturn (pc := 37) dX12_seat_37 rfl (ea_bn (Or.inr rfl))
      · have H := H.2 c35
        refine ea_iconst (pc := 27) dX12_seat_27 (v := 0) rfl ?_
        obtain ⟨rfl, rfl⟩ := H
        exact ea_ireturn (pc := 28) dX12_seat_28 rfl (ea_bn (Or.inl rfl))
theorem dX12_code_0 : decode cX12_code 0 = .ok (.bipush 10, 2) := by decide +kernel
theorem dX12_code_2 : decode cX12_code 2 = .ok (.iload_n 0, 1) := by decide +kernel
theorem dX12_code_3 : decode cX12_code 3 = .ok (.bipush 7, 2) := by decide +kernel
theorem dX12_code_5 : decode cX12_code 5 = .ok (.irem, 1) := by decide +kernel
theorem dX12_code_6 : decode cX12_code 6 = .ok (.imul, 1) := by decide +kernel
theorem dX12_code_7 : decode cX12_code 7 = .ok (.iload_n 0, 1) := by decide +kernel
theorem dX12_code_8 : decode cX12_code 8 = .ok (.bipush 7, 2) := by decide +kernel
theorem dX12_code_10 : decode cX12_code 10 = .ok (.idiv, 1) := by decide +kernel
theorem dX12_code_11 : decode cX12_code 11 = .ok (.iadd, 1) := by decide +kernel
theorem dX12_code_12 : decode cX12_code 12 = .ok (.ireturn, 1) := by decide +kernel
theorem bX12_code_0 {d : Nat} {h0 hE h : ea_H} {rv : Option ea_V} {x0 : Int32} (H : rv = some (vI (((10 : Int32) * (x0 - x0 / (7 : Int32) * (7 : Int32))) + (x0 / (7 : Int32)))) ∧ hE = h) : ea_W mX12_code d h0 rv hE 0 [(0, vI x0)] [] h := by
  refine ea_bipush (pc := 0) dX12_code_0 (v := 10) rfl ?_
  refine ea_iload_n (pc := 2) dX12_code_2 rfl 0 rfl ?_
  refine ea_bipush (pc := 3) dX12_code_3 (v := 7) rfl ?_
  refine ea_irem (pc := 5) dX12_code_5 (by decide) ?_
  refine ea_imul (pc := 6) dX12_code_6 ?_
  refine ea_iload_n (pc := 7) dX12_code_7 rfl 0 rfl ?_
  refine ea_bipush (pc := 8) dX12_code_8 (v := 7) rfl ?_
  refine ea_idiv (pc := 10) dX12_code_10 (by decide) ?_
  refine ea_iadd (pc := 11) dX12_code_11 ?_
  obtain ⟨rfl, rfl⟩ := H
  exact ea_ireturn (pc := 12) dX12_code_12 rfl rfl
