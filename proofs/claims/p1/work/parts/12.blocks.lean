/-! blocks -/
theorem dX10_leaveRun_0 : decode cX10_leaveRun 0 = .ok (.iload_n 1, 1) := by decide +kernel
theorem dX10_leaveRun_1 : decode cX10_leaveRun 1 = .ok (.invokestatic 69, 3) := by decide +kernel
theorem dX10_leaveRun_4 : decode cX10_leaveRun 4 = .ok (.bipush 9, 2) := by decide +kernel
theorem dX10_leaveRun_6 : decode cX10_leaveRun 6 = .ok (.ishl, 1) := by decide +kernel
theorem dX10_leaveRun_7 : decode cX10_leaveRun 7 = .ok (.iload_n 1, 1) := by decide +kernel
theorem dX10_leaveRun_8 : decode cX10_leaveRun 8 = .ok (.invokestatic 75, 3) := by decide +kernel
theorem dX10_leaveRun_11 : decode cX10_leaveRun 11 = .ok (.bipush 6, 2) := by decide +kernel
theorem dX10_leaveRun_13 : decode cX10_leaveRun 13 = .ok (.ishl, 1) := by decide +kernel
theorem dX10_leaveRun_14 : decode cX10_leaveRun 14 = .ok (.ior, 1) := by decide +kernel
theorem dX10_leaveRun_15 : decode cX10_leaveRun 15 = .ok (.iload_n 1, 1) := by decide +kernel
theorem dX10_leaveRun_16 : decode cX10_leaveRun 16 = .ok (.invokestatic 72, 3) := by decide +kernel
theorem dX10_leaveRun_19 : decode cX10_leaveRun 19 = .ok (.ior, 1) := by decide +kernel
theorem dX10_leaveRun_20 : decode cX10_leaveRun 20 = .ok (.i2l, 1) := by decide +kernel
theorem dX10_leaveRun_21 : decode cX10_leaveRun 21 = .ok (.lstore 4, 2) := by decide +kernel
theorem dX10_leaveRun_23 : decode cX10_leaveRun 23 = .ok (.iconst 0, 1) := by decide +kernel
theorem dX10_leaveRun_24 : decode cX10_leaveRun 24 = .ok (.istore 6, 2) := by decide +kernel
theorem dX10_leaveRun_26 : decode cX10_leaveRun 26 = .ok (.iload 6, 2) := by decide +kernel
theorem dX10_leaveRun_28 : decode cX10_leaveRun 28 = .ok (.bipush 12, 2) := by decide +kernel
theorem dX10_leaveRun_30 : decode cX10_leaveRun 30 = .ok (.if_icmp .ge 129, 3) := by decide +kernel
theorem dX10_leaveRun_33 : decode cX10_leaveRun 33 = .ok (.aload_n 0, 1) := by decide +kernel
theorem dX10_leaveRun_34 : decode cX10_leaveRun 34 = .ok (.getfield 11, 3) := by decide +kernel
theorem dX10_leaveRun_37 : decode cX10_leaveRun 37 = .ok (.iload_n 3, 1) := by decide +kernel
theorem dX10_leaveRun_38 : decode cX10_leaveRun 38 = .ok (.iaload, 1) := by decide +kernel
theorem dX10_leaveRun_39 : decode cX10_leaveRun 39 = .ok (.ifCond .ge 9, 3) := by decide +kernel
theorem dX10_leaveRun_42 : decode cX10_leaveRun 42 = .ok (.ldc2_w 78, 3) := by decide +kernel
theorem dX10_leaveRun_45 : decode cX10_leaveRun 45 = .ok (.goto 20, 3) := by decide +kernel
theorem dX10_leaveRun_48 : decode cX10_leaveRun 48 = .ok (.aload_n 0, 1) := by decide +kernel
theorem dX10_leaveRun_49 : decode cX10_leaveRun 49 = .ok (.getfield 31, 3) := by decide +kernel
theorem dX10_leaveRun_52 : decode cX10_leaveRun 52 = .ok (.bipush 12, 2) := by decide +kernel
theorem dX10_leaveRun_54 : decode cX10_leaveRun 54 = .ok (.aload_n 0, 1) := by decide +kernel
theorem dX10_leaveRun_55 : decode cX10_leaveRun 55 = .ok (.getfield 11, 3) := by decide +kernel
theorem dX10_leaveRun_58 : decode cX10_leaveRun 58 = .ok (.iload_n 3, 1) := by decide +kernel
theorem dX10_leaveRun_59 : decode cX10_leaveRun 59 = .ok (.iaload, 1) := by decide +kernel
theorem dX10_leaveRun_60 : decode cX10_leaveRun 60 = .ok (.imul, 1) := by decide +kernel
theorem dX10_leaveRun_61 : decode cX10_leaveRun 61 = .ok (.iload 6, 2) := by decide +kernel
theorem dX10_leaveRun_63 : decode cX10_leaveRun 63 = .ok (.iadd, 1) := by decide +kernel
theorem dX10_leaveRun_64 : decode cX10_leaveRun 64 = .ok (.laload, 1) := by decide +kernel
theorem dX10_leaveRun_65 : decode cX10_leaveRun 65 = .ok (.lstore 7, 2) := by decide +kernel
theorem dX10_leaveRun_67 : decode cX10_leaveRun 67 = .ok (.ldc2_w 78, 3) := by decide +kernel
theorem dX10_leaveRun_70 : decode cX10_leaveRun 70 = .ok (.lstore 9, 2) := by decide +kernel
theorem dX10_leaveRun_72 : decode cX10_leaveRun 72 = .ok (.iload 6, 2) := by decide +kernel
theorem dX10_leaveRun_74 : decode cX10_leaveRun 74 = .ok (.iload_n 3, 1) := by decide +kernel
theorem dX10_leaveRun_75 : decode cX10_leaveRun 75 = .ok (.if_icmp .ne 23, 3) := by decide +kernel
theorem dX10_leaveRun_78 : decode cX10_leaveRun 78 = .ok (.iload_n 1, 1) := by decide +kernel
theorem dX10_leaveRun_79 : decode cX10_leaveRun 79 = .ok (.invokestatic 61, 3) := by decide +kernel
theorem dX10_leaveRun_82 : decode cX10_leaveRun 82 = .ok (.i2l, 1) := by decide +kernel
theorem dX10_leaveRun_83 : decode cX10_leaveRun 83 = .ok (.bipush 21, 2) := by decide +kernel
theorem dX10_leaveRun_85 : decode cX10_leaveRun 85 = .ok (.lshl, 1) := by decide +kernel
theorem dX10_leaveRun_86 : decode cX10_leaveRun 86 = .ok (.ldc2_w 142, 3) := by decide +kernel
theorem dX10_leaveRun_89 : decode cX10_leaveRun 89 = .ok (.lor, 1) := by decide +kernel
theorem dX10_leaveRun_90 : decode cX10_leaveRun 90 = .ok (.lload 4, 2) := by decide +kernel
theorem dX10_leaveRun_92 : decode cX10_leaveRun 92 = .ok (.lor, 1) := by decide +kernel
theorem dX10_leaveRun_93 : decode cX10_leaveRun 93 = .ok (.lstore 9, 2) := by decide +kernel
theorem dX10_leaveRun_95 : decode cX10_leaveRun 95 = .ok (.goto 27, 3) := by decide +kernel
theorem dX10_leaveRun_98 : decode cX10_leaveRun 98 = .ok (.lload 7, 2) := by decide +kernel
theorem dX10_leaveRun_100 : decode cX10_leaveRun 100 = .ok (.ldc2_w 78, 3) := by decide +kernel
theorem dX10_leaveRun_103 : decode cX10_leaveRun 103 = .ok (.lcmp, 1) := by decide +kernel
theorem dX10_leaveRun_104 : decode cX10_leaveRun 104 = .ok (.ifCond .eq 18, 3) := by decide +kernel
theorem dX10_leaveRun_107 : decode cX10_leaveRun 107 = .ok (.lload 7, 2) := by decide +kernel
theorem dX10_leaveRun_109 : decode cX10_leaveRun 109 = .ok (.bipush 13, 2) := by decide +kernel
theorem dX10_leaveRun_111 : decode cX10_leaveRun 111 = .ok (.lshr, 1) := by decide +kernel
theorem dX10_leaveRun_112 : decode cX10_leaveRun 112 = .ok (.lconst 1, 1) := by decide +kernel
theorem dX10_leaveRun_113 : decode cX10_leaveRun 113 = .ok (.ladd, 1) := by decide +kernel
theorem dX10_leaveRun_114 : decode cX10_leaveRun 114 = .ok (.bipush 13, 2) := by decide +kernel
theorem dX10_leaveRun_116 : decode cX10_leaveRun 116 = .ok (.lshl, 1) := by decide +kernel
theorem dX10_leaveRun_117 : decode cX10_leaveRun 117 = .ok (.lload 4, 2) := by decide +kernel
theorem dX10_leaveRun_119 : decode cX10_leaveRun 119 = .ok (.lor, 1) := by decide +kernel
theorem dX10_leaveRun_120 : decode cX10_leaveRun 120 = .ok (.lstore 9, 2) := by decide +kernel
theorem dX10_leaveRun_122 : decode cX10_leaveRun 122 = .ok (.bipush 12, 2) := by decide +kernel
theorem dX10_leaveRun_124 : decode cX10_leaveRun 124 = .ok (.iload_n 2, 1) := by decide +kernel
theorem dX10_leaveRun_125 : decode cX10_leaveRun 125 = .ok (.bipush 8, 2) := by decide +kernel
theorem dX10_leaveRun_127 : decode cX10_leaveRun 127 = .ok (.idiv, 1) := by decide +kernel
theorem dX10_leaveRun_128 : decode cX10_leaveRun 128 = .ok (.imul, 1) := by decide +kernel
theorem dX10_leaveRun_129 : decode cX10_leaveRun 129 = .ok (.iload 6, 2) := by decide +kernel
theorem dX10_leaveRun_131 : decode cX10_leaveRun 131 = .ok (.iadd, 1) := by decide +kernel
theorem dX10_leaveRun_132 : decode cX10_leaveRun 132 = .ok (.istore 11, 2) := by decide +kernel
theorem dX10_leaveRun_134 : decode cX10_leaveRun 134 = .ok (.aload_n 0, 1) := by decide +kernel
theorem dX10_leaveRun_135 : decode cX10_leaveRun 135 = .ok (.getfield 35, 3) := by decide +kernel
theorem dX10_leaveRun_138 : decode cX10_leaveRun 138 = .ok (.iload 11, 2) := by decide +kernel
theorem dX10_leaveRun_140 : decode cX10_leaveRun 140 = .ok (.aload_n 0, 1) := by decide +kernel
theorem dX10_leaveRun_141 : decode cX10_leaveRun 141 = .ok (.getfield 35, 3) := by decide +kernel
theorem dX10_leaveRun_144 : decode cX10_leaveRun 144 = .ok (.iload 11, 2) := by decide +kernel
theorem dX10_leaveRun_146 : decode cX10_leaveRun 146 = .ok (.laload, 1) := by decide +kernel
theorem dX10_leaveRun_147 : decode cX10_leaveRun 147 = .ok (.lload 9, 2) := by decide +kernel
theorem dX10_leaveRun_149 : decode cX10_leaveRun 149 = .ok (.invokestatic 136, 3) := by decide +kernel
theorem dX10_leaveRun_152 : decode cX10_leaveRun 152 = .ok (.lastore, 1) := by decide +kernel
theorem dX10_leaveRun_153 : decode cX10_leaveRun 153 = .ok (.iinc 6 1, 3) := by decide +kernel
theorem dX10_leaveRun_156 : decode cX10_leaveRun 156 = .ok (.goto (-130), 3) := by decide +kernel
theorem dX10_leaveRun_159 : decode cX10_leaveRun 159 = .ok (.return_, 1) := by decide +kernel
theorem bX10_leaveRun_0 {d : Nat} {h0 hE h : ea_H} {rv : Option ea_V} {r0 : Option Nat} {x1 : Int32} {x2 : Int32} {x3 : Int32} (H : ∃ (d1 : Nat) (xc5 : Int32) (h2 : ea_H), ea_Met mX10_trainIn d1 [vI x1] h (some (vI xc5)) h2 ∧ d1 + 1 ≤ d ∧ ∃ (d6 : Nat) (xc10 : Int32) (h7 : ea_H), ea_Met mX10_dayIn d6 [vI x1] h2 (some (vI xc10)) h7 ∧ d6 + 1 ≤ d ∧ ∃ (d11 : Nat) (xc15 : Int32) (h12 : ea_H), ea_Met mX10_stopIn d11 [vI x1] h7 (some (vI xc15)) h12 ∧ d11 + 1 ≤ d ∧ ea_W mX10_leaveRun d h0 rv hE 26 [(0, vR r0), (1, vI x1), (2, vI x2), (3, vI x3), (4, vJ (Int32.toInt64 (((xc5 <<< ((9 : Int32) &&& 31)) ||| (xc10 <<< ((6 : Int32) &&& 31))) ||| xc15))), (6, vI 0)] [] h12) : ea_W mX10_leaveRun d h0 rv hE 0 [(0, vR r0), (1, vI x1), (2, vI x2), (3, vI x3)] [] h := by
  refine ea_iload_n (pc := 0) dX10_leaveRun_0 rfl 1 rfl ?_
  obtain ⟨d1, xc5, h2, m3, q4, H⟩ := H
  refine ea_callS (pc := 1) (As := [vI x1]) (st := []) dX10_leaveRun_1 kX10_trainIn m3 q4 rfl (Nat.le_of_ble_eq_true rfl) ew_596 ew_597 ?_
  refine ea_bipush (pc := 4) dX10_leaveRun_4 (v := 9) rfl ?_
  refine ea_ishl (pc := 6) dX10_leaveRun_6 ?_
  refine ea_iload_n (pc := 7) dX10_leaveRun_7 rfl 1 rfl ?_
  obtain ⟨d6, xc10, h7, m8, q9, H⟩ := H
  refine ea_callS (pc := 8) (As := [vI x1]) (st := [vI (xc5 <<< ((9 : Int32) &&& 31))]) dX10_leaveRun_8 kX10_dayIn m8 q9 rfl (Nat.le_of_ble_eq_true rfl) ew_608 ew_609 ?_
  refine ea_bipush (pc := 11) dX10_leaveRun_11 (v := 6) rfl ?_
  refine ea_ishl (pc := 13) dX10_leaveRun_13 ?_
  refine ea_ior (pc := 14) dX10_leaveRun_14 ?_
  refine ea_iload_n (pc := 15) dX10_leaveRun_15 rfl 1 rfl ?_
  obtain ⟨d11, xc15, h12, m13, q14, H⟩ := H
  refine ea_callS (pc := 16) (As := [vI x1]) (st := [vI ((xc5 <<< ((9 : Int32) &&& 31)) ||| (xc10 <<< ((6 : Int32) &&& 31)))]) dX10_leaveRun_16 kX10_stopIn m13 q14 rfl (Nat.le_of_ble_eq_true rfl) ew_599 ew_600 ?_
  refine ea_ior (pc := 19) dX10_leaveRun_19 ?_
  refine ea_i2l (pc := 20) dX10_leaveRun_20 ?_
  refine ea_lstore (pc := 21) (lv' := [(0, vR r0), (1, vI x1), (2, vI x2), (3, vI x3), (4, vJ (Int32.toInt64 (((xc5 <<< ((9 : Int32) &&& 31)) ||| (xc10 <<< ((6 : Int32) &&& 31))) ||| xc15)))]) dX10_leaveRun_21 (Nat.le_of_ble_eq_true rfl) [1, 2, 3, 4, 0] rfl ?_
  refine ea_iconst (pc := 23) dX10_leaveRun_23 (v := 0) rfl ?_
  refine ea_istore (pc := 24) (lv' := [(0, vR r0), (1, vI x1), (2, vI x2), (3, vI x3), (4, vJ (Int32.toInt64 (((xc5 <<< ((9 : Int32) &&& 31)) ||| (xc10 <<< ((6 : Int32) &&& 31))) ||| xc15))), (6, vI 0)]) dX10_leaveRun_24 (Nat.le_of_ble_eq_true rfl) [1, 2, 3, 4, 5, 0] rfl ?_
  exact H
theorem bX10_leaveRun_26 {d : Nat} {h0 hE h : ea_H} {rv : Option ea_V} {r0 : Option Nat} {x1 : Int32} {x2 : Int32} {x3 : Int32} {y4 : Int64} {x6 : Int32} (H : ((12 : Int32) ≤ x6 → rv = none ∧ hE = h) ∧ (¬ (12 : Int32) ≤ x6 → ∃ a3, r0 = some a3 ∧ a3 < ea_n h ∧ ea_c h a3 = 10 ∧ ∃ a7, (ea_r h a3 7) = some a7 ∧ a7 < ea_n h ∧ ea_c h a7 = 20 ∧ vp_in x3 (ea_l h a7) ∧ ((0 : Int32) ≤ (ea_i h a7 (Int32.toNatClampNeg x3)) → a3 < ea_n h ∧ ea_c h a3 = 10 ∧ a3 < ea_n h ∧ ea_c h a3 = 10 ∧ a7 < ea_n h ∧ ea_c h a7 = 20 ∧ vp_in x3 (ea_l h a7) ∧ ∃ a19, (ea_r h a3 4) = some a19 ∧ a19 < ea_n h ∧ ea_c h a19 = 22 ∧ vp_in (((12 : Int32) * (ea_i h a7 (Int32.toNatClampNeg x3))) + x6) (ea_l h a19) ∧ ea_W mX10_leaveRun d h0 rv hE 65 [(0, vR r0), (1, vI x1), (2, vI x2), (3, vI x3), (4, vJ y4), (6, vI x6)] [vJ (ea_j h a19 (Int32.toNatClampNeg (((12 : Int32) * (ea_i h a7 (Int32.toNatClampNeg x3))) + x6)))] h) ∧ (¬ (0 : Int32) ≤ (ea_i h a7 (Int32.toNatClampNeg x3)) → ea_W mX10_leaveRun d h0 rv hE 65 [(0, vR r0), (1, vI x1), (2, vI x2), (3, vI x3), (4, vJ y4), (6, vI x6)] [vJ 9223372036854775807] h))) : ea_W mX10_leaveRun d h0 rv hE 26 [(0, vR r0), (1, vI x1), (2, vI x2), (3, vI x3), (4, vJ y4), (6, vI x6)] [] h := by
  refine ea_iload (pc := 26) dX10_leaveRun_26 5 rfl ?_
  refine ea_bipush (pc := 28) dX10_leaveRun_28 (v := 12) rfl ?_
  refine ea_icmp_ge (pc := 30) (tgt := 159) dX10_leaveRun_30 rfl (fun c23 => ?_) (fun c23 => ?_)
  · have H := H.1 c23
    obtain ⟨rfl, rfl⟩ := H
    exact ea_return (pc := 159) dX10_leaveRun_159 rfl
  · have H := H.2 c23
    refine ea_aload_n (pc := 33) dX10_leaveRun_33 rfl 0 rfl ?_
    obtain ⟨a3, e4, f1, g2, H⟩ := H
    refine ea_deref0 e4 ?_
    refine ea_getR (pc := 34) dX10_leaveRun_34 ec_10 (k := 7) (Nat.le_of_ble_eq_true rfl) rfl (Or.inl ew_234) f1 g2 rfl ?_
    refine ea_iload_n (pc := 37) dX10_leaveRun_37 rfl 3 rfl ?_
    obtain ⟨a7, e8, f5, g6, H⟩ := H
    refine ea_deref1 e8 ?_
    obtain ⟨z9, H⟩ := H
    refine ea_iald (pc := 38) dX10_leaveRun_38 f5 g6 z9 ?_
    refine ea_if_ge (pc := 39) (tgt := 48) dX10_leaveRun_39 rfl (fun c22 => ?_) (fun c22 => ?_)
    · have H := H.1 c22
      refine ea_aload_n (pc := 48) dX10_leaveRun_48 rfl 0 rfl ?_
      obtain ⟨f10, g11, H⟩ := H
      refine ea_deref0 e4 ?_
      refine ea_getR (pc := 49) dX10_leaveRun_49 ec_10 (k := 4) (Nat.le_of_ble_eq_true rfl) rfl (Or.inl ew_231) f10 g11 rfl ?_
      refine ea_bipush (pc := 52) dX10_leaveRun_52 (v := 12) rfl ?_
      refine ea_aload_n (pc := 54) dX10_leaveRun_54 rfl 0 rfl ?_
      obtain ⟨f12, g13, H⟩ := H
      refine ea_deref0 e4 ?_
      refine ea_getR (pc := 55) dX10_leaveRun_55 ec_10 (k := 7) (Nat.le_of_ble_eq_true rfl) rfl (Or.inl ew_234) f12 g13 rfl ?_
      refine ea_iload_n (pc := 58) dX10_leaveRun_58 rfl 3 rfl ?_
      obtain ⟨f14, g15, H⟩ := H
      refine ea_deref1 e8 ?_
      obtain ⟨z16, H⟩ := H
      refine ea_iald (pc := 59) dX10_leaveRun_59 f14 g15 z16 ?_
      refine ea_imul (pc := 60) dX10_leaveRun_60 ?_
      refine ea_iload (pc := 61) dX10_leaveRun_61 5 rfl ?_
      refine ea_iadd (pc := 63) dX10_leaveRun_63 ?_
      obtain ⟨a19, e20, f17, g18, H⟩ := H
      refine ea_deref1 e20 ?_
      obtain ⟨z21, H⟩ := H
      refine ea_lald (pc := 64) dX10_leaveRun_64 f17 g18 z21 ?_
      exact H
    · have H := H.2 c22
      refine ea_ldc2 (pc := 42) dX10_leaveRun_42 ew_615 ?_
      refine ea_goto (pc := 45) (tgt := 65) dX10_leaveRun_45 rfl ?_
      exact H
theorem bX10_leaveRun_65 {d : Nat} {h0 hE h : ea_H} {rv : Option ea_V} {r0 : Option Nat} {x1 : Int32} {x2 : Int32} {x3 : Int32} {y4 : Int64} {x6 : Int32} {sy0 : Int64} (H : (¬ x6 = x3 → ((lg_cmp sy0 9223372036854775807) = (0 : Int32) → ea_W mX10_leaveRun d h0 rv hE 122 [(0, vR r0), (1, vI x1), (2, vI x2), (3, vI x3), (4, vJ y4), (6, vI x6), (9, vJ 9223372036854775807)] [] h) ∧ (¬ (lg_cmp sy0 9223372036854775807) = (0 : Int32) → ea_W mX10_leaveRun d h0 rv hE 122 [(0, vR r0), (1, vI x1), (2, vI x2), (3, vI x3), (4, vJ y4), (6, vI x6), (9, vJ ((((sy0 >>> (Int32.toInt64 13 &&& 63)) + (1 : Int64)) <<< (Int32.toInt64 13 &&& 63)) ||| y4))] [] h)) ∧ (x6 = x3 → ∃ (d2 : Nat) (xc6 : Int32) (h3 : ea_H), ea_Met mX10_minuteIn d2 [vI x1] h (some (vI xc6)) h3 ∧ d2 + 1 ≤ d ∧ ea_W mX10_leaveRun d h0 rv hE 122 [(0, vR r0), (1, vI x1), (2, vI x2), (3, vI x3), (4, vJ y4), (6, vI x6), (9, vJ ((((Int32.toInt64 xc6) <<< (Int32.toInt64 21 &&& 63)) ||| (8192 : Int64)) ||| y4))] [] h3)) : ea_W mX10_leaveRun d h0 rv hE 65 [(0, vR r0), (1, vI x1), (2, vI x2), (3, vI x3), (4, vJ y4), (6, vI x6)] [vJ sy0] h := by
  refine ea_lstore (pc := 65) (lv' := [(0, vR r0), (1, vI x1), (2, vI x2), (3, vI x3), (4, vJ y4), (6, vI x6), (7, vJ sy0)]) dX10_leaveRun_65 (Nat.le_of_ble_eq_true rfl) [1, 2, 3, 4, 5, 6, 0] rfl ?_
  refine ea_ldc2 (pc := 67) dX10_leaveRun_67 ew_615 ?_
  refine ea_lstore (pc := 70) (lv' := [(0, vR r0), (1, vI x1), (2, vI x2), (3, vI x3), (4, vJ y4), (6, vI x6), (7, vJ sy0), (9, vJ 9223372036854775807)]) dX10_leaveRun_70 (Nat.le_of_ble_eq_true rfl) [1, 2, 3, 4, 5, 6, 7, 0] rfl ?_
  refine ea_iload (pc := 72) dX10_leaveRun_72 5 rfl ?_
  refine ea_iload_n (pc := 74) dX10_leaveRun_74 rfl 3 rfl ?_
  refine ea_icmp_ne (pc := 75) (tgt := 98) dX10_leaveRun_75 rfl (fun c7 => ?_) (fun c7 => ?_)
  · have H := H.1 c7
    refine ea_lload (pc := 98) dX10_leaveRun_98 6 rfl ?_
    refine ea_ldc2 (pc := 100) dX10_leaveRun_100 ew_615 ?_
    refine ea_lcmp (pc := 103) dX10_leaveRun_103 ?_
    refine ea_if_eq (pc := 104) (tgt := 122) dX10_leaveRun_104 rfl (fun c1 => ?_) (fun c1 => ?_)
    · have H := H.1 c1
      exact ea_fewer [0, 1, 2, 3, 4, 5, 7] rfl H
    · have H := H.2 c1
      refine ea_lload (pc := 107) dX10_leaveRun_107 6 rfl ?_
      refine ea_bipush (pc := 109) dX10_leaveRun_109 (v := 13) rfl ?_
      refine ea_lshr (pc := 111) dX10_leaveRun_111 ?_
      refine ea_lconst (pc := 112) dX10_leaveRun_112 (v := 1) rfl ?_
      refine ea_ladd (pc := 113) dX10_leaveRun_113 ?_
      refine ea_bipush (pc := 114) dX10_leaveRun_114 (v := 13) rfl ?_
      refine ea_lshl (pc := 116) dX10_leaveRun_116 ?_
      refine ea_lload (pc := 117) dX10_leaveRun_117 4 rfl ?_
      refine ea_lor (pc := 119) dX10_leaveRun_119 ?_
      refine ea_lstore (pc := 120) (lv' := [(0, vR r0), (1, vI x1), (2, vI x2), (3, vI x3), (4, vJ y4), (6, vI x6), (9, vJ ((((sy0 >>> (Int32.toInt64 13 &&& 63)) + (1 : Int64)) <<< (Int32.toInt64 13 &&& 63)) ||| y4))]) dX10_leaveRun_120 (Nat.le_of_ble_eq_true rfl) [1, 2, 3, 4, 5, 6, 0] rfl ?_
      exact H
  · have H := H.2 c7
    refine ea_iload_n (pc := 78) dX10_leaveRun_78 rfl 1 rfl ?_
    obtain ⟨d2, xc6, h3, m4, q5, H⟩ := H
    refine ea_callS (pc := 79) (As := [vI x1]) (st := []) dX10_leaveRun_79 kX10_minuteIn m4 q5 rfl (Nat.le_of_ble_eq_true rfl) ew_602 ew_603 ?_
    refine ea_i2l (pc := 82) dX10_leaveRun_82 ?_
    refine ea_bipush (pc := 83) dX10_leaveRun_83 (v := 21) rfl ?_
    refine ea_lshl (pc := 85) dX10_leaveRun_85 ?_
    refine ea_ldc2 (pc := 86) dX10_leaveRun_86 ew_630 ?_
    refine ea_lor (pc := 89) dX10_leaveRun_89 ?_
    refine ea_lload (pc := 90) dX10_leaveRun_90 4 rfl ?_
    refine ea_lor (pc := 92) dX10_leaveRun_92 ?_
    refine ea_lstore (pc := 93) (lv' := [(0, vR r0), (1, vI x1), (2, vI x2), (3, vI x3), (4, vJ y4), (6, vI x6), (9, vJ ((((Int32.toInt64 xc6) <<< (Int32.toInt64 21 &&& 63)) ||| (8192 : Int64)) ||| y4))]) dX10_leaveRun_93 (Nat.le_of_ble_eq_true rfl) [1, 2, 3, 4, 5, 6, 0] rfl ?_
    refine ea_goto (pc := 95) (tgt := 122) dX10_leaveRun_95 rfl ?_
    exact H
theorem bX10_leaveRun_122 {d : Nat} {h0 hE h : ea_H} {rv : Option ea_V} {r0 : Option Nat} {x1 : Int32} {x2 : Int32} {x3 : Int32} {y4 : Int64} {x6 : Int32} {y9 : Int64} (H : ∃ a3, r0 = some a3 ∧ a3 < ea_n h ∧ ea_c h a3 = 10 ∧ a3 < ea_n h ∧ ea_c h a3 = 10 ∧ ∃ a9, (ea_r h a3 5) = some a9 ∧ a9 < ea_n h ∧ ea_c h a9 = 22 ∧ vp_in (((12 : Int32) * (x2 / (8 : Int32))) + x6) (ea_l h a9) ∧ ∃ (d12 : Nat) (yc16 : Int64) (h13 : ea_H), ea_Met mJ9_min_f86c9 d12 [vJ (ea_j h a9 (Int32.toNatClampNeg (((12 : Int32) * (x2 / (8 : Int32))) + x6))), vJ y9] h (some (vJ yc16)) h13 ∧ d12 + 1 ≤ d ∧ a9 < ea_n h13 ∧ ea_c h13 a9 = 22 ∧ vp_in (((12 : Int32) * (x2 / (8 : Int32))) + x6) (ea_l h13 a9) ∧ ∀ h20, h20 = ea_wj h13 a9 (Int32.toNatClampNeg (((12 : Int32) * (x2 / (8 : Int32))) + x6)) yc16 → ea_W mX10_leaveRun d h0 rv hE 26 [(0, vR r0), (1, vI x1), (2, vI x2), (3, vI x3), (4, vJ y4), (6, vI (x6 + 1))] [] h20) : ea_W mX10_leaveRun d h0 rv hE 122 [(0, vR r0), (1, vI x1), (2, vI x2), (3, vI x3), (4, vJ y4), (6, vI x6), (9, vJ y9)] [] h := by
  refine ea_bipush (pc := 122) dX10_leaveRun_122 (v := 12) rfl ?_
  refine ea_iload_n (pc := 124) dX10_leaveRun_124 rfl 2 rfl ?_
  refine ea_bipush (pc := 125) dX10_leaveRun_125 (v := 8) rfl ?_
  refine ea_idiv (pc := 127) dX10_leaveRun_127 (by decide) ?_
  refine ea_imul (pc := 128) dX10_leaveRun_128 ?_
  refine ea_iload (pc := 129) dX10_leaveRun_129 5 rfl ?_
  refine ea_iadd (pc := 131) dX10_leaveRun_131 ?_
  refine ea_istore (pc := 132) (lv' := [(0, vR r0), (1, vI x1), (2, vI x2), (3, vI x3), (4, vJ y4), (6, vI x6), (9, vJ y9), (11, vI (((12 : Int32) * (x2 / (8 : Int32))) + x6))]) dX10_leaveRun_132 (Nat.le_of_ble_eq_true rfl) [1, 2, 3, 4, 5, 6, 7, 0] rfl ?_
  refine ea_aload_n (pc := 134) dX10_leaveRun_134 rfl 0 rfl ?_
  obtain ⟨a3, e4, f1, g2, H⟩ := H
  refine ea_deref0 e4 ?_
  refine ea_getR (pc := 135) dX10_leaveRun_135 ec_10 (k := 5) (Nat.le_of_ble_eq_true rfl) rfl (Or.inl ew_232) f1 g2 rfl ?_
  refine ea_iload (pc := 138) dX10_leaveRun_138 7 rfl ?_
  refine ea_aload_n (pc := 140) dX10_leaveRun_140 rfl 0 rfl ?_
  obtain ⟨f5, g6, H⟩ := H
  refine ea_deref0 e4 ?_
  refine ea_getR (pc := 141) dX10_leaveRun_141 ec_10 (k := 5) (Nat.le_of_ble_eq_true rfl) rfl (Or.inl ew_232) f5 g6 rfl ?_
  refine ea_iload (pc := 144) dX10_leaveRun_144 7 rfl ?_
  obtain ⟨a9, e10, f7, g8, H⟩ := H
  refine ea_deref1 e10 ?_
  obtain ⟨z11, H⟩ := H
  refine ea_lald (pc := 146) dX10_leaveRun_146 f7 g8 z11 ?_
  refine ea_lload (pc := 147) dX10_leaveRun_147 6 rfl ?_
  obtain ⟨d12, yc16, h13, m14, q15, H⟩ := H
  refine ea_callS (pc := 149) (As := [vJ (ea_j h a9 (Int32.toNatClampNeg (((12 : Int32) * (x2 / (8 : Int32))) + x6))), vJ y9]) (st := [vI (((12 : Int32) * (x2 / (8 : Int32))) + x6), vR (ea_r h a3 5)]) dX10_leaveRun_149 kJ9_min_f86c9 m14 q15 rfl (Nat.le_of_ble_eq_true rfl) ew_623 ew_624 ?_
  obtain ⟨f17, g18, H⟩ := H
  refine ea_deref2 e10 ?_
  obtain ⟨z19, H⟩ := H
  refine ea_last (pc := 152) dX10_leaveRun_152 f17 g18 z19 ?_
  obtain ⟨h20, E21⟩ : ∃ z, z = ea_wj h13 a9 (Int32.toNatClampNeg (((12 : Int32) * (x2 / (8 : Int32))) + x6)) yc16 := ⟨_, rfl⟩
  have H := H h20 E21
  refine ea_nm E21 ?_
  refine ea_iinc (pc := 153) (v := 1) (lv' := [(0, vR r0), (1, vI x1), (2, vI x2), (3, vI x3), (4, vJ y4), (6, vI (x6 + 1))]) dX10_leaveRun_153 5 rfl rfl (Nat.le_of_ble_eq_true rfl) [1, 2, 3, 4, 5, 0] rfl ?_
  refine ea_goto (pc := 156) (tgt := 26) dX10_leaveRun_156 rfl ?_
  exact H
theorem dX8_init_0 : decode cX8_init 0 = .ok (.aload_n 0, 1) := by decide +kernel
theorem dX8_init_1 : decode cX8_init 1 = .ok (.invokespecial 3, 3) := by decide +kernel
theorem dX8_init_4 : decode cX8_init 4 = .ok (.aload_n 0, 1) := by decide +kernel
theorem dX8_init_5 : decode cX8_init 5 = .ok (.new 9, 3) := by decide +kernel
theorem dX8_init_8 : decode cX8_init 8 = .ok (.dup, 1) := by decide +kernel
theorem dX8_init_9 : decode cX8_init 9 = .ok (.invokespecial 11, 3) := by decide +kernel
theorem dX8_init_12 : decode cX8_init 12 = .ok (.putfield 12, 3) := by decide +kernel
theorem dX8_init_15 : decode cX8_init 15 = .ok (.aload_n 0, 1) := by decide +kernel
theorem dX8_init_16 : decode cX8_init 16 = .ok (.bipush 6, 2) := by decide +kernel
theorem dX8_init_18 : decode cX8_init 18 = .ok (.anewarray 18, 3) := by decide +kernel
theorem dX8_init_21 : decode cX8_init 21 = .ok (.putfield 20, 3) := by decide +kernel
theorem dX8_init_24 : decode cX8_init 24 = .ok (.aload_n 0, 1) := by decide +kernel
theorem dX8_init_25 : decode cX8_init 25 = .ok (.bipush 7, 2) := by decide +kernel
theorem dX8_init_27 : decode cX8_init 27 = .ok (.newarray .int, 2) := by decide +kernel
theorem dX8_init_29 : decode cX8_init 29 = .ok (.putfield 24, 3) := by decide +kernel
theorem dX8_init_32 : decode cX8_init 32 = .ok (.aload_n 0, 1) := by decide +kernel
theorem dX8_init_33 : decode cX8_init 33 = .ok (.bipush 64, 2) := by decide +kernel
theorem dX8_init_35 : decode cX8_init 35 = .ok (.newarray .int, 2) := by decide +kernel
theorem dX8_init_37 : decode cX8_init 37 = .ok (.putfield 28, 3) := by decide +kernel
theorem dX8_init_40 : decode cX8_init 40 = .ok (.return_, 1) := by decide +kernel
theorem bX8_init_0 {d : Nat} {h0 hE h : ea_H} {rv : Option ea_V} {r0 : Option Nat} (H : 1 ≤ d ∧ ∃ a32, r0 = some a32 ∧ ∀ h34, h34 = ea_new h 5 0 12 → ∃ (d36 : Nat) (h37 : ea_H), ea_Met mX5_init d36 [vR (some (ea_n h))] h34 none h37 ∧ d36 + 1 ≤ d ∧ a32 < ea_n h37 ∧ ea_c h37 a32 = 8 ∧ ∀ h42, h42 = ea_wr h37 a32 0 (some (ea_n h)) → ∀ h44, h44 = ea_new h42 26 6 6 → a32 < ea_n h44 ∧ ea_c h44 a32 = 8 ∧ ∀ h48, h48 = ea_wr h44 a32 2 (some (ea_n h42)) → ∀ h50, h50 = ea_new h48 20 7 7 → a32 < ea_n h50 ∧ ea_c h50 a32 = 8 ∧ ∀ h54, h54 = ea_wr h50 a32 3 (some (ea_n h48)) → ∀ h56, h56 = ea_new h54 20 64 64 → a32 < ea_n h56 ∧ ea_c h56 a32 = 8 ∧ ∀ h60, h60 = ea_wr h56 a32 4 (some (ea_n h54)) → rv = none ∧ hE = h60) : ea_W mX8_init d h0 rv hE 0 [(0, vR r0)] [] h := by
  refine ea_aload_n (pc := 0) dX8_init_0 rfl 0 rfl ?_
  obtain ⟨z31, a32, e33, H⟩ := H
  refine ea_deref0 e33 ?_
  refine ea_objInit (pc := 1) dX8_init_1 ew_284 ew_134 ew_135 z31 (Nat.le_of_ble_eq_true rfl) ?_
  refine ea_aload_n (pc := 4) dX8_init_4 rfl 0 rfl ?_
  refine ea_newO (pc := 5) dX8_init_5 ec_5 ew_285 ew_286 ew_117 ?_
  obtain ⟨h34, E35⟩ : ∃ z, z = ea_new h 5 0 12 := ⟨_, rfl⟩
  have H := H h34 E35
  refine ea_nm E35 ?_
  refine ea_dup (pc := 8) dX8_init_8 rfl ?_
  obtain ⟨d36, h37, m38, q39, H⟩ := H
  refine ea_callIN (pc := 9) (As := []) (st := [vR (some (ea_n h)), vR r0]) dX8_init_9 kX5_init m38 q39 rfl (Nat.le_of_ble_eq_true rfl) ew_287 ew_288 rfl rfl ?_
  obtain ⟨f40, g41, H⟩ := H
  refine ea_deref1 e33 ?_
  refine ea_putR (pc := 12) dX8_init_12 ec_8 (k := 0) (Nat.le_of_ble_eq_true rfl) rfl (Or.inr ⟨rfl, rfl, rfl, ew_333⟩) f40 g41 ?_
  obtain ⟨h42, E43⟩ : ∃ z, z = ea_wr h37 a32 0 (some (ea_n h)) := ⟨_, rfl⟩
  have H := H h42 E43
  refine ea_nm E43 ?_
  refine ea_aload_n (pc := 15) dX8_init_15 rfl 0 rfl ?_
  refine ea_bipush (pc := 16) dX8_init_16 (v := 6) rfl ?_
  refine ea_newR26 (pc := 18) (N := 6) dX8_init_18 ew_331 ew_332 (by decide) rfl (Nat.le_of_ble_eq_true rfl) ?_
  obtain ⟨h44, E45⟩ : ∃ z, z = ea_new h42 26 6 6 := ⟨_, rfl⟩
  have H := H h44 E45
  refine ea_nm E45 ?_
  obtain ⟨f46, g47, H⟩ := H
  refine ea_deref1 e33 ?_
  refine ea_putR (pc := 21) dX8_init_21 ec_8 (k := 2) (Nat.le_of_ble_eq_true rfl) rfl (Or.inr ⟨rfl, rfl, rfl, ew_337⟩) f46 g47 ?_
  obtain ⟨h48, E49⟩ : ∃ z, z = ea_wr h44 a32 2 (some (ea_n h42)) := ⟨_, rfl⟩
  have H := H h48 E49
  refine ea_nm E49 ?_
  refine ea_aload_n (pc := 24) dX8_init_24 rfl 0 rfl ?_
  refine ea_bipush (pc := 25) dX8_init_25 (v := 7) rfl ?_
  refine ea_newI (pc := 27) (N := 7) dX8_init_27 ew_170 (by decide) rfl (Nat.le_of_ble_eq_true rfl) ?_
  obtain ⟨h50, E51⟩ : ∃ z, z = ea_new h48 20 7 7 := ⟨_, rfl⟩
  have H := H h50 E51
  refine ea_nm E51 ?_
  obtain ⟨f52, g53, H⟩ := H
  refine ea_deref1 e33 ?_
  refine ea_putR (pc := 29) dX8_init_29 ec_8 (k := 3) (Nat.le_of_ble_eq_true rfl) rfl (Or.inr ⟨rfl, rfl, rfl, ew_338⟩) f52 g53 ?_
  obtain ⟨h54, E55⟩ : ∃ z, z = ea_wr h50 a32 3 (some (ea_n h48)) := ⟨_, rfl⟩
  have H := H h54 E55
  refine ea_nm E55 ?_
  refine ea_aload_n (pc := 32) dX8_init_32 rfl 0 rfl ?_
  refine ea_bipush (pc := 33) dX8_init_33 (v := 64) rfl ?_
  refine ea_newI (pc := 35) (N := 64) dX8_init_35 ew_170 (by decide) rfl (Nat.le_of_ble_eq_true rfl) ?_
  obtain ⟨h56, E57⟩ : ∃ z, z = ea_new h54 20 64 64 := ⟨_, rfl⟩
  have H := H h56 E57
  refine ea_nm E57 ?_
  obtain ⟨f58, g59, H⟩ := H
  refine ea_deref1 e33 ?_
  refine ea_putR (pc := 37) dX8_init_37 ec_8 (k := 4) (Nat.le_of_ble_eq_true rfl) rfl (Or.inr ⟨rfl, rfl, rfl, ew_339⟩) f58 g59 ?_
  obtain ⟨h60, E61⟩ : ∃ z, z = ea_wr h56 a32 4 (some (ea_n h54)) := ⟨_, rfl⟩
  have H := H h60 E61
  refine ea_nm E61 ?_
  obtain ⟨rfl, rfl⟩ := H
  exact ea_return (pc := 40) dX8_init_40 rfl
theorem dX8_mayBegin_0 : decode cX8_mayBegin 0 = .ok (.aload_n 0, 1) := by decide +kernel
theorem dX8_mayBegin_1 : decode cX8_mayBegin 1 = .ok (.getfield 31, 3) := by decide +kernel
theorem dX8_mayBegin_4 : decode cX8_mayBegin 4 = .ok (.ifCond .le 20, 3) := by decide +kernel
theorem dX8_mayBegin_7 : decode cX8_mayBegin 7 = .ok (.aload_n 0, 1) := by decide +kernel
theorem dX8_mayBegin_8 : decode cX8_mayBegin 8 = .ok (.getfield 20, 3) := by decide +kernel
theorem dX8_mayBegin_11 : decode cX8_mayBegin 11 = .ok (.aload_n 0, 1) := by decide +kernel
theorem dX8_mayBegin_12 : decode cX8_mayBegin 12 = .ok (.getfield 31, 3) := by decide +kernel
theorem dX8_mayBegin_15 : decode cX8_mayBegin 15 = .ok (.iconst 1, 1) := by decide +kernel
theorem dX8_mayBegin_16 : decode cX8_mayBegin 16 = .ok (.isub, 1) := by decide +kernel
theorem dX8_mayBegin_17 : decode cX8_mayBegin 17 = .ok (.aaload, 1) := by decide +kernel
theorem dX8_mayBegin_18 : decode cX8_mayBegin 18 = .ok (.getfield 35, 3) := by decide +kernel
theorem dX8_mayBegin_21 : decode cX8_mayBegin 21 = .ok (.goto 4, 3) := by decide +kernel
theorem dX8_mayBegin_24 : decode cX8_mayBegin 24 = .ok (.iconst 0, 1) := by decide +kernel
theorem dX8_mayBegin_25 : decode cX8_mayBegin 25 = .ok (.istore_n 2, 1) := by decide +kernel
theorem dX8_mayBegin_26 : decode cX8_mayBegin 26 = .ok (.aload_n 0, 1) := by decide +kernel
theorem dX8_mayBegin_27 : decode cX8_mayBegin 27 = .ok (.getfield 31, 3) := by decide +kernel
theorem dX8_mayBegin_30 : decode cX8_mayBegin 30 = .ok (.bipush 6, 2) := by decide +kernel
theorem dX8_mayBegin_32 : decode cX8_mayBegin 32 = .ok (.if_icmp .ge 18, 3) := by decide +kernel
theorem dX8_mayBegin_35 : decode cX8_mayBegin 35 = .ok (.iload_n 1, 1) := by decide +kernel
theorem dX8_mayBegin_36 : decode cX8_mayBegin 36 = .ok (.iload_n 2, 1) := by decide +kernel
theorem dX8_mayBegin_37 : decode cX8_mayBegin 37 = .ok (.if_icmp .lt 13, 3) := by decide +kernel
theorem dX8_mayBegin_40 : decode cX8_mayBegin 40 = .ok (.iload_n 1, 1) := by decide +kernel
theorem dX8_mayBegin_41 : decode cX8_mayBegin 41 = .ok (.bipush 7, 2) := by decide +kernel
theorem dX8_mayBegin_43 : decode cX8_mayBegin 43 = .ok (.if_icmp .ge 7, 3) := by decide +kernel
theorem dX8_mayBegin_46 : decode cX8_mayBegin 46 = .ok (.iconst 1, 1) := by decide +kernel
theorem dX8_mayBegin_47 : decode cX8_mayBegin 47 = .ok (.goto 4, 3) := by decide +kernel
theorem dX8_mayBegin_50 : decode cX8_mayBegin 50 = .ok (.iconst 0, 1) := by decide +kernel
theorem dX8_mayBegin_51 : decode cX8_mayBegin 51 = .ok (.ireturn, 1) := by decide +kernel
theorem bX8_mayBegin_0 {d : Nat} {h0 hE h : ea_H} {rv : Option ea_V} {r0 : Option Nat} {x1 : Int32} (H : ∃ a3, r0 = some a3 ∧ a3 < ea_n h ∧ ea_c h a3 = 8 ∧ ((ea_i h a3 1) ≤ (0 : Int32) → ea_W mX8_mayBegin d h0 rv hE 25 [(0, vR r0), (1, vI x1)] [vI 0] h) ∧ (¬ (ea_i h a3 1) ≤ (0 : Int32) → a3 < ea_n h ∧ ea_c h a3 = 8 ∧ a3 < ea_n h ∧ ea_c h a3 = 8 ∧ ∃ a11, (ea_r h a3 2) = some a11 ∧ a11 < ea_n h ∧ ea_c h a11 = 26 ∧ vp_in ((ea_i h a3 1) - (1 : Int32)) (ea_l h a11) ∧ ∃ a16, (ea_r h a11 (Int32.toNatClampNeg ((ea_i h a3 1) - (1 : Int32)))) = some a16 ∧ a16 < ea_n h ∧ ea_c h a16 = 0 ∧ ea_W mX8_mayBegin d h0 rv hE 25 [(0, vR r0), (1, vI x1)] [vI (ea_i h a16 0)] h)) : ea_W mX8_mayBegin d h0 rv hE 0 [(0, vR r0), (1, vI x1)] [] h := by
  refine ea_aload_n (pc := 0) dX8_mayBegin_0 rfl 0 rfl ?_
  obtain ⟨a3, e4, f1, g2, H⟩ := H
  refine ea_deref0 e4 ?_
  refine ea_getI (pc := 1) dX8_mayBegin_1 ec_8 (k := 1) (Nat.le_of_ble_eq_true rfl) rfl (Or.inl ew_335) f1 g2 ?_
  refine ea_if_le (pc := 4) (tgt := 24) dX8_mayBegin_4 rfl (fun c18 => ?_) (fun c18 => ?_)
  · have H := H.1 c18
    refine ea_iconst (pc := 24) dX8_mayBegin_24 (v := 0) rfl ?_
    exact H
  · have H := H.2 c18
    refine ea_aload_n (pc := 7) dX8_mayBegin_7 rfl 0 rfl ?_
    obtain ⟨f5, g6, H⟩ := H
    refine ea_deref0 e4 ?_
    refine ea_getR (pc := 8) dX8_mayBegin_8 ec_8 (k := 2) (Nat.le_of_ble_eq_true rfl) rfl (Or.inl ew_337) f5 g6 rfl ?_
    refine ea_aload_n (pc := 11) dX8_mayBegin_11 rfl 0 rfl ?_
    obtain ⟨f7, g8, H⟩ := H
    refine ea_deref0 e4 ?_
    refine ea_getI (pc := 12) dX8_mayBegin_12 ec_8 (k := 1) (Nat.le_of_ble_eq_true rfl) rfl (Or.inl ew_335) f7 g8 ?_
    refine ea_iconst (pc := 15) dX8_mayBegin_15 (v := 1) rfl ?_
    refine ea_isub (pc := 16) dX8_mayBegin_16 ?_
    obtain ⟨a11, e12, f9, g10, H⟩ := H
    refine ea_deref1 e12 ?_
    obtain ⟨z13, H⟩ := H
    refine ea_aald26 (pc := 17) dX8_mayBegin_17 f9 g10 z13 rfl ?_
    obtain ⟨a16, e17, f14, g15, H⟩ := H
    refine ea_deref0 e17 ?_
    refine ea_getI (pc := 18) dX8_mayBegin_18 ec_0 (k := 0) (Nat.le_of_ble_eq_true rfl) rfl (Or.inl ew_793) f14 g15 ?_
    refine ea_goto (pc := 21) (tgt := 25) dX8_mayBegin_21 rfl ?_
    exact H
theorem bX8_mayBegin_25 {d : Nat} {h0 hE h : ea_H} {rv : Option ea_V} {r0 : Option Nat} {x1 : Int32} {sx0 : Int32} (H : ∃ a3, r0 = some a3 ∧ a3 < ea_n h ∧ ea_c h a3 = 8 ∧ ((6 : Int32) ≤ (ea_i h a3 1) → rv = some (vI 0) ∧ hE = h) ∧ (¬ (6 : Int32) ≤ (ea_i h a3 1) → (x1 < sx0 → rv = some (vI 0) ∧ hE = h) ∧ (¬ x1 < sx0 → ((7 : Int32) ≤ x1 → rv = some (vI 0) ∧ hE = h) ∧ (¬ (7 : Int32) ≤ x1 → rv = some (vI 1) ∧ hE = h)))) : ea_W mX8_mayBegin d h0 rv hE 25 [(0, vR r0), (1, vI x1)] [vI sx0] h := by
  refine ea_istore_n (pc := 25) (lv' := [(0, vR r0), (1, vI x1), (2, vI sx0)]) dX8_mayBegin_25 rfl (Nat.le_of_ble_eq_true rfl) [1, 2, 0] rfl ?_
  refine ea_aload_n (pc := 26) dX8_mayBegin_26 rfl 0 rfl ?_
  obtain ⟨a3, e4, f1, g2, H⟩ := H
  refine ea_deref0 e4 ?_
  refine ea_getI (pc := 27) dX8_mayBegin_27 ec_8 (k := 1) (Nat.le_of_ble_eq_true rfl) rfl (Or.inl ew_335) f1 g2 ?_
  refine ea_bipush (pc := 30) dX8_mayBegin_30 (v := 6) rfl ?_
  refine ea_icmp_ge (pc := 32) (tgt := 50) dX8_mayBegin_32 rfl (fun c7 => ?_) (fun c7 => ?_)
  · have H := H.1 c7
    refine ea_iconst (pc := 50) dX8_mayBegin_50 (v := 0) rfl ?_
    obtain ⟨rfl, rfl⟩ := H
    exact ea_ireturn (pc := 51) dX8_mayBegin_51 rfl (ea_bn (Or.inl rfl))
  · have H := H.2 c7
    refine ea_iload_n (pc := 35) dX8_mayBegin_35 rfl 1 rfl ?_
    refine ea_iload_n (pc := 36) dX8_mayBegin_36 rfl 2 rfl ?_
    refine ea_icmp_lt (pc := 37) (tgt := 50) dX8_mayBegin_37 rfl (fun c6 => ?_) (fun c6 => ?_)
    · have H := H.1 c6
      refine ea_iconst (pc := 50) dX8_mayBegin_50 (v := 0) rfl ?_
      obtain ⟨rfl, rfl⟩ := H
      exact ea_ireturn (pc := 51) dX8_mayBegin_51 rfl (ea_bn (Or.inl rfl))
    · have H := H.2 c6
      refine ea_iload_n (pc := 40) dX8_mayBegin_40 rfl 1 rfl ?_
      refine ea_bipush (pc := 41) dX8_mayBegin_41 (v := 7) rfl ?_
      refine ea_icmp_ge (pc := 43) (tgt := 50) dX8_mayBegin_43 rfl (fun c5 => ?_) (fun c5 => ?_)
      · have H := H.1 c5
        refine ea_iconst (pc := 50) dX8_mayBegin_50 (v := 0) rfl ?_
        obtain ⟨rfl, rfl⟩ := H
        exact ea_ireturn (pc := 51) dX8_mayBegin_51 rfl (ea_bn (Or.inl rfl))
      · have H := H.2 c5
        refine ea_iconst (pc := 46) dX8_mayBegin_46 (v := 1) rfl ?_
        refine ea_goto (pc := 47) (tgt := 51) dX8_mayBegin_47 rfl ?_
        obtain ⟨rfl, rfl⟩ := H
        exact ea_ireturn (pc := 51) dX8_mayBegin_51 rfl (ea_bn (Or.inr rfl))
theorem dX8_add_0 : decode cX8_add 0 = .ok (.aload_n 1, 1) := by decide +kernel
theorem dX8_add_1 : decode cX8_add 1 = .ok (.ifnull 12, 3) := by decide +kernel
theorem dX8_add_4 : decode cX8_add 4 = .ok (.aload_n 0, 1) := by decide +kernel
theorem dX8_add_5 : decode cX8_add 5 = .ok (.getfield 31, 3) := by decide +kernel
theorem dX8_add_8 : decode cX8_add 8 = .ok (.bipush 6, 2) := by decide +kernel
theorem dX8_add_10 : decode cX8_add 10 = .ok (.if_icmp .lt 5, 3) := by decide +kernel
theorem dX8_add_13 : decode cX8_add 13 = .ok (.iconst (-1), 1) := by decide +kernel
theorem dX8_add_14 : decode cX8_add 14 = .ok (.ireturn, 1) := by decide +kernel
theorem dX8_add_15 : decode cX8_add 15 = .ok (.aload_n 0, 1) := by decide +kernel
theorem dX8_add_16 : decode cX8_add 16 = .ok (.getfield 20, 3) := by decide +kernel
theorem dX8_add_19 : decode cX8_add 19 = .ok (.aload_n 0, 1) := by decide +kernel
theorem dX8_add_20 : decode cX8_add 20 = .ok (.getfield 31, 3) := by decide +kernel
theorem dX8_add_23 : decode cX8_add 23 = .ok (.aload_n 1, 1) := by decide +kernel
theorem dX8_add_24 : decode cX8_add 24 = .ok (.aastore, 1) := by decide +kernel
theorem dX8_add_25 : decode cX8_add 25 = .ok (.aload_n 0, 1) := by decide +kernel
theorem dX8_add_26 : decode cX8_add 26 = .ok (.dup, 1) := by decide +kernel
theorem dX8_add_27 : decode cX8_add 27 = .ok (.getfield 31, 3) := by decide +kernel
theorem dX8_add_30 : decode cX8_add 30 = .ok (.iconst 1, 1) := by decide +kernel
theorem dX8_add_31 : decode cX8_add 31 = .ok (.iadd, 1) := by decide +kernel
theorem dX8_add_32 : decode cX8_add 32 = .ok (.putfield 31, 3) := by decide +kernel
theorem dX8_add_35 : decode cX8_add 35 = .ok (.aload_n 0, 1) := by decide +kernel
theorem dX8_add_36 : decode cX8_add 36 = .ok (.getfield 31, 3) := by decide +kernel
theorem dX8_add_39 : decode cX8_add 39 = .ok (.iconst 1, 1) := by decide +kernel
theorem dX8_add_40 : decode cX8_add 40 = .ok (.isub, 1) := by decide +kernel
theorem dX8_add_41 : decode cX8_add 41 = .ok (.ireturn, 1) := by decide +kernel
theorem bX8_add_0 {d : Nat} {h0 hE h : ea_H} {rv : Option ea_V} {r0 : Option Nat} {r1 : Option Nat} (H : (r1 = none → rv = some (vI (-1)) ∧ hE = h) ∧ (∀ a1, r1 = some a1 → ∃ a5, r0 = some a5 ∧ a5 < ea_n h ∧ ea_c h a5 = 8 ∧ ((ea_i h a5 1) < (6 : Int32) → a5 < ea_n h ∧ ea_c h a5 = 8 ∧ a5 < ea_n h ∧ ea_c h a5 = 8 ∧ ∃ a13, (ea_r h a5 2) = some a13 ∧ a13 < ea_n h ∧ ea_c h a13 = 26 ∧ vp_in (ea_i h a5 1) (ea_l h a13) ∧ a1 < ea_n h ∧ ea_c h a1 = 0 ∧ ∀ h16, h16 = ea_wr h a13 (Int32.toNatClampNeg (ea_i h a5 1)) (some a1) → a5 < ea_n h16 ∧ ea_c h16 a5 = 8 ∧ a5 < ea_n h16 ∧ ea_c h16 a5 = 8 ∧ ∀ h24, h24 = ea_wi h16 a5 1 ((ea_i h16 a5 1) + (1 : Int32)) → a5 < ea_n h24 ∧ ea_c h24 a5 = 8 ∧ rv = some (vI ((ea_i h24 a5 1) - (1 : Int32))) ∧ hE = h24) ∧ (¬ (ea_i h a5 1) < (6 : Int32) → rv = some (vI (-1)) ∧ hE = h))) : ea_W mX8_add d h0 rv hE 0 [(0, vR r0), (1, vR r1)] [] h := by
  refine ea_aload_n (pc := 0) dX8_add_0 rfl 1 rfl ?_
  refine ea_ifnull (pc := 1) (tgt := 13) dX8_add_1 rfl (fun e2 => ?_) (fun a1 e2 => ?_)
  · have H := H.1 e2
    refine ea_iconst (pc := 13) dX8_add_13 (v := (-1)) rfl ?_
    obtain ⟨rfl, rfl⟩ := H
    exact ea_ireturn (pc := 14) dX8_add_14 rfl rfl
  · have H := H.2 a1 e2
    refine ea_aload_n (pc := 4) dX8_add_4 rfl 0 rfl ?_
    obtain ⟨a5, e6, f3, g4, H⟩ := H
    refine ea_deref0 e6 ?_
    refine ea_getI (pc := 5) dX8_add_5 ec_8 (k := 1) (Nat.le_of_ble_eq_true rfl) rfl (Or.inl ew_335) f3 g4 ?_
    refine ea_bipush (pc := 8) dX8_add_8 (v := 6) rfl ?_
    refine ea_icmp_lt (pc := 10) (tgt := 15) dX8_add_10 rfl (fun c28 => ?_) (fun c28 => ?_)
    · have H := H.1 c28
      refine ea_aload_n (pc := 15) dX8_add_15 rfl 0 rfl ?_
      obtain ⟨f7, g8, H⟩ := H
      refine ea_deref0 e6 ?_
      refine ea_getR (pc := 16) dX8_add_16 ec_8 (k := 2) (Nat.le_of_ble_eq_true rfl) rfl (Or.inl ew_337) f7 g8 rfl ?_
      refine ea_aload_n (pc := 19) dX8_add_19 rfl 0 rfl ?_
      obtain ⟨f9, g10, H⟩ := H
      refine ea_deref0 e6 ?_
      refine ea_getI (pc := 20) dX8_add_20 ec_8 (k := 1) (Nat.le_of_ble_eq_true rfl) rfl (Or.inl ew_335) f9 g10 ?_
      refine ea_aload_n (pc := 23) dX8_add_23 rfl 1 rfl ?_
      obtain ⟨a13, e14, f11, g12, H⟩ := H
      refine ea_deref2 e14 ?_
      obtain ⟨z15, H⟩ := H
      obtain ⟨f18, g19, H⟩ := H
      refine ea_deref0 e2 ?_
      refine ea_aast26 (pc := 24) dX8_add_24 f11 g12 z15 f18 g19 ?_
      obtain ⟨h16, E17⟩ : ∃ z, z = ea_wr h a13 (Int32.toNatClampNeg (ea_i h a5 1)) (some a1) := ⟨_, rfl⟩
      have H := H h16 E17
      refine ea_nm E17 ?_
      refine ea_aload_n (pc := 25) dX8_add_25 rfl 0 rfl ?_
      refine ea_dup (pc := 26) dX8_add_26 rfl ?_
      obtain ⟨f20, g21, H⟩ := H
      refine ea_deref0 e6 ?_
      refine ea_getI (pc := 27) dX8_add_27 ec_8 (k := 1) (Nat.le_of_ble_eq_true rfl) rfl (Or.inl ew_335) f20 g21 ?_
      refine ea_iconst (pc := 30) dX8_add_30 (v := 1) rfl ?_
      refine ea_iadd (pc := 31) dX8_add_31 ?_
      obtain ⟨f22, g23, H⟩ := H
      refine ea_deref1 e6 ?_
      refine ea_putI (pc := 32) dX8_add_32 ec_8 (k := 1) (Nat.le_of_ble_eq_true rfl) rfl (Or.inl ⟨rfl, Or.inl ew_335⟩) rfl rfl f22 g23 ?_
      obtain ⟨h24, E25⟩ : ∃ z, z = ea_wi h16 a5 1 ((ea_i h16 a5 1) + (1 : Int32)) := ⟨_, rfl⟩
      have H := H h24 E25
      refine ea_nm E25 ?_
      refine ea_aload_n (pc := 35) dX8_add_35 rfl 0 rfl ?_
      obtain ⟨f26, g27, H⟩ := H
      refine ea_deref0 e6 ?_
      refine ea_getI (pc := 36) dX8_add_36 ec_8 (k := 1) (Nat.le_of_ble_eq_true rfl) rfl (Or.inl ew_335) f26 g27 ?_
      refine ea_iconst (pc := 39) dX8_add_39 (v := 1) rfl ?_
      refine ea_isub (pc := 40) dX8_add_40 ?_
      obtain ⟨rfl, rfl⟩ := H
      exact ea_ireturn (pc := 41) dX8_add_41 rfl rfl
    · have H := H.2 c28
      refine ea_iconst (pc := 13) dX8_add_13 (v := (-1)) rfl ?_
      obtain ⟨rfl, rfl⟩ := H
      exact ea_ireturn (pc := 14) dX8_add_14 rfl rfl
theorem dX8_actOf_0 : decode cX8_actOf 0 = .ok (.iload_n 1, 1) := by decide +kernel
theorem dX8_actOf_1 : decode cX8_actOf 1 = .ok (.ifCond .lt 20, 3) := by decide +kernel
theorem dX8_actOf_4 : decode cX8_actOf 4 = .ok (.iload_n 1, 1) := by decide +kernel
theorem dX8_actOf_5 : decode cX8_actOf 5 = .ok (.aload_n 0, 1) := by decide +kernel
theorem dX8_actOf_6 : decode cX8_actOf 6 = .ok (.getfield 31, 3) := by decide +kernel
theorem dX8_actOf_9 : decode cX8_actOf 9 = .ok (.if_icmp .ge 12, 3) := by decide +kernel
theorem dX8_actOf_12 : decode cX8_actOf 12 = .ok (.aload_n 0, 1) := by decide +kernel
theorem dX8_actOf_13 : decode cX8_actOf 13 = .ok (.getfield 20, 3) := by decide +kernel
theorem dX8_actOf_16 : decode cX8_actOf 16 = .ok (.iload_n 1, 1) := by decide +kernel
theorem dX8_actOf_17 : decode cX8_actOf 17 = .ok (.aaload, 1) := by decide +kernel
theorem dX8_actOf_18 : decode cX8_actOf 18 = .ok (.goto 4, 3) := by decide +kernel
theorem dX8_actOf_21 : decode cX8_actOf 21 = .ok (.aconst_null, 1) := by decide +kernel
theorem dX8_actOf_22 : decode cX8_actOf 22 = .ok (.areturn, 1) := by decide +kernel
theorem bX8_actOf_0 {d : Nat} {h0 hE h : ea_H} {rv : Option ea_V} {r0 : Option Nat} {x1 : Int32} (H : (x1 < (0 : Int32) → rv = some (vR none) ∧ hE = h) ∧ (¬ x1 < (0 : Int32) → ∃ a3, r0 = some a3 ∧ a3 < ea_n h ∧ ea_c h a3 = 8 ∧ ((ea_i h a3 1) ≤ x1 → rv = some (vR none) ∧ hE = h) ∧ (¬ (ea_i h a3 1) ≤ x1 → a3 < ea_n h ∧ ea_c h a3 = 8 ∧ ∃ a9, (ea_r h a3 2) = some a9 ∧ a9 < ea_n h ∧ ea_c h a9 = 26 ∧ vp_in x1 (ea_l h a9) ∧ rv = some (vR (ea_r h a9 (Int32.toNatClampNeg x1))) ∧ hE = h))) : ea_W mX8_actOf d h0 rv hE 0 [(0, vR r0), (1, vI x1)] [] h := by
  refine ea_iload_n (pc := 0) dX8_actOf_0 rfl 1 rfl ?_
  refine ea_if_lt (pc := 1) (tgt := 21) dX8_actOf_1 rfl (fun c13 => ?_) (fun c13 => ?_)
  · have H := H.1 c13
    refine ea_null (pc := 21) dX8_actOf_21 ?_
    obtain ⟨rfl, rfl⟩ := H
    exact ea_areturn (pc := 22) dX8_actOf_22 rfl (Or.inl ⟨_, rfl⟩)
  · have H := H.2 c13
    refine ea_iload_n (pc := 4) dX8_actOf_4 rfl 1 rfl ?_
    refine ea_aload_n (pc := 5) dX8_actOf_5 rfl 0 rfl ?_
    obtain ⟨a3, e4, f1, g2, H⟩ := H
    refine ea_deref0 e4 ?_
    refine ea_getI (pc := 6) dX8_actOf_6 ec_8 (k := 1) (Nat.le_of_ble_eq_true rfl) rfl (Or.inl ew_335) f1 g2 ?_
    refine ea_icmp_ge (pc := 9) (tgt := 21) dX8_actOf_9 rfl (fun c12 => ?_) (fun c12 => ?_)
    · have H := H.1 c12
      refine ea_null (pc := 21) dX8_actOf_21 ?_
      obtain ⟨rfl, rfl⟩ := H
      exact ea_areturn (pc := 22) dX8_actOf_22 rfl (Or.inl ⟨_, rfl⟩)
    · have H := H.2 c12
      refine ea_aload_n (pc := 12) dX8_actOf_12 rfl 0 rfl ?_
      obtain ⟨f5, g6, H⟩ := H
      refine ea_deref0 e4 ?_
      refine ea_getR (pc := 13) dX8_actOf_13 ec_8 (k := 2) (Nat.le_of_ble_eq_true rfl) rfl (Or.inl ew_337) f5 g6 rfl ?_
      refine ea_iload_n (pc := 16) dX8_actOf_16 rfl 1 rfl ?_
      obtain ⟨a9, e10, f7, g8, H⟩ := H
      refine ea_deref1 e10 ?_
      obtain ⟨z11, H⟩ := H
      refine ea_aald26 (pc := 17) dX8_actOf_17 f7 g8 z11 rfl ?_
      refine ea_goto (pc := 18) (tgt := 22) dX8_actOf_18 rfl ?_
      obtain ⟨rfl, rfl⟩ := H
      exact ea_areturn (pc := 22) dX8_actOf_22 rfl (Or.inl ⟨_, rfl⟩)
theorem dX8_numberOn_0 : decode cX8_numberOn 0 = .ok (.iconst (-1), 1) := by decide +kernel
theorem dX8_numberOn_1 : decode cX8_numberOn 1 = .ok (.istore_n 2, 1) := by decide +kernel
theorem dX8_numberOn_2 : decode cX8_numberOn 2 = .ok (.iconst 0, 1) := by decide +kernel
theorem dX8_numberOn_3 : decode cX8_numberOn 3 = .ok (.istore_n 3, 1) := by decide +kernel
theorem dX8_numberOn_4 : decode cX8_numberOn 4 = .ok (.iload_n 3, 1) := by decide +kernel
theorem dX8_numberOn_5 : decode cX8_numberOn 5 = .ok (.aload_n 0, 1) := by decide +kernel
theorem dX8_numberOn_6 : decode cX8_numberOn 6 = .ok (.getfield 31, 3) := by decide +kernel
theorem dX8_numberOn_9 : decode cX8_numberOn 9 = .ok (.if_icmp .ge 24, 3) := by decide +kernel
theorem dX8_numberOn_12 : decode cX8_numberOn 12 = .ok (.aload_n 0, 1) := by decide +kernel
theorem dX8_numberOn_13 : decode cX8_numberOn 13 = .ok (.getfield 20, 3) := by decide +kernel
theorem dX8_numberOn_16 : decode cX8_numberOn 16 = .ok (.iload_n 3, 1) := by decide +kernel
theorem dX8_numberOn_17 : decode cX8_numberOn 17 = .ok (.aaload, 1) := by decide +kernel
theorem dX8_numberOn_18 : decode cX8_numberOn 18 = .ok (.getfield 35, 3) := by decide +kernel
theorem dX8_numberOn_21 : decode cX8_numberOn 21 = .ok (.iload_n 1, 1) := by decide +kernel
theorem dX8_numberOn_22 : decode cX8_numberOn 22 = .ok (.if_icmp .gt 5, 3) := by decide +kernel
theorem dX8_numberOn_25 : decode cX8_numberOn 25 = .ok (.iload_n 3, 1) := by decide +kernel
theorem dX8_numberOn_26 : decode cX8_numberOn 26 = .ok (.istore_n 2, 1) := by decide +kernel
theorem dX8_numberOn_27 : decode cX8_numberOn 27 = .ok (.iinc 3 1, 3) := by decide +kernel
theorem dX8_numberOn_30 : decode cX8_numberOn 30 = .ok (.goto (-26), 3) := by decide +kernel
theorem dX8_numberOn_33 : decode cX8_numberOn 33 = .ok (.iload_n 2, 1) := by decide +kernel
theorem dX8_numberOn_34 : decode cX8_numberOn 34 = .ok (.ireturn, 1) := by decide +kernel
theorem bX8_numberOn_0 {d : Nat} {h0 hE h : ea_H} {rv : Option ea_V} {r0 : Option Nat} {x1 : Int32} (H : ea_W mX8_numberOn d h0 rv hE 4 [(0, vR r0), (1, vI x1), (2, vI (-1)), (3, vI 0)] [] h) : ea_W mX8_numberOn d h0 rv hE 0 [(0, vR r0), (1, vI x1)] [] h := by
  refine ea_iconst (pc := 0) dX8_numberOn_0 (v := (-1)) rfl ?_
  refine ea_istore_n (pc := 1) (lv' := [(0, vR r0), (1, vI x1), (2, vI (-1))]) dX8_numberOn_1 rfl (Nat.le_of_ble_eq_true rfl) [1, 2, 0] rfl ?_
  refine ea_iconst (pc := 2) dX8_numberOn_2 (v := 0) rfl ?_
  refine ea_istore_n (pc := 3) (lv' := [(0, vR r0), (1, vI x1), (2, vI (-1)), (3, vI 0)]) dX8_numberOn_3 rfl (Nat.le_of_ble_eq_true rfl) [1, 2, 3, 0] rfl ?_
  exact H
theorem bX8_numberOn_4 {d : Nat} {h0 hE h : ea_H} {rv : Option ea_V} {r0 : Option Nat} {x1 : Int32} {x2 : Int32} {x3 : Int32} (H : ∃ a3, r0 = some a3 ∧ a3 < ea_n h ∧ ea_c h a3 = 8 ∧ ((ea_i h a3 1) ≤ x3 → rv = some (vI x2) ∧ hE = h) ∧ (¬ (ea_i h a3 1) ≤ x3 → a3 < ea_n h ∧ ea_c h a3 = 8 ∧ ∃ a9, (ea_r h a3 2) = some a9 ∧ a9 < ea_n h ∧ ea_c h a9 = 26 ∧ vp_in x3 (ea_l h a9) ∧ ∃ a14, (ea_r h a9 (Int32.toNatClampNeg x3)) = some a14 ∧ a14 < ea_n h ∧ ea_c h a14 = 0 ∧ (x1 < (ea_i h a14 0) → ea_W mX8_numberOn d h0 rv hE 4 [(0, vR r0), (1, vI x1), (2, vI x2), (3, vI (x3 + 1))] [] h) ∧ (¬ x1 < (ea_i h a14 0) → ea_W mX8_numberOn d h0 rv hE 4 [(0, vR r0), (1, vI x1), (2, vI x3), (3, vI (x3 + 1))] [] h))) : ea_W mX8_numberOn d h0 rv hE 4 [(0, vR r0), (1, vI x1), (2, vI x2), (3, vI x3)] [] h := by
  refine ea_iload_n (pc := 4) dX8_numberOn_4 rfl 3 rfl ?_
  refine ea_aload_n (pc := 5) dX8_numberOn_5 rfl 0 rfl ?_
  obtain ⟨a3, e4, f1, g2, H⟩ := H
  refine ea_deref0 e4 ?_
  refine ea_getI (pc := 6) dX8_numberOn_6 ec_8 (k := 1) (Nat.le_of_ble_eq_true rfl) rfl (Or.inl ew_335) f1 g2 ?_
  refine ea_icmp_ge (pc := 9) (tgt := 33) dX8_numberOn_9 rfl (fun c17 => ?_) (fun c17 => ?_)
  · have H := H.1 c17
    refine ea_iload_n (pc := 33) dX8_numberOn_33 rfl 2 rfl ?_
    obtain ⟨rfl, rfl⟩ := H
    exact ea_ireturn (pc := 34) dX8_numberOn_34 rfl rfl
  · have H := H.2 c17
    refine ea_aload_n (pc := 12) dX8_numberOn_12 rfl 0 rfl ?_
    obtain ⟨f5, g6, H⟩ := H
    refine ea_deref0 e4 ?_
    refine ea_getR (pc := 13) dX8_numberOn_13 ec_8 (k := 2) (Nat.le_of_ble_eq_true rfl) rfl (Or.inl ew_337) f5 g6 rfl ?_
    refine ea_iload_n (pc := 16) dX8_numberOn_16 rfl 3 rfl ?_
    obtain ⟨a9, e10, f7, g8, H⟩ := H
    refine ea_deref1 e10 ?_
    obtain ⟨z11, H⟩ := H
    refine ea_aald26 (pc := 17) dX8_numberOn_17 f7 g8 z11 rfl ?_
    obtain ⟨a14, e15, f12, g13, H⟩ := H
    refine ea_deref0 e15 ?_
    refine ea_getI (pc := 18) dX8_numberOn_18 ec_0 (k := 0) (Nat.le_of_ble_eq_true rfl) rfl (Or.inl ew_793) f12 g13 ?_
    refine ea_iload_n (pc := 21) dX8_numberOn_21 rfl 1 rfl ?_
    refine ea_icmp_gt (pc := 22) (tgt := 27) dX8_numberOn_22 rfl (fun c16 => ?_) (fun c16 => ?_)
    · have H := H.1 c16
      refine ea_iinc (pc := 27) (v := 1) (lv' := [(0, vR r0), (1, vI x1), (2, vI x2), (3, vI (x3 + 1))]) dX8_numberOn_27 3 rfl rfl (Nat.le_of_ble_eq_true rfl) [1, 2, 3, 0] rfl ?_
      refine ea_goto (pc := 30) (tgt := 4) dX8_numberOn_30 rfl ?_
      exact H
    · have H := H.2 c16
      refine ea_iload_n (pc := 25) dX8_numberOn_25 rfl 3 rfl ?_
      refine ea_istore_n (pc := 26) (lv' := [(0, vR r0), (1, vI x1), (2, vI x3), (3, vI x3)]) dX8_numberOn_26 rfl (Nat.le_of_ble_eq_true rfl) [1, 2, 0, 3] rfl ?_
      refine ea_iinc (pc := 27) (v := 1) (lv' := [(0, vR r0), (1, vI x1), (2, vI x3), (3, vI (x3 + 1))]) dX8_numberOn_27 3 rfl rfl (Nat.le_of_ble_eq_true rfl) [1, 2, 3, 0] rfl ?_
      refine ea_goto (pc := 30) (tgt := 4) dX8_numberOn_30 rfl ?_
      exact H
theorem dX8_price_0 : decode cX8_price 0 = .ok (.aload_n 1, 1) := by decide +kernel
theorem dX8_price_1 : decode cX8_price 1 = .ok (.aload_n 0, 1) := by decide +kernel
theorem dX8_price_2 : decode cX8_price 2 = .ok (.aload_n 1, 1) := by decide +kernel
theorem dX8_price_3 : decode cX8_price 3 = .ok (.invokevirtual 38, 3) := by decide +kernel
theorem dX8_price_6 : decode cX8_price 6 = .ok (.invokevirtual 44, 3) := by decide +kernel
theorem dX8_price_9 : decode cX8_price 9 = .ok (.putfield 48, 3) := by decide +kernel
theorem dX8_price_12 : decode cX8_price 12 = .ok (.aload_n 0, 1) := by decide +kernel
theorem dX8_price_13 : decode cX8_price 13 = .ok (.aload_n 1, 1) := by decide +kernel
theorem dX8_price_14 : decode cX8_price 14 = .ok (.getfield 48, 3) := by decide +kernel
theorem dX8_price_17 : decode cX8_price 17 = .ok (.invokevirtual 51, 3) := by decide +kernel
theorem dX8_price_20 : decode cX8_price 20 = .ok (.astore_n 2, 1) := by decide +kernel
theorem dX8_price_21 : decode cX8_price 21 = .ok (.aload_n 2, 1) := by decide +kernel
theorem dX8_price_22 : decode cX8_price 22 = .ok (.ifnonnull 4, 3) := by decide +kernel
theorem dX8_price_25 : decode cX8_price 25 = .ok (.return_, 1) := by decide +kernel
theorem dX8_price_26 : decode cX8_price 26 = .ok (.aload_n 1, 1) := by decide +kernel
theorem dX8_price_27 : decode cX8_price 27 = .ok (.aload_n 2, 1) := by decide +kernel
theorem dX8_price_28 : decode cX8_price 28 = .ok (.getfield 55, 3) := by decide +kernel
theorem dX8_price_31 : decode cX8_price 31 = .ok (.putfield 58, 3) := by decide +kernel
theorem dX8_price_34 : decode cX8_price 34 = .ok (.aload_n 1, 1) := by decide +kernel
theorem dX8_price_35 : decode cX8_price 35 = .ok (.aload_n 2, 1) := by decide +kernel
theorem dX8_price_36 : decode cX8_price 36 = .ok (.aload_n 1, 1) := by decide +kernel
theorem dX8_price_37 : decode cX8_price 37 = .ok (.invokestatic 61, 3) := by decide +kernel
theorem dX8_price_40 : decode cX8_price 40 = .ok (.putfield 65, 3) := by decide +kernel
theorem dX8_price_43 : decode cX8_price 43 = .ok (.aload_n 1, 1) := by decide +kernel
theorem dX8_price_44 : decode cX8_price 44 = .ok (.aload_n 0, 1) := by decide +kernel
theorem dX8_price_45 : decode cX8_price 45 = .ok (.aload_n 2, 1) := by decide +kernel
theorem dX8_price_46 : decode cX8_price 46 = .ok (.aload_n 1, 1) := by decide +kernel
theorem dX8_price_47 : decode cX8_price 47 = .ok (.invokevirtual 69, 3) := by decide +kernel
theorem dX8_price_50 : decode cX8_price 50 = .ok (.putfield 73, 3) := by decide +kernel
theorem dX8_price_53 : decode cX8_price 53 = .ok (.aload_n 1, 1) := by decide +kernel
theorem dX8_price_54 : decode cX8_price 54 = .ok (.aload_n 1, 1) := by decide +kernel
theorem dX8_price_55 : decode cX8_price 55 = .ok (.getfield 65, 3) := by decide +kernel
theorem dX8_price_58 : decode cX8_price 58 = .ok (.ifCond .eq 7, 3) := by decide +kernel
theorem dX8_price_61 : decode cX8_price 61 = .ok (.iconst (-1), 1) := by decide +kernel
theorem dX8_price_62 : decode cX8_price 62 = .ok (.goto 9, 3) := by decide +kernel
theorem dX8_price_65 : decode cX8_price 65 = .ok (.aload_n 0, 1) := by decide +kernel
theorem dX8_price_66 : decode cX8_price 66 = .ok (.aload_n 2, 1) := by decide +kernel
theorem dX8_price_67 : decode cX8_price 67 = .ok (.aload_n 1, 1) := by decide +kernel
theorem dX8_price_68 : decode cX8_price 68 = .ok (.invokevirtual 76, 3) := by decide +kernel
theorem dX8_price_71 : decode cX8_price 71 = .ok (.putfield 79, 3) := by decide +kernel
theorem dX8_price_74 : decode cX8_price 74 = .ok (.return_, 1) := by decide +kernel
theorem bX8_price_0 {d : Nat} {h0 hE h : ea_H} {rv : Option ea_V} {r0 : Option Nat} {r1 : Option Nat} (H : ∃ a7, r1 = some a7 ∧ a7 < ea_n h ∧ ea_c h a7 = 4 ∧ ∃ (d1 : Nat) (xc9 : Int32) (h2 : ea_H), ea_Met mX4_dayOf d1 [vR (some a7)] h (some (vI xc9)) h2 ∧ d1 + 1 ≤ d ∧ ∃ a16, r0 = some a16 ∧ a16 < ea_n h2 ∧ ea_c h2 a16 = 8 ∧ ∃ (d10 : Nat) (xc18 : Int32) (h11 : ea_H), ea_Met mX8_numberOn d10 [vR (some a16), vI xc9] h2 (some (vI xc18)) h11 ∧ d10 + 1 ≤ d ∧ a7 < ea_n h11 ∧ ea_c h11 a7 = 4 ∧ ∀ h21, h21 = ea_wi h11 a7 11 xc18 → a7 < ea_n h21 ∧ ea_c h21 a7 = 4 ∧ a16 < ea_n h21 ∧ ea_c h21 a16 = 8 ∧ ∃ (d25 : Nat) (rc31 : Option Nat) (h26 : ea_H), ea_Met mX8_actOf d25 [vR (some a16), vI (ea_i h21 a7 11)] h21 (some (vR rc31)) h26 ∧ d25 + 1 ≤ d ∧ (∀ a32, rc31 = some a32 → a32 < ea_n h26 ∧ ea_c h26 a32 = 0 ∧ a7 < ea_n h26 ∧ ea_c h26 a7 = 4 ∧ ∀ h38, h38 = ea_wi h26 a7 14 (ea_i h26 a32 7) → ∃ (d40 : Nat) (xc44 : Int32) (h41 : ea_H), ea_Met mX8_isFree d40 [vR rc31, vR r1] h38 (some (vI xc44)) h41 ∧ d40 + 1 ≤ d ∧ a7 < ea_n h41 ∧ ea_c h41 a7 = 4 ∧ (xc44 = 0 ∨ xc44 = 1) ∧ ∀ h47, h47 = ea_wi h41 a7 13 xc44 → a16 < ea_n h47 ∧ ea_c h47 a16 = 8 ∧ ∃ (d49 : Nat) (xc55 : Int32) (h50 : ea_H), ea_Met mX8_chargeBy d49 [vR (some a16), vR rc31, vR r1] h47 (some (vI xc55)) h50 ∧ d49 + 1 ≤ d ∧ a7 < ea_n h50 ∧ ea_c h50 a7 = 4 ∧ ∀ h58, h58 = ea_wi h50 a7 10 xc55 → a7 < ea_n h58 ∧ ea_c h58 a7 = 4 ∧ ((ea_i h58 a7 13) = (0 : Int32) → a16 < ea_n h58 ∧ ea_c h58 a16 = 8 ∧ ∃ (d62 : Nat) (xc68 : Int32) (h63 : ea_H), ea_Met mX8_lineFor d62 [vR (some a16), vR rc31, vR r1] h58 (some (vI xc68)) h63 ∧ d62 + 1 ≤ d ∧ a7 < ea_n h63 ∧ ea_c h63 a7 = 4 ∧ ∀ h71, h71 = ea_wi h63 a7 12 xc68 → rv = none ∧ hE = h71) ∧ (¬ (ea_i h58 a7 13) = (0 : Int32) → a7 < ea_n h58 ∧ ea_c h58 a7 = 4 ∧ ∀ h75, h75 = ea_wi h58 a7 12 (-1) → rv = none ∧ hE = h75)) ∧ (rc31 = none → rv = none ∧ hE = h26)) : ea_W mX8_price d h0 rv hE 0 [(0, vR r0), (1, vR r1)] [] h := by
  refine ea_aload_n (pc := 0) dX8_price_0 rfl 1 rfl ?_
  refine ea_aload_n (pc := 1) dX8_price_1 rfl 0 rfl ?_
  refine ea_aload_n (pc := 2) dX8_price_2 rfl 1 rfl ?_
  obtain ⟨a7, e8, f5, g6, H⟩ := H
  refine ea_deref0 e8 ?_
  obtain ⟨d1, xc9, h2, m3, q4, H⟩ := H
  refine ea_callV (pc := 3) (As := []) (st := [vR r0, vR r1]) dX8_price_3 kX4_dayOf m3 q4 rfl (Nat.le_of_ble_eq_true rfl) ew_1040 ew_1033 ew_1034 (ci := 4) rfl (by decide) f5 g6 ?_
  obtain ⟨a16, e17, f14, g15, H⟩ := H
  refine ea_deref1 e17 ?_
  obtain ⟨d10, xc18, h11, m12, q13, H⟩ := H
  refine ea_callV (pc := 6) (As := [vI xc9]) (st := [vR r1]) dX8_price_6 kX8_numberOn m12 q13 rfl (Nat.le_of_ble_eq_true rfl) ew_1041 ew_917 ew_918 (ci := 8) rfl (by decide) f14 g15 ?_
  obtain ⟨f19, g20, H⟩ := H
  refine ea_deref1 e8 ?_
  refine ea_putI (pc := 9) dX8_price_9 ec_4 (k := 11) (Nat.le_of_ble_eq_true rfl) rfl (Or.inl ⟨rfl, Or.inl ew_962⟩) rfl rfl f19 g20 ?_
  obtain ⟨h21, E22⟩ : ∃ z, z = ea_wi h11 a7 11 xc18 := ⟨_, rfl⟩
  have H := H h21 E22
  refine ea_nm E22 ?_
  refine ea_aload_n (pc := 12) dX8_price_12 rfl 0 rfl ?_
  refine ea_aload_n (pc := 13) dX8_price_13 rfl 1 rfl ?_
  obtain ⟨f23, g24, H⟩ := H
  refine ea_deref0 e8 ?_
  refine ea_getI (pc := 14) dX8_price_14 ec_4 (k := 11) (Nat.le_of_ble_eq_true rfl) rfl (Or.inl ew_962) f23 g24 ?_
  obtain ⟨f29, g30, H⟩ := H
  refine ea_deref1 e17 ?_
  obtain ⟨d25, rc31, h26, m27, q28, H⟩ := H
  refine ea_callV (pc := 17) (As := [vI (ea_i h21 a7 11)]) (st := []) dX8_price_17 kX8_actOf m27 q28 rfl (Nat.le_of_ble_eq_true rfl) ew_1042 ew_921 ew_922 (ci := 8) rfl (by decide) f29 g30 ?_
  refine ea_astore_n (pc := 20) (lv' := [(0, vR r0), (1, vR r1), (2, vR rc31)]) dX8_price_20 rfl (Nat.le_of_ble_eq_true rfl) [1, 2, 0] rfl ?_
  refine ea_aload_n (pc := 21) dX8_price_21 rfl 2 rfl ?_
  refine ea_ifnonnull (pc := 22) (tgt := 26) dX8_price_22 rfl (fun a32 e33 => ?_) (fun e33 => ?_)
  · have H := H.1 a32 e33
    refine ea_aload_n (pc := 26) dX8_price_26 rfl 1 rfl ?_
    refine ea_aload_n (pc := 27) dX8_price_27 rfl 2 rfl ?_
    obtain ⟨f34, g35, H⟩ := H
    refine ea_deref0 e33 ?_
    refine ea_getI (pc := 28) dX8_price_28 ec_0 (k := 7) (Nat.le_of_ble_eq_true rfl) rfl (Or.inl ew_814) f34 g35 ?_
    obtain ⟨f36, g37, H⟩ := H
    refine ea_deref1 e8 ?_
    refine ea_putI (pc := 31) dX8_price_31 ec_4 (k := 14) (Nat.le_of_ble_eq_true rfl) rfl (Or.inl ⟨rfl, Or.inl ew_970⟩) rfl rfl f36 g37 ?_
    obtain ⟨h38, E39⟩ : ∃ z, z = ea_wi h26 a7 14 (ea_i h26 a32 7) := ⟨_, rfl⟩
    have H := H h38 E39
    refine ea_nm E39 ?_
    refine ea_aload_n (pc := 34) dX8_price_34 rfl 1 rfl ?_
    refine ea_aload_n (pc := 35) dX8_price_35 rfl 2 rfl ?_
    refine ea_aload_n (pc := 36) dX8_price_36 rfl 1 rfl ?_
    obtain ⟨d40, xc44, h41, m42, q43, H⟩ := H
    refine ea_callS (pc := 37) (As := [vR rc31, vR r1]) (st := [vR r1]) dX8_price_37 kX8_isFree m42 q43 rfl (Nat.le_of_ble_eq_true rfl) ew_1043 ew_1044 ?_
    obtain ⟨f45, g46, H⟩ := H
    refine ea_deref1 e8 ?_
    obtain ⟨z78, H⟩ := H
    refine ea_putI (pc := 40) dX8_price_40 ec_4 (k := 13) (Nat.le_of_ble_eq_true rfl) rfl (Or.inl ⟨rfl, Or.inl ew_967⟩) (ea_bn z78) (ea_bf z78) f45 g46 ?_
    obtain ⟨h47, E48⟩ : ∃ z, z = ea_wi h41 a7 13 xc44 := ⟨_, rfl⟩
    have H := H h47 E48
    refine ea_nm E48 ?_
    refine ea_aload_n (pc := 43) dX8_price_43 rfl 1 rfl ?_
    refine ea_aload_n (pc := 44) dX8_price_44 rfl 0 rfl ?_
    refine ea_aload_n (pc := 45) dX8_price_45 rfl 2 rfl ?_
    refine ea_aload_n (pc := 46) dX8_price_46 rfl 1 rfl ?_
    obtain ⟨f53, g54, H⟩ := H
    refine ea_deref2 e17 ?_
    obtain ⟨d49, xc55, h50, m51, q52, H⟩ := H
    refine ea_callV (pc := 47) (As := [vR rc31, vR r1]) (st := [vR r1]) dX8_price_47 kX8_chargeBy m51 q52 rfl (Nat.le_of_ble_eq_true rfl) ew_1046 ew_1047 ew_1048 (ci := 8) rfl (by decide) f53 g54 ?_
    obtain ⟨f56, g57, H⟩ := H
    refine ea_deref1 e8 ?_
    refine ea_putI (pc := 50) dX8_price_50 ec_4 (k := 10) (Nat.le_of_ble_eq_true rfl) rfl (Or.inl ⟨rfl, Or.inl ew_959⟩) rfl rfl f56 g57 ?_
    obtain ⟨h58, E59⟩ : ∃ z, z = ea_wi h50 a7 10 xc55 := ⟨_, rfl⟩
    have H := H h58 E59
    refine ea_nm E59 ?_
    refine ea_aload_n (pc := 53) dX8_price_53 rfl 1 rfl ?_
    refine ea_aload_n (pc := 54) dX8_price_54 rfl 1 rfl ?_
    obtain ⟨f60, g61, H⟩ := H
    refine ea_deref0 e8 ?_
    refine ea_getI (pc := 55) dX8_price_55 ec_4 (k := 13) (Nat.le_of_ble_eq_true rfl) rfl (Or.inl ew_967) f60 g61 ?_
    refine ea_if_eq (pc := 58) (tgt := 65) dX8_price_58 rfl (fun c77 => ?_) (fun c77 => ?_)
    · have H := H.1 c77
      refine ea_aload_n (pc := 65) dX8_price_65 rfl 0 rfl ?_
      refine ea_aload_n (pc := 66) dX8_price_66 rfl 2 rfl ?_
      refine ea_aload_n (pc := 67) dX8_price_67 rfl 1 rfl ?_
      obtain ⟨f66, g67, H⟩ := H
      refine ea_deref2 e17 ?_
      obtain ⟨d62, xc68, h63, m64, q65, H⟩ := H
      refine ea_callV (pc := 68) (As := [vR rc31, vR r1]) (st := [vR r1]) dX8_price_68 kX8_lineFor m64 q65 rfl (Nat.le_of_ble_eq_true rfl) ew_1050 ew_1052 ew_34 (ci := 8) rfl (by decide) f66 g67 ?_
      obtain ⟨f69, g70, H⟩ := H
      refine ea_deref1 e8 ?_
      refine ea_putI (pc := 71) dX8_price_71 ec_4 (k := 12) (Nat.le_of_ble_eq_true rfl) rfl (Or.inl ⟨rfl, Or.inl ew_965⟩) rfl rfl f69 g70 ?_
      obtain ⟨h71, E72⟩ : ∃ z, z = ea_wi h63 a7 12 xc68 := ⟨_, rfl⟩
      have H := H h71 E72
      refine ea_nm E72 ?_
      obtain ⟨rfl, rfl⟩ := H
      exact ea_return (pc := 74) dX8_price_74 rfl
    · have H := H.2 c77
      refine ea_iconst (pc := 61) dX8_price_61 (v := (-1)) rfl ?_
      refine ea_goto (pc := 62) (tgt := 71) dX8_price_62 rfl ?_
      obtain ⟨f73, g74, H⟩ := H
      refine ea_deref1 e8 ?_
      refine ea_putI (pc := 71) dX8_price_71 ec_4 (k := 12) (Nat.le_of_ble_eq_true rfl) rfl (Or.inl ⟨rfl, Or.inl ew_965⟩) rfl rfl f73 g74 ?_
      obtain ⟨h75, E76⟩ : ∃ z, z = ea_wi h58 a7 12 (-1) := ⟨_, rfl⟩
      have H := H h75 E76
      refine ea_nm E76 ?_
      obtain ⟨rfl, rfl⟩ := H
      exact ea_return (pc := 74) dX8_price_74 rfl
  · have H := H.2 e33
    obtain ⟨rfl, rfl⟩ := H
    exact ea_return (pc := 25) dX8_price_25 rfl
theorem dX8_chargeBy_0 : decode cX8_chargeBy 0 = .ok (.aload_n 1, 1) := by decide +kernel
theorem dX8_chargeBy_1 : decode cX8_chargeBy 1 = .ok (.aload_n 2, 1) := by decide +kernel
theorem dX8_chargeBy_2 : decode cX8_chargeBy 2 = .ok (.invokestatic 61, 3) := by decide +kernel
theorem dX8_chargeBy_5 : decode cX8_chargeBy 5 = .ok (.ifCond .eq 5, 3) := by decide +kernel
theorem dX8_chargeBy_8 : decode cX8_chargeBy 8 = .ok (.iconst 0, 1) := by decide +kernel
theorem dX8_chargeBy_9 : decode cX8_chargeBy 9 = .ok (.ireturn, 1) := by decide +kernel
theorem dX8_chargeBy_10 : decode cX8_chargeBy 10 = .ok (.aload_n 0, 1) := by decide +kernel
theorem dX8_chargeBy_11 : decode cX8_chargeBy 11 = .ok (.aload_n 1, 1) := by decide +kernel
theorem dX8_chargeBy_12 : decode cX8_chargeBy 12 = .ok (.aload_n 2, 1) := by decide +kernel
theorem dX8_chargeBy_13 : decode cX8_chargeBy 13 = .ok (.invokevirtual 76, 3) := by decide +kernel
theorem dX8_chargeBy_16 : decode cX8_chargeBy 16 = .ok (.istore_n 3, 1) := by decide +kernel
theorem dX8_chargeBy_17 : decode cX8_chargeBy 17 = .ok (.iconst 0, 1) := by decide +kernel
theorem dX8_chargeBy_18 : decode cX8_chargeBy 18 = .ok (.istore 4, 2) := by decide +kernel
theorem dX8_chargeBy_20 : decode cX8_chargeBy 20 = .ok (.iload_n 3, 1) := by decide +kernel
theorem dX8_chargeBy_21 : decode cX8_chargeBy 21 = .ok (.iconst (-1), 1) := by decide +kernel
theorem dX8_chargeBy_22 : decode cX8_chargeBy 22 = .ok (.if_icmp .eq 28, 3) := by decide +kernel
theorem dX8_chargeBy_25 : decode cX8_chargeBy 25 = .ok (.aload_n 0, 1) := by decide +kernel
theorem dX8_chargeBy_26 : decode cX8_chargeBy 26 = .ok (.aload_n 1, 1) := by decide +kernel
theorem dX8_chargeBy_27 : decode cX8_chargeBy 27 = .ok (.getfield 82, 3) := by decide +kernel
theorem dX8_chargeBy_30 : decode cX8_chargeBy 30 = .ok (.aload_n 1, 1) := by decide +kernel
theorem dX8_chargeBy_31 : decode cX8_chargeBy 31 = .ok (.getfield 85, 3) := by decide +kernel
theorem dX8_chargeBy_34 : decode cX8_chargeBy 34 = .ok (.iload_n 3, 1) := by decide +kernel
theorem dX8_chargeBy_35 : decode cX8_chargeBy 35 = .ok (.iaload, 1) := by decide +kernel
theorem dX8_chargeBy_36 : decode cX8_chargeBy 36 = .ok (.invokevirtual 88, 3) := by decide +kernel
theorem dX8_chargeBy_39 : decode cX8_chargeBy 39 = .ok (.iconst 0, 1) := by decide +kernel
theorem dX8_chargeBy_40 : decode cX8_chargeBy 40 = .ok (.invokestatic 92, 3) := by decide +kernel
theorem dX8_chargeBy_43 : decode cX8_chargeBy 43 = .ok (.ldc 98, 2) := by decide +kernel
theorem dX8_chargeBy_45 : decode cX8_chargeBy 45 = .ok (.invokestatic 99, 3) := by decide +kernel
theorem dX8_chargeBy_48 : decode cX8_chargeBy 48 = .ok (.istore 4, 2) := by decide +kernel
theorem dX8_chargeBy_50 : decode cX8_chargeBy 50 = .ok (.aload_n 2, 1) := by decide +kernel
theorem dX8_chargeBy_51 : decode cX8_chargeBy 51 = .ok (.getfield 102, 3) := by decide +kernel
theorem dX8_chargeBy_54 : decode cX8_chargeBy 54 = .ok (.sipush 1440, 3) := by decide +kernel
theorem dX8_chargeBy_57 : decode cX8_chargeBy 57 = .ok (.irem, 1) := by decide +kernel
theorem dX8_chargeBy_58 : decode cX8_chargeBy 58 = .ok (.aload_n 1, 1) := by decide +kernel
theorem dX8_chargeBy_59 : decode cX8_chargeBy 59 = .ok (.getfield 105, 3) := by decide +kernel
theorem dX8_chargeBy_62 : decode cX8_chargeBy 62 = .ok (.if_icmp .le 12, 3) := by decide +kernel
theorem dX8_chargeBy_65 : decode cX8_chargeBy 65 = .ok (.iload 4, 2) := by decide +kernel
theorem dX8_chargeBy_67 : decode cX8_chargeBy 67 = .ok (.aload_n 1, 1) := by decide +kernel
theorem dX8_chargeBy_68 : decode cX8_chargeBy 68 = .ok (.getfield 108, 3) := by decide +kernel
theorem dX8_chargeBy_71 : decode cX8_chargeBy 71 = .ok (.iadd, 1) := by decide +kernel
theorem dX8_chargeBy_72 : decode cX8_chargeBy 72 = .ok (.istore 4, 2) := by decide +kernel
theorem dX8_chargeBy_74 : decode cX8_chargeBy 74 = .ok (.aload_n 2, 1) := by decide +kernel
theorem dX8_chargeBy_75 : decode cX8_chargeBy 75 = .ok (.getfield 111, 3) := by decide +kernel
theorem dX8_chargeBy_78 : decode cX8_chargeBy 78 = .ok (.iconst 3, 1) := by decide +kernel
theorem dX8_chargeBy_79 : decode cX8_chargeBy 79 = .ok (.if_icmp .ne 12, 3) := by decide +kernel
theorem dX8_chargeBy_82 : decode cX8_chargeBy 82 = .ok (.iload 4, 2) := by decide +kernel
theorem dX8_chargeBy_84 : decode cX8_chargeBy 84 = .ok (.aload_n 1, 1) := by decide +kernel
theorem dX8_chargeBy_85 : decode cX8_chargeBy 85 = .ok (.getfield 114, 3) := by decide +kernel
theorem dX8_chargeBy_88 : decode cX8_chargeBy 88 = .ok (.iadd, 1) := by decide +kernel
theorem dX8_chargeBy_89 : decode cX8_chargeBy 89 = .ok (.istore 4, 2) := by decide +kernel
theorem dX8_chargeBy_91 : decode cX8_chargeBy 91 = .ok (.aload_n 2, 1) := by decide +kernel
theorem dX8_chargeBy_92 : decode cX8_chargeBy 92 = .ok (.getfield 111, 3) := by decide +kernel
theorem dX8_chargeBy_95 : decode cX8_chargeBy 95 = .ok (.iconst 4, 1) := by decide +kernel
theorem dX8_chargeBy_96 : decode cX8_chargeBy 96 = .ok (.if_icmp .ne 12, 3) := by decide +kernel
theorem dX8_chargeBy_99 : decode cX8_chargeBy 99 = .ok (.iload 4, 2) := by decide +kernel
theorem dX8_chargeBy_101 : decode cX8_chargeBy 101 = .ok (.aload_n 1, 1) := by decide +kernel
theorem dX8_chargeBy_102 : decode cX8_chargeBy 102 = .ok (.getfield 117, 3) := by decide +kernel
theorem dX8_chargeBy_105 : decode cX8_chargeBy 105 = .ok (.iadd, 1) := by decide +kernel
theorem dX8_chargeBy_106 : decode cX8_chargeBy 106 = .ok (.istore 4, 2) := by decide +kernel
theorem dX8_chargeBy_108 : decode cX8_chargeBy 108 = .ok (.iload 4, 2) := by decide +kernel
theorem dX8_chargeBy_110 : decode cX8_chargeBy 110 = .ok (.ireturn, 1) := by decide +kernel
theorem bX8_chargeBy_0 {d : Nat} {h0 hE h : ea_H} {rv : Option ea_V} {r0 : Option Nat} {r1 : Option Nat} {r2 : Option Nat} (H : ∃ (d1 : Nat) (xc5 : Int32) (h2 : ea_H), ea_Met mX8_isFree d1 [vR r1, vR r2] h (some (vI xc5)) h2 ∧ d1 + 1 ≤ d ∧ (xc5 = (0 : Int32) → ∃ a12, r0 = some a12 ∧ a12 < ea_n h2 ∧ ea_c h2 a12 = 8 ∧ ∃ (d6 : Nat) (xc14 : Int32) (h7 : ea_H), ea_Met mX8_lineFor d6 [vR (some a12), vR r1, vR r2] h2 (some (vI xc14)) h7 ∧ d6 + 1 ≤ d ∧ (xc14 = ((-1) : Int32) → ea_W mX8_chargeBy d h0 rv hE 50 [(1, vR r1), (2, vR r2), (4, vI 0)] [] h7) ∧ (¬ xc14 = ((-1) : Int32) → ∃ a17, r1 = some a17 ∧ a17 < ea_n h7 ∧ ea_c h7 a17 = 0 ∧ a17 < ea_n h7 ∧ ea_c h7 a17 = 0 ∧ ∃ a23, (ea_r h7 a17 9) = some a23 ∧ a23 < ea_n h7 ∧ ea_c h7 a23 = 20 ∧ vp_in xc14 (ea_l h7 a23) ∧ a12 < ea_n h7 ∧ ea_c h7 a12 = 8 ∧ ∃ (d26 : Nat) (xc32 : Int32) (h27 : ea_H), ea_Met mX8_worth d26 [vR (some a12), vR (ea_r h7 a17 11), vI (ea_i h7 a23 (Int32.toNatClampNeg xc14))] h7 (some (vI xc32)) h27 ∧ d26 + 1 ≤ d ∧ ∃ (d33 : Nat) (xc37 : Int32) (h34 : ea_H), ea_Met mJ9_max_7cf53 d33 [vI xc32, vI 0] h27 (some (vI xc37)) h34 ∧ d33 + 1 ≤ d ∧ ∃ (d38 : Nat) (xc42 : Int32) (h39 : ea_H), ea_Met mJ9_min_7cf53 d38 [vI xc37, vI 99999] h34 (some (vI xc42)) h39 ∧ d38 + 1 ≤ d ∧ ea_W mX8_chargeBy d h0 rv hE 50 [(1, vR r1), (2, vR r2), (4, vI xc42)] [] h39)) ∧ (¬ xc5 = (0 : Int32) → rv = some (vI 0) ∧ hE = h2)) : ea_W mX8_chargeBy d h0 rv hE 0 [(0, vR r0), (1, vR r1), (2, vR r2)] [] h := by
  refine ea_aload_n (pc := 0) dX8_chargeBy_0 rfl 1 rfl ?_
  refine ea_aload_n (pc := 1) dX8_chargeBy_1 rfl 2 rfl ?_
  obtain ⟨d1, xc5, h2, m3, q4, H⟩ := H
  refine ea_callS (pc := 2) (As := [vR r1, vR r2]) (st := []) dX8_chargeBy_2 kX8_isFree m3 q4 rfl (Nat.le_of_ble_eq_true rfl) ew_1043 ew_1044 ?_
  refine ea_if_eq (pc := 5) (tgt := 10) dX8_chargeBy_5 rfl (fun c44 => ?_) (fun c44 => ?_)
  · have H := H.1 c44
    refine ea_aload_n (pc := 10) dX8_chargeBy_10 rfl 0 rfl ?_
    refine ea_aload_n (pc := 11) dX8_chargeBy_11 rfl 1 rfl ?_
    refine ea_aload_n (pc := 12) dX8_chargeBy_12 rfl 2 rfl ?_
    obtain ⟨a12, e13, f10, g11, H⟩ := H
    refine ea_deref2 e13 ?_
    obtain ⟨d6, xc14, h7, m8, q9, H⟩ := H
    refine ea_callV (pc := 13) (As := [vR r1, vR r2]) (st := []) dX8_chargeBy_13 kX8_lineFor m8 q9 rfl (Nat.le_of_ble_eq_true rfl) ew_1050 ew_1052 ew_34 (ci := 8) rfl (by decide) f10 g11 ?_
    refine ea_istore_n (pc := 16) (lv' := [(0, vR r0), (1, vR r1), (2, vR r2), (3, vI xc14)]) dX8_chargeBy_16 rfl (Nat.le_of_ble_eq_true rfl) [1, 2, 3, 0] rfl ?_
    refine ea_iconst (pc := 17) dX8_chargeBy_17 (v := 0) rfl ?_
    refine ea_istore (pc := 18) (lv' := [(0, vR r0), (1, vR r1), (2, vR r2), (3, vI xc14), (4, vI 0)]) dX8_chargeBy_18 (Nat.le_of_ble_eq_true rfl) [1, 2, 3, 4, 0] rfl ?_
    refine ea_iload_n (pc := 20) dX8_chargeBy_20 rfl 3 rfl ?_
    refine ea_iconst (pc := 21) dX8_chargeBy_21 (v := (-1)) rfl ?_
    refine ea_icmp_eq (pc := 22) (tgt := 50) dX8_chargeBy_22 rfl (fun c43 => ?_) (fun c43 => ?_)
    · have H := H.1 c43
      exact ea_fewer [1, 2, 4] rfl H
    · have H := H.2 c43
      refine ea_aload_n (pc := 25) dX8_chargeBy_25 rfl 0 rfl ?_
      refine ea_aload_n (pc := 26) dX8_chargeBy_26 rfl 1 rfl ?_
      obtain ⟨a17, e18, f15, g16, H⟩ := H
      refine ea_deref0 e18 ?_
      refine ea_getR (pc := 27) dX8_chargeBy_27 ec_0 (k := 11) (Nat.le_of_ble_eq_true rfl) rfl (Or.inl ew_825) f15 g16 rfl ?_
      refine ea_aload_n (pc := 30) dX8_chargeBy_30 rfl 1 rfl ?_
      obtain ⟨f19, g20, H⟩ := H
      refine ea_deref0 e18 ?_
      refine ea_getR (pc := 31) dX8_chargeBy_31 ec_0 (k := 9) (Nat.le_of_ble_eq_true rfl) rfl (Or.inl ew_820) f19 g20 rfl ?_
      refine ea_iload_n (pc := 34) dX8_chargeBy_34 rfl 3 rfl ?_
      obtain ⟨a23, e24, f21, g22, H⟩ := H
      refine ea_deref1 e24 ?_
      obtain ⟨z25, H⟩ := H
      refine ea_iald (pc := 35) dX8_chargeBy_35 f21 g22 z25 ?_
      obtain ⟨f30, g31, H⟩ := H
      refine ea_deref2 e13 ?_
      obtain ⟨d26, xc32, h27, m28, q29, H⟩ := H
      refine ea_callV (pc := 36) (As := [vR (ea_r h7 a17 11), vI (ea_i h7 a23 (Int32.toNatClampNeg xc14))]) (st := []) dX8_chargeBy_36 kX8_worth m28 q29 rfl (Nat.le_of_ble_eq_true rfl) ew_1058 ew_1060 ew_36 (ci := 8) rfl (by decide) f30 g31 ?_
      refine ea_iconst (pc := 39) dX8_chargeBy_39 (v := 0) rfl ?_
      obtain ⟨d33, xc37, h34, m35, q36, H⟩ := H
      refine ea_callS (pc := 40) (As := [vI xc32, vI 0]) (st := []) dX8_chargeBy_40 kJ9_max_7cf53 m35 q36 rfl (Nat.le_of_ble_eq_true rfl) ew_1065 ew_1022 ?_
      refine ea_ldc (pc := 43) dX8_chargeBy_43 ew_1066 ?_
      obtain ⟨d38, xc42, h39, m40, q41, H⟩ := H
      refine ea_callS (pc := 45) (As := [vI xc37, vI 99999]) (st := []) dX8_chargeBy_45 kJ9_min_7cf53 m40 q41 rfl (Nat.le_of_ble_eq_true rfl) ew_1067 ew_154 ?_
      refine ea_istore (pc := 48) (lv' := [(1, vR r1), (2, vR r2), (4, vI xc42)]) dX8_chargeBy_48 (Nat.le_of_ble_eq_true rfl) [2, 3, 0] rfl ?_
      exact H
  · have H := H.2 c44
    refine ea_iconst (pc := 8) dX8_chargeBy_8 (v := 0) rfl ?_
    obtain ⟨rfl, rfl⟩ := H
    exact ea_ireturn (pc := 9) dX8_chargeBy_9 rfl rfl
theorem bX8_chargeBy_50 {d : Nat} {h0 hE h : ea_H} {rv : Option ea_V} {r1 : Option Nat} {r2 : Option Nat} {x4 : Int32} (H : ∃ a3, r2 = some a3 ∧ a3 < ea_n h ∧ ea_c h a3 = 4 ∧ ∃ a7, r1 = some a7 ∧ a7 < ea_n h ∧ ea_c h a7 = 0 ∧ (((ea_i h a3 6) - (ea_i h a3 6) / (1440 : Int32) * (1440 : Int32)) ≤ (ea_i h a7 3) → ea_W mX8_chargeBy d h0 rv hE 74 [(1, vR r1), (2, vR r2), (4, vI x4)] [] h) ∧ (¬ ((ea_i h a3 6) - (ea_i h a3 6) / (1440 : Int32) * (1440 : Int32)) ≤ (ea_i h a7 3) → a7 < ea_n h ∧ ea_c h a7 = 0 ∧ ea_W mX8_chargeBy d h0 rv hE 74 [(1, vR r1), (2, vR r2), (4, vI (x4 + (ea_i h a7 2)))] [] h)) : ea_W mX8_chargeBy d h0 rv hE 50 [(1, vR r1), (2, vR r2), (4, vI x4)] [] h := by
  refine ea_aload_n (pc := 50) dX8_chargeBy_50 rfl 1 rfl ?_
  obtain ⟨a3, e4, f1, g2, H⟩ := H
  refine ea_deref0 e4 ?_
  refine ea_getI (pc := 51) dX8_chargeBy_51 ec_4 (k := 6) (Nat.le_of_ble_eq_true rfl) rfl (Or.inl ew_950) f1 g2 ?_
  refine ea_sipush (pc := 54) dX8_chargeBy_54 (v := 1440) rfl ?_
  refine ea_irem (pc := 57) dX8_chargeBy_57 (by decide) ?_
  refine ea_aload_n (pc := 58) dX8_chargeBy_58 rfl 0 rfl ?_
  obtain ⟨a7, e8, f5, g6, H⟩ := H
  refine ea_deref0 e8 ?_
  refine ea_getI (pc := 59) dX8_chargeBy_59 ec_0 (k := 3) (Nat.le_of_ble_eq_true rfl) rfl (Or.inl ew_801) f5 g6 ?_
  refine ea_icmp_le (pc := 62) (tgt := 74) dX8_chargeBy_62 rfl (fun c11 => ?_) (fun c11 => ?_)
  · have H := H.1 c11
    exact H
  · have H := H.2 c11
    refine ea_iload (pc := 65) dX8_chargeBy_65 2 rfl ?_
    refine ea_aload_n (pc := 67) dX8_chargeBy_67 rfl 0 rfl ?_
    obtain ⟨f9, g10, H⟩ := H
    refine ea_deref0 e8 ?_
    refine ea_getI (pc := 68) dX8_chargeBy_68 ec_0 (k := 2) (Nat.le_of_ble_eq_true rfl) rfl (Or.inl ew_797) f9 g10 ?_
    refine ea_iadd (pc := 71) dX8_chargeBy_71 ?_
    refine ea_istore (pc := 72) (lv' := [(1, vR r1), (2, vR r2), (4, vI (x4 + (ea_i h a7 2)))]) dX8_chargeBy_72 (Nat.le_of_ble_eq_true rfl) [1, 2, 0] rfl ?_
    exact H
theorem bX8_chargeBy_74 {d : Nat} {h0 hE h : ea_H} {rv : Option ea_V} {r1 : Option Nat} {r2 : Option Nat} {x4 : Int32} (H : ∃ a3, r2 = some a3 ∧ a3 < ea_n h ∧ ea_c h a3 = 4 ∧ (¬ (ea_i h a3 0) = (3 : Int32) → ea_W mX8_chargeBy d h0 rv hE 91 [(1, vR r1), (2, vR r2), (4, vI x4)] [] h) ∧ ((ea_i h a3 0) = (3 : Int32) → ∃ a7, r1 = some a7 ∧ a7 < ea_n h ∧ ea_c h a7 = 0 ∧ ea_W mX8_chargeBy d h0 rv hE 91 [(1, vR r1), (2, vR r2), (4, vI (x4 + (ea_i h a7 5)))] [] h)) : ea_W mX8_chargeBy d h0 rv hE 74 [(1, vR r1), (2, vR r2), (4, vI x4)] [] h := by
  refine ea_aload_n (pc := 74) dX8_chargeBy_74 rfl 1 rfl ?_
  obtain ⟨a3, e4, f1, g2, H⟩ := H
  refine ea_deref0 e4 ?_
  refine ea_getI (pc := 75) dX8_chargeBy_75 ec_4 (k := 0) (Nat.le_of_ble_eq_true rfl) rfl (Or.inl ew_934) f1 g2 ?_
  refine ea_iconst (pc := 78) dX8_chargeBy_78 (v := 3) rfl ?_
  refine ea_icmp_ne (pc := 79) (tgt := 91) dX8_chargeBy_79 rfl (fun c9 => ?_) (fun c9 => ?_)
  · have H := H.1 c9
    exact H
  · have H := H.2 c9
    refine ea_iload (pc := 82) dX8_chargeBy_82 2 rfl ?_
    refine ea_aload_n (pc := 84) dX8_chargeBy_84 rfl 0 rfl ?_
    obtain ⟨a7, e8, f5, g6, H⟩ := H
    refine ea_deref0 e8 ?_
    refine ea_getI (pc := 85) dX8_chargeBy_85 ec_0 (k := 5) (Nat.le_of_ble_eq_true rfl) rfl (Or.inl ew_807) f5 g6 ?_
    refine ea_iadd (pc := 88) dX8_chargeBy_88 ?_
    refine ea_istore (pc := 89) (lv' := [(1, vR r1), (2, vR r2), (4, vI (x4 + (ea_i h a7 5)))]) dX8_chargeBy_89 (Nat.le_of_ble_eq_true rfl) [1, 2, 0] rfl ?_
    exact H
theorem bX8_chargeBy_91 {d : Nat} {h0 hE h : ea_H} {rv : Option ea_V} {r1 : Option Nat} {r2 : Option Nat} {x4 : Int32} (H : ∃ a3, r2 = some a3 ∧ a3 < ea_n h ∧ ea_c h a3 = 4 ∧ (¬ (ea_i h a3 0) = (4 : Int32) → rv = some (vI x4) ∧ hE = h) ∧ ((ea_i h a3 0) = (4 : Int32) → ∃ a7, r1 = some a7 ∧ a7 < ea_n h ∧ ea_c h a7 = 0 ∧ rv = some (vI (x4 + (ea_i h a7 6))) ∧ hE = h)) : ea_W mX8_chargeBy d h0 rv hE 91 [(1, vR r1), (2, vR r2), (4, vI x4)] [] h := by
  refine ea_aload_n (pc := 91) dX8_chargeBy_91 rfl 1 rfl ?_
  obtain ⟨a3, e4, f1, g2, H⟩ := H
  refine ea_deref0 e4 ?_
  refine ea_getI (pc := 92) dX8_chargeBy_92 ec_4 (k := 0) (Nat.le_of_ble_eq_true rfl) rfl (Or.inl ew_934) f1 g2 ?_
  refine ea_iconst (pc := 95) dX8_chargeBy_95 (v := 4) rfl ?_
  refine ea_icmp_ne (pc := 96) (tgt := 108) dX8_chargeBy_96 rfl (fun c9 => ?_) (fun c9 => ?_)
  · have H := H.1 c9
    refine ea_iload (pc := 108) dX8_chargeBy_108 2 rfl ?_
    obtain ⟨rfl, rfl⟩ := H
    exact ea_ireturn (pc := 110) dX8_chargeBy_110 rfl rfl
  · have H := H.2 c9
    refine ea_iload (pc := 99) dX8_chargeBy_99 2 rfl ?_
    refine ea_aload_n (pc := 101) dX8_chargeBy_101 rfl 0 rfl ?_
    obtain ⟨a7, e8, f5, g6, H⟩ := H
    refine ea_deref0 e8 ?_
    refine ea_getI (pc := 102) dX8_chargeBy_102 ec_0 (k := 6) (Nat.le_of_ble_eq_true rfl) rfl (Or.inl ew_810) f5 g6 ?_
    refine ea_iadd (pc := 105) dX8_chargeBy_105 ?_
    refine ea_istore (pc := 106) (lv' := [(4, vI (x4 + (ea_i h a7 6)))]) dX8_chargeBy_106 (Nat.le_of_ble_eq_true rfl) [0] rfl ?_
    refine ea_iload (pc := 108) dX8_chargeBy_108 0 rfl ?_
    obtain ⟨rfl, rfl⟩ := H
    exact ea_ireturn (pc := 110) dX8_chargeBy_110 rfl rfl
theorem dX8_isFree_0 : decode cX8_isFree 0 = .ok (.aload_n 1, 1) := by decide +kernel
theorem dX8_isFree_1 : decode cX8_isFree 1 = .ok (.getfield 111, 3) := by decide +kernel
theorem dX8_isFree_4 : decode cX8_isFree 4 = .ok (.iconst 2, 1) := by decide +kernel
theorem dX8_isFree_5 : decode cX8_isFree 5 = .ok (.if_icmp .ne 18, 3) := by decide +kernel
theorem dX8_isFree_8 : decode cX8_isFree 8 = .ok (.aload_n 1, 1) := by decide +kernel
theorem dX8_isFree_9 : decode cX8_isFree 9 = .ok (.getfield 120, 3) := by decide +kernel
theorem dX8_isFree_12 : decode cX8_isFree 12 = .ok (.aload_n 0, 1) := by decide +kernel
theorem dX8_isFree_13 : decode cX8_isFree 13 = .ok (.getfield 123, 3) := by decide +kernel
theorem dX8_isFree_16 : decode cX8_isFree 16 = .ok (.if_icmp .ge 7, 3) := by decide +kernel
theorem dX8_isFree_19 : decode cX8_isFree 19 = .ok (.iconst 1, 1) := by decide +kernel
theorem dX8_isFree_20 : decode cX8_isFree 20 = .ok (.goto 4, 3) := by decide +kernel
theorem dX8_isFree_23 : decode cX8_isFree 23 = .ok (.iconst 0, 1) := by decide +kernel
theorem dX8_isFree_24 : decode cX8_isFree 24 = .ok (.ireturn, 1) := by decide +kernel
theorem bX8_isFree_0 {d : Nat} {h0 hE h : ea_H} {rv : Option ea_V} {r0 : Option Nat} {r1 : Option Nat} (H : ∃ a3, r1 = some a3 ∧ a3 < ea_n h ∧ ea_c h a3 = 4 ∧ (¬ (ea_i h a3 0) = (2 : Int32) → rv = some (vI 0) ∧ hE = h) ∧ ((ea_i h a3 0) = (2 : Int32) → a3 < ea_n h ∧ ea_c h a3 = 4 ∧ ∃ a9, r0 = some a9 ∧ a9 < ea_n h ∧ ea_c h a9 = 0 ∧ ((ea_i h a9 4) ≤ (ea_i h a3 9) → rv = some (vI 0) ∧ hE = h) ∧ (¬ (ea_i h a9 4) ≤ (ea_i h a3 9) → rv = some (vI 1) ∧ hE = h))) : ea_W mX8_isFree d h0 rv hE 0 [(0, vR r0), (1, vR r1)] [] h := by
  refine ea_aload_n (pc := 0) dX8_isFree_0 rfl 1 rfl ?_
  obtain ⟨a3, e4, f1, g2, H⟩ := H
  refine ea_deref0 e4 ?_
  refine ea_getI (pc := 1) dX8_isFree_1 ec_4 (k := 0) (Nat.le_of_ble_eq_true rfl) rfl (Or.inl ew_934) f1 g2 ?_
  refine ea_iconst (pc := 4) dX8_isFree_4 (v := 2) rfl ?_
  refine ea_icmp_ne (pc := 5) (tgt := 23) dX8_isFree_5 rfl (fun c12 => ?_) (fun c12 => ?_)
  · have H := H.1 c12
    refine ea_iconst (pc := 23) dX8_isFree_23 (v := 0) rfl ?_
    obtain ⟨rfl, rfl⟩ := H
    exact ea_ireturn (pc := 24) dX8_isFree_24 rfl (ea_bn (Or.inl rfl))
  · have H := H.2 c12
    refine ea_aload_n (pc := 8) dX8_isFree_8 rfl 1 rfl ?_
    obtain ⟨f5, g6, H⟩ := H
    refine ea_deref0 e4 ?_
    refine ea_getI (pc := 9) dX8_isFree_9 ec_4 (k := 9) (Nat.le_of_ble_eq_true rfl) rfl (Or.inl ew_956) f5 g6 ?_
    refine ea_aload_n (pc := 12) dX8_isFree_12 rfl 0 rfl ?_
    obtain ⟨a9, e10, f7, g8, H⟩ := H
    refine ea_deref0 e10 ?_
    refine ea_getI (pc := 13) dX8_isFree_13 ec_0 (k := 4) (Nat.le_of_ble_eq_true rfl) rfl (Or.inl ew_804) f7 g8 ?_
    refine ea_icmp_ge (pc := 16) (tgt := 23) dX8_isFree_16 rfl (fun c11 => ?_) (fun c11 => ?_)
    · have H := H.1 c11
      refine ea_iconst (pc := 23) dX8_isFree_23 (v := 0) rfl ?_
      obtain ⟨rfl, rfl⟩ := H
      exact ea_ireturn (pc := 24) dX8_isFree_24 rfl (ea_bn (Or.inl rfl))
    · have H := H.2 c11
      refine ea_iconst (pc := 19) dX8_isFree_19 (v := 1) rfl ?_
      refine ea_goto (pc := 20) (tgt := 24) dX8_isFree_20 rfl ?_
      obtain ⟨rfl, rfl⟩ := H
      exact ea_ireturn (pc := 24) dX8_isFree_24 rfl (ea_bn (Or.inr rfl))
theorem dX8_lineFor_0 : decode cX8_lineFor 0 = .ok (.aload_n 0, 1) := by decide +kernel
theorem dX8_lineFor_1 : decode cX8_lineFor 1 = .ok (.aload_n 2, 1) := by decide +kernel
theorem dX8_lineFor_2 : decode cX8_lineFor 2 = .ok (.invokevirtual 126, 3) := by decide +kernel
theorem dX8_lineFor_5 : decode cX8_lineFor 5 = .ok (.iconst 0, 1) := by decide +kernel
theorem dX8_lineFor_6 : decode cX8_lineFor 6 = .ok (.istore_n 3, 1) := by decide +kernel
theorem dX8_lineFor_7 : decode cX8_lineFor 7 = .ok (.iload_n 3, 1) := by decide +kernel
theorem dX8_lineFor_8 : decode cX8_lineFor 8 = .ok (.aload_n 1, 1) := by decide +kernel
theorem dX8_lineFor_9 : decode cX8_lineFor 9 = .ok (.getfield 130, 3) := by decide +kernel
theorem dX8_lineFor_12 : decode cX8_lineFor 12 = .ok (.if_icmp .ge 38, 3) := by decide +kernel
theorem dX8_lineFor_15 : decode cX8_lineFor 15 = .ok (.aload_n 1, 1) := by decide +kernel
theorem dX8_lineFor_16 : decode cX8_lineFor 16 = .ok (.getfield 133, 3) := by decide +kernel
theorem dX8_lineFor_19 : decode cX8_lineFor 19 = .ok (.iload_n 3, 1) := by decide +kernel
theorem dX8_lineFor_20 : decode cX8_lineFor 20 = .ok (.iaload, 1) := by decide +kernel
theorem dX8_lineFor_21 : decode cX8_lineFor 21 = .ok (.iconst (-1), 1) := by decide +kernel
theorem dX8_lineFor_22 : decode cX8_lineFor 22 = .ok (.if_icmp .eq 20, 3) := by decide +kernel
theorem dX8_lineFor_25 : decode cX8_lineFor 25 = .ok (.aload_n 0, 1) := by decide +kernel
theorem dX8_lineFor_26 : decode cX8_lineFor 26 = .ok (.aload_n 1, 1) := by decide +kernel
theorem dX8_lineFor_27 : decode cX8_lineFor 27 = .ok (.getfield 82, 3) := by decide +kernel
theorem dX8_lineFor_30 : decode cX8_lineFor 30 = .ok (.aload_n 1, 1) := by decide +kernel
theorem dX8_lineFor_31 : decode cX8_lineFor 31 = .ok (.getfield 133, 3) := by decide +kernel
theorem dX8_lineFor_34 : decode cX8_lineFor 34 = .ok (.iload_n 3, 1) := by decide +kernel
theorem dX8_lineFor_35 : decode cX8_lineFor 35 = .ok (.iaload, 1) := by decide +kernel
theorem dX8_lineFor_36 : decode cX8_lineFor 36 = .ok (.invokevirtual 88, 3) := by decide +kernel
theorem dX8_lineFor_39 : decode cX8_lineFor 39 = .ok (.ifCond .eq 5, 3) := by decide +kernel
theorem dX8_lineFor_42 : decode cX8_lineFor 42 = .ok (.iload_n 3, 1) := by decide +kernel
theorem dX8_lineFor_43 : decode cX8_lineFor 43 = .ok (.ireturn, 1) := by decide +kernel
theorem dX8_lineFor_44 : decode cX8_lineFor 44 = .ok (.iinc 3 1, 3) := by decide +kernel
theorem dX8_lineFor_47 : decode cX8_lineFor 47 = .ok (.goto (-40), 3) := by decide +kernel
theorem dX8_lineFor_50 : decode cX8_lineFor 50 = .ok (.iconst (-1), 1) := by decide +kernel
theorem dX8_lineFor_51 : decode cX8_lineFor 51 = .ok (.ireturn, 1) := by decide +kernel
theorem bX8_lineFor_0 {d : Nat} {h0 hE h : ea_H} {rv : Option ea_V} {r0 : Option Nat} {r1 : Option Nat} {r2 : Option Nat} (H : ∃ a7, r0 = some a7 ∧ a7 < ea_n h ∧ ea_c h a7 = 8 ∧ ∃ (d1 : Nat) (h2 : ea_H), ea_Met mX8_ask d1 [vR (some a7), vR r2] h none h2 ∧ d1 + 1 ≤ d ∧ ea_W mX8_lineFor d h0 rv hE 7 [(0, vR r0), (1, vR r1), (3, vI 0)] [] h2) : ea_W mX8_lineFor d h0 rv hE 0 [(0, vR r0), (1, vR r1), (2, vR r2)] [] h := by
  refine ea_aload_n (pc := 0) dX8_lineFor_0 rfl 0 rfl ?_
  refine ea_aload_n (pc := 1) dX8_lineFor_1 rfl 2 rfl ?_
  obtain ⟨a7, e8, f5, g6, H⟩ := H
  refine ea_deref1 e8 ?_
  obtain ⟨d1, h2, m3, q4, H⟩ := H
  refine ea_callV (pc := 2) (As := [vR r2]) (st := []) dX8_lineFor_2 kX8_ask m3 q4 rfl (Nat.le_of_ble_eq_true rfl) ew_1054 ew_1056 ew_35 (ci := 8) rfl (by decide) f5 g6 ?_
  refine ea_iconst (pc := 5) dX8_lineFor_5 (v := 0) rfl ?_
  refine ea_istore_n (pc := 6) (lv' := [(0, vR r0), (1, vR r1), (3, vI 0)]) dX8_lineFor_6 rfl (Nat.le_of_ble_eq_true rfl) [1, 2, 0] rfl ?_
  exact H
theorem bX8_lineFor_7 {d : Nat} {h0 hE h : ea_H} {rv : Option ea_V} {r0 : Option Nat} {r1 : Option Nat} {x3 : Int32} (H : ∃ a3, r1 = some a3 ∧ a3 < ea_n h ∧ ea_c h a3 = 0 ∧ ((ea_i h a3 8) ≤ x3 → rv = some (vI (-1)) ∧ hE = h) ∧ (¬ (ea_i h a3 8) ≤ x3 → a3 < ea_n h ∧ ea_c h a3 = 0 ∧ ∃ a9, (ea_r h a3 10) = some a9 ∧ a9 < ea_n h ∧ ea_c h a9 = 20 ∧ vp_in x3 (ea_l h a9) ∧ ((ea_i h a9 (Int32.toNatClampNeg x3)) = ((-1) : Int32) → rv = some (vI x3) ∧ hE = h) ∧ (¬ (ea_i h a9 (Int32.toNatClampNeg x3)) = ((-1) : Int32) → a3 < ea_n h ∧ ea_c h a3 = 0 ∧ a3 < ea_n h ∧ ea_c h a3 = 0 ∧ a9 < ea_n h ∧ ea_c h a9 = 20 ∧ vp_in x3 (ea_l h a9) ∧ ∃ a25, r0 = some a25 ∧ a25 < ea_n h ∧ ea_c h a25 = 8 ∧ ∃ (d19 : Nat) (xc27 : Int32) (h20 : ea_H), ea_Met mX8_worth d19 [vR (some a25), vR (ea_r h a3 11), vI (ea_i h a9 (Int32.toNatClampNeg x3))] h (some (vI xc27)) h20 ∧ d19 + 1 ≤ d ∧ (xc27 = (0 : Int32) → ea_W mX8_lineFor d h0 rv hE 7 [(0, vR r0), (1, vR r1), (3, vI (x3 + 1))] [] h20) ∧ (¬ xc27 = (0 : Int32) → rv = some (vI x3) ∧ hE = h20)))) : ea_W mX8_lineFor d h0 rv hE 7 [(0, vR r0), (1, vR r1), (3, vI x3)] [] h := by
  refine ea_iload_n (pc := 7) dX8_lineFor_7 rfl 2 rfl ?_
  refine ea_aload_n (pc := 8) dX8_lineFor_8 rfl 1 rfl ?_
  obtain ⟨a3, e4, f1, g2, H⟩ := H
  refine ea_deref0 e4 ?_
  refine ea_getI (pc := 9) dX8_lineFor_9 ec_0 (k := 8) (Nat.le_of_ble_eq_true rfl) rfl (Or.inl ew_817) f1 g2 ?_
  refine ea_icmp_ge (pc := 12) (tgt := 50) dX8_lineFor_12 rfl (fun c30 => ?_) (fun c30 => ?_)
  · have H := H.1 c30
    refine ea_iconst (pc := 50) dX8_lineFor_50 (v := (-1)) rfl ?_
    obtain ⟨rfl, rfl⟩ := H
    exact ea_ireturn (pc := 51) dX8_lineFor_51 rfl rfl
  · have H := H.2 c30
    refine ea_aload_n (pc := 15) dX8_lineFor_15 rfl 1 rfl ?_
    obtain ⟨f5, g6, H⟩ := H
    refine ea_deref0 e4 ?_
    refine ea_getR (pc := 16) dX8_lineFor_16 ec_0 (k := 10) (Nat.le_of_ble_eq_true rfl) rfl (Or.inl ew_823) f5 g6 rfl ?_
    refine ea_iload_n (pc := 19) dX8_lineFor_19 rfl 2 rfl ?_
    obtain ⟨a9, e10, f7, g8, H⟩ := H
    refine ea_deref1 e10 ?_
    obtain ⟨z11, H⟩ := H
    refine ea_iald (pc := 20) dX8_lineFor_20 f7 g8 z11 ?_
    refine ea_iconst (pc := 21) dX8_lineFor_21 (v := (-1)) rfl ?_
    refine ea_icmp_eq (pc := 22) (tgt := 42) dX8_lineFor_22 rfl (fun c29 => ?_) (fun c29 => ?_)
    · have H := H.1 c29
      refine ea_iload_n (pc := 42) dX8_lineFor_42 rfl 2 rfl ?_
      obtain ⟨rfl, rfl⟩ := H
      exact ea_ireturn (pc := 43) dX8_lineFor_43 rfl rfl
    · have H := H.2 c29
      refine ea_aload_n (pc := 25) dX8_lineFor_25 rfl 0 rfl ?_
      refine ea_aload_n (pc := 26) dX8_lineFor_26 rfl 1 rfl ?_
      obtain ⟨f12, g13, H⟩ := H
      refine ea_deref0 e4 ?_
      refine ea_getR (pc := 27) dX8_lineFor_27 ec_0 (k := 11) (Nat.le_of_ble_eq_true rfl) rfl (Or.inl ew_825) f12 g13 rfl ?_
      refine ea_aload_n (pc := 30) dX8_lineFor_30 rfl 1 rfl ?_
      obtain ⟨f14, g15, H⟩ := H
      refine ea_deref0 e4 ?_
      refine ea_getR (pc := 31) dX8_lineFor_31 ec_0 (k := 10) (Nat.le_of_ble_eq_true rfl) rfl (Or.inl ew_823) f14 g15 rfl ?_
      refine ea_iload_n (pc := 34) dX8_lineFor_34 rfl 2 rfl ?_
      obtain ⟨f16, g17, H⟩ := H
      refine ea_deref1 e10 ?_
      obtain ⟨z18, H⟩ := H
      refine ea_iald (pc := 35) dX8_lineFor_35 f16 g17 z18 ?_
      obtain ⟨a25, e26, f23, g24, H⟩ := H
      refine ea_deref2 e26 ?_
      obtain ⟨d19, xc27, h20, m21, q22, H⟩ := H
      refine ea_callV (pc := 36) (As := [vR (ea_r h a3 11), vI (ea_i h a9 (Int32.toNatClampNeg x3))]) (st := []) dX8_lineFor_36 kX8_worth m21 q22 rfl (Nat.le_of_ble_eq_true rfl) ew_1058 ew_1060 ew_36 (ci := 8) rfl (by decide) f23 g24 ?_
      refine ea_if_eq (pc := 39) (tgt := 44) dX8_lineFor_39 rfl (fun c28 => ?_) (fun c28 => ?_)
      · have H := H.1 c28
        refine ea_iinc (pc := 44) (v := 1) (lv' := [(0, vR r0), (1, vR r1), (3, vI (x3 + 1))]) dX8_lineFor_44 2 rfl rfl (Nat.le_of_ble_eq_true rfl) [1, 2, 0] rfl ?_
        refine ea_goto (pc := 47) (tgt := 7) dX8_lineFor_47 rfl ?_
        exact H
      · have H := H.2 c28
        refine ea_iload_n (pc := 42) dX8_lineFor_42 rfl 2 rfl ?_
        obtain ⟨rfl, rfl⟩ := H
        exact ea_ireturn (pc := 43) dX8_lineFor_43 rfl rfl
theorem dX8_ask_0 : decode cX8_ask 0 = .ok (.aload_n 0, 1) := by decide +kernel
theorem dX8_ask_1 : decode cX8_ask 1 = .ok (.getfield 24, 3) := by decide +kernel
theorem dX8_ask_4 : decode cX8_ask 4 = .ok (.iconst 0, 1) := by decide +kernel
theorem dX8_ask_5 : decode cX8_ask 5 = .ok (.aload_n 1, 1) := by decide +kernel
theorem dX8_ask_6 : decode cX8_ask 6 = .ok (.getfield 136, 3) := by decide +kernel
theorem dX8_ask_9 : decode cX8_ask 9 = .ok (.iastore, 1) := by decide +kernel
theorem dX8_ask_10 : decode cX8_ask 10 = .ok (.aload_n 0, 1) := by decide +kernel
theorem dX8_ask_11 : decode cX8_ask 11 = .ok (.getfield 24, 3) := by decide +kernel
theorem dX8_ask_14 : decode cX8_ask 14 = .ok (.iconst 1, 1) := by decide +kernel
theorem dX8_ask_15 : decode cX8_ask 15 = .ok (.aload_n 1, 1) := by decide +kernel
theorem dX8_ask_16 : decode cX8_ask 16 = .ok (.getfield 139, 3) := by decide +kernel
theorem dX8_ask_19 : decode cX8_ask 19 = .ok (.iastore, 1) := by decide +kernel
theorem dX8_ask_20 : decode cX8_ask 20 = .ok (.aload_n 0, 1) := by decide +kernel
theorem dX8_ask_21 : decode cX8_ask 21 = .ok (.getfield 24, 3) := by decide +kernel
theorem dX8_ask_24 : decode cX8_ask 24 = .ok (.iconst 2, 1) := by decide +kernel
theorem dX8_ask_25 : decode cX8_ask 25 = .ok (.aload_n 1, 1) := by decide +kernel
theorem dX8_ask_26 : decode cX8_ask 26 = .ok (.getfield 142, 3) := by decide +kernel
theorem dX8_ask_29 : decode cX8_ask 29 = .ok (.iastore, 1) := by decide +kernel
theorem dX8_ask_30 : decode cX8_ask 30 = .ok (.aload_n 0, 1) := by decide +kernel
theorem dX8_ask_31 : decode cX8_ask 31 = .ok (.getfield 24, 3) := by decide +kernel
theorem dX8_ask_34 : decode cX8_ask 34 = .ok (.iconst 3, 1) := by decide +kernel
theorem dX8_ask_35 : decode cX8_ask 35 = .ok (.aload_n 1, 1) := by decide +kernel
theorem dX8_ask_36 : decode cX8_ask 36 = .ok (.getfield 102, 3) := by decide +kernel
theorem dX8_ask_39 : decode cX8_ask 39 = .ok (.sipush 1440, 3) := by decide +kernel
theorem dX8_ask_42 : decode cX8_ask 42 = .ok (.irem, 1) := by decide +kernel
theorem dX8_ask_43 : decode cX8_ask 43 = .ok (.bipush 60, 2) := by decide +kernel
theorem dX8_ask_45 : decode cX8_ask 45 = .ok (.idiv, 1) := by decide +kernel
theorem dX8_ask_46 : decode cX8_ask 46 = .ok (.iastore, 1) := by decide +kernel
theorem dX8_ask_47 : decode cX8_ask 47 = .ok (.aload_n 0, 1) := by decide +kernel
theorem dX8_ask_48 : decode cX8_ask 48 = .ok (.getfield 24, 3) := by decide +kernel
theorem dX8_ask_51 : decode cX8_ask 51 = .ok (.iconst 4, 1) := by decide +kernel
theorem dX8_ask_52 : decode cX8_ask 52 = .ok (.aload_n 1, 1) := by decide +kernel
theorem dX8_ask_53 : decode cX8_ask 53 = .ok (.invokevirtual 38, 3) := by decide +kernel
theorem dX8_ask_56 : decode cX8_ask 56 = .ok (.iastore, 1) := by decide +kernel
theorem dX8_ask_57 : decode cX8_ask 57 = .ok (.aload_n 0, 1) := by decide +kernel
theorem dX8_ask_58 : decode cX8_ask 58 = .ok (.getfield 24, 3) := by decide +kernel
theorem dX8_ask_61 : decode cX8_ask 61 = .ok (.iconst 5, 1) := by decide +kernel
theorem dX8_ask_62 : decode cX8_ask 62 = .ok (.aload_n 1, 1) := by decide +kernel
theorem dX8_ask_63 : decode cX8_ask 63 = .ok (.getfield 111, 3) := by decide +kernel
theorem dX8_ask_66 : decode cX8_ask 66 = .ok (.iastore, 1) := by decide +kernel
theorem dX8_ask_67 : decode cX8_ask 67 = .ok (.aload_n 0, 1) := by decide +kernel
theorem dX8_ask_68 : decode cX8_ask 68 = .ok (.getfield 24, 3) := by decide +kernel
theorem dX8_ask_71 : decode cX8_ask 71 = .ok (.bipush 6, 2) := by decide +kernel
theorem dX8_ask_73 : decode cX8_ask 73 = .ok (.aload_n 1, 1) := by decide +kernel
theorem dX8_ask_74 : decode cX8_ask 74 = .ok (.getfield 145, 3) := by decide +kernel
theorem dX8_ask_77 : decode cX8_ask 77 = .ok (.ifCond .eq 7, 3) := by decide +kernel
theorem dX8_ask_80 : decode cX8_ask 80 = .ok (.iconst 1, 1) := by decide +kernel
theorem dX8_ask_81 : decode cX8_ask 81 = .ok (.goto 4, 3) := by decide +kernel
theorem dX8_ask_84 : decode cX8_ask 84 = .ok (.iconst 0, 1) := by decide +kernel
theorem dX8_ask_85 : decode cX8_ask 85 = .ok (.iastore, 1) := by decide +kernel
theorem dX8_ask_86 : decode cX8_ask 86 = .ok (.return_, 1) := by decide +kernel
theorem bX8_ask_0 {d : Nat} {h0 hE h : ea_H} {rv : Option ea_V} {r0 : Option Nat} {r1 : Option Nat} (H : ∃ a3, r0 = some a3 ∧ a3 < ea_n h ∧ ea_c h a3 = 8 ∧ ∃ a7, r1 = some a7 ∧ a7 < ea_n h ∧ ea_c h a7 = 4 ∧ ∃ a11, (ea_r h a3 3) = some a11 ∧ a11 < ea_n h ∧ ea_c h a11 = 20 ∧ vp_in 0 (ea_l h a11) ∧ ∀ h14, h14 = ea_wi h a11 (Int32.toNatClampNeg 0) (ea_i h a7 7) → a3 < ea_n h14 ∧ ea_c h14 a3 = 8 ∧ a7 < ea_n h14 ∧ ea_c h14 a7 = 4 ∧ ∃ a22, (ea_r h14 a3 3) = some a22 ∧ a22 < ea_n h14 ∧ ea_c h14 a22 = 20 ∧ vp_in 1 (ea_l h14 a22) ∧ ∀ h25, h25 = ea_wi h14 a22 (Int32.toNatClampNeg 1) (ea_i h14 a7 3) → a3 < ea_n h25 ∧ ea_c h25 a3 = 8 ∧ a7 < ea_n h25 ∧ ea_c h25 a7 = 4 ∧ ∃ a33, (ea_r h25 a3 3) = some a33 ∧ a33 < ea_n h25 ∧ ea_c h25 a33 = 20 ∧ vp_in 2 (ea_l h25 a33) ∧ ∀ h36, h36 = ea_wi h25 a33 (Int32.toNatClampNeg 2) (ea_i h25 a7 4) → a3 < ea_n h36 ∧ ea_c h36 a3 = 8 ∧ a7 < ea_n h36 ∧ ea_c h36 a7 = 4 ∧ ∃ a44, (ea_r h36 a3 3) = some a44 ∧ a44 < ea_n h36 ∧ ea_c h36 a44 = 20 ∧ vp_in 3 (ea_l h36 a44) ∧ ∀ h47, h47 = ea_wi h36 a44 (Int32.toNatClampNeg 3) (((ea_i h36 a7 6) - (ea_i h36 a7 6) / (1440 : Int32) * (1440 : Int32)) / (60 : Int32)) → a3 < ea_n h47 ∧ ea_c h47 a3 = 8 ∧ a7 < ea_n h47 ∧ ea_c h47 a7 = 4 ∧ ∃ (d51 : Nat) (xc57 : Int32) (h52 : ea_H), ea_Met mX4_dayOf d51 [vR (some a7)] h47 (some (vI xc57)) h52 ∧ d51 + 1 ≤ d ∧ ∃ a60, (ea_r h47 a3 3) = some a60 ∧ a60 < ea_n h52 ∧ ea_c h52 a60 = 20 ∧ vp_in 4 (ea_l h52 a60) ∧ ∀ h63, h63 = ea_wi h52 a60 (Int32.toNatClampNeg 4) xc57 → a3 < ea_n h63 ∧ ea_c h63 a3 = 8 ∧ a7 < ea_n h63 ∧ ea_c h63 a7 = 4 ∧ ∃ a71, (ea_r h63 a3 3) = some a71 ∧ a71 < ea_n h63 ∧ ea_c h63 a71 = 20 ∧ vp_in 5 (ea_l h63 a71) ∧ ∀ h74, h74 = ea_wi h63 a71 (Int32.toNatClampNeg 5) (ea_i h63 a7 0) → a3 < ea_n h74 ∧ ea_c h74 a3 = 8 ∧ a7 < ea_n h74 ∧ ea_c h74 a7 = 4 ∧ ((ea_i h74 a7 8) = (0 : Int32) → ∃ a82, (ea_r h74 a3 3) = some a82 ∧ a82 < ea_n h74 ∧ ea_c h74 a82 = 20 ∧ vp_in 6 (ea_l h74 a82) ∧ ∀ h85, h85 = ea_wi h74 a82 (Int32.toNatClampNeg 6) 0 → rv = none ∧ hE = h85) ∧ (¬ (ea_i h74 a7 8) = (0 : Int32) → ∃ a89, (ea_r h74 a3 3) = some a89 ∧ a89 < ea_n h74 ∧ ea_c h74 a89 = 20 ∧ vp_in 6 (ea_l h74 a89) ∧ ∀ h92, h92 = ea_wi h74 a89 (Int32.toNatClampNeg 6) 1 → rv = none ∧ hE = h92)) : ea_W mX8_ask d h0 rv hE 0 [(0, vR r0), (1, vR r1)] [] h := by
  refine ea_aload_n (pc := 0) dX8_ask_0 rfl 0 rfl ?_
  obtain ⟨a3, e4, f1, g2, H⟩ := H
  refine ea_deref0 e4 ?_
  refine ea_getR (pc := 1) dX8_ask_1 ec_8 (k := 3) (Nat.le_of_ble_eq_true rfl) rfl (Or.inl ew_338) f1 g2 rfl ?_
  refine ea_iconst (pc := 4) dX8_ask_4 (v := 0) rfl ?_
  refine ea_aload_n (pc := 5) dX8_ask_5 rfl 1 rfl ?_
  obtain ⟨a7, e8, f5, g6, H⟩ := H
  refine ea_deref0 e8 ?_
  refine ea_getI (pc := 6) dX8_ask_6 ec_4 (k := 7) (Nat.le_of_ble_eq_true rfl) rfl (Or.inl ew_952) f5 g6 ?_
  obtain ⟨a11, e12, f9, g10, H⟩ := H
  refine ea_deref2 e12 ?_
  obtain ⟨z13, H⟩ := H
  refine ea_iast (pc := 9) dX8_ask_9 f9 g10 z13 ?_
  obtain ⟨h14, E15⟩ : ∃ z, z = ea_wi h a11 (Int32.toNatClampNeg 0) (ea_i h a7 7) := ⟨_, rfl⟩
  have H := H h14 E15
  refine ea_nm E15 ?_
  refine ea_aload_n (pc := 10) dX8_ask_10 rfl 0 rfl ?_
  obtain ⟨f16, g17, H⟩ := H
  refine ea_deref0 e4 ?_
  refine ea_getR (pc := 11) dX8_ask_11 ec_8 (k := 3) (Nat.le_of_ble_eq_true rfl) rfl (Or.inl ew_338) f16 g17 rfl ?_
  refine ea_iconst (pc := 14) dX8_ask_14 (v := 1) rfl ?_
  refine ea_aload_n (pc := 15) dX8_ask_15 rfl 1 rfl ?_
  obtain ⟨f18, g19, H⟩ := H
  refine ea_deref0 e8 ?_
  refine ea_getI (pc := 16) dX8_ask_16 ec_4 (k := 3) (Nat.le_of_ble_eq_true rfl) rfl (Or.inl ew_942) f18 g19 ?_
  obtain ⟨a22, e23, f20, g21, H⟩ := H
  refine ea_deref2 e23 ?_
  obtain ⟨z24, H⟩ := H
  refine ea_iast (pc := 19) dX8_ask_19 f20 g21 z24 ?_
  obtain ⟨h25, E26⟩ : ∃ z, z = ea_wi h14 a22 (Int32.toNatClampNeg 1) (ea_i h14 a7 3) := ⟨_, rfl⟩
  have H := H h25 E26
  refine ea_nm E26 ?_
  refine ea_aload_n (pc := 20) dX8_ask_20 rfl 0 rfl ?_
  obtain ⟨f27, g28, H⟩ := H
  refine ea_deref0 e4 ?_
  refine ea_getR (pc := 21) dX8_ask_21 ec_8 (k := 3) (Nat.le_of_ble_eq_true rfl) rfl (Or.inl ew_338) f27 g28 rfl ?_
  refine ea_iconst (pc := 24) dX8_ask_24 (v := 2) rfl ?_
  refine ea_aload_n (pc := 25) dX8_ask_25 rfl 1 rfl ?_
  obtain ⟨f29, g30, H⟩ := H
  refine ea_deref0 e8 ?_
  refine ea_getI (pc := 26) dX8_ask_26 ec_4 (k := 4) (Nat.le_of_ble_eq_true rfl) rfl (Or.inl ew_945) f29 g30 ?_
  obtain ⟨a33, e34, f31, g32, H⟩ := H
  refine ea_deref2 e34 ?_
  obtain ⟨z35, H⟩ := H
  refine ea_iast (pc := 29) dX8_ask_29 f31 g32 z35 ?_
  obtain ⟨h36, E37⟩ : ∃ z, z = ea_wi h25 a33 (Int32.toNatClampNeg 2) (ea_i h25 a7 4) := ⟨_, rfl⟩
  have H := H h36 E37
  refine ea_nm E37 ?_
  refine ea_aload_n (pc := 30) dX8_ask_30 rfl 0 rfl ?_
  obtain ⟨f38, g39, H⟩ := H
  refine ea_deref0 e4 ?_
  refine ea_getR (pc := 31) dX8_ask_31 ec_8 (k := 3) (Nat.le_of_ble_eq_true rfl) rfl (Or.inl ew_338) f38 g39 rfl ?_
  refine ea_iconst (pc := 34) dX8_ask_34 (v := 3) rfl ?_
  refine ea_aload_n (pc := 35) dX8_ask_35 rfl 1 rfl ?_
  obtain ⟨f40, g41, H⟩ := H
  refine ea_deref0 e8 ?_
  refine ea_getI (pc := 36) dX8_ask_36 ec_4 (k := 6) (Nat.le_of_ble_eq_true rfl) rfl (Or.inl ew_950) f40 g41 ?_
  refine ea_sipush (pc := 39) dX8_ask_39 (v := 1440) rfl ?_
  refine ea_irem (pc := 42) dX8_ask_42 (by decide) ?_
  refine ea_bipush (pc := 43) dX8_ask_43 (v := 60) rfl ?_
  refine ea_idiv (pc := 45) dX8_ask_45 (by decide) ?_
  obtain ⟨a44, e45, f42, g43, H⟩ := H
  refine ea_deref2 e45 ?_
  obtain ⟨z46, H⟩ := H
  refine ea_iast (pc := 46) dX8_ask_46 f42 g43 z46 ?_
  obtain ⟨h47, E48⟩ : ∃ z, z = ea_wi h36 a44 (Int32.toNatClampNeg 3) (((ea_i h36 a7 6) - (ea_i h36 a7 6) / (1440 : Int32) * (1440 : Int32)) / (60 : Int32)) := ⟨_, rfl⟩
  have H := H h47 E48
  refine ea_nm E48 ?_
  refine ea_aload_n (pc := 47) dX8_ask_47 rfl 0 rfl ?_
  obtain ⟨f49, g50, H⟩ := H
  refine ea_deref0 e4 ?_
  refine ea_getR (pc := 48) dX8_ask_48 ec_8 (k := 3) (Nat.le_of_ble_eq_true rfl) rfl (Or.inl ew_338) f49 g50 rfl ?_
  refine ea_iconst (pc := 51) dX8_ask_51 (v := 4) rfl ?_
  refine ea_aload_n (pc := 52) dX8_ask_52 rfl 1 rfl ?_
  obtain ⟨f55, g56, H⟩ := H
  refine ea_deref0 e8 ?_
  obtain ⟨d51, xc57, h52, m53, q54, H⟩ := H
  refine ea_callV (pc := 53) (As := []) (st := [vI 4, vR (ea_r h47 a3 3)]) dX8_ask_53 kX4_dayOf m53 q54 rfl (Nat.le_of_ble_eq_true rfl) ew_1040 ew_1033 ew_1034 (ci := 4) rfl (by decide) f55 g56 ?_
  obtain ⟨a60, e61, f58, g59, H⟩ := H
  refine ea_deref2 e61 ?_
  obtain ⟨z62, H⟩ := H
  refine ea_iast (pc := 56) dX8_ask_56 f58 g59 z62 ?_
  obtain ⟨h63, E64⟩ : ∃ z, z = ea_wi h52 a60 (Int32.toNatClampNeg 4) xc57 := ⟨_, rfl⟩
  have H := H h63 E64
  refine ea_nm E64 ?_
  refine ea_aload_n (pc := 57) dX8_ask_57 rfl 0 rfl ?_
  obtain ⟨f65, g66, H⟩ := H
  refine ea_deref0 e4 ?_
  refine ea_getR (pc := 58) dX8_ask_58 ec_8 (k := 3) (Nat.le_of_ble_eq_true rfl) rfl (Or.inl ew_338) f65 g66 rfl ?_
  refine ea_iconst (pc := 61) dX8_ask_61 (v := 5) rfl ?_
  refine ea_aload_n (pc := 62) dX8_ask_62 rfl 1 rfl ?_
  obtain ⟨f67, g68, H⟩ := H
  refine ea_deref0 e8 ?_
  refine ea_getI (pc := 63) dX8_ask_63 ec_4 (k := 0) (Nat.le_of_ble_eq_true rfl) rfl (Or.inl ew_934) f67 g68 ?_
  obtain ⟨a71, e72, f69, g70, H⟩ := H
  refine ea_deref2 e72 ?_
  obtain ⟨z73, H⟩ := H
  refine ea_iast (pc := 66) dX8_ask_66 f69 g70 z73 ?_
  obtain ⟨h74, E75⟩ : ∃ z, z = ea_wi h63 a71 (Int32.toNatClampNeg 5) (ea_i h63 a7 0) := ⟨_, rfl⟩
  have H := H h74 E75
  refine ea_nm E75 ?_
  refine ea_aload_n (pc := 67) dX8_ask_67 rfl 0 rfl ?_
  obtain ⟨f76, g77, H⟩ := H
  refine ea_deref0 e4 ?_
  refine ea_getR (pc := 68) dX8_ask_68 ec_8 (k := 3) (Nat.le_of_ble_eq_true rfl) rfl (Or.inl ew_338) f76 g77 rfl ?_
  refine ea_bipush (pc := 71) dX8_ask_71 (v := 6) rfl ?_
  refine ea_aload_n (pc := 73) dX8_ask_73 rfl 1 rfl ?_
  obtain ⟨f78, g79, H⟩ := H
  refine ea_deref0 e8 ?_
  refine ea_getI (pc := 74) dX8_ask_74 ec_4 (k := 8) (Nat.le_of_ble_eq_true rfl) rfl (Or.inl ew_954) f78 g79 ?_
  refine ea_if_eq (pc := 77) (tgt := 84) dX8_ask_77 rfl (fun c94 => ?_) (fun c94 => ?_)
  · have H := H.1 c94
    refine ea_iconst (pc := 84) dX8_ask_84 (v := 0) rfl ?_
    obtain ⟨a82, e83, f80, g81, H⟩ := H
    refine ea_deref2 e83 ?_
    obtain ⟨z84, H⟩ := H
    refine ea_iast (pc := 85) dX8_ask_85 f80 g81 z84 ?_
    obtain ⟨h85, E86⟩ : ∃ z, z = ea_wi h74 a82 (Int32.toNatClampNeg 6) 0 := ⟨_, rfl⟩
    have H := H h85 E86
    refine ea_nm E86 ?_
    obtain ⟨rfl, rfl⟩ := H
    exact ea_return (pc := 86) dX8_ask_86 rfl
  · have H := H.2 c94
    refine ea_iconst (pc := 80) dX8_ask_80 (v := 1) rfl ?_
    refine ea_goto (pc := 81) (tgt := 85) dX8_ask_81 rfl ?_
    obtain ⟨a89, e90, f87, g88, H⟩ := H
    refine ea_deref2 e90 ?_
    obtain ⟨z91, H⟩ := H
    refine ea_iast (pc := 85) dX8_ask_85 f87 g88 z91 ?_
    obtain ⟨h92, E93⟩ : ∃ z, z = ea_wi h74 a89 (Int32.toNatClampNeg 6) 1 := ⟨_, rfl⟩
    have H := H h92 E93
    refine ea_nm E93 ?_
    obtain ⟨rfl, rfl⟩ := H
    exact ea_return (pc := 86) dX8_ask_86 rfl
theorem dX8_worth_0 : decode cX8_worth 0 = .ok (.iconst 0, 1) := by decide +kernel
theorem dX8_worth_1 : decode cX8_worth 1 = .ok (.istore_n 3, 1) := by decide +kernel
theorem dX8_worth_2 : decode cX8_worth 2 = .ok (.iload_n 2, 1) := by decide +kernel
theorem dX8_worth_3 : decode cX8_worth 3 = .ok (.istore 4, 2) := by decide +kernel
theorem dX8_worth_5 : decode cX8_worth 5 = .ok (.iload 4, 2) := by decide +kernel
theorem dX8_worth_7 : decode cX8_worth 7 = .ok (.ifCond .lt 159, 3) := by decide +kernel
theorem dX8_worth_10 : decode cX8_worth 10 = .ok (.iload 4, 2) := by decide +kernel
theorem dX8_worth_12 : decode cX8_worth 12 = .ok (.aload_n 1, 1) := by decide +kernel
theorem dX8_worth_13 : decode cX8_worth 13 = .ok (.arraylength, 1) := by decide +kernel
theorem dX8_worth_14 : decode cX8_worth 14 = .ok (.if_icmp .ge 152, 3) := by decide +kernel
theorem dX8_worth_17 : decode cX8_worth 17 = .ok (.aload_n 1, 1) := by decide +kernel
theorem dX8_worth_18 : decode cX8_worth 18 = .ok (.iload 4, 2) := by decide +kernel
theorem dX8_worth_20 : decode cX8_worth 20 = .ok (.iaload, 1) := by decide +kernel
theorem dX8_worth_21 : decode cX8_worth 21 = .ok (.bipush (-100), 2) := by decide +kernel
theorem dX8_worth_23 : decode cX8_worth 23 = .ok (.if_icmp .eq 143, 3) := by decide +kernel
theorem dX8_worth_26 : decode cX8_worth 26 = .ok (.aload_n 1, 1) := by decide +kernel
theorem dX8_worth_27 : decode cX8_worth 27 = .ok (.iload 4, 2) := by decide +kernel
theorem dX8_worth_29 : decode cX8_worth 29 = .ok (.iaload, 1) := by decide +kernel
theorem dX8_worth_30 : decode cX8_worth 30 = .ok (.istore 5, 2) := by decide +kernel
theorem dX8_worth_32 : decode cX8_worth 32 = .ok (.iload 5, 2) := by decide +kernel
theorem dX8_worth_34 : decode cX8_worth 34 = .ok (.bipush (-10), 2) := by decide +kernel
theorem dX8_worth_36 : decode cX8_worth 36 = .ok (.if_icmp .le 57, 3) := by decide +kernel
theorem dX8_worth_39 : decode cX8_worth 39 = .ok (.iload_n 3, 1) := by decide +kernel
theorem dX8_worth_40 : decode cX8_worth 40 = .ok (.aload_n 0, 1) := by decide +kernel
theorem dX8_worth_41 : decode cX8_worth 41 = .ok (.getfield 28, 3) := by decide +kernel
theorem dX8_worth_44 : decode cX8_worth 44 = .ok (.arraylength, 1) := by decide +kernel
theorem dX8_worth_45 : decode cX8_worth 45 = .ok (.if_icmp .ge 15, 3) := by decide +kernel
theorem dX8_worth_48 : decode cX8_worth 48 = .ok (.iconst (-1), 1) := by decide +kernel
theorem dX8_worth_49 : decode cX8_worth 49 = .ok (.iload 5, 2) := by decide +kernel
theorem dX8_worth_51 : decode cX8_worth 51 = .ok (.isub, 1) := by decide +kernel
theorem dX8_worth_52 : decode cX8_worth 52 = .ok (.aload_n 0, 1) := by decide +kernel
theorem dX8_worth_53 : decode cX8_worth 53 = .ok (.getfield 24, 3) := by decide +kernel
theorem dX8_worth_56 : decode cX8_worth 56 = .ok (.arraylength, 1) := by decide +kernel
theorem dX8_worth_57 : decode cX8_worth 57 = .ok (.if_icmp .lt 5, 3) := by decide +kernel
theorem dX8_worth_60 : decode cX8_worth 60 = .ok (.iconst 0, 1) := by decide +kernel
theorem dX8_worth_61 : decode cX8_worth 61 = .ok (.ireturn, 1) := by decide +kernel
theorem dX8_worth_62 : decode cX8_worth 62 = .ok (.aload_n 0, 1) := by decide +kernel
theorem dX8_worth_63 : decode cX8_worth 63 = .ok (.getfield 28, 3) := by decide +kernel
theorem dX8_worth_66 : decode cX8_worth 66 = .ok (.iload_n 3, 1) := by decide +kernel
theorem dX8_worth_67 : decode cX8_worth 67 = .ok (.iload 5, 2) := by decide +kernel
theorem dX8_worth_69 : decode cX8_worth 69 = .ok (.ifCond .lt 8, 3) := by decide +kernel
theorem dX8_worth_72 : decode cX8_worth 72 = .ok (.iload 5, 2) := by decide +kernel
theorem dX8_worth_74 : decode cX8_worth 74 = .ok (.goto 12, 3) := by decide +kernel
theorem dX8_worth_77 : decode cX8_worth 77 = .ok (.aload_n 0, 1) := by decide +kernel
theorem dX8_worth_78 : decode cX8_worth 78 = .ok (.getfield 24, 3) := by decide +kernel
theorem dX8_worth_81 : decode cX8_worth 81 = .ok (.iconst (-1), 1) := by decide +kernel
theorem dX8_worth_82 : decode cX8_worth 82 = .ok (.iload 5, 2) := by decide +kernel
theorem dX8_worth_84 : decode cX8_worth 84 = .ok (.isub, 1) := by decide +kernel
theorem dX8_worth_85 : decode cX8_worth 85 = .ok (.iaload, 1) := by decide +kernel
theorem dX8_worth_86 : decode cX8_worth 86 = .ok (.iastore, 1) := by decide +kernel
theorem dX8_worth_87 : decode cX8_worth 87 = .ok (.iinc 3 1, 3) := by decide +kernel
theorem dX8_worth_90 : decode cX8_worth 90 = .ok (.goto 70, 3) := by decide +kernel
theorem dX8_worth_93 : decode cX8_worth 93 = .ok (.iload 5, 2) := by decide +kernel
theorem dX8_worth_95 : decode cX8_worth 95 = .ok (.bipush (-17), 2) := by decide +kernel
theorem dX8_worth_97 : decode cX8_worth 97 = .ok (.if_icmp .ne 28, 3) := by decide +kernel
theorem dX8_worth_100 : decode cX8_worth 100 = .ok (.iload_n 3, 1) := by decide +kernel
theorem dX8_worth_101 : decode cX8_worth 101 = .ok (.ifCond .le 24, 3) := by decide +kernel
theorem dX8_worth_104 : decode cX8_worth 104 = .ok (.aload_n 0, 1) := by decide +kernel
theorem dX8_worth_105 : decode cX8_worth 105 = .ok (.getfield 28, 3) := by decide +kernel
theorem dX8_worth_108 : decode cX8_worth 108 = .ok (.iload_n 3, 1) := by decide +kernel
theorem dX8_worth_109 : decode cX8_worth 109 = .ok (.iconst 1, 1) := by decide +kernel
theorem dX8_worth_110 : decode cX8_worth 110 = .ok (.isub, 1) := by decide +kernel
theorem dX8_worth_111 : decode cX8_worth 111 = .ok (.iconst 1, 1) := by decide +kernel
theorem dX8_worth_112 : decode cX8_worth 112 = .ok (.aload_n 0, 1) := by decide +kernel
theorem dX8_worth_113 : decode cX8_worth 113 = .ok (.getfield 28, 3) := by decide +kernel
theorem dX8_worth_116 : decode cX8_worth 116 = .ok (.iload_n 3, 1) := by decide +kernel
theorem dX8_worth_117 : decode cX8_worth 117 = .ok (.iconst 1, 1) := by decide +kernel
theorem dX8_worth_118 : decode cX8_worth 118 = .ok (.isub, 1) := by decide +kernel
theorem dX8_worth_119 : decode cX8_worth 119 = .ok (.iaload, 1) := by decide +kernel
theorem dX8_worth_120 : decode cX8_worth 120 = .ok (.isub, 1) := by decide +kernel
theorem dX8_worth_121 : decode cX8_worth 121 = .ok (.iastore, 1) := by decide +kernel
theorem dX8_worth_122 : decode cX8_worth 122 = .ok (.goto 38, 3) := by decide +kernel
theorem dX8_worth_125 : decode cX8_worth 125 = .ok (.iload_n 3, 1) := by decide +kernel
theorem dX8_worth_126 : decode cX8_worth 126 = .ok (.iconst 1, 1) := by decide +kernel
theorem dX8_worth_127 : decode cX8_worth 127 = .ok (.if_icmp .le 33, 3) := by decide +kernel
theorem dX8_worth_130 : decode cX8_worth 130 = .ok (.iinc 3 (-1), 3) := by decide +kernel
theorem dX8_worth_133 : decode cX8_worth 133 = .ok (.aload_n 0, 1) := by decide +kernel
theorem dX8_worth_134 : decode cX8_worth 134 = .ok (.getfield 28, 3) := by decide +kernel
theorem dX8_worth_137 : decode cX8_worth 137 = .ok (.iload_n 3, 1) := by decide +kernel
theorem dX8_worth_138 : decode cX8_worth 138 = .ok (.iconst 1, 1) := by decide +kernel
theorem dX8_worth_139 : decode cX8_worth 139 = .ok (.isub, 1) := by decide +kernel
theorem dX8_worth_140 : decode cX8_worth 140 = .ok (.iload 5, 2) := by decide +kernel
theorem dX8_worth_142 : decode cX8_worth 142 = .ok (.aload_n 0, 1) := by decide +kernel
theorem dX8_worth_143 : decode cX8_worth 143 = .ok (.getfield 28, 3) := by decide +kernel
theorem dX8_worth_146 : decode cX8_worth 146 = .ok (.iload_n 3, 1) := by decide +kernel
theorem dX8_worth_147 : decode cX8_worth 147 = .ok (.iconst 1, 1) := by decide +kernel
theorem dX8_worth_148 : decode cX8_worth 148 = .ok (.isub, 1) := by decide +kernel
theorem dX8_worth_149 : decode cX8_worth 149 = .ok (.iaload, 1) := by decide +kernel
theorem dX8_worth_150 : decode cX8_worth 150 = .ok (.aload_n 0, 1) := by decide +kernel
theorem dX8_worth_151 : decode cX8_worth 151 = .ok (.getfield 28, 3) := by decide +kernel
theorem dX8_worth_154 : decode cX8_worth 154 = .ok (.iload_n 3, 1) := by decide +kernel
theorem dX8_worth_155 : decode cX8_worth 155 = .ok (.iaload, 1) := by decide +kernel
theorem dX8_worth_156 : decode cX8_worth 156 = .ok (.invokestatic 148, 3) := by decide +kernel
theorem dX8_worth_159 : decode cX8_worth 159 = .ok (.iastore, 1) := by decide +kernel
theorem dX8_worth_160 : decode cX8_worth 160 = .ok (.iinc 4 1, 3) := by decide +kernel
theorem dX8_worth_163 : decode cX8_worth 163 = .ok (.goto (-158), 3) := by decide +kernel
theorem dX8_worth_166 : decode cX8_worth 166 = .ok (.iload_n 3, 1) := by decide +kernel
theorem dX8_worth_167 : decode cX8_worth 167 = .ok (.ifCond .le 14, 3) := by decide +kernel
theorem dX8_worth_170 : decode cX8_worth 170 = .ok (.aload_n 0, 1) := by decide +kernel
theorem dX8_worth_171 : decode cX8_worth 171 = .ok (.getfield 28, 3) := by decide +kernel
theorem dX8_worth_174 : decode cX8_worth 174 = .ok (.iload_n 3, 1) := by decide +kernel
theorem dX8_worth_175 : decode cX8_worth 175 = .ok (.iconst 1, 1) := by decide +kernel
theorem dX8_worth_176 : decode cX8_worth 176 = .ok (.isub, 1) := by decide +kernel
theorem dX8_worth_177 : decode cX8_worth 177 = .ok (.iaload, 1) := by decide +kernel
theorem dX8_worth_178 : decode cX8_worth 178 = .ok (.goto 4, 3) := by decide +kernel
theorem dX8_worth_181 : decode cX8_worth 181 = .ok (.iconst 0, 1) := by decide +kernel
theorem dX8_worth_182 : decode cX8_worth 182 = .ok (.ireturn, 1) := by decide +kernel
theorem bX8_worth_0 {d : Nat} {h0 hE h : ea_H} {rv : Option ea_V} {r0 : Option Nat} {r1 : Option Nat} {x2 : Int32} (H : ea_W mX8_worth d h0 rv hE 5 [(0, vR r0), (1, vR r1), (3, vI 0), (4, vI x2)] [] h) : ea_W mX8_worth d h0 rv hE 0 [(0, vR r0), (1, vR r1), (2, vI x2)] [] h := by
  refine ea_iconst (pc := 0) dX8_worth_0 (v := 0) rfl ?_
  refine ea_istore_n (pc := 1) (lv' := [(0, vR r0), (1, vR r1), (2, vI x2), (3, vI 0)]) dX8_worth_1 rfl (Nat.le_of_ble_eq_true rfl) [1, 2, 3, 0] rfl ?_
  refine ea_iload_n (pc := 2) dX8_worth_2 rfl 2 rfl ?_
  refine ea_istore (pc := 3) (lv' := [(0, vR r0), (1, vR r1), (3, vI 0), (4, vI x2)]) dX8_worth_3 (Nat.le_of_ble_eq_true rfl) [1, 2, 4, 0] rfl ?_
  exact H
theorem bX8_worth_5 {d : Nat} {h0 hE h : ea_H} {rv : Option ea_V} {r0 : Option Nat} {r1 : Option Nat} {x3 : Int32} {x4 : Int32} (H : (x4 < (0 : Int32) → ea_W mX8_worth d h0 rv hE 166 [(0, vR r0), (3, vI x3)] [] h) ∧ (¬ x4 < (0 : Int32) → ∃ a3, r1 = some a3 ∧ a3 < ea_n h ∧ ea_c h a3 = 20 ∧ ((Int32.ofNat (ea_l h a3)) ≤ x4 → ea_W mX8_worth d h0 rv hE 166 [(0, vR r0), (3, vI x3)] [] h) ∧ (¬ (Int32.ofNat (ea_l h a3)) ≤ x4 → a3 < ea_n h ∧ ea_c h a3 = 20 ∧ vp_in x4 (ea_l h a3) ∧ ((ea_i h a3 (Int32.toNatClampNeg x4)) = ((-100) : Int32) → ea_W mX8_worth d h0 rv hE 166 [(0, vR r0), (3, vI x3)] [] h) ∧ (¬ (ea_i h a3 (Int32.toNatClampNeg x4)) = ((-100) : Int32) → a3 < ea_n h ∧ ea_c h a3 = 20 ∧ vp_in x4 (ea_l h a3) ∧ ((ea_i h a3 (Int32.toNatClampNeg x4)) ≤ ((-10) : Int32) → (¬ (ea_i h a3 (Int32.toNatClampNeg x4)) = ((-17) : Int32) → ea_W mX8_worth d h0 rv hE 125 [(0, vR r0), (1, vR r1), (3, vI x3), (4, vI x4), (5, vI (ea_i h a3 (Int32.toNatClampNeg x4)))] [] h) ∧ ((ea_i h a3 (Int32.toNatClampNeg x4)) = ((-17) : Int32) → (x3 ≤ (0 : Int32) → ea_W mX8_worth d h0 rv hE 125 [(0, vR r0), (1, vR r1), (3, vI x3), (4, vI x4), (5, vI (ea_i h a3 (Int32.toNatClampNeg x4)))] [] h) ∧ (¬ x3 ≤ (0 : Int32) → ∃ a13, r0 = some a13 ∧ a13 < ea_n h ∧ ea_c h a13 = 8 ∧ a13 < ea_n h ∧ ea_c h a13 = 8 ∧ ∃ a19, (ea_r h a13 4) = some a19 ∧ a19 < ea_n h ∧ ea_c h a19 = 20 ∧ vp_in (x3 - (1 : Int32)) (ea_l h a19) ∧ a19 < ea_n h ∧ ea_c h a19 = 20 ∧ vp_in (x3 - (1 : Int32)) (ea_l h a19) ∧ ∀ h25, h25 = ea_wi h a19 (Int32.toNatClampNeg (x3 - (1 : Int32))) ((1 : Int32) - (ea_i h a19 (Int32.toNatClampNeg (x3 - (1 : Int32))))) → ea_W mX8_worth d h0 rv hE 5 [(0, vR r0), (1, vR r1), (3, vI x3), (4, vI (x4 + 1))] [] h25))) ∧ (¬ (ea_i h a3 (Int32.toNatClampNeg x4)) ≤ ((-10) : Int32) → ∃ a31, r0 = some a31 ∧ a31 < ea_n h ∧ ea_c h a31 = 8 ∧ ∃ a35, (ea_r h a31 4) = some a35 ∧ a35 < ea_n h ∧ ea_c h a35 = 20 ∧ ((Int32.ofNat (ea_l h a35)) ≤ x3 → rv = some (vI 0) ∧ hE = h) ∧ (¬ (Int32.ofNat (ea_l h a35)) ≤ x3 → a31 < ea_n h ∧ ea_c h a31 = 8 ∧ ∃ a41, (ea_r h a31 3) = some a41 ∧ a41 < ea_n h ∧ ea_c h a41 = 20 ∧ ((((-1) : Int32) - (ea_i h a3 (Int32.toNatClampNeg x4))) < (Int32.ofNat (ea_l h a41)) → a31 < ea_n h ∧ ea_c h a31 = 8 ∧ ((ea_i h a3 (Int32.toNatClampNeg x4)) < (0 : Int32) → a31 < ea_n h ∧ ea_c h a31 = 8 ∧ a41 < ea_n h ∧ ea_c h a41 = 20 ∧ vp_in (((-1) : Int32) - (ea_i h a3 (Int32.toNatClampNeg x4))) (ea_l h a41) ∧ a35 < ea_n h ∧ ea_c h a35 = 20 ∧ vp_in x3 (ea_l h a35) ∧ ∀ h53, h53 = ea_wi h a35 (Int32.toNatClampNeg x3) (ea_i h a41 (Int32.toNatClampNeg (((-1) : Int32) - (ea_i h a3 (Int32.toNatClampNeg x4))))) → ea_W mX8_worth d h0 rv hE 5 [(0, vR r0), (1, vR r1), (3, vI (x3 + 1)), (4, vI (x4 + 1))] [] h53) ∧ (¬ (ea_i h a3 (Int32.toNatClampNeg x4)) < (0 : Int32) → a35 < ea_n h ∧ ea_c h a35 = 20 ∧ vp_in x3 (ea_l h a35) ∧ ∀ h58, h58 = ea_wi h a35 (Int32.toNatClampNeg x3) (ea_i h a3 (Int32.toNatClampNeg x4)) → ea_W mX8_worth d h0 rv hE 5 [(0, vR r0), (1, vR r1), (3, vI (x3 + 1)), (4, vI (x4 + 1))] [] h58)) ∧ (¬ (((-1) : Int32) - (ea_i h a3 (Int32.toNatClampNeg x4))) < (Int32.ofNat (ea_l h a41)) → rv = some (vI 0) ∧ hE = h))))))) : ea_W mX8_worth d h0 rv hE 5 [(0, vR r0), (1, vR r1), (3, vI x3), (4, vI x4)] [] h := by
  refine ea_iload (pc := 5) dX8_worth_5 3 rfl ?_
  refine ea_if_lt (pc := 7) (tgt := 166) dX8_worth_7 rfl (fun c66 => ?_) (fun c66 => ?_)
  · have H := H.1 c66
    exact ea_fewer [0, 2] rfl H
  · have H := H.2 c66
    refine ea_iload (pc := 10) dX8_worth_10 3 rfl ?_
    refine ea_aload_n (pc := 12) dX8_worth_12 rfl 1 rfl ?_
    obtain ⟨a3, e4, f1, g2, H⟩ := H
    refine ea_deref0 e4 ?_
    refine ea_alen (pc := 13) dX8_worth_13 f1 g2 (by decide) (by decide) ?_
    refine ea_icmp_ge (pc := 14) (tgt := 166) dX8_worth_14 rfl (fun c65 => ?_) (fun c65 => ?_)
    · have H := H.1 c65
      exact ea_fewer [0, 2] rfl H
    · have H := H.2 c65
      refine ea_aload_n (pc := 17) dX8_worth_17 rfl 1 rfl ?_
      refine ea_iload (pc := 18) dX8_worth_18 3 rfl ?_
      obtain ⟨f5, g6, H⟩ := H
      refine ea_deref1 e4 ?_
      obtain ⟨z7, H⟩ := H
      refine ea_iald (pc := 20) dX8_worth_20 f5 g6 z7 ?_
      refine ea_bipush (pc := 21) dX8_worth_21 (v := (-100)) rfl ?_
      refine ea_icmp_eq (pc := 23) (tgt := 166) dX8_worth_23 rfl (fun c64 => ?_) (fun c64 => ?_)
      · have H := H.1 c64
        exact ea_fewer [0, 2] rfl H
      · have H := H.2 c64
        refine ea_aload_n (pc := 26) dX8_worth_26 rfl 1 rfl ?_
        refine ea_iload (pc := 27) dX8_worth_27 3 rfl ?_
        obtain ⟨f8, g9, H⟩ := H
        refine ea_deref1 e4 ?_
        obtain ⟨z10, H⟩ := H
        refine ea_iald (pc := 29) dX8_worth_29 f8 g9 z10 ?_
        refine ea_istore (pc := 30) (lv' := [(0, vR r0), (1, vR r1), (3, vI x3), (4, vI x4), (5, vI (ea_i h a3 (Int32.toNatClampNeg x4)))]) dX8_worth_30 (Nat.le_of_ble_eq_true rfl) [1, 2, 3, 4, 0] rfl ?_
        refine ea_iload (pc := 32) dX8_worth_32 4 rfl ?_
        refine ea_bipush (pc := 34) dX8_worth_34 (v := (-10)) rfl ?_
        refine ea_icmp_le (pc := 36) (tgt := 93) dX8_worth_36 rfl (fun c63 => ?_) (fun c63 => ?_)
        · have H := H.1 c63
          refine ea_iload (pc := 93) dX8_worth_93 4 rfl ?_
          refine ea_bipush (pc := 95) dX8_worth_95 (v := (-17)) rfl ?_
          refine ea_icmp_ne (pc := 97) (tgt := 125) dX8_worth_97 rfl (fun c28 => ?_) (fun c28 => ?_)
          · have H := H.1 c28
            exact H
          · have H := H.2 c28
            refine ea_iload_n (pc := 100) dX8_worth_100 rfl 2 rfl ?_
            refine ea_if_le (pc := 101) (tgt := 125) dX8_worth_101 rfl (fun c27 => ?_) (fun c27 => ?_)
            · have H := H.1 c27
              exact H
            · have H := H.2 c27
              refine ea_aload_n (pc := 104) dX8_worth_104 rfl 0 rfl ?_
              obtain ⟨a13, e14, f11, g12, H⟩ := H
              refine ea_deref0 e14 ?_
              refine ea_getR (pc := 105) dX8_worth_105 ec_8 (k := 4) (Nat.le_of_ble_eq_true rfl) rfl (Or.inl ew_339) f11 g12 rfl ?_
              refine ea_iload_n (pc := 108) dX8_worth_108 rfl 2 rfl ?_
              refine ea_iconst (pc := 109) dX8_worth_109 (v := 1) rfl ?_
              refine ea_isub (pc := 110) dX8_worth_110 ?_
              refine ea_iconst (pc := 111) dX8_worth_111 (v := 1) rfl ?_
              refine ea_aload_n (pc := 112) dX8_worth_112 rfl 0 rfl ?_
              obtain ⟨f15, g16, H⟩ := H
              refine ea_deref0 e14 ?_
              refine ea_getR (pc := 113) dX8_worth_113 ec_8 (k := 4) (Nat.le_of_ble_eq_true rfl) rfl (Or.inl ew_339) f15 g16 rfl ?_
              refine ea_iload_n (pc := 116) dX8_worth_116 rfl 2 rfl ?_
              refine ea_iconst (pc := 117) dX8_worth_117 (v := 1) rfl ?_
              refine ea_isub (pc := 118) dX8_worth_118 ?_
              obtain ⟨a19, e20, f17, g18, H⟩ := H
              refine ea_deref1 e20 ?_
              obtain ⟨z21, H⟩ := H
              refine ea_iald (pc := 119) dX8_worth_119 f17 g18 z21 ?_
              refine ea_isub (pc := 120) dX8_worth_120 ?_
              obtain ⟨f22, g23, H⟩ := H
              refine ea_deref2 e20 ?_
              obtain ⟨z24, H⟩ := H
              refine ea_iast (pc := 121) dX8_worth_121 f22 g23 z24 ?_
              obtain ⟨h25, E26⟩ : ∃ z, z = ea_wi h a19 (Int32.toNatClampNeg (x3 - (1 : Int32))) ((1 : Int32) - (ea_i h a19 (Int32.toNatClampNeg (x3 - (1 : Int32))))) := ⟨_, rfl⟩
              have H := H h25 E26
              refine ea_nm E26 ?_
              refine ea_goto (pc := 122) (tgt := 160) dX8_worth_122 rfl ?_
              refine ea_iinc (pc := 160) (v := 1) (lv' := [(0, vR r0), (1, vR r1), (3, vI x3), (4, vI (x4 + 1))]) dX8_worth_160 3 rfl rfl (Nat.le_of_ble_eq_true rfl) [1, 2, 3, 0] rfl ?_
              refine ea_goto (pc := 163) (tgt := 5) dX8_worth_163 rfl ?_
              exact H
        · have H := H.2 c63
          refine ea_iload_n (pc := 39) dX8_worth_39 rfl 2 rfl ?_
          refine ea_aload_n (pc := 40) dX8_worth_40 rfl 0 rfl ?_
          obtain ⟨a31, e32, f29, g30, H⟩ := H
          refine ea_deref0 e32 ?_
          refine ea_getR (pc := 41) dX8_worth_41 ec_8 (k := 4) (Nat.le_of_ble_eq_true rfl) rfl (Or.inl ew_339) f29 g30 rfl ?_
          obtain ⟨a35, e36, f33, g34, H⟩ := H
          refine ea_deref0 e36 ?_
          refine ea_alen (pc := 44) dX8_worth_44 f33 g34 (by decide) (by decide) ?_
          refine ea_icmp_ge (pc := 45) (tgt := 60) dX8_worth_45 rfl (fun c62 => ?_) (fun c62 => ?_)
          · have H := H.1 c62
            refine ea_iconst (pc := 60) dX8_worth_60 (v := 0) rfl ?_
            obtain ⟨rfl, rfl⟩ := H
            exact ea_ireturn (pc := 61) dX8_worth_61 rfl rfl
          · have H := H.2 c62
            refine ea_iconst (pc := 48) dX8_worth_48 (v := (-1)) rfl ?_
            refine ea_iload (pc := 49) dX8_worth_49 4 rfl ?_
            refine ea_isub (pc := 51) dX8_worth_51 ?_
            refine ea_aload_n (pc := 52) dX8_worth_52 rfl 0 rfl ?_
            obtain ⟨f37, g38, H⟩ := H
            refine ea_deref0 e32 ?_
            refine ea_getR (pc := 53) dX8_worth_53 ec_8 (k := 3) (Nat.le_of_ble_eq_true rfl) rfl (Or.inl ew_338) f37 g38 rfl ?_
            obtain ⟨a41, e42, f39, g40, H⟩ := H
            refine ea_deref0 e42 ?_
            refine ea_alen (pc := 56) dX8_worth_56 f39 g40 (by decide) (by decide) ?_
            refine ea_icmp_lt (pc := 57) (tgt := 62) dX8_worth_57 rfl (fun c61 => ?_) (fun c61 => ?_)
            · have H := H.1 c61
              refine ea_aload_n (pc := 62) dX8_worth_62 rfl 0 rfl ?_
              obtain ⟨f43, g44, H⟩ := H
              refine ea_deref0 e32 ?_
              refine ea_getR (pc := 63) dX8_worth_63 ec_8 (k := 4) (Nat.le_of_ble_eq_true rfl) rfl (Or.inl ew_339) f43 g44 rfl ?_
              refine ea_iload_n (pc := 66) dX8_worth_66 rfl 2 rfl ?_
              refine ea_iload (pc := 67) dX8_worth_67 4 rfl ?_
              refine ea_if_lt (pc := 69) (tgt := 77) dX8_worth_69 rfl (fun c60 => ?_) (fun c60 => ?_)
              · have H := H.1 c60
                refine ea_aload_n (pc := 77) dX8_worth_77 rfl 0 rfl ?_
                obtain ⟨f45, g46, H⟩ := H
                refine ea_deref0 e32 ?_
                refine ea_getR (pc := 78) dX8_worth_78 ec_8 (k := 3) (Nat.le_of_ble_eq_true rfl) rfl (Or.inl ew_338) f45 g46 rfl ?_
                refine ea_iconst (pc := 81) dX8_worth_81 (v := (-1)) rfl ?_
                refine ea_iload (pc := 82) dX8_worth_82 4 rfl ?_
                refine ea_isub (pc := 84) dX8_worth_84 ?_
                obtain ⟨f47, g48, H⟩ := H
                refine ea_deref1 e42 ?_
                obtain ⟨z49, H⟩ := H
                refine ea_iald (pc := 85) dX8_worth_85 f47 g48 z49 ?_
                obtain ⟨f50, g51, H⟩ := H
                refine ea_deref2 e36 ?_
                obtain ⟨z52, H⟩ := H
                refine ea_iast (pc := 86) dX8_worth_86 f50 g51 z52 ?_
                obtain ⟨h53, E54⟩ : ∃ z, z = ea_wi h a35 (Int32.toNatClampNeg x3) (ea_i h a41 (Int32.toNatClampNeg (((-1) : Int32) - (ea_i h a3 (Int32.toNatClampNeg x4))))) := ⟨_, rfl⟩
                have H := H h53 E54
                refine ea_nm E54 ?_
                refine ea_iinc (pc := 87) (v := 1) (lv' := [(0, vR r0), (1, vR r1), (3, vI (x3 + 1)), (4, vI x4)]) dX8_worth_87 2 rfl rfl (Nat.le_of_ble_eq_true rfl) [1, 2, 0, 3] rfl ?_
                refine ea_goto (pc := 90) (tgt := 160) dX8_worth_90 rfl ?_
                refine ea_iinc (pc := 160) (v := 1) (lv' := [(0, vR r0), (1, vR r1), (3, vI (x3 + 1)), (4, vI (x4 + 1))]) dX8_worth_160 3 rfl rfl (Nat.le_of_ble_eq_true rfl) [1, 2, 3, 0] rfl ?_
                refine ea_goto (pc := 163) (tgt := 5) dX8_worth_163 rfl ?_
                exact H
              · have H := H.2 c60
                refine ea_iload (pc := 72) dX8_worth_72 4 rfl ?_
                refine ea_goto (pc := 74) (tgt := 86) dX8_worth_74 rfl ?_
                obtain ⟨f55, g56, H⟩ := H
                refine ea_deref2 e36 ?_
                obtain ⟨z57, H⟩ := H
                refine ea_iast (pc := 86) dX8_worth_86 f55 g56 z57 ?_
                obtain ⟨h58, E59⟩ : ∃ z, z = ea_wi h a35 (Int32.toNatClampNeg x3) (ea_i h a3 (Int32.toNatClampNeg x4)) := ⟨_, rfl⟩
                have H := H h58 E59
                refine ea_nm E59 ?_
                refine ea_iinc (pc := 87) (v := 1) (lv' := [(0, vR r0), (1, vR r1), (3, vI (x3 + 1)), (4, vI x4)]) dX8_worth_87 2 rfl rfl (Nat.le_of_ble_eq_true rfl) [1, 2, 0, 3] rfl ?_
                refine ea_goto (pc := 90) (tgt := 160) dX8_worth_90 rfl ?_
                refine ea_iinc (pc := 160) (v := 1) (lv' := [(0, vR r0), (1, vR r1), (3, vI (x3 + 1)), (4, vI (x4 + 1))]) dX8_worth_160 3 rfl rfl (Nat.le_of_ble_eq_true rfl) [1, 2, 3, 0] rfl ?_
                refine ea_goto (pc := 163) (tgt := 5) dX8_worth_163 rfl ?_
                exact H
            · have H := H.2 c61
              refine ea_iconst (pc := 60) dX8_worth_60 (v := 0) rfl ?_
              obtain ⟨rfl, rfl⟩ := H
              exact ea_ireturn (pc := 61) dX8_worth_61 rfl rfl
theorem bX8_worth_125 {d : Nat} {h0 hE h : ea_H} {rv : Option ea_V} {r0 : Option Nat} {r1 : Option Nat} {x3 : Int32} {x4 : Int32} {x5 : Int32} (H : (x3 ≤ (1 : Int32) → ea_W mX8_worth d h0 rv hE 5 [(0, vR r0), (1, vR r1), (3, vI x3), (4, vI (x4 + 1))] [] h) ∧ (¬ x3 ≤ (1 : Int32) → ∃ a3, r0 = some a3 ∧ a3 < ea_n h ∧ ea_c h a3 = 8 ∧ a3 < ea_n h ∧ ea_c h a3 = 8 ∧ ∃ a9, (ea_r h a3 4) = some a9 ∧ a9 < ea_n h ∧ ea_c h a9 = 20 ∧ vp_in ((x3 + (-1)) - (1 : Int32)) (ea_l h a9) ∧ a3 < ea_n h ∧ ea_c h a3 = 8 ∧ a9 < ea_n h ∧ ea_c h a9 = 20 ∧ vp_in (x3 + (-1)) (ea_l h a9) ∧ ∃ (d17 : Nat) (xc21 : Int32) (h18 : ea_H), ea_Met mX8_joined d17 [vI x5, vI (ea_i h a9 (Int32.toNatClampNeg ((x3 + (-1)) - (1 : Int32)))), vI (ea_i h a9 (Int32.toNatClampNeg (x3 + (-1))))] h (some (vI xc21)) h18 ∧ d17 + 1 ≤ d ∧ a9 < ea_n h18 ∧ ea_c h18 a9 = 20 ∧ vp_in ((x3 + (-1)) - (1 : Int32)) (ea_l h18 a9) ∧ ∀ h25, h25 = ea_wi h18 a9 (Int32.toNatClampNeg ((x3 + (-1)) - (1 : Int32))) xc21 → ea_W mX8_worth d h0 rv hE 5 [(0, vR r0), (1, vR r1), (3, vI (x3 + (-1))), (4, vI (x4 + 1))] [] h25)) : ea_W mX8_worth d h0 rv hE 125 [(0, vR r0), (1, vR r1), (3, vI x3), (4, vI x4), (5, vI x5)] [] h := by
  refine ea_iload_n (pc := 125) dX8_worth_125 rfl 2 rfl ?_
  refine ea_iconst (pc := 126) dX8_worth_126 (v := 1) rfl ?_
  refine ea_icmp_le (pc := 127) (tgt := 160) dX8_worth_127 rfl (fun c27 => ?_) (fun c27 => ?_)
  · have H := H.1 c27
    refine ea_iinc (pc := 160) (v := 1) (lv' := [(0, vR r0), (1, vR r1), (3, vI x3), (4, vI (x4 + 1))]) dX8_worth_160 3 rfl rfl (Nat.le_of_ble_eq_true rfl) [1, 2, 3, 0] rfl ?_
    refine ea_goto (pc := 163) (tgt := 5) dX8_worth_163 rfl ?_
    exact H
  · have H := H.2 c27
    refine ea_iinc (pc := 130) (v := (-1)) (lv' := [(0, vR r0), (1, vR r1), (3, vI (x3 + (-1))), (4, vI x4), (5, vI x5)]) dX8_worth_130 2 rfl rfl (Nat.le_of_ble_eq_true rfl) [1, 2, 0, 3, 4] rfl ?_
    refine ea_aload_n (pc := 133) dX8_worth_133 rfl 0 rfl ?_
    obtain ⟨a3, e4, f1, g2, H⟩ := H
    refine ea_deref0 e4 ?_
    refine ea_getR (pc := 134) dX8_worth_134 ec_8 (k := 4) (Nat.le_of_ble_eq_true rfl) rfl (Or.inl ew_339) f1 g2 rfl ?_
    refine ea_iload_n (pc := 137) dX8_worth_137 rfl 2 rfl ?_
    refine ea_iconst (pc := 138) dX8_worth_138 (v := 1) rfl ?_
    refine ea_isub (pc := 139) dX8_worth_139 ?_
    refine ea_iload (pc := 140) dX8_worth_140 4 rfl ?_
    refine ea_aload_n (pc := 142) dX8_worth_142 rfl 0 rfl ?_
    obtain ⟨f5, g6, H⟩ := H
    refine ea_deref0 e4 ?_
    refine ea_getR (pc := 143) dX8_worth_143 ec_8 (k := 4) (Nat.le_of_ble_eq_true rfl) rfl (Or.inl ew_339) f5 g6 rfl ?_
    refine ea_iload_n (pc := 146) dX8_worth_146 rfl 2 rfl ?_
    refine ea_iconst (pc := 147) dX8_worth_147 (v := 1) rfl ?_
    refine ea_isub (pc := 148) dX8_worth_148 ?_
    obtain ⟨a9, e10, f7, g8, H⟩ := H
    refine ea_deref1 e10 ?_
    obtain ⟨z11, H⟩ := H
    refine ea_iald (pc := 149) dX8_worth_149 f7 g8 z11 ?_
    refine ea_aload_n (pc := 150) dX8_worth_150 rfl 0 rfl ?_
    obtain ⟨f12, g13, H⟩ := H
    refine ea_deref0 e4 ?_
    refine ea_getR (pc := 151) dX8_worth_151 ec_8 (k := 4) (Nat.le_of_ble_eq_true rfl) rfl (Or.inl ew_339) f12 g13 rfl ?_
    refine ea_iload_n (pc := 154) dX8_worth_154 rfl 2 rfl ?_
    obtain ⟨f14, g15, H⟩ := H
    refine ea_deref1 e10 ?_
    obtain ⟨z16, H⟩ := H
    refine ea_iald (pc := 155) dX8_worth_155 f14 g15 z16 ?_
    obtain ⟨d17, xc21, h18, m19, q20, H⟩ := H
    refine ea_callS (pc := 156) (As := [vI x5, vI (ea_i h a9 (Int32.toNatClampNeg ((x3 + (-1)) - (1 : Int32)))), vI (ea_i h a9 (Int32.toNatClampNeg (x3 + (-1))))]) (st := [vI ((x3 + (-1)) - (1 : Int32)), vR (ea_r h a3 4)]) dX8_worth_156 kX8_joined m19 q20 rfl (Nat.le_of_ble_eq_true rfl) ew_1062 ew_1063 ?_
    obtain ⟨f22, g23, H⟩ := H
    refine ea_deref2 e10 ?_
    obtain ⟨z24, H⟩ := H
    refine ea_iast (pc := 159) dX8_worth_159 f22 g23 z24 ?_
    obtain ⟨h25, E26⟩ : ∃ z, z = ea_wi h18 a9 (Int32.toNatClampNeg ((x3 + (-1)) - (1 : Int32))) xc21 := ⟨_, rfl⟩
    have H := H h25 E26
    refine ea_nm E26 ?_
    refine ea_iinc (pc := 160) (v := 1) (lv' := [(0, vR r0), (1, vR r1), (3, vI (x3 + (-1))), (4, vI (x4 + 1))]) dX8_worth_160 3 rfl rfl (Nat.le_of_ble_eq_true rfl) [1, 2, 3, 0] rfl ?_
    refine ea_goto (pc := 163) (tgt := 5) dX8_worth_163 rfl ?_
    exact H
theorem bX8_worth_166 {d : Nat} {h0 hE h : ea_H} {rv : Option ea_V} {r0 : Option Nat} {x3 : Int32} (H : (x3 ≤ (0 : Int32) → rv = some (vI 0) ∧ hE = h) ∧ (¬ x3 ≤ (0 : Int32) → ∃ a3, r0 = some a3 ∧ a3 < ea_n h ∧ ea_c h a3 = 8 ∧ ∃ a7, (ea_r h a3 4) = some a7 ∧ a7 < ea_n h ∧ ea_c h a7 = 20 ∧ vp_in (x3 - (1 : Int32)) (ea_l h a7) ∧ rv = some (vI (ea_i h a7 (Int32.toNatClampNeg (x3 - (1 : Int32))))) ∧ hE = h)) : ea_W mX8_worth d h0 rv hE 166 [(0, vR r0), (3, vI x3)] [] h := by
  refine ea_iload_n (pc := 166) dX8_worth_166 rfl 1 rfl ?_
  refine ea_if_le (pc := 167) (tgt := 181) dX8_worth_167 rfl (fun c10 => ?_) (fun c10 => ?_)
  · have H := H.1 c10
    refine ea_iconst (pc := 181) dX8_worth_181 (v := 0) rfl ?_
    obtain ⟨rfl, rfl⟩ := H
    exact ea_ireturn (pc := 182) dX8_worth_182 rfl rfl
  · have H := H.2 c10
    refine ea_aload_n (pc := 170) dX8_worth_170 rfl 0 rfl ?_
    obtain ⟨a3, e4, f1, g2, H⟩ := H
    refine ea_deref0 e4 ?_
    refine ea_getR (pc := 171) dX8_worth_171 ec_8 (k := 4) (Nat.le_of_ble_eq_true rfl) rfl (Or.inl ew_339) f1 g2 rfl ?_
    refine ea_iload_n (pc := 174) dX8_worth_174 rfl 1 rfl ?_
    refine ea_iconst (pc := 175) dX8_worth_175 (v := 1) rfl ?_
    refine ea_isub (pc := 176) dX8_worth_176 ?_
    obtain ⟨a7, e8, f5, g6, H⟩ := H
    refine ea_deref1 e8 ?_
    obtain ⟨z9, H⟩ := H
    refine ea_iald (pc := 177) dX8_worth_177 f5 g6 z9 ?_
    refine ea_goto (pc := 178) (tgt := 182) dX8_worth_178 rfl ?_
    obtain ⟨rfl, rfl⟩ := H
    exact ea_ireturn (pc := 182) dX8_worth_182 rfl rfl
theorem dX8_joined_0 : decode cX8_joined 0 = .ok (.iload_n 0, 1) := by decide +kernel
theorem dX8_joined_1 : decode cX8_joined 1 = .ok (.tableswitch 120 (-19) (-10) #[116, 112, 120, 101, 90, 79, 67, 63, 59, 55], 55) := by decide +kernel
theorem dX8_joined_56 : decode cX8_joined 56 = .ok (.iload_n 1, 1) := by decide +kernel
theorem dX8_joined_57 : decode cX8_joined 57 = .ok (.iload_n 2, 1) := by decide +kernel
theorem dX8_joined_58 : decode cX8_joined 58 = .ok (.iadd, 1) := by decide +kernel
theorem dX8_joined_59 : decode cX8_joined 59 = .ok (.ireturn, 1) := by decide +kernel
theorem dX8_joined_60 : decode cX8_joined 60 = .ok (.iload_n 1, 1) := by decide +kernel
theorem dX8_joined_61 : decode cX8_joined 61 = .ok (.iload_n 2, 1) := by decide +kernel
theorem dX8_joined_62 : decode cX8_joined 62 = .ok (.isub, 1) := by decide +kernel
theorem dX8_joined_63 : decode cX8_joined 63 = .ok (.ireturn, 1) := by decide +kernel
theorem dX8_joined_64 : decode cX8_joined 64 = .ok (.iload_n 1, 1) := by decide +kernel
theorem dX8_joined_65 : decode cX8_joined 65 = .ok (.iload_n 2, 1) := by decide +kernel
theorem dX8_joined_66 : decode cX8_joined 66 = .ok (.imul, 1) := by decide +kernel
theorem dX8_joined_67 : decode cX8_joined 67 = .ok (.ireturn, 1) := by decide +kernel
theorem dX8_joined_68 : decode cX8_joined 68 = .ok (.iload_n 2, 1) := by decide +kernel
theorem dX8_joined_69 : decode cX8_joined 69 = .ok (.ifCond .ne 7, 3) := by decide +kernel
theorem dX8_joined_72 : decode cX8_joined 72 = .ok (.iconst 0, 1) := by decide +kernel
theorem dX8_joined_73 : decode cX8_joined 73 = .ok (.goto 6, 3) := by decide +kernel
theorem dX8_joined_76 : decode cX8_joined 76 = .ok (.iload_n 1, 1) := by decide +kernel
theorem dX8_joined_77 : decode cX8_joined 77 = .ok (.iload_n 2, 1) := by decide +kernel
theorem dX8_joined_78 : decode cX8_joined 78 = .ok (.idiv, 1) := by decide +kernel
theorem dX8_joined_79 : decode cX8_joined 79 = .ok (.ireturn, 1) := by decide +kernel
theorem dX8_joined_80 : decode cX8_joined 80 = .ok (.iload_n 1, 1) := by decide +kernel
theorem dX8_joined_81 : decode cX8_joined 81 = .ok (.iload_n 2, 1) := by decide +kernel
theorem dX8_joined_82 : decode cX8_joined 82 = .ok (.if_icmp .ge 7, 3) := by decide +kernel
theorem dX8_joined_85 : decode cX8_joined 85 = .ok (.iconst 1, 1) := by decide +kernel
theorem dX8_joined_86 : decode cX8_joined 86 = .ok (.goto 4, 3) := by decide +kernel
theorem dX8_joined_89 : decode cX8_joined 89 = .ok (.iconst 0, 1) := by decide +kernel
theorem dX8_joined_90 : decode cX8_joined 90 = .ok (.ireturn, 1) := by decide +kernel
theorem dX8_joined_91 : decode cX8_joined 91 = .ok (.iload_n 1, 1) := by decide +kernel
theorem dX8_joined_92 : decode cX8_joined 92 = .ok (.iload_n 2, 1) := by decide +kernel
theorem dX8_joined_93 : decode cX8_joined 93 = .ok (.if_icmp .ne 7, 3) := by decide +kernel
theorem dX8_joined_96 : decode cX8_joined 96 = .ok (.iconst 1, 1) := by decide +kernel
theorem dX8_joined_97 : decode cX8_joined 97 = .ok (.goto 4, 3) := by decide +kernel
theorem dX8_joined_100 : decode cX8_joined 100 = .ok (.iconst 0, 1) := by decide +kernel
theorem dX8_joined_101 : decode cX8_joined 101 = .ok (.ireturn, 1) := by decide +kernel
theorem dX8_joined_102 : decode cX8_joined 102 = .ok (.iload_n 1, 1) := by decide +kernel
theorem dX8_joined_103 : decode cX8_joined 103 = .ok (.iload_n 2, 1) := by decide +kernel
theorem dX8_joined_104 : decode cX8_joined 104 = .ok (.if_icmp .le 7, 3) := by decide +kernel
theorem dX8_joined_107 : decode cX8_joined 107 = .ok (.iconst 1, 1) := by decide +kernel
theorem dX8_joined_108 : decode cX8_joined 108 = .ok (.goto 4, 3) := by decide +kernel
theorem dX8_joined_111 : decode cX8_joined 111 = .ok (.iconst 0, 1) := by decide +kernel
theorem dX8_joined_112 : decode cX8_joined 112 = .ok (.ireturn, 1) := by decide +kernel
theorem dX8_joined_113 : decode cX8_joined 113 = .ok (.iload_n 1, 1) := by decide +kernel
theorem dX8_joined_114 : decode cX8_joined 114 = .ok (.iload_n 2, 1) := by decide +kernel
theorem dX8_joined_115 : decode cX8_joined 115 = .ok (.iand, 1) := by decide +kernel
theorem dX8_joined_116 : decode cX8_joined 116 = .ok (.ireturn, 1) := by decide +kernel
theorem dX8_joined_117 : decode cX8_joined 117 = .ok (.iload_n 1, 1) := by decide +kernel
theorem dX8_joined_118 : decode cX8_joined 118 = .ok (.iload_n 2, 1) := by decide +kernel
theorem dX8_joined_119 : decode cX8_joined 119 = .ok (.ior, 1) := by decide +kernel
theorem dX8_joined_120 : decode cX8_joined 120 = .ok (.ireturn, 1) := by decide +kernel
theorem dX8_joined_121 : decode cX8_joined 121 = .ok (.iconst 0, 1) := by decide +kernel
theorem dX8_joined_122 : decode cX8_joined 122 = .ok (.ireturn, 1) := by decide +kernel
theorem bX8_joined_0 {d : Nat} {h0 hE h : ea_H} {rv : Option ea_V} {x0 : Int32} {x1 : Int32} {x2 : Int32} (H : (Int32.toInt x0 = -19 → rv = some (vI (x1 ||| x2)) ∧ hE = h) ∧ (Int32.toInt x0 = -18 → rv = some (vI (x1 &&& x2)) ∧ hE = h) ∧ (Int32.toInt x0 = -17 → rv = some (vI 0) ∧ hE = h) ∧ (Int32.toInt x0 = -16 → (x1 ≤ x2 → rv = some (vI 0) ∧ hE = h) ∧ (¬ x1 ≤ x2 → rv = some (vI 1) ∧ hE = h)) ∧ (Int32.toInt x0 = -15 → (¬ x1 = x2 → rv = some (vI 0) ∧ hE = h) ∧ (x1 = x2 → rv = some (vI 1) ∧ hE = h)) ∧ (Int32.toInt x0 = -14 → (x2 ≤ x1 → rv = some (vI 0) ∧ hE = h) ∧ (¬ x2 ≤ x1 → rv = some (vI 1) ∧ hE = h)) ∧ (Int32.toInt x0 = -13 → (¬ x2 = (0 : Int32) → (¬ x2 = 0) ∧ rv = some (vI (x1 / x2)) ∧ hE = h) ∧ (x2 = (0 : Int32) → rv = some (vI 0) ∧ hE = h)) ∧ (Int32.toInt x0 = -12 → rv = some (vI (x1 * x2)) ∧ hE = h) ∧ (Int32.toInt x0 = -11 → rv = some (vI (x1 - x2)) ∧ hE = h) ∧ (Int32.toInt x0 = -10 → rv = some (vI (x1 + x2)) ∧ hE = h) ∧ (Int32.toInt x0 < -19 ∨ -10 < Int32.toInt x0 → rv = some (vI 0) ∧ hE = h)) : ea_W mX8_joined d h0 rv hE 0 [(0, vI x0), (1, vI x1), (2, vI x2)] [] h := by
  refine ea_iload_n (pc := 0) dX8_joined_0 rfl 0 rfl ?_
  by_cases qc1 : Int32.toInt x0 = -19
  · have H := H.1 qc1
    refine ea_tswIn (pc := 1) (tgt := 117) dX8_joined_1 (by omega) (by omega) (by rw [qc1]; rfl) rfl ?_
    refine ea_iload_n (pc := 117) dX8_joined_117 rfl 1 rfl ?_
    refine ea_iload_n (pc := 118) dX8_joined_118 rfl 2 rfl ?_
    refine ea_ior (pc := 119) dX8_joined_119 ?_
    obtain ⟨rfl, rfl⟩ := H
    exact ea_ireturn (pc := 120) dX8_joined_120 rfl rfl
  by_cases qc2 : Int32.toInt x0 = -18
  · have H := H.2.1 qc2
    refine ea_tswIn (pc := 1) (tgt := 113) dX8_joined_1 (by omega) (by omega) (by rw [qc2]; rfl) rfl ?_
    refine ea_iload_n (pc := 113) dX8_joined_113 rfl 1 rfl ?_
    refine ea_iload_n (pc := 114) dX8_joined_114 rfl 2 rfl ?_
    refine ea_iand (pc := 115) dX8_joined_115 ?_
    obtain ⟨rfl, rfl⟩ := H
    exact ea_ireturn (pc := 116) dX8_joined_116 rfl rfl
  by_cases qc3 : Int32.toInt x0 = -17
  · have H := H.2.2.1 qc3
    refine ea_tswIn (pc := 1) (tgt := 121) dX8_joined_1 (by omega) (by omega) (by rw [qc3]; rfl) rfl ?_
    refine ea_iconst (pc := 121) dX8_joined_121 (v := 0) rfl ?_
    obtain ⟨rfl, rfl⟩ := H
    exact ea_ireturn (pc := 122) dX8_joined_122 rfl rfl
  by_cases qc4 : Int32.toInt x0 = -16
  · have H := H.2.2.2.1 qc4
    refine ea_tswIn (pc := 1) (tgt := 102) dX8_joined_1 (by omega) (by omega) (by rw [qc4]; rfl) rfl ?_
    refine ea_iload_n (pc := 102) dX8_joined_102 rfl 1 rfl ?_
    refine ea_iload_n (pc := 103) dX8_joined_103 rfl 2 rfl ?_
    refine ea_icmp_le (pc := 104) (tgt := 111) dX8_joined_104 rfl (fun c1 => ?_) (fun c1 => ?_)
    · have H := H.1 c1
      refine ea_iconst (pc := 111) dX8_joined_111 (v := 0) rfl ?_
      obtain ⟨rfl, rfl⟩ := H
      exact ea_ireturn (pc := 112) dX8_joined_112 rfl rfl
    · have H := H.2 c1
      refine ea_iconst (pc := 107) dX8_joined_107 (v := 1) rfl ?_
      refine ea_goto (pc := 108) (tgt := 112) dX8_joined_108 rfl ?_
      obtain ⟨rfl, rfl⟩ := H
      exact ea_ireturn (pc := 112) dX8_joined_112 rfl rfl
  by_cases qc5 : Int32.toInt x0 = -15
  · have H := H.2.2.2.2.1 qc5
    refine ea_tswIn (pc := 1) (tgt := 91) dX8_joined_1 (by omega) (by omega) (by rw [qc5]; rfl) rfl ?_
    refine ea_iload_n (pc := 91) dX8_joined_91 rfl 1 rfl ?_
    refine ea_iload_n (pc := 92) dX8_joined_92 rfl 2 rfl ?_
    refine ea_icmp_ne (pc := 93) (tgt := 100) dX8_joined_93 rfl (fun c2 => ?_) (fun c2 => ?_)
    · have H := H.1 c2
      refine ea_iconst (pc := 100) dX8_joined_100 (v := 0) rfl ?_
      obtain ⟨rfl, rfl⟩ := H
      exact ea_ireturn (pc := 101) dX8_joined_101 rfl rfl
    · have H := H.2 c2
      refine ea_iconst (pc := 96) dX8_joined_96 (v := 1) rfl ?_
      refine ea_goto (pc := 97) (tgt := 101) dX8_joined_97 rfl ?_
      obtain ⟨rfl, rfl⟩ := H
      exact ea_ireturn (pc := 101) dX8_joined_101 rfl rfl
  by_cases qc6 : Int32.toInt x0 = -14
  · have H := H.2.2.2.2.2.1 qc6
    refine ea_tswIn (pc := 1) (tgt := 80) dX8_joined_1 (by omega) (by omega) (by rw [qc6]; rfl) rfl ?_
    refine ea_iload_n (pc := 80) dX8_joined_80 rfl 1 rfl ?_
    refine ea_iload_n (pc := 81) dX8_joined_81 rfl 2 rfl ?_
    refine ea_icmp_ge (pc := 82) (tgt := 89) dX8_joined_82 rfl (fun c3 => ?_) (fun c3 => ?_)
    · have H := H.1 c3
      refine ea_iconst (pc := 89) dX8_joined_89 (v := 0) rfl ?_
      obtain ⟨rfl, rfl⟩ := H
      exact ea_ireturn (pc := 90) dX8_joined_90 rfl rfl
    · have H := H.2 c3
      refine ea_iconst (pc := 85) dX8_joined_85 (v := 1) rfl ?_
      refine ea_goto (pc := 86) (tgt := 90) dX8_joined_86 rfl ?_
      obtain ⟨rfl, rfl⟩ := H
      exact ea_ireturn (pc := 90) dX8_joined_90 rfl rfl
  by_cases qc7 : Int32.toInt x0 = -13
  · have H := H.2.2.2.2.2.2.1 qc7
    refine ea_tswIn (pc := 1) (tgt := 68) dX8_joined_1 (by omega) (by omega) (by rw [qc7]; rfl) rfl ?_
    refine ea_iload_n (pc := 68) dX8_joined_68 rfl 2 rfl ?_
    refine ea_if_ne (pc := 69) (tgt := 76) dX8_joined_69 rfl (fun c5 => ?_) (fun c5 => ?_)
    · have H := H.1 c5
      refine ea_iload_n (pc := 76) dX8_joined_76 rfl 1 rfl ?_
      refine ea_iload_n (pc := 77) dX8_joined_77 rfl 2 rfl ?_
      obtain ⟨z4, H⟩ := H
      refine ea_idiv (pc := 78) dX8_joined_78 z4 ?_
      obtain ⟨rfl, rfl⟩ := H
      exact ea_ireturn (pc := 79) dX8_joined_79 rfl rfl
    · have H := H.2 c5
      refine ea_iconst (pc := 72) dX8_joined_72 (v := 0) rfl ?_
      refine ea_goto (pc := 73) (tgt := 79) dX8_joined_73 rfl ?_
      obtain ⟨rfl, rfl⟩ := H
      exact ea_ireturn (pc := 79) dX8_joined_79 rfl rfl
  by_cases qc8 : Int32.toInt x0 = -12
  · have H := H.2.2.2.2.2.2.2.1 qc8
    refine ea_tswIn (pc := 1) (tgt := 64) dX8_joined_1 (by omega) (by omega) (by rw [qc8]; rfl) rfl ?_
    refine ea_iload_n (pc := 64) dX8_joined_64 rfl 1 rfl ?_
    refine ea_iload_n (pc := 65) dX8_joined_65 rfl 2 rfl ?_
    refine ea_imul (pc := 66) dX8_joined_66 ?_
    obtain ⟨rfl, rfl⟩ := H
    exact ea_ireturn (pc := 67) dX8_joined_67 rfl rfl
  by_cases qc9 : Int32.toInt x0 = -11
  · have H := H.2.2.2.2.2.2.2.2.1 qc9
    refine ea_tswIn (pc := 1) (tgt := 60) dX8_joined_1 (by omega) (by omega) (by rw [qc9]; rfl) rfl ?_
    refine ea_iload_n (pc := 60) dX8_joined_60 rfl 1 rfl ?_
    refine ea_iload_n (pc := 61) dX8_joined_61 rfl 2 rfl ?_
    refine ea_isub (pc := 62) dX8_joined_62 ?_
    obtain ⟨rfl, rfl⟩ := H
    exact ea_ireturn (pc := 63) dX8_joined_63 rfl rfl
  by_cases qc10 : Int32.toInt x0 = -10
  · have H := H.2.2.2.2.2.2.2.2.2.1 qc10
    refine ea_tswIn (pc := 1) (tgt := 56) dX8_joined_1 (by omega) (by omega) (by rw [qc10]; rfl) rfl ?_
    refine ea_iload_n (pc := 56) dX8_joined_56 rfl 1 rfl ?_
    refine ea_iload_n (pc := 57) dX8_joined_57 rfl 2 rfl ?_
    refine ea_iadd (pc := 58) dX8_joined_58 ?_
    obtain ⟨rfl, rfl⟩ := H
    exact ea_ireturn (pc := 59) dX8_joined_59 rfl rfl
  have qd : Int32.toInt x0 < -19 ∨ -10 < Int32.toInt x0 := by omega
  have H := H.2.2.2.2.2.2.2.2.2.2 qd
  refine ea_tswOut (pc := 1) (tgt := 121) dX8_joined_1 qd rfl ?_
  refine ea_iconst (pc := 121) dX8_joined_121 (v := 0) rfl ?_
  obtain ⟨rfl, rfl⟩ := H
  exact ea_ireturn (pc := 122) dX8_joined_122 rfl rfl
theorem dX5_init_0 : decode cX5_init 0 = .ok (.aload_n 0, 1) := by decide +kernel
theorem dX5_init_1 : decode cX5_init 1 = .ok (.invokespecial 3, 3) := by decide +kernel
theorem dX5_init_4 : decode cX5_init 4 = .ok (.aload_n 0, 1) := by decide +kernel
theorem dX5_init_5 : decode cX5_init 5 = .ok (.iconst (-1), 1) := by decide +kernel
theorem dX5_init_6 : decode cX5_init 6 = .ok (.putfield 9, 3) := by decide +kernel
theorem dX5_init_9 : decode cX5_init 9 = .ok (.aload_n 0, 1) := by decide +kernel
theorem dX5_init_10 : decode cX5_init 10 = .ok (.sipush 600, 3) := by decide +kernel
theorem dX5_init_13 : decode cX5_init 13 = .ok (.newarray .int, 2) := by decide +kernel
theorem dX5_init_15 : decode cX5_init 15 = .ok (.putfield 15, 3) := by decide +kernel
theorem dX5_init_18 : decode cX5_init 18 = .ok (.aload_n 0, 1) := by decide +kernel
theorem dX5_init_19 : decode cX5_init 19 = .ok (.sipush 601, 3) := by decide +kernel
theorem dX5_init_22 : decode cX5_init 22 = .ok (.newarray .int, 2) := by decide +kernel
theorem dX5_init_24 : decode cX5_init 24 = .ok (.putfield 19, 3) := by decide +kernel
theorem dX5_init_27 : decode cX5_init 27 = .ok (.aload_n 0, 1) := by decide +kernel
theorem dX5_init_28 : decode cX5_init 28 = .ok (.sipush 601, 3) := by decide +kernel
theorem dX5_init_31 : decode cX5_init 31 = .ok (.newarray .int, 2) := by decide +kernel
theorem dX5_init_33 : decode cX5_init 33 = .ok (.putfield 22, 3) := by decide +kernel
theorem dX5_init_36 : decode cX5_init 36 = .ok (.aload_n 0, 1) := by decide +kernel
theorem dX5_init_37 : decode cX5_init 37 = .ok (.sipush 601, 3) := by decide +kernel
theorem dX5_init_40 : decode cX5_init 40 = .ok (.newarray .int, 2) := by decide +kernel
theorem dX5_init_42 : decode cX5_init 42 = .ok (.putfield 25, 3) := by decide +kernel
theorem dX5_init_45 : decode cX5_init 45 = .ok (.aload_n 0, 1) := by decide +kernel
theorem dX5_init_46 : decode cX5_init 46 = .ok (.sipush 648, 3) := by decide +kernel
theorem dX5_init_49 : decode cX5_init 49 = .ok (.newarray .int, 2) := by decide +kernel
theorem dX5_init_51 : decode cX5_init 51 = .ok (.putfield 30, 3) := by decide +kernel
theorem dX5_init_54 : decode cX5_init 54 = .ok (.return_, 1) := by decide +kernel
theorem bX5_init_0 {d : Nat} {h0 hE h : ea_H} {rv : Option ea_V} {r0 : Option Nat} (H : 1 ≤ d ∧ ∃ a38, r0 = some a38 ∧ a38 < ea_n h ∧ ea_c h a38 = 5 ∧ ∀ h42, h42 = ea_wi h a38 2 (-1) → ∀ h44, h44 = ea_new h42 20 600 600 → a38 < ea_n h44 ∧ ea_c h44 a38 = 5 ∧ ∀ h48, h48 = ea_wr h44 a38 3 (some (ea_n h42)) → ∀ h50, h50 = ea_new h48 20 601 601 → a38 < ea_n h50 ∧ ea_c h50 a38 = 5 ∧ ∀ h54, h54 = ea_wr h50 a38 4 (some (ea_n h48)) → ∀ h56, h56 = ea_new h54 20 601 601 → a38 < ea_n h56 ∧ ea_c h56 a38 = 5 ∧ ∀ h60, h60 = ea_wr h56 a38 5 (some (ea_n h54)) → ∀ h62, h62 = ea_new h60 20 601 601 → a38 < ea_n h62 ∧ ea_c h62 a38 = 5 ∧ ∀ h66, h66 = ea_wr h62 a38 6 (some (ea_n h60)) → ∀ h68, h68 = ea_new h66 20 648 648 → a38 < ea_n h68 ∧ ea_c h68 a38 = 5 ∧ ∀ h72, h72 = ea_wr h68 a38 10 (some (ea_n h66)) → rv = none ∧ hE = h72) : ea_W mX5_init d h0 rv hE 0 [(0, vR r0)] [] h := by
  refine ea_aload_n (pc := 0) dX5_init_0 rfl 0 rfl ?_
  obtain ⟨z37, a38, e39, H⟩ := H
  refine ea_deref0 e39 ?_
  refine ea_objInit (pc := 1) dX5_init_1 ew_290 ew_134 ew_135 z37 (Nat.le_of_ble_eq_true rfl) ?_
  refine ea_aload_n (pc := 4) dX5_init_4 rfl 0 rfl ?_
  refine ea_iconst (pc := 5) dX5_init_5 (v := (-1)) rfl ?_
  obtain ⟨f40, g41, H⟩ := H
  refine ea_deref1 e39 ?_
  refine ea_putI (pc := 6) dX5_init_6 ec_5 (k := 2) (Nat.le_of_ble_eq_true rfl) rfl (Or.inl ⟨rfl, Or.inl ew_295⟩) rfl rfl f40 g41 ?_
  obtain ⟨h42, E43⟩ : ∃ z, z = ea_wi h a38 2 (-1) := ⟨_, rfl⟩
  have H := H h42 E43
  refine ea_nm E43 ?_
  refine ea_aload_n (pc := 9) dX5_init_9 rfl 0 rfl ?_
  refine ea_sipush (pc := 10) dX5_init_10 (v := 600) rfl ?_
  refine ea_newI (pc := 13) (N := 600) dX5_init_13 ew_170 (by decide) rfl (Nat.le_of_ble_eq_true rfl) ?_
  obtain ⟨h44, E45⟩ : ∃ z, z = ea_new h42 20 600 600 := ⟨_, rfl⟩
  have H := H h44 E45
  refine ea_nm E45 ?_
  obtain ⟨f46, g47, H⟩ := H
  refine ea_deref1 e39 ?_
  refine ea_putR (pc := 15) dX5_init_15 ec_5 (k := 3) (Nat.le_of_ble_eq_true rfl) rfl (Or.inr ⟨rfl, rfl, rfl, ew_297⟩) f46 g47 ?_
  obtain ⟨h48, E49⟩ : ∃ z, z = ea_wr h44 a38 3 (some (ea_n h42)) := ⟨_, rfl⟩
  have H := H h48 E49
  refine ea_nm E49 ?_
  refine ea_aload_n (pc := 18) dX5_init_18 rfl 0 rfl ?_
  refine ea_sipush (pc := 19) dX5_init_19 (v := 601) rfl ?_
  refine ea_newI (pc := 22) (N := 601) dX5_init_22 ew_170 (by decide) rfl (Nat.le_of_ble_eq_true rfl) ?_
  obtain ⟨h50, E51⟩ : ∃ z, z = ea_new h48 20 601 601 := ⟨_, rfl⟩
  have H := H h50 E51
  refine ea_nm E51 ?_
  obtain ⟨f52, g53, H⟩ := H
  refine ea_deref1 e39 ?_
  refine ea_putR (pc := 24) dX5_init_24 ec_5 (k := 4) (Nat.le_of_ble_eq_true rfl) rfl (Or.inr ⟨rfl, rfl, rfl, ew_298⟩) f52 g53 ?_
  obtain ⟨h54, E55⟩ : ∃ z, z = ea_wr h50 a38 4 (some (ea_n h48)) := ⟨_, rfl⟩
  have H := H h54 E55
  refine ea_nm E55 ?_
  refine ea_aload_n (pc := 27) dX5_init_27 rfl 0 rfl ?_
  refine ea_sipush (pc := 28) dX5_init_28 (v := 601) rfl ?_
  refine ea_newI (pc := 31) (N := 601) dX5_init_31 ew_170 (by decide) rfl (Nat.le_of_ble_eq_true rfl) ?_
  obtain ⟨h56, E57⟩ : ∃ z, z = ea_new h54 20 601 601 := ⟨_, rfl⟩
  have H := H h56 E57
  refine ea_nm E57 ?_
  obtain ⟨f58, g59, H⟩ := H
  refine ea_deref1 e39 ?_
  refine ea_putR (pc := 33) dX5_init_33 ec_5 (k := 5) (Nat.le_of_ble_eq_true rfl) rfl (Or.inr ⟨rfl, rfl, rfl, ew_299⟩) f58 g59 ?_
  obtain ⟨h60, E61⟩ : ∃ z, z = ea_wr h56 a38 5 (some (ea_n h54)) := ⟨_, rfl⟩
  have H := H h60 E61
  refine ea_nm E61 ?_
  refine ea_aload_n (pc := 36) dX5_init_36 rfl 0 rfl ?_
  refine ea_sipush (pc := 37) dX5_init_37 (v := 601) rfl ?_
  refine ea_newI (pc := 40) (N := 601) dX5_init_40 ew_170 (by decide) rfl (Nat.le_of_ble_eq_true rfl) ?_
  obtain ⟨h62, E63⟩ : ∃ z, z = ea_new h60 20 601 601 := ⟨_, rfl⟩
  have H := H h62 E63
  refine ea_nm E63 ?_
  obtain ⟨f64, g65, H⟩ := H
  refine ea_deref1 e39 ?_
  refine ea_putR (pc := 42) dX5_init_42 ec_5 (k := 6) (Nat.le_of_ble_eq_true rfl) rfl (Or.inr ⟨rfl, rfl, rfl, ew_300⟩) f64 g65 ?_
  obtain ⟨h66, E67⟩ : ∃ z, z = ea_wr h62 a38 6 (some (ea_n h60)) := ⟨_, rfl⟩
  have H := H h66 E67
  refine ea_nm E67 ?_
  refine ea_aload_n (pc := 45) dX5_init_45 rfl 0 rfl ?_
  refine ea_sipush (pc := 46) dX5_init_46 (v := 648) rfl ?_
  refine ea_newI (pc := 49) (N := 648) dX5_init_49 ew_170 (by decide) rfl (Nat.le_of_ble_eq_true rfl) ?_
  obtain ⟨h68, E69⟩ : ∃ z, z = ea_new h66 20 648 648 := ⟨_, rfl⟩
  have H := H h68 E69
  refine ea_nm E69 ?_
  obtain ⟨f70, g71, H⟩ := H
  refine ea_deref1 e39 ?_
  refine ea_putR (pc := 51) dX5_init_51 ec_5 (k := 10) (Nat.le_of_ble_eq_true rfl) rfl (Or.inr ⟨rfl, rfl, rfl, ew_304⟩) f70 g71 ?_
  obtain ⟨h72, E73⟩ : ∃ z, z = ea_wr h68 a38 10 (some (ea_n h66)) := ⟨_, rfl⟩
  have H := H h72 E73
  refine ea_nm E73 ?_
  obtain ⟨rfl, rfl⟩ := H
  exact ea_return (pc := 54) dX5_init_54 rfl
theorem dX5_take_0 : decode cX5_take 0 = .ok (.bipush 24, 2) := by decide +kernel
theorem dX5_take_2 : decode cX5_take 2 = .ok (.istore_n 2, 1) := by decide +kernel
theorem dX5_take_3 : decode cX5_take 3 = .ok (.iload_n 2, 1) := by decide +kernel
theorem dX5_take_4 : decode cX5_take 4 = .ok (.ifCond .lt 45, 3) := by decide +kernel
theorem dX5_take_7 : decode cX5_take 7 = .ok (.aload_n 0, 1) := by decide +kernel
theorem dX5_take_8 : decode cX5_take 8 = .ok (.getfield 33, 3) := by decide +kernel
theorem dX5_take_11 : decode cX5_take 11 = .ok (.sipush 600, 3) := by decide +kernel
theorem dX5_take_14 : decode cX5_take 14 = .ok (.if_icmp .ge 29, 3) := by decide +kernel
theorem dX5_take_17 : decode cX5_take 17 = .ok (.aload_n 0, 1) := by decide +kernel
theorem dX5_take_18 : decode cX5_take 18 = .ok (.getfield 15, 3) := by decide +kernel
theorem dX5_take_21 : decode cX5_take 21 = .ok (.aload_n 0, 1) := by decide +kernel
theorem dX5_take_22 : decode cX5_take 22 = .ok (.getfield 33, 3) := by decide +kernel
theorem dX5_take_25 : decode cX5_take 25 = .ok (.iload_n 1, 1) := by decide +kernel
theorem dX5_take_26 : decode cX5_take 26 = .ok (.iload_n 2, 1) := by decide +kernel
theorem dX5_take_27 : decode cX5_take 27 = .ok (.ishr, 1) := by decide +kernel
theorem dX5_take_28 : decode cX5_take 28 = .ok (.sipush 255, 3) := by decide +kernel
theorem dX5_take_31 : decode cX5_take 31 = .ok (.iand, 1) := by decide +kernel
theorem dX5_take_32 : decode cX5_take 32 = .ok (.iastore, 1) := by decide +kernel
theorem dX5_take_33 : decode cX5_take 33 = .ok (.aload_n 0, 1) := by decide +kernel
theorem dX5_take_34 : decode cX5_take 34 = .ok (.dup, 1) := by decide +kernel
theorem dX5_take_35 : decode cX5_take 35 = .ok (.getfield 33, 3) := by decide +kernel
theorem dX5_take_38 : decode cX5_take 38 = .ok (.iconst 1, 1) := by decide +kernel
theorem dX5_take_39 : decode cX5_take 39 = .ok (.iadd, 1) := by decide +kernel
theorem dX5_take_40 : decode cX5_take 40 = .ok (.putfield 33, 3) := by decide +kernel
theorem dX5_take_43 : decode cX5_take 43 = .ok (.iinc 2 (-8), 3) := by decide +kernel
theorem dX5_take_46 : decode cX5_take 46 = .ok (.goto (-43), 3) := by decide +kernel
theorem dX5_take_49 : decode cX5_take 49 = .ok (.return_, 1) := by decide +kernel
theorem bX5_take_0 {d : Nat} {h0 hE h : ea_H} {rv : Option ea_V} {r0 : Option Nat} {x1 : Int32} (H : ea_W mX5_take d h0 rv hE 3 [(0, vR r0), (1, vI x1), (2, vI 24)] [] h) : ea_W mX5_take d h0 rv hE 0 [(0, vR r0), (1, vI x1)] [] h := by
  refine ea_bipush (pc := 0) dX5_take_0 (v := 24) rfl ?_
  refine ea_istore_n (pc := 2) (lv' := [(0, vR r0), (1, vI x1), (2, vI 24)]) dX5_take_2 rfl (Nat.le_of_ble_eq_true rfl) [1, 2, 0] rfl ?_
  exact H
theorem bX5_take_3 {d : Nat} {h0 hE h : ea_H} {rv : Option ea_V} {r0 : Option Nat} {x1 : Int32} {x2 : Int32} (H : (x2 < (0 : Int32) → rv = none ∧ hE = h) ∧ (¬ x2 < (0 : Int32) → ∃ a3, r0 = some a3 ∧ a3 < ea_n h ∧ ea_c h a3 = 5 ∧ ((600 : Int32) ≤ (ea_i h a3 0) → ea_W mX5_take d h0 rv hE 3 [(0, vR r0), (1, vI x1), (2, vI (x2 + (-8)))] [] h) ∧ (¬ (600 : Int32) ≤ (ea_i h a3 0) → a3 < ea_n h ∧ ea_c h a3 = 5 ∧ a3 < ea_n h ∧ ea_c h a3 = 5 ∧ ∃ a11, (ea_r h a3 3) = some a11 ∧ a11 < ea_n h ∧ ea_c h a11 = 20 ∧ vp_in (ea_i h a3 0) (ea_l h a11) ∧ ∀ h14, h14 = ea_wi h a11 (Int32.toNatClampNeg (ea_i h a3 0)) ((x1 >>> (x2 &&& 31)) &&& (255 : Int32)) → a3 < ea_n h14 ∧ ea_c h14 a3 = 5 ∧ a3 < ea_n h14 ∧ ea_c h14 a3 = 5 ∧ ∀ h20, h20 = ea_wi h14 a3 0 ((ea_i h14 a3 0) + (1 : Int32)) → ea_W mX5_take d h0 rv hE 3 [(0, vR r0), (1, vI x1), (2, vI (x2 + (-8)))] [] h20))) : ea_W mX5_take d h0 rv hE 3 [(0, vR r0), (1, vI x1), (2, vI x2)] [] h := by
  refine ea_iload_n (pc := 3) dX5_take_3 rfl 2 rfl ?_
  refine ea_if_lt (pc := 4) (tgt := 49) dX5_take_4 rfl (fun c23 => ?_) (fun c23 => ?_)
  · have H := H.1 c23
    obtain ⟨rfl, rfl⟩ := H
    exact ea_return (pc := 49) dX5_take_49 rfl
  · have H := H.2 c23
    refine ea_aload_n (pc := 7) dX5_take_7 rfl 0 rfl ?_
    obtain ⟨a3, e4, f1, g2, H⟩ := H
    refine ea_deref0 e4 ?_
    refine ea_getI (pc := 8) dX5_take_8 ec_5 (k := 0) (Nat.le_of_ble_eq_true rfl) rfl (Or.inl ew_291) f1 g2 ?_
    refine ea_sipush (pc := 11) dX5_take_11 (v := 600) rfl ?_
    refine ea_icmp_ge (pc := 14) (tgt := 43) dX5_take_14 rfl (fun c22 => ?_) (fun c22 => ?_)
    · have H := H.1 c22
      refine ea_iinc (pc := 43) (v := (-8)) (lv' := [(0, vR r0), (1, vI x1), (2, vI (x2 + (-8)))]) dX5_take_43 2 rfl rfl (Nat.le_of_ble_eq_true rfl) [1, 2, 0] rfl ?_
      refine ea_goto (pc := 46) (tgt := 3) dX5_take_46 rfl ?_
      exact H
    · have H := H.2 c22
      refine ea_aload_n (pc := 17) dX5_take_17 rfl 0 rfl ?_
      obtain ⟨f5, g6, H⟩ := H
      refine ea_deref0 e4 ?_
      refine ea_getR (pc := 18) dX5_take_18 ec_5 (k := 3) (Nat.le_of_ble_eq_true rfl) rfl (Or.inl ew_297) f5 g6 rfl ?_
      refine ea_aload_n (pc := 21) dX5_take_21 rfl 0 rfl ?_
      obtain ⟨f7, g8, H⟩ := H
      refine ea_deref0 e4 ?_
      refine ea_getI (pc := 22) dX5_take_22 ec_5 (k := 0) (Nat.le_of_ble_eq_true rfl) rfl (Or.inl ew_291) f7 g8 ?_
      refine ea_iload_n (pc := 25) dX5_take_25 rfl 1 rfl ?_
      refine ea_iload_n (pc := 26) dX5_take_26 rfl 2 rfl ?_
      refine ea_ishr (pc := 27) dX5_take_27 ?_
      refine ea_sipush (pc := 28) dX5_take_28 (v := 255) rfl ?_
      refine ea_iand (pc := 31) dX5_take_31 ?_
      obtain ⟨a11, e12, f9, g10, H⟩ := H
      refine ea_deref2 e12 ?_
      obtain ⟨z13, H⟩ := H
      refine ea_iast (pc := 32) dX5_take_32 f9 g10 z13 ?_
      obtain ⟨h14, E15⟩ : ∃ z, z = ea_wi h a11 (Int32.toNatClampNeg (ea_i h a3 0)) ((x1 >>> (x2 &&& 31)) &&& (255 : Int32)) := ⟨_, rfl⟩
      have H := H h14 E15
      refine ea_nm E15 ?_
      refine ea_aload_n (pc := 33) dX5_take_33 rfl 0 rfl ?_
      refine ea_dup (pc := 34) dX5_take_34 rfl ?_
      obtain ⟨f16, g17, H⟩ := H
      refine ea_deref0 e4 ?_
      refine ea_getI (pc := 35) dX5_take_35 ec_5 (k := 0) (Nat.le_of_ble_eq_true rfl) rfl (Or.inl ew_291) f16 g17 ?_
      refine ea_iconst (pc := 38) dX5_take_38 (v := 1) rfl ?_
      refine ea_iadd (pc := 39) dX5_take_39 ?_
      obtain ⟨f18, g19, H⟩ := H
      refine ea_deref1 e4 ?_
      refine ea_putI (pc := 40) dX5_take_40 ec_5 (k := 0) (Nat.le_of_ble_eq_true rfl) rfl (Or.inl ⟨rfl, Or.inl ew_291⟩) rfl rfl f18 g19 ?_
      obtain ⟨h20, E21⟩ : ∃ z, z = ea_wi h14 a3 0 ((ea_i h14 a3 0) + (1 : Int32)) := ⟨_, rfl⟩
      have H := H h20 E21
      refine ea_nm E21 ?_
      refine ea_iinc (pc := 43) (v := (-8)) (lv' := [(0, vR r0), (1, vI x1), (2, vI (x2 + (-8)))]) dX5_take_43 2 rfl rfl (Nat.le_of_ble_eq_true rfl) [1, 2, 0] rfl ?_
      refine ea_goto (pc := 46) (tgt := 3) dX5_take_46 rfl ?_
      exact H
theorem dX5_drop_0 : decode cX5_drop 0 = .ok (.aload_n 0, 1) := by decide +kernel
theorem dX5_drop_1 : decode cX5_drop 1 = .ok (.iconst 0, 1) := by decide +kernel
theorem dX5_drop_2 : decode cX5_drop 2 = .ok (.putfield 33, 3) := by decide +kernel
theorem dX5_drop_5 : decode cX5_drop 5 = .ok (.aload_n 0, 1) := by decide +kernel
theorem dX5_drop_6 : decode cX5_drop 6 = .ok (.iconst 0, 1) := by decide +kernel
theorem dX5_drop_7 : decode cX5_drop 7 = .ok (.putfield 36, 3) := by decide +kernel
theorem dX5_drop_10 : decode cX5_drop 10 = .ok (.aload_n 0, 1) := by decide +kernel
theorem dX5_drop_11 : decode cX5_drop 11 = .ok (.iconst (-1), 1) := by decide +kernel
theorem dX5_drop_12 : decode cX5_drop 12 = .ok (.putfield 9, 3) := by decide +kernel
theorem dX5_drop_15 : decode cX5_drop 15 = .ok (.return_, 1) := by decide +kernel
theorem bX5_drop_0 {d : Nat} {h0 hE h : ea_H} {rv : Option ea_V} {r0 : Option Nat} (H : ∃ a3, r0 = some a3 ∧ a3 < ea_n h ∧ ea_c h a3 = 5 ∧ ∀ h5, h5 = ea_wi h a3 0 0 → a3 < ea_n h5 ∧ ea_c h5 a3 = 5 ∧ ∀ h9, h9 = ea_wi h5 a3 1 0 → a3 < ea_n h9 ∧ ea_c h9 a3 = 5 ∧ ∀ h13, h13 = ea_wi h9 a3 2 (-1) → rv = none ∧ hE = h13) : ea_W mX5_drop d h0 rv hE 0 [(0, vR r0)] [] h := by
  refine ea_aload_n (pc := 0) dX5_drop_0 rfl 0 rfl ?_
  refine ea_iconst (pc := 1) dX5_drop_1 (v := 0) rfl ?_
  obtain ⟨a3, e4, f1, g2, H⟩ := H
  refine ea_deref1 e4 ?_
  refine ea_putI (pc := 2) dX5_drop_2 ec_5 (k := 0) (Nat.le_of_ble_eq_true rfl) rfl (Or.inl ⟨rfl, Or.inl ew_291⟩) rfl rfl f1 g2 ?_
  obtain ⟨h5, E6⟩ : ∃ z, z = ea_wi h a3 0 0 := ⟨_, rfl⟩
  have H := H h5 E6
  refine ea_nm E6 ?_
  refine ea_aload_n (pc := 5) dX5_drop_5 rfl 0 rfl ?_
  refine ea_iconst (pc := 6) dX5_drop_6 (v := 0) rfl ?_
  obtain ⟨f7, g8, H⟩ := H
  refine ea_deref1 e4 ?_
  refine ea_putI (pc := 7) dX5_drop_7 ec_5 (k := 1) (Nat.le_of_ble_eq_true rfl) rfl (Or.inl ⟨rfl, Or.inl ew_293⟩) rfl rfl f7 g8 ?_
  obtain ⟨h9, E10⟩ : ∃ z, z = ea_wi h5 a3 1 0 := ⟨_, rfl⟩
  have H := H h9 E10
  refine ea_nm E10 ?_
  refine ea_aload_n (pc := 10) dX5_drop_10 rfl 0 rfl ?_
  refine ea_iconst (pc := 11) dX5_drop_11 (v := (-1)) rfl ?_
  obtain ⟨f11, g12, H⟩ := H
  refine ea_deref1 e4 ?_
  refine ea_putI (pc := 12) dX5_drop_12 ec_5 (k := 2) (Nat.le_of_ble_eq_true rfl) rfl (Or.inl ⟨rfl, Or.inl ew_295⟩) rfl rfl f11 g12 ?_
  obtain ⟨h13, E14⟩ : ∃ z, z = ea_wi h9 a3 2 (-1) := ⟨_, rfl⟩
  have H := H h13 E14
  refine ea_nm E14 ?_
  obtain ⟨rfl, rfl⟩ := H
  exact ea_return (pc := 15) dX5_drop_15 rfl
theorem dX5_read_0 : decode cX5_read 0 = .ok (.aload_n 0, 1) := by decide +kernel
theorem dX5_read_1 : decode cX5_read 1 = .ok (.invokevirtual 39, 3) := by decide +kernel
theorem dX5_read_4 : decode cX5_read 4 = .ok (.aload_n 0, 1) := by decide +kernel
theorem dX5_read_5 : decode cX5_read 5 = .ok (.invokevirtual 42, 3) := by decide +kernel
theorem dX5_read_8 : decode cX5_read 8 = .ok (.aload_n 0, 1) := by decide +kernel
theorem dX5_read_9 : decode cX5_read 9 = .ok (.iconst 0, 1) := by decide +kernel
theorem dX5_read_10 : decode cX5_read 10 = .ok (.putfield 45, 3) := by decide +kernel
theorem dX5_read_13 : decode cX5_read 13 = .ok (.aload_n 0, 1) := by decide +kernel
theorem dX5_read_14 : decode cX5_read 14 = .ok (.iconst 0, 1) := by decide +kernel
theorem dX5_read_15 : decode cX5_read 15 = .ok (.putfield 48, 3) := by decide +kernel
theorem dX5_read_18 : decode cX5_read 18 = .ok (.aload_n 0, 1) := by decide +kernel
theorem dX5_read_19 : decode cX5_read 19 = .ok (.aload_n 0, 1) := by decide +kernel
theorem dX5_read_20 : decode cX5_read 20 = .ok (.getfield 19, 3) := by decide +kernel
theorem dX5_read_23 : decode cX5_read 23 = .ok (.iconst 0, 1) := by decide +kernel
theorem dX5_read_24 : decode cX5_read 24 = .ok (.iaload, 1) := by decide +kernel
theorem dX5_read_25 : decode cX5_read 25 = .ok (.putfield 51, 3) := by decide +kernel
theorem dX5_read_28 : decode cX5_read 28 = .ok (.new 28, 3) := by decide +kernel
theorem dX5_read_31 : decode cX5_read 31 = .ok (.dup, 1) := by decide +kernel
theorem dX5_read_32 : decode cX5_read 32 = .ok (.iload_n 1, 1) := by decide +kernel
theorem dX5_read_33 : decode cX5_read 33 = .ok (.invokespecial 54, 3) := by decide +kernel
theorem dX5_read_36 : decode cX5_read 36 = .ok (.astore_n 2, 1) := by decide +kernel
theorem dX5_read_37 : decode cX5_read 37 = .ok (.iconst 0, 1) := by decide +kernel
theorem dX5_read_38 : decode cX5_read 38 = .ok (.istore_n 3, 1) := by decide +kernel
theorem dX5_read_39 : decode cX5_read 39 = .ok (.iload_n 3, 1) := by decide +kernel
theorem dX5_read_40 : decode cX5_read 40 = .ok (.sipush 600, 3) := by decide +kernel
theorem dX5_read_43 : decode cX5_read 43 = .ok (.if_icmp .gt 113, 3) := by decide +kernel
theorem dX5_read_46 : decode cX5_read 46 = .ok (.aload_n 0, 1) := by decide +kernel
theorem dX5_read_47 : decode cX5_read 47 = .ok (.getfield 51, 3) := by decide +kernel
theorem dX5_read_50 : decode cX5_read 50 = .ok (.bipush 19, 2) := by decide +kernel
theorem dX5_read_52 : decode cX5_read 52 = .ok (.if_icmp .eq 104, 3) := by decide +kernel
theorem dX5_read_55 : decode cX5_read 55 = .ok (.aload_n 0, 1) := by decide +kernel
theorem dX5_read_56 : decode cX5_read 56 = .ok (.getfield 51, 3) := by decide +kernel
theorem dX5_read_59 : decode cX5_read 59 = .ok (.iconst 5, 1) := by decide +kernel
theorem dX5_read_60 : decode cX5_read 60 = .ok (.if_icmp .le 12, 3) := by decide +kernel
theorem dX5_read_63 : decode cX5_read 63 = .ok (.aload_n 0, 1) := by decide +kernel
theorem dX5_read_64 : decode cX5_read 64 = .ok (.iconst 1, 1) := by decide +kernel
theorem dX5_read_65 : decode cX5_read 65 = .ok (.invokevirtual 57, 3) := by decide +kernel
theorem dX5_read_68 : decode cX5_read 68 = .ok (.pop, 1) := by decide +kernel
theorem dX5_read_69 : decode cX5_read 69 = .ok (.goto 63, 3) := by decide +kernel
theorem dX5_read_72 : decode cX5_read 72 = .ok (.aload_n 2, 1) := by decide +kernel
theorem dX5_read_73 : decode cX5_read 73 = .ok (.getfield 61, 3) := by decide +kernel
theorem dX5_read_76 : decode cX5_read 76 = .ok (.bipush 24, 2) := by decide +kernel
theorem dX5_read_78 : decode cX5_read 78 = .ok (.if_icmp .lt 12, 3) := by decide +kernel
theorem dX5_read_81 : decode cX5_read 81 = .ok (.aload_n 0, 1) := by decide +kernel
theorem dX5_read_82 : decode cX5_read 82 = .ok (.iconst 3, 1) := by decide +kernel
theorem dX5_read_83 : decode cX5_read 83 = .ok (.invokevirtual 57, 3) := by decide +kernel
theorem dX5_read_86 : decode cX5_read 86 = .ok (.pop, 1) := by decide +kernel
theorem dX5_read_87 : decode cX5_read 87 = .ok (.goto 45, 3) := by decide +kernel
theorem dX5_read_90 : decode cX5_read 90 = .ok (.aload_n 0, 1) := by decide +kernel
theorem dX5_read_91 : decode cX5_read 91 = .ok (.getfield 51, 3) := by decide +kernel
theorem dX5_read_94 : decode cX5_read 94 = .ok (.ifCond .ne 22, 3) := by decide +kernel
theorem dX5_read_97 : decode cX5_read 97 = .ok (.aload_n 2, 1) := by decide +kernel
theorem dX5_read_98 : decode cX5_read 98 = .ok (.dup, 1) := by decide +kernel
theorem dX5_read_99 : decode cX5_read 99 = .ok (.getfield 61, 3) := by decide +kernel
theorem dX5_read_102 : decode cX5_read 102 = .ok (.iconst 1, 1) := by decide +kernel
theorem dX5_read_103 : decode cX5_read 103 = .ok (.iadd, 1) := by decide +kernel
theorem dX5_read_104 : decode cX5_read 104 = .ok (.putfield 61, 3) := by decide +kernel
theorem dX5_read_107 : decode cX5_read 107 = .ok (.aload_n 0, 1) := by decide +kernel
theorem dX5_read_108 : decode cX5_read 108 = .ok (.aload_n 2, 1) := by decide +kernel
theorem dX5_read_109 : decode cX5_read 109 = .ok (.invokevirtual 64, 3) := by decide +kernel
theorem dX5_read_112 : decode cX5_read 112 = .ok (.pop, 1) := by decide +kernel
theorem dX5_read_113 : decode cX5_read 113 = .ok (.goto 19, 3) := by decide +kernel
theorem dX5_read_116 : decode cX5_read 116 = .ok (.aload_n 2, 1) := by decide +kernel
theorem dX5_read_117 : decode cX5_read 117 = .ok (.dup, 1) := by decide +kernel
theorem dX5_read_118 : decode cX5_read 118 = .ok (.getfield 61, 3) := by decide +kernel
theorem dX5_read_121 : decode cX5_read 121 = .ok (.iconst 1, 1) := by decide +kernel
theorem dX5_read_122 : decode cX5_read 122 = .ok (.iadd, 1) := by decide +kernel
theorem dX5_read_123 : decode cX5_read 123 = .ok (.putfield 61, 3) := by decide +kernel
theorem dX5_read_126 : decode cX5_read 126 = .ok (.aload_n 0, 1) := by decide +kernel
theorem dX5_read_127 : decode cX5_read 127 = .ok (.aload_n 2, 1) := by decide +kernel
theorem dX5_read_128 : decode cX5_read 128 = .ok (.invokevirtual 68, 3) := by decide +kernel
theorem dX5_read_131 : decode cX5_read 131 = .ok (.pop, 1) := by decide +kernel
theorem dX5_read_132 : decode cX5_read 132 = .ok (.aload_n 0, 1) := by decide +kernel
theorem dX5_read_133 : decode cX5_read 133 = .ok (.getfield 36, 3) := by decide +kernel
theorem dX5_read_136 : decode cX5_read 136 = .ok (.ifCond .ne 12, 3) := by decide +kernel
theorem dX5_read_139 : decode cX5_read 139 = .ok (.aload_n 0, 1) := by decide +kernel
theorem dX5_read_140 : decode cX5_read 140 = .ok (.bipush 59, 2) := by decide +kernel
theorem dX5_read_142 : decode cX5_read 142 = .ok (.invokevirtual 71, 3) := by decide +kernel
theorem dX5_read_145 : decode cX5_read 145 = .ok (.ifCond .ne 5, 3) := by decide +kernel
theorem dX5_read_148 : decode cX5_read 148 = .ok (.aconst_null, 1) := by decide +kernel
theorem dX5_read_149 : decode cX5_read 149 = .ok (.areturn, 1) := by decide +kernel
theorem dX5_read_150 : decode cX5_read 150 = .ok (.iinc 3 1, 3) := by decide +kernel
theorem dX5_read_153 : decode cX5_read 153 = .ok (.goto (-114), 3) := by decide +kernel
theorem dX5_read_156 : decode cX5_read 156 = .ok (.aload_n 2, 1) := by decide +kernel
theorem dX5_read_157 : decode cX5_read 157 = .ok (.aload_n 0, 1) := by decide +kernel
theorem dX5_read_158 : decode cX5_read 158 = .ok (.getfield 30, 3) := by decide +kernel
theorem dX5_read_161 : decode cX5_read 161 = .ok (.aload_n 0, 1) := by decide +kernel
theorem dX5_read_162 : decode cX5_read 162 = .ok (.getfield 45, 3) := by decide +kernel
theorem dX5_read_165 : decode cX5_read 165 = .ok (.invokestatic 74, 3) := by decide +kernel
theorem dX5_read_168 : decode cX5_read 168 = .ok (.putfield 80, 3) := by decide +kernel
theorem dX5_read_171 : decode cX5_read 171 = .ok (.aload_n 2, 1) := by decide +kernel
theorem dX5_read_172 : decode cX5_read 172 = .ok (.areturn, 1) := by decide +kernel
theorem bX5_read_0 {d : Nat} {h0 hE h : ea_H} {rv : Option ea_V} {r0 : Option Nat} {x1 : Int32} (H : ∃ a7, r0 = some a7 ∧ a7 < ea_n h ∧ ea_c h a7 = 5 ∧ ∃ (d1 : Nat) (h2 : ea_H), ea_Met mX5_scan d1 [vR (some a7)] h none h2 ∧ d1 + 1 ≤ d ∧ a7 < ea_n h2 ∧ ea_c h2 a7 = 5 ∧ ∃ (d9 : Nat) (h10 : ea_H), ea_Met mX5_drop d9 [vR (some a7)] h2 none h10 ∧ d9 + 1 ≤ d ∧ a7 < ea_n h10 ∧ ea_c h10 a7 = 5 ∧ ∀ h17, h17 = ea_wi h10 a7 11 0 → a7 < ea_n h17 ∧ ea_c h17 a7 = 5 ∧ ∀ h21, h21 = ea_wi h17 a7 8 0 → a7 < ea_n h21 ∧ ea_c h21 a7 = 5 ∧ ∃ a27, (ea_r h21 a7 4) = some a27 ∧ a27 < ea_n h21 ∧ ea_c h21 a27 = 20 ∧ vp_in 0 (ea_l h21 a27) ∧ a7 < ea_n h21 ∧ ea_c h21 a7 = 5 ∧ ∀ h32, h32 = ea_wi h21 a7 9 (ea_i h21 a27 (Int32.toNatClampNeg 0)) → ∀ h34, h34 = ea_new h32 0 0 12 → ∃ (d36 : Nat) (h37 : ea_H), ea_Met mX0_init d36 [vR (some (ea_n h32)), vI x1] h34 none h37 ∧ d36 + 1 ≤ d ∧ ea_W mX5_read d h0 rv hE 39 [(0, vR r0), (2, vR (some (ea_n h32))), (3, vI 0)] [] h37) : ea_W mX5_read d h0 rv hE 0 [(0, vR r0), (1, vI x1)] [] h := by
  refine ea_aload_n (pc := 0) dX5_read_0 rfl 0 rfl ?_
  obtain ⟨a7, e8, f5, g6, H⟩ := H
  refine ea_deref0 e8 ?_
  obtain ⟨d1, h2, m3, q4, H⟩ := H
  refine ea_callV (pc := 1) (As := []) (st := []) dX5_read_1 kX5_scan m3 q4 rfl (Nat.le_of_ble_eq_true rfl) ew_757 ew_759 ew_16 (ci := 5) rfl (by decide) f5 g6 ?_
  refine ea_aload_n (pc := 4) dX5_read_4 rfl 0 rfl ?_
  obtain ⟨f13, g14, H⟩ := H
  refine ea_deref0 e8 ?_
  obtain ⟨d9, h10, m11, q12, H⟩ := H
  refine ea_callV (pc := 5) (As := []) (st := []) dX5_read_5 kX5_drop m11 q12 rfl (Nat.le_of_ble_eq_true rfl) ew_785 ew_750 ew_751 (ci := 5) rfl (by decide) f13 g14 ?_
  refine ea_aload_n (pc := 8) dX5_read_8 rfl 0 rfl ?_
  refine ea_iconst (pc := 9) dX5_read_9 (v := 0) rfl ?_
  obtain ⟨f15, g16, H⟩ := H
  refine ea_deref1 e8 ?_
  refine ea_putI (pc := 10) dX5_read_10 ec_5 (k := 11) (Nat.le_of_ble_eq_true rfl) rfl (Or.inl ⟨rfl, Or.inl ew_305⟩) rfl rfl f15 g16 ?_
  obtain ⟨h17, E18⟩ : ∃ z, z = ea_wi h10 a7 11 0 := ⟨_, rfl⟩
  have H := H h17 E18
  refine ea_nm E18 ?_
  refine ea_aload_n (pc := 13) dX5_read_13 rfl 0 rfl ?_
  refine ea_iconst (pc := 14) dX5_read_14 (v := 0) rfl ?_
  obtain ⟨f19, g20, H⟩ := H
  refine ea_deref1 e8 ?_
  refine ea_putI (pc := 15) dX5_read_15 ec_5 (k := 8) (Nat.le_of_ble_eq_true rfl) rfl (Or.inl ⟨rfl, Or.inl ew_302⟩) rfl rfl f19 g20 ?_
  obtain ⟨h21, E22⟩ : ∃ z, z = ea_wi h17 a7 8 0 := ⟨_, rfl⟩
  have H := H h21 E22
  refine ea_nm E22 ?_
  refine ea_aload_n (pc := 18) dX5_read_18 rfl 0 rfl ?_
  refine ea_aload_n (pc := 19) dX5_read_19 rfl 0 rfl ?_
  obtain ⟨f23, g24, H⟩ := H
  refine ea_deref0 e8 ?_
  refine ea_getR (pc := 20) dX5_read_20 ec_5 (k := 4) (Nat.le_of_ble_eq_true rfl) rfl (Or.inl ew_298) f23 g24 rfl ?_
  refine ea_iconst (pc := 23) dX5_read_23 (v := 0) rfl ?_
  obtain ⟨a27, e28, f25, g26, H⟩ := H
  refine ea_deref1 e28 ?_
  obtain ⟨z29, H⟩ := H
  refine ea_iald (pc := 24) dX5_read_24 f25 g26 z29 ?_
  obtain ⟨f30, g31, H⟩ := H
  refine ea_deref1 e8 ?_
  refine ea_putI (pc := 25) dX5_read_25 ec_5 (k := 9) (Nat.le_of_ble_eq_true rfl) rfl (Or.inl ⟨rfl, Or.inl ew_303⟩) rfl rfl f30 g31 ?_
  obtain ⟨h32, E33⟩ : ∃ z, z = ea_wi h21 a7 9 (ea_i h21 a27 (Int32.toNatClampNeg 0)) := ⟨_, rfl⟩
  have H := H h32 E33
  refine ea_nm E33 ?_
  refine ea_newO (pc := 28) dX5_read_28 ec_0 ew_786 ew_787 ew_121 ?_
  obtain ⟨h34, E35⟩ : ∃ z, z = ea_new h32 0 0 12 := ⟨_, rfl⟩
  have H := H h34 E35
  refine ea_nm E35 ?_
  refine ea_dup (pc := 31) dX5_read_31 rfl ?_
  refine ea_iload_n (pc := 32) dX5_read_32 rfl 1 rfl ?_
  obtain ⟨d36, h37, m38, q39, H⟩ := H
  refine ea_callI (pc := 33) (As := [vI x1]) (st := [vR (some (ea_n h32))]) dX5_read_33 kX0_init m38 q39 rfl (Nat.le_of_ble_eq_true rfl) ew_788 ew_789 rfl rfl ?_
  refine ea_astore_n (pc := 36) (lv' := [(0, vR r0), (2, vR (some (ea_n h32)))]) dX5_read_36 rfl (Nat.le_of_ble_eq_true rfl) [1, 0] rfl ?_
  refine ea_iconst (pc := 37) dX5_read_37 (v := 0) rfl ?_
  refine ea_istore_n (pc := 38) (lv' := [(0, vR r0), (2, vR (some (ea_n h32))), (3, vI 0)]) dX5_read_38 rfl (Nat.le_of_ble_eq_true rfl) [1, 2, 0] rfl ?_
  exact H
theorem bX5_read_39 {d : Nat} {h0 hE h : ea_H} {rv : Option ea_V} {r0 : Option Nat} {r2 : Option Nat} {x3 : Int32} (H : ((600 : Int32) < x3 → ea_W mX5_read d h0 rv hE 156 [(0, vR r0), (2, vR r2)] [] h) ∧ (¬ (600 : Int32) < x3 → ∃ a3, r0 = some a3 ∧ a3 < ea_n h ∧ ea_c h a3 = 5 ∧ ((ea_i h a3 9) = (19 : Int32) → ea_W mX5_read d h0 rv hE 156 [(0, vR r0), (2, vR r2)] [] h) ∧ (¬ (ea_i h a3 9) = (19 : Int32) → a3 < ea_n h ∧ ea_c h a3 = 5 ∧ ((ea_i h a3 9) ≤ (5 : Int32) → ∃ a9, r2 = some a9 ∧ a9 < ea_n h ∧ ea_c h a9 = 0 ∧ ((ea_i h a9 1) < (24 : Int32) → a3 < ea_n h ∧ ea_c h a3 = 5 ∧ (¬ (ea_i h a3 9) = (0 : Int32) → a9 < ea_n h ∧ ea_c h a9 = 0 ∧ a9 < ea_n h ∧ ea_c h a9 = 0 ∧ ∀ h17, h17 = ea_wi h a9 1 ((ea_i h a9 1) + (1 : Int32)) → a3 < ea_n h17 ∧ ea_c h17 a3 = 5 ∧ ∃ (d19 : Nat) (xc25 : Int32) (h20 : ea_H), ea_Met mX5_readRule d19 [vR (some a3), vR r2] h17 (some (vI xc25)) h20 ∧ d19 + 1 ≤ d ∧ ea_W mX5_read d h0 rv hE 132 [(0, vR r0), (2, vR r2), (3, vI x3)] [] h20) ∧ ((ea_i h a3 9) = (0 : Int32) → a9 < ea_n h ∧ ea_c h a9 = 0 ∧ a9 < ea_n h ∧ ea_c h a9 = 0 ∧ ∀ h30, h30 = ea_wi h a9 1 ((ea_i h a9 1) + (1 : Int32)) → a3 < ea_n h30 ∧ ea_c h30 a3 = 5 ∧ ∃ (d32 : Nat) (xc38 : Int32) (h33 : ea_H), ea_Met mX5_readCharge d32 [vR (some a3), vR r2] h30 (some (vI xc38)) h33 ∧ d32 + 1 ≤ d ∧ ea_W mX5_read d h0 rv hE 132 [(0, vR r0), (2, vR r2), (3, vI x3)] [] h33)) ∧ (¬ (ea_i h a9 1) < (24 : Int32) → a3 < ea_n h ∧ ea_c h a3 = 5 ∧ ∃ (d40 : Nat) (xc46 : Int32) (h41 : ea_H), ea_Met mX5_refuse d40 [vR (some a3), vI 3] h (some (vI xc46)) h41 ∧ d40 + 1 ≤ d ∧ ea_W mX5_read d h0 rv hE 132 [(0, vR r0), (2, vR r2), (3, vI x3)] [] h41)) ∧ (¬ (ea_i h a3 9) ≤ (5 : Int32) → a3 < ea_n h ∧ ea_c h a3 = 5 ∧ ∃ (d48 : Nat) (xc54 : Int32) (h49 : ea_H), ea_Met mX5_refuse d48 [vR (some a3), vI 1] h (some (vI xc54)) h49 ∧ d48 + 1 ≤ d ∧ ea_W mX5_read d h0 rv hE 132 [(0, vR r0), (2, vR r2), (3, vI x3)] [] h49)))) : ea_W mX5_read d h0 rv hE 39 [(0, vR r0), (2, vR r2), (3, vI x3)] [] h := by
  refine ea_iload_n (pc := 39) dX5_read_39 rfl 2 rfl ?_
  refine ea_sipush (pc := 40) dX5_read_40 (v := 600) rfl ?_
  refine ea_icmp_gt (pc := 43) (tgt := 156) dX5_read_43 rfl (fun c57 => ?_) (fun c57 => ?_)
  · have H := H.1 c57
    exact ea_fewer [0, 1] rfl H
  · have H := H.2 c57
    refine ea_aload_n (pc := 46) dX5_read_46 rfl 0 rfl ?_
    obtain ⟨a3, e4, f1, g2, H⟩ := H
    refine ea_deref0 e4 ?_
    refine ea_getI (pc := 47) dX5_read_47 ec_5 (k := 9) (Nat.le_of_ble_eq_true rfl) rfl (Or.inl ew_303) f1 g2 ?_
    refine ea_bipush (pc := 50) dX5_read_50 (v := 19) rfl ?_
    refine ea_icmp_eq (pc := 52) (tgt := 156) dX5_read_52 rfl (fun c56 => ?_) (fun c56 => ?_)
    · have H := H.1 c56
      exact ea_fewer [0, 1] rfl H
    · have H := H.2 c56
      refine ea_aload_n (pc := 55) dX5_read_55 rfl 0 rfl ?_
      obtain ⟨f5, g6, H⟩ := H
      refine ea_deref0 e4 ?_
      refine ea_getI (pc := 56) dX5_read_56 ec_5 (k := 9) (Nat.le_of_ble_eq_true rfl) rfl (Or.inl ew_303) f5 g6 ?_
      refine ea_iconst (pc := 59) dX5_read_59 (v := 5) rfl ?_
      refine ea_icmp_le (pc := 60) (tgt := 72) dX5_read_60 rfl (fun c55 => ?_) (fun c55 => ?_)
      · have H := H.1 c55
        refine ea_aload_n (pc := 72) dX5_read_72 rfl 1 rfl ?_
        obtain ⟨a9, e10, f7, g8, H⟩ := H
        refine ea_deref0 e10 ?_
        refine ea_getI (pc := 73) dX5_read_73 ec_0 (k := 1) (Nat.le_of_ble_eq_true rfl) rfl (Or.inl ew_794) f7 g8 ?_
        refine ea_bipush (pc := 76) dX5_read_76 (v := 24) rfl ?_
        refine ea_icmp_lt (pc := 78) (tgt := 90) dX5_read_78 rfl (fun c47 => ?_) (fun c47 => ?_)
        · have H := H.1 c47
          refine ea_aload_n (pc := 90) dX5_read_90 rfl 0 rfl ?_
          obtain ⟨f11, g12, H⟩ := H
          refine ea_deref0 e4 ?_
          refine ea_getI (pc := 91) dX5_read_91 ec_5 (k := 9) (Nat.le_of_ble_eq_true rfl) rfl (Or.inl ew_303) f11 g12 ?_
          refine ea_if_ne (pc := 94) (tgt := 116) dX5_read_94 rfl (fun c39 => ?_) (fun c39 => ?_)
          · have H := H.1 c39
            refine ea_aload_n (pc := 116) dX5_read_116 rfl 1 rfl ?_
            refine ea_dup (pc := 117) dX5_read_117 rfl ?_
            obtain ⟨f13, g14, H⟩ := H
            refine ea_deref0 e10 ?_
            refine ea_getI (pc := 118) dX5_read_118 ec_0 (k := 1) (Nat.le_of_ble_eq_true rfl) rfl (Or.inl ew_794) f13 g14 ?_
            refine ea_iconst (pc := 121) dX5_read_121 (v := 1) rfl ?_
            refine ea_iadd (pc := 122) dX5_read_122 ?_
            obtain ⟨f15, g16, H⟩ := H
            refine ea_deref1 e10 ?_
            refine ea_putI (pc := 123) dX5_read_123 ec_0 (k := 1) (Nat.le_of_ble_eq_true rfl) rfl (Or.inl ⟨rfl, Or.inl ew_794⟩) rfl rfl f15 g16 ?_
            obtain ⟨h17, E18⟩ : ∃ z, z = ea_wi h a9 1 ((ea_i h a9 1) + (1 : Int32)) := ⟨_, rfl⟩
            have H := H h17 E18
            refine ea_nm E18 ?_
            refine ea_aload_n (pc := 126) dX5_read_126 rfl 0 rfl ?_
            refine ea_aload_n (pc := 127) dX5_read_127 rfl 1 rfl ?_
            obtain ⟨f23, g24, H⟩ := H
            refine ea_deref1 e4 ?_
            obtain ⟨d19, xc25, h20, m21, q22, H⟩ := H
            refine ea_callV (pc := 128) (As := [vR r2]) (st := []) dX5_read_128 kX5_readRule m21 q22 rfl (Nat.le_of_ble_eq_true rfl) ew_891 ew_893 ew_30 (ci := 5) rfl (by decide) f23 g24 ?_
            refine ea_pop (pc := 131) dX5_read_131 rfl ?_
            exact H
          · have H := H.2 c39
            refine ea_aload_n (pc := 97) dX5_read_97 rfl 1 rfl ?_
            refine ea_dup (pc := 98) dX5_read_98 rfl ?_
            obtain ⟨f26, g27, H⟩ := H
            refine ea_deref0 e10 ?_
            refine ea_getI (pc := 99) dX5_read_99 ec_0 (k := 1) (Nat.le_of_ble_eq_true rfl) rfl (Or.inl ew_794) f26 g27 ?_
            refine ea_iconst (pc := 102) dX5_read_102 (v := 1) rfl ?_
            refine ea_iadd (pc := 103) dX5_read_103 ?_
            obtain ⟨f28, g29, H⟩ := H
            refine ea_deref1 e10 ?_
            refine ea_putI (pc := 104) dX5_read_104 ec_0 (k := 1) (Nat.le_of_ble_eq_true rfl) rfl (Or.inl ⟨rfl, Or.inl ew_794⟩) rfl rfl f28 g29 ?_
            obtain ⟨h30, E31⟩ : ∃ z, z = ea_wi h a9 1 ((ea_i h a9 1) + (1 : Int32)) := ⟨_, rfl⟩
            have H := H h30 E31
            refine ea_nm E31 ?_
            refine ea_aload_n (pc := 107) dX5_read_107 rfl 0 rfl ?_
            refine ea_aload_n (pc := 108) dX5_read_108 rfl 1 rfl ?_
            obtain ⟨f36, g37, H⟩ := H
            refine ea_deref1 e4 ?_
            obtain ⟨d32, xc38, h33, m34, q35, H⟩ := H
            refine ea_callV (pc := 109) (As := [vR r2]) (st := []) dX5_read_109 kX5_readCharge m34 q35 rfl (Nat.le_of_ble_eq_true rfl) ew_855 ew_857 ew_21 (ci := 5) rfl (by decide) f36 g37 ?_
            refine ea_pop (pc := 112) dX5_read_112 rfl ?_
            refine ea_goto (pc := 113) (tgt := 132) dX5_read_113 rfl ?_
            exact H
        · have H := H.2 c47
          refine ea_aload_n (pc := 81) dX5_read_81 rfl 0 rfl ?_
          refine ea_iconst (pc := 82) dX5_read_82 (v := 3) rfl ?_
          obtain ⟨f44, g45, H⟩ := H
          refine ea_deref1 e4 ?_
          obtain ⟨d40, xc46, h41, m42, q43, H⟩ := H
          refine ea_callV (pc := 83) (As := [vI 3]) (st := []) dX5_read_83 kX5_refuse m42 q43 rfl (Nat.le_of_ble_eq_true rfl) ew_851 ew_853 ew_20 (ci := 5) rfl (by decide) f44 g45 ?_
          refine ea_pop (pc := 86) dX5_read_86 rfl ?_
          refine ea_goto (pc := 87) (tgt := 132) dX5_read_87 rfl ?_
          exact H
      · have H := H.2 c55
        refine ea_aload_n (pc := 63) dX5_read_63 rfl 0 rfl ?_
        refine ea_iconst (pc := 64) dX5_read_64 (v := 1) rfl ?_
        obtain ⟨f52, g53, H⟩ := H
        refine ea_deref1 e4 ?_
        obtain ⟨d48, xc54, h49, m50, q51, H⟩ := H
        refine ea_callV (pc := 65) (As := [vI 1]) (st := []) dX5_read_65 kX5_refuse m50 q51 rfl (Nat.le_of_ble_eq_true rfl) ew_851 ew_853 ew_20 (ci := 5) rfl (by decide) f52 g53 ?_
        refine ea_pop (pc := 68) dX5_read_68 rfl ?_
        refine ea_goto (pc := 69) (tgt := 132) dX5_read_69 rfl ?_
        exact H
theorem bX5_read_132 {d : Nat} {h0 hE h : ea_H} {rv : Option ea_V} {r0 : Option Nat} {r2 : Option Nat} {x3 : Int32} (H : ∃ a3, r0 = some a3 ∧ a3 < ea_n h ∧ ea_c h a3 = 5 ∧ (¬ (ea_i h a3 1) = (0 : Int32) → rv = some (vR none) ∧ hE = h) ∧ ((ea_i h a3 1) = (0 : Int32) → a3 < ea_n h ∧ ea_c h a3 = 5 ∧ ∃ (d5 : Nat) (xc11 : Int32) (h6 : ea_H), ea_Met mX5_skip d5 [vR (some a3), vI 59] h (some (vI xc11)) h6 ∧ d5 + 1 ≤ d ∧ (¬ xc11 = (0 : Int32) → ea_W mX5_read d h0 rv hE 39 [(0, vR r0), (2, vR r2), (3, vI (x3 + 1))] [] h6) ∧ (xc11 = (0 : Int32) → rv = some (vR none) ∧ hE = h6))) : ea_W mX5_read d h0 rv hE 132 [(0, vR r0), (2, vR r2), (3, vI x3)] [] h := by
  refine ea_aload_n (pc := 132) dX5_read_132 rfl 0 rfl ?_
  obtain ⟨a3, e4, f1, g2, H⟩ := H
  refine ea_deref0 e4 ?_
  refine ea_getI (pc := 133) dX5_read_133 ec_5 (k := 1) (Nat.le_of_ble_eq_true rfl) rfl (Or.inl ew_293) f1 g2 ?_
  refine ea_if_ne (pc := 136) (tgt := 148) dX5_read_136 rfl (fun c13 => ?_) (fun c13 => ?_)
  · have H := H.1 c13
    refine ea_null (pc := 148) dX5_read_148 ?_
    obtain ⟨rfl, rfl⟩ := H
    exact ea_areturn (pc := 149) dX5_read_149 rfl (Or.inl ⟨_, rfl⟩)
  · have H := H.2 c13
    refine ea_aload_n (pc := 139) dX5_read_139 rfl 0 rfl ?_
    refine ea_bipush (pc := 140) dX5_read_140 (v := 59) rfl ?_
    obtain ⟨f9, g10, H⟩ := H
    refine ea_deref1 e4 ?_
    obtain ⟨d5, xc11, h6, m7, q8, H⟩ := H
    refine ea_callV (pc := 142) (As := [vI 59]) (st := []) dX5_read_142 kX5_skip m7 q8 rfl (Nat.le_of_ble_eq_true rfl) ew_899 ew_901 ew_32 (ci := 5) rfl (by decide) f9 g10 ?_
    refine ea_if_ne (pc := 145) (tgt := 150) dX5_read_145 rfl (fun c12 => ?_) (fun c12 => ?_)
    · have H := H.1 c12
      refine ea_iinc (pc := 150) (v := 1) (lv' := [(0, vR r0), (2, vR r2), (3, vI (x3 + 1))]) dX5_read_150 2 rfl rfl (Nat.le_of_ble_eq_true rfl) [1, 2, 0] rfl ?_
      refine ea_goto (pc := 153) (tgt := 39) dX5_read_153 rfl ?_
      exact H
    · have H := H.2 c12
      refine ea_null (pc := 148) dX5_read_148 ?_
      obtain ⟨rfl, rfl⟩ := H
      exact ea_areturn (pc := 149) dX5_read_149 rfl (Or.inl ⟨_, rfl⟩)
theorem bX5_read_156 {d : Nat} {h0 hE h : ea_H} {rv : Option ea_V} {r0 : Option Nat} {r2 : Option Nat} (H : ∃ a3, r0 = some a3 ∧ a3 < ea_n h ∧ ea_c h a3 = 5 ∧ a3 < ea_n h ∧ ea_c h a3 = 5 ∧ ∃ (d7 : Nat) (rc11 : Option Nat) (h8 : ea_H), ea_Met mJ7_copyOf_59c91 d7 [vR (ea_r h a3 10), vI (ea_i h a3 11)] h (some (vR rc11)) h8 ∧ d7 + 1 ≤ d ∧ ∃ a14, r2 = some a14 ∧ a14 < ea_n h8 ∧ ea_c h8 a14 = 0 ∧ ∀ h16, h16 = ea_wr h8 a14 11 rc11 → rv = some (vR r2) ∧ hE = h16) : ea_W mX5_read d h0 rv hE 156 [(0, vR r0), (2, vR r2)] [] h := by
  refine ea_aload_n (pc := 156) dX5_read_156 rfl 1 rfl ?_
  refine ea_aload_n (pc := 157) dX5_read_157 rfl 0 rfl ?_
  obtain ⟨a3, e4, f1, g2, H⟩ := H
  refine ea_deref0 e4 ?_
  refine ea_getR (pc := 158) dX5_read_158 ec_5 (k := 10) (Nat.le_of_ble_eq_true rfl) rfl (Or.inl ew_304) f1 g2 rfl ?_
  refine ea_aload_n (pc := 161) dX5_read_161 rfl 0 rfl ?_
  obtain ⟨f5, g6, H⟩ := H
  refine ea_deref0 e4 ?_
  refine ea_getI (pc := 162) dX5_read_162 ec_5 (k := 11) (Nat.le_of_ble_eq_true rfl) rfl (Or.inl ew_305) f5 g6 ?_
  obtain ⟨d7, rc11, h8, m9, q10, H⟩ := H
  refine ea_callS (pc := 165) (As := [vR (ea_r h a3 10), vI (ea_i h a3 11)]) (st := [vR r2]) dX5_read_165 kJ7_copyOf_59c91 m9 q10 rfl (Nat.le_of_ble_eq_true rfl) ew_903 ew_654 ?_
  obtain ⟨a14, e15, f12, g13, H⟩ := H
  refine ea_deref1 e15 ?_
  refine ea_putR (pc := 168) dX5_read_168 ec_0 (k := 11) (Nat.le_of_ble_eq_true rfl) rfl (Or.inl ⟨rfl, Or.inl ew_824⟩) f12 g13 ?_
  obtain ⟨h16, E17⟩ : ∃ z, z = ea_wr h8 a14 11 rc11 := ⟨_, rfl⟩
  have H := H h16 E17
  refine ea_nm E17 ?_
  refine ea_aload_n (pc := 171) dX5_read_171 rfl 1 rfl ?_
  obtain ⟨rfl, rfl⟩ := H
  exact ea_areturn (pc := 172) dX5_read_172 rfl (Or.inl ⟨_, rfl⟩)
theorem dX5_readRule_0 : decode cX5_readRule 0 = .ok (.aload_n 0, 1) := by decide +kernel
theorem dX5_readRule_1 : decode cX5_readRule 1 = .ok (.getfield 51, 3) := by decide +kernel
theorem dX5_readRule_4 : decode cX5_readRule 4 = .ok (.istore_n 2, 1) := by decide +kernel
theorem dX5_readRule_5 : decode cX5_readRule 5 = .ok (.aload_n 0, 1) := by decide +kernel
theorem dX5_readRule_6 : decode cX5_readRule 6 = .ok (.invokevirtual 81, 3) := by decide +kernel
theorem dX5_readRule_9 : decode cX5_readRule 9 = .ok (.aload_n 0, 1) := by decide +kernel
theorem dX5_readRule_10 : decode cX5_readRule 10 = .ok (.getfield 51, 3) := by decide +kernel
theorem dX5_readRule_13 : decode cX5_readRule 13 = .ok (.bipush 18, 2) := by decide +kernel
theorem dX5_readRule_15 : decode cX5_readRule 15 = .ok (.if_icmp .eq 9, 3) := by decide +kernel
theorem dX5_readRule_18 : decode cX5_readRule 18 = .ok (.aload_n 0, 1) := by decide +kernel
theorem dX5_readRule_19 : decode cX5_readRule 19 = .ok (.iconst 1, 1) := by decide +kernel
theorem dX5_readRule_20 : decode cX5_readRule 20 = .ok (.invokevirtual 57, 3) := by decide +kernel
theorem dX5_readRule_23 : decode cX5_readRule 23 = .ok (.ireturn, 1) := by decide +kernel
theorem dX5_readRule_24 : decode cX5_readRule 24 = .ok (.aload_n 0, 1) := by decide +kernel
theorem dX5_readRule_25 : decode cX5_readRule 25 = .ok (.getfield 25, 3) := by decide +kernel
theorem dX5_readRule_28 : decode cX5_readRule 28 = .ok (.aload_n 0, 1) := by decide +kernel
theorem dX5_readRule_29 : decode cX5_readRule 29 = .ok (.getfield 48, 3) := by decide +kernel
theorem dX5_readRule_32 : decode cX5_readRule 32 = .ok (.iaload, 1) := by decide +kernel
theorem dX5_readRule_33 : decode cX5_readRule 33 = .ok (.istore_n 3, 1) := by decide +kernel
theorem dX5_readRule_34 : decode cX5_readRule 34 = .ok (.iload_n 2, 1) := by decide +kernel
theorem dX5_readRule_35 : decode cX5_readRule 35 = .ok (.iconst 2, 1) := by decide +kernel
theorem dX5_readRule_36 : decode cX5_readRule 36 = .ok (.if_icmp .ne 15, 3) := by decide +kernel
theorem dX5_readRule_39 : decode cX5_readRule 39 = .ok (.iload_n 3, 1) := by decide +kernel
theorem dX5_readRule_40 : decode cX5_readRule 40 = .ok (.bipush 99, 2) := by decide +kernel
theorem dX5_readRule_42 : decode cX5_readRule 42 = .ok (.if_icmp .le 9, 3) := by decide +kernel
theorem dX5_readRule_45 : decode cX5_readRule 45 = .ok (.aload_n 0, 1) := by decide +kernel
theorem dX5_readRule_46 : decode cX5_readRule 46 = .ok (.iconst 2, 1) := by decide +kernel
theorem dX5_readRule_47 : decode cX5_readRule 47 = .ok (.invokevirtual 57, 3) := by decide +kernel
theorem dX5_readRule_50 : decode cX5_readRule 50 = .ok (.ireturn, 1) := by decide +kernel
theorem dX5_readRule_51 : decode cX5_readRule 51 = .ok (.aload_n 0, 1) := by decide +kernel
theorem dX5_readRule_52 : decode cX5_readRule 52 = .ok (.invokevirtual 81, 3) := by decide +kernel
theorem dX5_readRule_55 : decode cX5_readRule 55 = .ok (.iload_n 2, 1) := by decide +kernel
theorem dX5_readRule_56 : decode cX5_readRule 56 = .ok (.tableswitch 63 1 4 #[32, 39, 47, 55], 32) := by decide +kernel
theorem dX5_readRule_88 : decode cX5_readRule 88 = .ok (.aload_n 0, 1) := by decide +kernel
theorem dX5_readRule_89 : decode cX5_readRule 89 = .ok (.aload_n 1, 1) := by decide +kernel
theorem dX5_readRule_90 : decode cX5_readRule 90 = .ok (.iload_n 3, 1) := by decide +kernel
theorem dX5_readRule_91 : decode cX5_readRule 91 = .ok (.invokevirtual 84, 3) := by decide +kernel
theorem dX5_readRule_94 : decode cX5_readRule 94 = .ok (.ireturn, 1) := by decide +kernel
theorem dX5_readRule_95 : decode cX5_readRule 95 = .ok (.aload_n 1, 1) := by decide +kernel
theorem dX5_readRule_96 : decode cX5_readRule 96 = .ok (.iload_n 3, 1) := by decide +kernel
theorem dX5_readRule_97 : decode cX5_readRule 97 = .ok (.putfield 88, 3) := by decide +kernel
theorem dX5_readRule_100 : decode cX5_readRule 100 = .ok (.goto 24, 3) := by decide +kernel
theorem dX5_readRule_103 : decode cX5_readRule 103 = .ok (.aload_n 1, 1) := by decide +kernel
theorem dX5_readRule_104 : decode cX5_readRule 104 = .ok (.iload_n 3, 1) := by decide +kernel
theorem dX5_readRule_105 : decode cX5_readRule 105 = .ok (.putfield 91, 3) := by decide +kernel
theorem dX5_readRule_108 : decode cX5_readRule 108 = .ok (.goto 16, 3) := by decide +kernel
theorem dX5_readRule_111 : decode cX5_readRule 111 = .ok (.aload_n 1, 1) := by decide +kernel
theorem dX5_readRule_112 : decode cX5_readRule 112 = .ok (.iload_n 3, 1) := by decide +kernel
theorem dX5_readRule_113 : decode cX5_readRule 113 = .ok (.putfield 94, 3) := by decide +kernel
theorem dX5_readRule_116 : decode cX5_readRule 116 = .ok (.goto 8, 3) := by decide +kernel
theorem dX5_readRule_119 : decode cX5_readRule 119 = .ok (.aload_n 1, 1) := by decide +kernel
theorem dX5_readRule_120 : decode cX5_readRule 120 = .ok (.iload_n 3, 1) := by decide +kernel
theorem dX5_readRule_121 : decode cX5_readRule 121 = .ok (.putfield 97, 3) := by decide +kernel
theorem dX5_readRule_124 : decode cX5_readRule 124 = .ok (.iconst 1, 1) := by decide +kernel
theorem dX5_readRule_125 : decode cX5_readRule 125 = .ok (.ireturn, 1) := by decide +kernel
theorem bX5_readRule_0 {d : Nat} {h0 hE h : ea_H} {rv : Option ea_V} {r0 : Option Nat} {r1 : Option Nat} (H : ∃ a3, r0 = some a3 ∧ a3 < ea_n h ∧ ea_c h a3 = 5 ∧ a3 < ea_n h ∧ ea_c h a3 = 5 ∧ ∃ (d5 : Nat) (h6 : ea_H), ea_Met mX5_step d5 [vR (some a3)] h none h6 ∧ d5 + 1 ≤ d ∧ a3 < ea_n h6 ∧ ea_c h6 a3 = 5 ∧ ((ea_i h6 a3 9) = (18 : Int32) → a3 < ea_n h6 ∧ ea_c h6 a3 = 5 ∧ a3 < ea_n h6 ∧ ea_c h6 a3 = 5 ∧ ∃ a19, (ea_r h6 a3 6) = some a19 ∧ a19 < ea_n h6 ∧ ea_c h6 a19 = 20 ∧ vp_in (ea_i h6 a3 8) (ea_l h6 a19) ∧ (¬ (ea_i h a3 9) = (2 : Int32) → ea_W mX5_readRule d h0 rv hE 51 [(0, vR r0), (1, vR r1), (2, vI (ea_i h a3 9)), (3, vI (ea_i h6 a19 (Int32.toNatClampNeg (ea_i h6 a3 8))))] [] h6) ∧ ((ea_i h a3 9) = (2 : Int32) → ((ea_i h6 a19 (Int32.toNatClampNeg (ea_i h6 a3 8))) ≤ (99 : Int32) → ea_W mX5_readRule d h0 rv hE 51 [(0, vR r0), (1, vR r1), (2, vI (ea_i h a3 9)), (3, vI (ea_i h6 a19 (Int32.toNatClampNeg (ea_i h6 a3 8))))] [] h6) ∧ (¬ (ea_i h6 a19 (Int32.toNatClampNeg (ea_i h6 a3 8))) ≤ (99 : Int32) → a3 < ea_n h6 ∧ ea_c h6 a3 = 5 ∧ ∃ (d22 : Nat) (xc28 : Int32) (h23 : ea_H), ea_Met mX5_refuse d22 [vR (some a3), vI 2] h6 (some (vI xc28)) h23 ∧ d22 + 1 ≤ d ∧ (xc28 = 0 ∨ xc28 = 1) ∧ rv = some (vI xc28) ∧ hE = h23))) ∧ (¬ (ea_i h6 a3 9) = (18 : Int32) → a3 < ea_n h6 ∧ ea_c h6 a3 = 5 ∧ ∃ (d32 : Nat) (xc38 : Int32) (h33 : ea_H), ea_Met mX5_refuse d32 [vR (some a3), vI 1] h6 (some (vI xc38)) h33 ∧ d32 + 1 ≤ d ∧ (xc38 = 0 ∨ xc38 = 1) ∧ rv = some (vI xc38) ∧ hE = h33)) : ea_W mX5_readRule d h0 rv hE 0 [(0, vR r0), (1, vR r1)] [] h := by
  refine ea_aload_n (pc := 0) dX5_readRule_0 rfl 0 rfl ?_
  obtain ⟨a3, e4, f1, g2, H⟩ := H
  refine ea_deref0 e4 ?_
  refine ea_getI (pc := 1) dX5_readRule_1 ec_5 (k := 9) (Nat.le_of_ble_eq_true rfl) rfl (Or.inl ew_303) f1 g2 ?_
  refine ea_istore_n (pc := 4) (lv' := [(0, vR r0), (1, vR r1), (2, vI (ea_i h a3 9))]) dX5_readRule_4 rfl (Nat.le_of_ble_eq_true rfl) [1, 2, 0] rfl ?_
  refine ea_aload_n (pc := 5) dX5_readRule_5 rfl 0 rfl ?_
  obtain ⟨f9, g10, H⟩ := H
  refine ea_deref0 e4 ?_
  obtain ⟨d5, h6, m7, q8, H⟩ := H
  refine ea_callV (pc := 6) (As := []) (st := []) dX5_readRule_6 kX5_step m7 q8 rfl (Nat.le_of_ble_eq_true rfl) ew_859 ew_861 ew_22 (ci := 5) rfl (by decide) f9 g10 ?_
  refine ea_aload_n (pc := 9) dX5_readRule_9 rfl 0 rfl ?_
  obtain ⟨f11, g12, H⟩ := H
  refine ea_deref0 e4 ?_
  refine ea_getI (pc := 10) dX5_readRule_10 ec_5 (k := 9) (Nat.le_of_ble_eq_true rfl) rfl (Or.inl ew_303) f11 g12 ?_
  refine ea_bipush (pc := 13) dX5_readRule_13 (v := 18) rfl ?_
  refine ea_icmp_eq (pc := 15) (tgt := 24) dX5_readRule_15 rfl (fun c40 => ?_) (fun c40 => ?_)
  · have H := H.1 c40
    refine ea_aload_n (pc := 24) dX5_readRule_24 rfl 0 rfl ?_
    obtain ⟨f13, g14, H⟩ := H
    refine ea_deref0 e4 ?_
    refine ea_getR (pc := 25) dX5_readRule_25 ec_5 (k := 6) (Nat.le_of_ble_eq_true rfl) rfl (Or.inl ew_300) f13 g14 rfl ?_
    refine ea_aload_n (pc := 28) dX5_readRule_28 rfl 0 rfl ?_
    obtain ⟨f15, g16, H⟩ := H
    refine ea_deref0 e4 ?_
    refine ea_getI (pc := 29) dX5_readRule_29 ec_5 (k := 8) (Nat.le_of_ble_eq_true rfl) rfl (Or.inl ew_302) f15 g16 ?_
    obtain ⟨a19, e20, f17, g18, H⟩ := H
    refine ea_deref1 e20 ?_
    obtain ⟨z21, H⟩ := H
    refine ea_iald (pc := 32) dX5_readRule_32 f17 g18 z21 ?_
    refine ea_istore_n (pc := 33) (lv' := [(0, vR r0), (1, vR r1), (2, vI (ea_i h a3 9)), (3, vI (ea_i h6 a19 (Int32.toNatClampNeg (ea_i h6 a3 8))))]) dX5_readRule_33 rfl (Nat.le_of_ble_eq_true rfl) [1, 2, 3, 0] rfl ?_
    refine ea_iload_n (pc := 34) dX5_readRule_34 rfl 2 rfl ?_
    refine ea_iconst (pc := 35) dX5_readRule_35 (v := 2) rfl ?_
    refine ea_icmp_ne (pc := 36) (tgt := 51) dX5_readRule_36 rfl (fun c31 => ?_) (fun c31 => ?_)
    · have H := H.1 c31
      exact H
    · have H := H.2 c31
      refine ea_iload_n (pc := 39) dX5_readRule_39 rfl 3 rfl ?_
      refine ea_bipush (pc := 40) dX5_readRule_40 (v := 99) rfl ?_
      refine ea_icmp_le (pc := 42) (tgt := 51) dX5_readRule_42 rfl (fun c30 => ?_) (fun c30 => ?_)
      · have H := H.1 c30
        exact H
      · have H := H.2 c30
        refine ea_aload_n (pc := 45) dX5_readRule_45 rfl 0 rfl ?_
        refine ea_iconst (pc := 46) dX5_readRule_46 (v := 2) rfl ?_
        obtain ⟨f26, g27, H⟩ := H
        refine ea_deref1 e4 ?_
        obtain ⟨d22, xc28, h23, m24, q25, H⟩ := H
        refine ea_callV (pc := 47) (As := [vI 2]) (st := []) dX5_readRule_47 kX5_refuse m24 q25 rfl (Nat.le_of_ble_eq_true rfl) ew_851 ew_853 ew_20 (ci := 5) rfl (by decide) f26 g27 ?_
        obtain ⟨z29, rfl, rfl⟩ := H
        exact ea_ireturn (pc := 50) dX5_readRule_50 rfl (ea_bn z29)
  · have H := H.2 c40
    refine ea_aload_n (pc := 18) dX5_readRule_18 rfl 0 rfl ?_
    refine ea_iconst (pc := 19) dX5_readRule_19 (v := 1) rfl ?_
    obtain ⟨f36, g37, H⟩ := H
    refine ea_deref1 e4 ?_
    obtain ⟨d32, xc38, h33, m34, q35, H⟩ := H
    refine ea_callV (pc := 20) (As := [vI 1]) (st := []) dX5_readRule_20 kX5_refuse m34 q35 rfl (Nat.le_of_ble_eq_true rfl) ew_851 ew_853 ew_20 (ci := 5) rfl (by decide) f36 g37 ?_
    obtain ⟨z39, rfl, rfl⟩ := H
    exact ea_ireturn (pc := 23) dX5_readRule_23 rfl (ea_bn z39)
theorem bX5_readRule_51 {d : Nat} {h0 hE h : ea_H} {rv : Option ea_V} {r0 : Option Nat} {r1 : Option Nat} {x2 : Int32} {x3 : Int32} (H : ∃ a7, r0 = some a7 ∧ a7 < ea_n h ∧ ea_c h a7 = 5 ∧ ∃ (d1 : Nat) (h2 : ea_H), ea_Met mX5_step d1 [vR (some a7)] h none h2 ∧ d1 + 1 ≤ d ∧ (Int32.toInt x2 = 1 → a7 < ea_n h2 ∧ ea_c h2 a7 = 5 ∧ ∃ (d9 : Nat) (xc15 : Int32) (h10 : ea_H), ea_Met mX5_readAfter d9 [vR (some a7), vR r1, vI x3] h2 (some (vI xc15)) h10 ∧ d9 + 1 ≤ d ∧ (xc15 = 0 ∨ xc15 = 1) ∧ rv = some (vI xc15) ∧ hE = h10) ∧ (Int32.toInt x2 = 2 → ∃ a19, r1 = some a19 ∧ a19 < ea_n h2 ∧ ea_c h2 a19 = 0 ∧ ∀ h21, h21 = ea_wi h2 a19 4 x3 → rv = some (vI 1) ∧ hE = h21) ∧ (Int32.toInt x2 = 3 → ∃ a25, r1 = some a25 ∧ a25 < ea_n h2 ∧ ea_c h2 a25 = 0 ∧ ∀ h27, h27 = ea_wi h2 a25 5 x3 → rv = some (vI 1) ∧ hE = h27) ∧ (Int32.toInt x2 = 4 → ∃ a31, r1 = some a31 ∧ a31 < ea_n h2 ∧ ea_c h2 a31 = 0 ∧ ∀ h33, h33 = ea_wi h2 a31 6 x3 → rv = some (vI 1) ∧ hE = h33) ∧ (Int32.toInt x2 < 1 ∨ 4 < Int32.toInt x2 → ∃ a37, r1 = some a37 ∧ a37 < ea_n h2 ∧ ea_c h2 a37 = 0 ∧ ∀ h39, h39 = ea_wi h2 a37 7 x3 → rv = some (vI 1) ∧ hE = h39)) : ea_W mX5_readRule d h0 rv hE 51 [(0, vR r0), (1, vR r1), (2, vI x2), (3, vI x3)] [] h := by
  refine ea_aload_n (pc := 51) dX5_readRule_51 rfl 0 rfl ?_
  obtain ⟨a7, e8, f5, g6, H⟩ := H
  refine ea_deref0 e8 ?_
  obtain ⟨d1, h2, m3, q4, H⟩ := H
  refine ea_callV (pc := 52) (As := []) (st := []) dX5_readRule_52 kX5_step m3 q4 rfl (Nat.le_of_ble_eq_true rfl) ew_859 ew_861 ew_22 (ci := 5) rfl (by decide) f5 g6 ?_
  refine ea_iload_n (pc := 55) dX5_readRule_55 rfl 2 rfl ?_
  by_cases qc1 : Int32.toInt x2 = 1
  · have H := H.1 qc1
    refine ea_tswIn (pc := 56) (tgt := 88) dX5_readRule_56 (by omega) (by omega) (by rw [qc1]; rfl) rfl ?_
    refine ea_aload_n (pc := 88) dX5_readRule_88 rfl 0 rfl ?_
    refine ea_aload_n (pc := 89) dX5_readRule_89 rfl 1 rfl ?_
    refine ea_iload_n (pc := 90) dX5_readRule_90 rfl 3 rfl ?_
    obtain ⟨f13, g14, H⟩ := H
    refine ea_deref2 e8 ?_
    obtain ⟨d9, xc15, h10, m11, q12, H⟩ := H
    refine ea_callV (pc := 91) (As := [vR r1, vI x3]) (st := []) dX5_readRule_91 kX5_readAfter m11 q12 rfl (Nat.le_of_ble_eq_true rfl) ew_895 ew_897 ew_31 (ci := 5) rfl (by decide) f13 g14 ?_
    obtain ⟨z16, rfl, rfl⟩ := H
    exact ea_ireturn (pc := 94) dX5_readRule_94 rfl (ea_bn z16)
  by_cases qc2 : Int32.toInt x2 = 2
  · have H := H.2.1 qc2
    refine ea_tswIn (pc := 56) (tgt := 95) dX5_readRule_56 (by omega) (by omega) (by rw [qc2]; rfl) rfl ?_
    refine ea_aload_n (pc := 95) dX5_readRule_95 rfl 1 rfl ?_
    refine ea_iload_n (pc := 96) dX5_readRule_96 rfl 3 rfl ?_
    obtain ⟨a19, e20, f17, g18, H⟩ := H
    refine ea_deref1 e20 ?_
    refine ea_putI (pc := 97) dX5_readRule_97 ec_0 (k := 4) (Nat.le_of_ble_eq_true rfl) rfl (Or.inl ⟨rfl, Or.inl ew_803⟩) rfl rfl f17 g18 ?_
    obtain ⟨h21, E22⟩ : ∃ z, z = ea_wi h2 a19 4 x3 := ⟨_, rfl⟩
    have H := H h21 E22
    refine ea_nm E22 ?_
    refine ea_goto (pc := 100) (tgt := 124) dX5_readRule_100 rfl ?_
    refine ea_iconst (pc := 124) dX5_readRule_124 (v := 1) rfl ?_
    obtain ⟨rfl, rfl⟩ := H
    exact ea_ireturn (pc := 125) dX5_readRule_125 rfl (ea_bn (Or.inr rfl))
  by_cases qc3 : Int32.toInt x2 = 3
  · have H := H.2.2.1 qc3
    refine ea_tswIn (pc := 56) (tgt := 103) dX5_readRule_56 (by omega) (by omega) (by rw [qc3]; rfl) rfl ?_
    refine ea_aload_n (pc := 103) dX5_readRule_103 rfl 1 rfl ?_
    refine ea_iload_n (pc := 104) dX5_readRule_104 rfl 3 rfl ?_
    obtain ⟨a25, e26, f23, g24, H⟩ := H
    refine ea_deref1 e26 ?_
    refine ea_putI (pc := 105) dX5_readRule_105 ec_0 (k := 5) (Nat.le_of_ble_eq_true rfl) rfl (Or.inl ⟨rfl, Or.inl ew_806⟩) rfl rfl f23 g24 ?_
    obtain ⟨h27, E28⟩ : ∃ z, z = ea_wi h2 a25 5 x3 := ⟨_, rfl⟩
    have H := H h27 E28
    refine ea_nm E28 ?_
    refine ea_goto (pc := 108) (tgt := 124) dX5_readRule_108 rfl ?_
    refine ea_iconst (pc := 124) dX5_readRule_124 (v := 1) rfl ?_
    obtain ⟨rfl, rfl⟩ := H
    exact ea_ireturn (pc := 125) dX5_readRule_125 rfl (ea_bn (Or.inr rfl))
  by_cases qc4 : Int32.toInt x2 = 4
  · have H := H.2.2.2.1 qc4
    refine ea_tswIn (pc := 56) (tgt := 111) dX5_readRule_56 (by omega) (by omega) (by rw [qc4]; rfl) rfl ?_
    refine ea_aload_n (pc := 111) dX5_readRule_111 rfl 1 rfl ?_
    refine ea_iload_n (pc := 112) dX5_readRule_112 rfl 3 rfl ?_
    obtain ⟨a31, e32, f29, g30, H⟩ := H
    refine ea_deref1 e32 ?_
    refine ea_putI (pc := 113) dX5_readRule_113 ec_0 (k := 6) (Nat.le_of_ble_eq_true rfl) rfl (Or.inl ⟨rfl, Or.inl ew_809⟩) rfl rfl f29 g30 ?_
    obtain ⟨h33, E34⟩ : ∃ z, z = ea_wi h2 a31 6 x3 := ⟨_, rfl⟩
    have H := H h33 E34
    refine ea_nm E34 ?_
    refine ea_goto (pc := 116) (tgt := 124) dX5_readRule_116 rfl ?_
    refine ea_iconst (pc := 124) dX5_readRule_124 (v := 1) rfl ?_
    obtain ⟨rfl, rfl⟩ := H
    exact ea_ireturn (pc := 125) dX5_readRule_125 rfl (ea_bn (Or.inr rfl))
  have qd : Int32.toInt x2 < 1 ∨ 4 < Int32.toInt x2 := by omega
  have H := H.2.2.2.2 qd
  refine ea_tswOut (pc := 56) (tgt := 119) dX5_readRule_56 qd rfl ?_
  refine ea_aload_n (pc := 119) dX5_readRule_119 rfl 1 rfl ?_
  refine ea_iload_n (pc := 120) dX5_readRule_120 rfl 3 rfl ?_
  obtain ⟨a37, e38, f35, g36, H⟩ := H
  refine ea_deref1 e38 ?_
  refine ea_putI (pc := 121) dX5_readRule_121 ec_0 (k := 7) (Nat.le_of_ble_eq_true rfl) rfl (Or.inl ⟨rfl, Or.inl ew_813⟩) rfl rfl f35 g36 ?_
  obtain ⟨h39, E40⟩ : ∃ z, z = ea_wi h2 a37 7 x3 := ⟨_, rfl⟩
  have H := H h39 E40
  refine ea_nm E40 ?_
  refine ea_iconst (pc := 124) dX5_readRule_124 (v := 1) rfl ?_
  obtain ⟨rfl, rfl⟩ := H
  exact ea_ireturn (pc := 125) dX5_readRule_125 rfl (ea_bn (Or.inr rfl))
theorem dX5_readAfter_0 : decode cX5_readAfter 0 = .ok (.aload_n 0, 1) := by decide +kernel
theorem dX5_readAfter_1 : decode cX5_readAfter 1 = .ok (.bipush 14, 2) := by decide +kernel
theorem dX5_readAfter_3 : decode cX5_readAfter 3 = .ok (.invokevirtual 71, 3) := by decide +kernel
theorem dX5_readAfter_6 : decode cX5_readAfter 6 = .ok (.ifCond .ne 5, 3) := by decide +kernel
theorem dX5_readAfter_9 : decode cX5_readAfter 9 = .ok (.iconst 0, 1) := by decide +kernel
theorem dX5_readAfter_10 : decode cX5_readAfter 10 = .ok (.ireturn, 1) := by decide +kernel
theorem dX5_readAfter_11 : decode cX5_readAfter 11 = .ok (.aload_n 0, 1) := by decide +kernel
theorem dX5_readAfter_12 : decode cX5_readAfter 12 = .ok (.getfield 51, 3) := by decide +kernel
theorem dX5_readAfter_15 : decode cX5_readAfter 15 = .ok (.bipush 18, 2) := by decide +kernel
theorem dX5_readAfter_17 : decode cX5_readAfter 17 = .ok (.if_icmp .eq 9, 3) := by decide +kernel
theorem dX5_readAfter_20 : decode cX5_readAfter 20 = .ok (.aload_n 0, 1) := by decide +kernel
theorem dX5_readAfter_21 : decode cX5_readAfter 21 = .ok (.iconst 1, 1) := by decide +kernel
theorem dX5_readAfter_22 : decode cX5_readAfter 22 = .ok (.invokevirtual 57, 3) := by decide +kernel
theorem dX5_readAfter_25 : decode cX5_readAfter 25 = .ok (.ireturn, 1) := by decide +kernel
theorem dX5_readAfter_26 : decode cX5_readAfter 26 = .ok (.aload_n 0, 1) := by decide +kernel
theorem dX5_readAfter_27 : decode cX5_readAfter 27 = .ok (.getfield 25, 3) := by decide +kernel
theorem dX5_readAfter_30 : decode cX5_readAfter 30 = .ok (.aload_n 0, 1) := by decide +kernel
theorem dX5_readAfter_31 : decode cX5_readAfter 31 = .ok (.getfield 48, 3) := by decide +kernel
theorem dX5_readAfter_34 : decode cX5_readAfter 34 = .ok (.iaload, 1) := by decide +kernel
theorem dX5_readAfter_35 : decode cX5_readAfter 35 = .ok (.sipush 1439, 3) := by decide +kernel
theorem dX5_readAfter_38 : decode cX5_readAfter 38 = .ok (.if_icmp .le 9, 3) := by decide +kernel
theorem dX5_readAfter_41 : decode cX5_readAfter 41 = .ok (.aload_n 0, 1) := by decide +kernel
theorem dX5_readAfter_42 : decode cX5_readAfter 42 = .ok (.iconst 2, 1) := by decide +kernel
theorem dX5_readAfter_43 : decode cX5_readAfter 43 = .ok (.invokevirtual 57, 3) := by decide +kernel
theorem dX5_readAfter_46 : decode cX5_readAfter 46 = .ok (.ireturn, 1) := by decide +kernel
theorem dX5_readAfter_47 : decode cX5_readAfter 47 = .ok (.aload_n 1, 1) := by decide +kernel
theorem dX5_readAfter_48 : decode cX5_readAfter 48 = .ok (.iload_n 2, 1) := by decide +kernel
theorem dX5_readAfter_49 : decode cX5_readAfter 49 = .ok (.putfield 100, 3) := by decide +kernel
theorem dX5_readAfter_52 : decode cX5_readAfter 52 = .ok (.aload_n 1, 1) := by decide +kernel
theorem dX5_readAfter_53 : decode cX5_readAfter 53 = .ok (.aload_n 0, 1) := by decide +kernel
theorem dX5_readAfter_54 : decode cX5_readAfter 54 = .ok (.getfield 25, 3) := by decide +kernel
theorem dX5_readAfter_57 : decode cX5_readAfter 57 = .ok (.aload_n 0, 1) := by decide +kernel
theorem dX5_readAfter_58 : decode cX5_readAfter 58 = .ok (.getfield 48, 3) := by decide +kernel
theorem dX5_readAfter_61 : decode cX5_readAfter 61 = .ok (.iaload, 1) := by decide +kernel
theorem dX5_readAfter_62 : decode cX5_readAfter 62 = .ok (.putfield 103, 3) := by decide +kernel
theorem dX5_readAfter_65 : decode cX5_readAfter 65 = .ok (.aload_n 0, 1) := by decide +kernel
theorem dX5_readAfter_66 : decode cX5_readAfter 66 = .ok (.invokevirtual 81, 3) := by decide +kernel
theorem dX5_readAfter_69 : decode cX5_readAfter 69 = .ok (.iconst 1, 1) := by decide +kernel
theorem dX5_readAfter_70 : decode cX5_readAfter 70 = .ok (.ireturn, 1) := by decide +kernel
theorem bX5_readAfter_0 {d : Nat} {h0 hE h : ea_H} {rv : Option ea_V} {r0 : Option Nat} {r1 : Option Nat} {x2 : Int32} (H : ∃ a7, r0 = some a7 ∧ a7 < ea_n h ∧ ea_c h a7 = 5 ∧ ∃ (d1 : Nat) (xc9 : Int32) (h2 : ea_H), ea_Met mX5_skip d1 [vR (some a7), vI 14] h (some (vI xc9)) h2 ∧ d1 + 1 ≤ d ∧ (¬ xc9 = (0 : Int32) → a7 < ea_n h2 ∧ ea_c h2 a7 = 5 ∧ ((ea_i h2 a7 9) = (18 : Int32) → a7 < ea_n h2 ∧ ea_c h2 a7 = 5 ∧ a7 < ea_n h2 ∧ ea_c h2 a7 = 5 ∧ ∃ a18, (ea_r h2 a7 6) = some a18 ∧ a18 < ea_n h2 ∧ ea_c h2 a18 = 20 ∧ vp_in (ea_i h2 a7 8) (ea_l h2 a18) ∧ ((ea_i h2 a18 (Int32.toNatClampNeg (ea_i h2 a7 8))) ≤ (1439 : Int32) → ∃ a23, r1 = some a23 ∧ a23 < ea_n h2 ∧ ea_c h2 a23 = 0 ∧ ∀ h25, h25 = ea_wi h2 a23 2 x2 → a7 < ea_n h25 ∧ ea_c h25 a7 = 5 ∧ a7 < ea_n h25 ∧ ea_c h25 a7 = 5 ∧ ∃ a33, (ea_r h25 a7 6) = some a33 ∧ a33 < ea_n h25 ∧ ea_c h25 a33 = 20 ∧ vp_in (ea_i h25 a7 8) (ea_l h25 a33) ∧ a23 < ea_n h25 ∧ ea_c h25 a23 = 0 ∧ ∀ h38, h38 = ea_wi h25 a23 3 (ea_i h25 a33 (Int32.toNatClampNeg (ea_i h25 a7 8))) → a7 < ea_n h38 ∧ ea_c h38 a7 = 5 ∧ ∃ (d40 : Nat) (h41 : ea_H), ea_Met mX5_step d40 [vR (some a7)] h38 none h41 ∧ d40 + 1 ≤ d ∧ rv = some (vI 1) ∧ hE = h41) ∧ (¬ (ea_i h2 a18 (Int32.toNatClampNeg (ea_i h2 a7 8))) ≤ (1439 : Int32) → a7 < ea_n h2 ∧ ea_c h2 a7 = 5 ∧ ∃ (d46 : Nat) (xc52 : Int32) (h47 : ea_H), ea_Met mX5_refuse d46 [vR (some a7), vI 2] h2 (some (vI xc52)) h47 ∧ d46 + 1 ≤ d ∧ (xc52 = 0 ∨ xc52 = 1) ∧ rv = some (vI xc52) ∧ hE = h47)) ∧ (¬ (ea_i h2 a7 9) = (18 : Int32) → a7 < ea_n h2 ∧ ea_c h2 a7 = 5 ∧ ∃ (d55 : Nat) (xc61 : Int32) (h56 : ea_H), ea_Met mX5_refuse d55 [vR (some a7), vI 1] h2 (some (vI xc61)) h56 ∧ d55 + 1 ≤ d ∧ (xc61 = 0 ∨ xc61 = 1) ∧ rv = some (vI xc61) ∧ hE = h56)) ∧ (xc9 = (0 : Int32) → rv = some (vI 0) ∧ hE = h2)) : ea_W mX5_readAfter d h0 rv hE 0 [(0, vR r0), (1, vR r1), (2, vI x2)] [] h := by
  refine ea_aload_n (pc := 0) dX5_readAfter_0 rfl 0 rfl ?_
  refine ea_bipush (pc := 1) dX5_readAfter_1 (v := 14) rfl ?_
  obtain ⟨a7, e8, f5, g6, H⟩ := H
  refine ea_deref1 e8 ?_
  obtain ⟨d1, xc9, h2, m3, q4, H⟩ := H
  refine ea_callV (pc := 3) (As := [vI 14]) (st := []) dX5_readAfter_3 kX5_skip m3 q4 rfl (Nat.le_of_ble_eq_true rfl) ew_899 ew_901 ew_32 (ci := 5) rfl (by decide) f5 g6 ?_
  refine ea_if_ne (pc := 6) (tgt := 11) dX5_readAfter_6 rfl (fun c64 => ?_) (fun c64 => ?_)
  · have H := H.1 c64
    refine ea_aload_n (pc := 11) dX5_readAfter_11 rfl 0 rfl ?_
    obtain ⟨f10, g11, H⟩ := H
    refine ea_deref0 e8 ?_
    refine ea_getI (pc := 12) dX5_readAfter_12 ec_5 (k := 9) (Nat.le_of_ble_eq_true rfl) rfl (Or.inl ew_303) f10 g11 ?_
    refine ea_bipush (pc := 15) dX5_readAfter_15 (v := 18) rfl ?_
    refine ea_icmp_eq (pc := 17) (tgt := 26) dX5_readAfter_17 rfl (fun c63 => ?_) (fun c63 => ?_)
    · have H := H.1 c63
      refine ea_aload_n (pc := 26) dX5_readAfter_26 rfl 0 rfl ?_
      obtain ⟨f12, g13, H⟩ := H
      refine ea_deref0 e8 ?_
      refine ea_getR (pc := 27) dX5_readAfter_27 ec_5 (k := 6) (Nat.le_of_ble_eq_true rfl) rfl (Or.inl ew_300) f12 g13 rfl ?_
      refine ea_aload_n (pc := 30) dX5_readAfter_30 rfl 0 rfl ?_
      obtain ⟨f14, g15, H⟩ := H
      refine ea_deref0 e8 ?_
      refine ea_getI (pc := 31) dX5_readAfter_31 ec_5 (k := 8) (Nat.le_of_ble_eq_true rfl) rfl (Or.inl ew_302) f14 g15 ?_
      obtain ⟨a18, e19, f16, g17, H⟩ := H
      refine ea_deref1 e19 ?_
      obtain ⟨z20, H⟩ := H
      refine ea_iald (pc := 34) dX5_readAfter_34 f16 g17 z20 ?_
      refine ea_sipush (pc := 35) dX5_readAfter_35 (v := 1439) rfl ?_
      refine ea_icmp_le (pc := 38) (tgt := 47) dX5_readAfter_38 rfl (fun c54 => ?_) (fun c54 => ?_)
      · have H := H.1 c54
        refine ea_aload_n (pc := 47) dX5_readAfter_47 rfl 1 rfl ?_
        refine ea_iload_n (pc := 48) dX5_readAfter_48 rfl 2 rfl ?_
        obtain ⟨a23, e24, f21, g22, H⟩ := H
        refine ea_deref1 e24 ?_
        refine ea_putI (pc := 49) dX5_readAfter_49 ec_0 (k := 2) (Nat.le_of_ble_eq_true rfl) rfl (Or.inl ⟨rfl, Or.inl ew_796⟩) rfl rfl f21 g22 ?_
        obtain ⟨h25, E26⟩ : ∃ z, z = ea_wi h2 a23 2 x2 := ⟨_, rfl⟩
        have H := H h25 E26
        refine ea_nm E26 ?_
        refine ea_aload_n (pc := 52) dX5_readAfter_52 rfl 1 rfl ?_
        refine ea_aload_n (pc := 53) dX5_readAfter_53 rfl 0 rfl ?_
        obtain ⟨f27, g28, H⟩ := H
        refine ea_deref0 e8 ?_
        refine ea_getR (pc := 54) dX5_readAfter_54 ec_5 (k := 6) (Nat.le_of_ble_eq_true rfl) rfl (Or.inl ew_300) f27 g28 rfl ?_
        refine ea_aload_n (pc := 57) dX5_readAfter_57 rfl 0 rfl ?_
        obtain ⟨f29, g30, H⟩ := H
        refine ea_deref0 e8 ?_
        refine ea_getI (pc := 58) dX5_readAfter_58 ec_5 (k := 8) (Nat.le_of_ble_eq_true rfl) rfl (Or.inl ew_302) f29 g30 ?_
        obtain ⟨a33, e34, f31, g32, H⟩ := H
        refine ea_deref1 e34 ?_
        obtain ⟨z35, H⟩ := H
        refine ea_iald (pc := 61) dX5_readAfter_61 f31 g32 z35 ?_
        obtain ⟨f36, g37, H⟩ := H
        refine ea_deref1 e24 ?_
        refine ea_putI (pc := 62) dX5_readAfter_62 ec_0 (k := 3) (Nat.le_of_ble_eq_true rfl) rfl (Or.inl ⟨rfl, Or.inl ew_800⟩) rfl rfl f36 g37 ?_
        obtain ⟨h38, E39⟩ : ∃ z, z = ea_wi h25 a23 3 (ea_i h25 a33 (Int32.toNatClampNeg (ea_i h25 a7 8))) := ⟨_, rfl⟩
        have H := H h38 E39
        refine ea_nm E39 ?_
        refine ea_aload_n (pc := 65) dX5_readAfter_65 rfl 0 rfl ?_
        obtain ⟨f44, g45, H⟩ := H
        refine ea_deref0 e8 ?_
        obtain ⟨d40, h41, m42, q43, H⟩ := H
        refine ea_callV (pc := 66) (As := []) (st := []) dX5_readAfter_66 kX5_step m42 q43 rfl (Nat.le_of_ble_eq_true rfl) ew_859 ew_861 ew_22 (ci := 5) rfl (by decide) f44 g45 ?_
        refine ea_iconst (pc := 69) dX5_readAfter_69 (v := 1) rfl ?_
        obtain ⟨rfl, rfl⟩ := H
        exact ea_ireturn (pc := 70) dX5_readAfter_70 rfl (ea_bn (Or.inr rfl))
      · have H := H.2 c54
        refine ea_aload_n (pc := 41) dX5_readAfter_41 rfl 0 rfl ?_
        refine ea_iconst (pc := 42) dX5_readAfter_42 (v := 2) rfl ?_
        obtain ⟨f50, g51, H⟩ := H
        refine ea_deref1 e8 ?_
        obtain ⟨d46, xc52, h47, m48, q49, H⟩ := H
        refine ea_callV (pc := 43) (As := [vI 2]) (st := []) dX5_readAfter_43 kX5_refuse m48 q49 rfl (Nat.le_of_ble_eq_true rfl) ew_851 ew_853 ew_20 (ci := 5) rfl (by decide) f50 g51 ?_
        obtain ⟨z53, rfl, rfl⟩ := H
        exact ea_ireturn (pc := 46) dX5_readAfter_46 rfl (ea_bn z53)
    · have H := H.2 c63
      refine ea_aload_n (pc := 20) dX5_readAfter_20 rfl 0 rfl ?_
      refine ea_iconst (pc := 21) dX5_readAfter_21 (v := 1) rfl ?_
      obtain ⟨f59, g60, H⟩ := H
      refine ea_deref1 e8 ?_
      obtain ⟨d55, xc61, h56, m57, q58, H⟩ := H
      refine ea_callV (pc := 22) (As := [vI 1]) (st := []) dX5_readAfter_22 kX5_refuse m57 q58 rfl (Nat.le_of_ble_eq_true rfl) ew_851 ew_853 ew_20 (ci := 5) rfl (by decide) f59 g60 ?_
      obtain ⟨z62, rfl, rfl⟩ := H
      exact ea_ireturn (pc := 25) dX5_readAfter_25 rfl (ea_bn z62)
  · have H := H.2 c64
    refine ea_iconst (pc := 9) dX5_readAfter_9 (v := 0) rfl ?_
    obtain ⟨rfl, rfl⟩ := H
    exact ea_ireturn (pc := 10) dX5_readAfter_10 rfl (ea_bn (Or.inl rfl))
theorem dX5_readCharge_0 : decode cX5_readCharge 0 = .ok (.aload_n 1, 1) := by decide +kernel
theorem dX5_readCharge_1 : decode cX5_readCharge 1 = .ok (.getfield 106, 3) := by decide +kernel
theorem dX5_readCharge_4 : decode cX5_readCharge 4 = .ok (.istore_n 2, 1) := by decide +kernel
theorem dX5_readCharge_5 : decode cX5_readCharge 5 = .ok (.iload_n 2, 1) := by decide +kernel
theorem dX5_readCharge_6 : decode cX5_readCharge 6 = .ok (.bipush 24, 2) := by decide +kernel
theorem dX5_readCharge_8 : decode cX5_readCharge 8 = .ok (.if_icmp .lt 9, 3) := by decide +kernel
theorem dX5_readCharge_11 : decode cX5_readCharge 11 = .ok (.aload_n 0, 1) := by decide +kernel
theorem dX5_readCharge_12 : decode cX5_readCharge 12 = .ok (.iconst 3, 1) := by decide +kernel
theorem dX5_readCharge_13 : decode cX5_readCharge 13 = .ok (.invokevirtual 57, 3) := by decide +kernel
theorem dX5_readCharge_16 : decode cX5_readCharge 16 = .ok (.ireturn, 1) := by decide +kernel
theorem dX5_readCharge_17 : decode cX5_readCharge 17 = .ok (.aload_n 1, 1) := by decide +kernel
theorem dX5_readCharge_18 : decode cX5_readCharge 18 = .ok (.dup, 1) := by decide +kernel
theorem dX5_readCharge_19 : decode cX5_readCharge 19 = .ok (.getfield 106, 3) := by decide +kernel
theorem dX5_readCharge_22 : decode cX5_readCharge 22 = .ok (.iconst 1, 1) := by decide +kernel
theorem dX5_readCharge_23 : decode cX5_readCharge 23 = .ok (.iadd, 1) := by decide +kernel
theorem dX5_readCharge_24 : decode cX5_readCharge 24 = .ok (.putfield 106, 3) := by decide +kernel
theorem dX5_readCharge_27 : decode cX5_readCharge 27 = .ok (.aload_n 1, 1) := by decide +kernel
theorem dX5_readCharge_28 : decode cX5_readCharge 28 = .ok (.getfield 109, 3) := by decide +kernel
theorem dX5_readCharge_31 : decode cX5_readCharge 31 = .ok (.iload_n 2, 1) := by decide +kernel
theorem dX5_readCharge_32 : decode cX5_readCharge 32 = .ok (.aload_n 0, 1) := by decide +kernel
theorem dX5_readCharge_33 : decode cX5_readCharge 33 = .ok (.getfield 45, 3) := by decide +kernel
theorem dX5_readCharge_36 : decode cX5_readCharge 36 = .ok (.iastore, 1) := by decide +kernel
theorem dX5_readCharge_37 : decode cX5_readCharge 37 = .ok (.aload_n 1, 1) := by decide +kernel
theorem dX5_readCharge_38 : decode cX5_readCharge 38 = .ok (.getfield 112, 3) := by decide +kernel
theorem dX5_readCharge_41 : decode cX5_readCharge 41 = .ok (.iload_n 2, 1) := by decide +kernel
theorem dX5_readCharge_42 : decode cX5_readCharge 42 = .ok (.iconst (-1), 1) := by decide +kernel
theorem dX5_readCharge_43 : decode cX5_readCharge 43 = .ok (.iastore, 1) := by decide +kernel
theorem dX5_readCharge_44 : decode cX5_readCharge 44 = .ok (.aload_n 0, 1) := by decide +kernel
theorem dX5_readCharge_45 : decode cX5_readCharge 45 = .ok (.invokevirtual 81, 3) := by decide +kernel
theorem dX5_readCharge_48 : decode cX5_readCharge 48 = .ok (.aload_n 0, 1) := by decide +kernel
theorem dX5_readCharge_49 : decode cX5_readCharge 49 = .ok (.iconst 0, 1) := by decide +kernel
theorem dX5_readCharge_50 : decode cX5_readCharge 50 = .ok (.invokevirtual 115, 3) := by decide +kernel
theorem dX5_readCharge_53 : decode cX5_readCharge 53 = .ok (.ifCond .ne 5, 3) := by decide +kernel
theorem dX5_readCharge_56 : decode cX5_readCharge 56 = .ok (.iconst 0, 1) := by decide +kernel
theorem dX5_readCharge_57 : decode cX5_readCharge 57 = .ok (.ireturn, 1) := by decide +kernel
theorem dX5_readCharge_58 : decode cX5_readCharge 58 = .ok (.aload_n 0, 1) := by decide +kernel
theorem dX5_readCharge_59 : decode cX5_readCharge 59 = .ok (.bipush (-100), 2) := by decide +kernel
theorem dX5_readCharge_61 : decode cX5_readCharge 61 = .ok (.invokevirtual 118, 3) := by decide +kernel
theorem dX5_readCharge_64 : decode cX5_readCharge 64 = .ok (.aload_n 0, 1) := by decide +kernel
theorem dX5_readCharge_65 : decode cX5_readCharge 65 = .ok (.getfield 51, 3) := by decide +kernel
theorem dX5_readCharge_68 : decode cX5_readCharge 68 = .ok (.bipush 13, 2) := by decide +kernel
theorem dX5_readCharge_70 : decode cX5_readCharge 70 = .ok (.if_icmp .eq 5, 3) := by decide +kernel
theorem dX5_readCharge_73 : decode cX5_readCharge 73 = .ok (.iconst 1, 1) := by decide +kernel
theorem dX5_readCharge_74 : decode cX5_readCharge 74 = .ok (.ireturn, 1) := by decide +kernel
theorem dX5_readCharge_75 : decode cX5_readCharge 75 = .ok (.aload_n 0, 1) := by decide +kernel
theorem dX5_readCharge_76 : decode cX5_readCharge 76 = .ok (.invokevirtual 81, 3) := by decide +kernel
theorem dX5_readCharge_79 : decode cX5_readCharge 79 = .ok (.aload_n 1, 1) := by decide +kernel
theorem dX5_readCharge_80 : decode cX5_readCharge 80 = .ok (.getfield 112, 3) := by decide +kernel
theorem dX5_readCharge_83 : decode cX5_readCharge 83 = .ok (.iload_n 2, 1) := by decide +kernel
theorem dX5_readCharge_84 : decode cX5_readCharge 84 = .ok (.aload_n 0, 1) := by decide +kernel
theorem dX5_readCharge_85 : decode cX5_readCharge 85 = .ok (.getfield 45, 3) := by decide +kernel
theorem dX5_readCharge_88 : decode cX5_readCharge 88 = .ok (.iastore, 1) := by decide +kernel
theorem dX5_readCharge_89 : decode cX5_readCharge 89 = .ok (.aload_n 0, 1) := by decide +kernel
theorem dX5_readCharge_90 : decode cX5_readCharge 90 = .ok (.invokevirtual 121, 3) := by decide +kernel
theorem dX5_readCharge_93 : decode cX5_readCharge 93 = .ok (.istore_n 3, 1) := by decide +kernel
theorem dX5_readCharge_94 : decode cX5_readCharge 94 = .ok (.aload_n 0, 1) := by decide +kernel
theorem dX5_readCharge_95 : decode cX5_readCharge 95 = .ok (.bipush (-100), 2) := by decide +kernel
theorem dX5_readCharge_97 : decode cX5_readCharge 97 = .ok (.invokevirtual 118, 3) := by decide +kernel
theorem dX5_readCharge_100 : decode cX5_readCharge 100 = .ok (.iload_n 3, 1) := by decide +kernel
theorem dX5_readCharge_101 : decode cX5_readCharge 101 = .ok (.ireturn, 1) := by decide +kernel
theorem bX5_readCharge_0 {d : Nat} {h0 hE h : ea_H} {rv : Option ea_V} {r0 : Option Nat} {r1 : Option Nat} (H : ∃ a3, r1 = some a3 ∧ a3 < ea_n h ∧ ea_c h a3 = 0 ∧ ((ea_i h a3 8) < (24 : Int32) → a3 < ea_n h ∧ ea_c h a3 = 0 ∧ a3 < ea_n h ∧ ea_c h a3 = 0 ∧ ∀ h9, h9 = ea_wi h a3 8 ((ea_i h a3 8) + (1 : Int32)) → a3 < ea_n h9 ∧ ea_c h9 a3 = 0 ∧ ∃ a15, r0 = some a15 ∧ a15 < ea_n h9 ∧ ea_c h9 a15 = 5 ∧ ∃ a19, (ea_r h9 a3 9) = some a19 ∧ a19 < ea_n h9 ∧ ea_c h9 a19 = 20 ∧ vp_in (ea_i h a3 8) (ea_l h9 a19) ∧ ∀ h22, h22 = ea_wi h9 a19 (Int32.toNatClampNeg (ea_i h a3 8)) (ea_i h9 a15 11) → a3 < ea_n h22 ∧ ea_c h22 a3 = 0 ∧ ∃ a28, (ea_r h22 a3 10) = some a28 ∧ a28 < ea_n h22 ∧ ea_c h22 a28 = 20 ∧ vp_in (ea_i h a3 8) (ea_l h22 a28) ∧ ∀ h31, h31 = ea_wi h22 a28 (Int32.toNatClampNeg (ea_i h a3 8)) (-1) → a15 < ea_n h31 ∧ ea_c h31 a15 = 5 ∧ ∃ (d33 : Nat) (h34 : ea_H), ea_Met mX5_step d33 [vR (some a15)] h31 none h34 ∧ d33 + 1 ≤ d ∧ a15 < ea_n h34 ∧ ea_c h34 a15 = 5 ∧ ∃ (d39 : Nat) (xc45 : Int32) (h40 : ea_H), ea_Met mX5_readSum d39 [vR (some a15), vI 0] h34 (some (vI xc45)) h40 ∧ d39 + 1 ≤ d ∧ (¬ xc45 = (0 : Int32) → a15 < ea_n h40 ∧ ea_c h40 a15 = 5 ∧ ∃ (d46 : Nat) (h47 : ea_H), ea_Met mX5_put d46 [vR (some a15), vI (-100)] h40 none h47 ∧ d46 + 1 ≤ d ∧ a15 < ea_n h47 ∧ ea_c h47 a15 = 5 ∧ ((ea_i h47 a15 9) = (13 : Int32) → a15 < ea_n h47 ∧ ea_c h47 a15 = 5 ∧ ∃ (d54 : Nat) (h55 : ea_H), ea_Met mX5_step d54 [vR (some a15)] h47 none h55 ∧ d54 + 1 ≤ d ∧ a3 < ea_n h55 ∧ ea_c h55 a3 = 0 ∧ a15 < ea_n h55 ∧ ea_c h55 a15 = 5 ∧ ∃ a66, (ea_r h55 a3 10) = some a66 ∧ a66 < ea_n h55 ∧ ea_c h55 a66 = 20 ∧ vp_in (ea_i h a3 8) (ea_l h55 a66) ∧ ∀ h69, h69 = ea_wi h55 a66 (Int32.toNatClampNeg (ea_i h a3 8)) (ea_i h55 a15 11) → a15 < ea_n h69 ∧ ea_c h69 a15 = 5 ∧ ∃ (d71 : Nat) (xc77 : Int32) (h72 : ea_H), ea_Met mX5_readWhen d71 [vR (some a15)] h69 (some (vI xc77)) h72 ∧ d71 + 1 ≤ d ∧ a15 < ea_n h72 ∧ ea_c h72 a15 = 5 ∧ ∃ (d78 : Nat) (h79 : ea_H), ea_Met mX5_put d78 [vR (some a15), vI (-100)] h72 none h79 ∧ d78 + 1 ≤ d ∧ (xc77 = 0 ∨ xc77 = 1) ∧ rv = some (vI xc77) ∧ hE = h79) ∧ (¬ (ea_i h47 a15 9) = (13 : Int32) → rv = some (vI 1) ∧ hE = h47)) ∧ (xc45 = (0 : Int32) → rv = some (vI 0) ∧ hE = h40)) ∧ (¬ (ea_i h a3 8) < (24 : Int32) → ∃ a93, r0 = some a93 ∧ a93 < ea_n h ∧ ea_c h a93 = 5 ∧ ∃ (d87 : Nat) (xc95 : Int32) (h88 : ea_H), ea_Met mX5_refuse d87 [vR (some a93), vI 3] h (some (vI xc95)) h88 ∧ d87 + 1 ≤ d ∧ (xc95 = 0 ∨ xc95 = 1) ∧ rv = some (vI xc95) ∧ hE = h88)) : ea_W mX5_readCharge d h0 rv hE 0 [(0, vR r0), (1, vR r1)] [] h := by
  refine ea_aload_n (pc := 0) dX5_readCharge_0 rfl 1 rfl ?_
  obtain ⟨a3, e4, f1, g2, H⟩ := H
  refine ea_deref0 e4 ?_
  refine ea_getI (pc := 1) dX5_readCharge_1 ec_0 (k := 8) (Nat.le_of_ble_eq_true rfl) rfl (Or.inl ew_816) f1 g2 ?_
  refine ea_istore_n (pc := 4) (lv' := [(0, vR r0), (1, vR r1), (2, vI (ea_i h a3 8))]) dX5_readCharge_4 rfl (Nat.le_of_ble_eq_true rfl) [1, 2, 0] rfl ?_
  refine ea_iload_n (pc := 5) dX5_readCharge_5 rfl 2 rfl ?_
  refine ea_bipush (pc := 6) dX5_readCharge_6 (v := 24) rfl ?_
  refine ea_icmp_lt (pc := 8) (tgt := 17) dX5_readCharge_8 rfl (fun c97 => ?_) (fun c97 => ?_)
  · have H := H.1 c97
    refine ea_aload_n (pc := 17) dX5_readCharge_17 rfl 1 rfl ?_
    refine ea_dup (pc := 18) dX5_readCharge_18 rfl ?_
    obtain ⟨f5, g6, H⟩ := H
    refine ea_deref0 e4 ?_
    refine ea_getI (pc := 19) dX5_readCharge_19 ec_0 (k := 8) (Nat.le_of_ble_eq_true rfl) rfl (Or.inl ew_816) f5 g6 ?_
    refine ea_iconst (pc := 22) dX5_readCharge_22 (v := 1) rfl ?_
    refine ea_iadd (pc := 23) dX5_readCharge_23 ?_
    obtain ⟨f7, g8, H⟩ := H
    refine ea_deref1 e4 ?_
    refine ea_putI (pc := 24) dX5_readCharge_24 ec_0 (k := 8) (Nat.le_of_ble_eq_true rfl) rfl (Or.inl ⟨rfl, Or.inl ew_816⟩) rfl rfl f7 g8 ?_
    obtain ⟨h9, E10⟩ : ∃ z, z = ea_wi h a3 8 ((ea_i h a3 8) + (1 : Int32)) := ⟨_, rfl⟩
    have H := H h9 E10
    refine ea_nm E10 ?_
    refine ea_aload_n (pc := 27) dX5_readCharge_27 rfl 1 rfl ?_
    obtain ⟨f11, g12, H⟩ := H
    refine ea_deref0 e4 ?_
    refine ea_getR (pc := 28) dX5_readCharge_28 ec_0 (k := 9) (Nat.le_of_ble_eq_true rfl) rfl (Or.inl ew_819) f11 g12 rfl ?_
    refine ea_iload_n (pc := 31) dX5_readCharge_31 rfl 2 rfl ?_
    refine ea_aload_n (pc := 32) dX5_readCharge_32 rfl 0 rfl ?_
    obtain ⟨a15, e16, f13, g14, H⟩ := H
    refine ea_deref0 e16 ?_
    refine ea_getI (pc := 33) dX5_readCharge_33 ec_5 (k := 11) (Nat.le_of_ble_eq_true rfl) rfl (Or.inl ew_305) f13 g14 ?_
    obtain ⟨a19, e20, f17, g18, H⟩ := H
    refine ea_deref2 e20 ?_
    obtain ⟨z21, H⟩ := H
    refine ea_iast (pc := 36) dX5_readCharge_36 f17 g18 z21 ?_
    obtain ⟨h22, E23⟩ : ∃ z, z = ea_wi h9 a19 (Int32.toNatClampNeg (ea_i h a3 8)) (ea_i h9 a15 11) := ⟨_, rfl⟩
    have H := H h22 E23
    refine ea_nm E23 ?_
    refine ea_aload_n (pc := 37) dX5_readCharge_37 rfl 1 rfl ?_
    obtain ⟨f24, g25, H⟩ := H
    refine ea_deref0 e4 ?_
    refine ea_getR (pc := 38) dX5_readCharge_38 ec_0 (k := 10) (Nat.le_of_ble_eq_true rfl) rfl (Or.inl ew_822) f24 g25 rfl ?_
    refine ea_iload_n (pc := 41) dX5_readCharge_41 rfl 2 rfl ?_
    refine ea_iconst (pc := 42) dX5_readCharge_42 (v := (-1)) rfl ?_
    obtain ⟨a28, e29, f26, g27, H⟩ := H
    refine ea_deref2 e29 ?_
    obtain ⟨z30, H⟩ := H
    refine ea_iast (pc := 43) dX5_readCharge_43 f26 g27 z30 ?_
    obtain ⟨h31, E32⟩ : ∃ z, z = ea_wi h22 a28 (Int32.toNatClampNeg (ea_i h a3 8)) (-1) := ⟨_, rfl⟩
    have H := H h31 E32
    refine ea_nm E32 ?_
    refine ea_aload_n (pc := 44) dX5_readCharge_44 rfl 0 rfl ?_
    obtain ⟨f37, g38, H⟩ := H
    refine ea_deref0 e16 ?_
    obtain ⟨d33, h34, m35, q36, H⟩ := H
    refine ea_callV (pc := 45) (As := []) (st := []) dX5_readCharge_45 kX5_step m35 q36 rfl (Nat.le_of_ble_eq_true rfl) ew_859 ew_861 ew_22 (ci := 5) rfl (by decide) f37 g38 ?_
    refine ea_aload_n (pc := 48) dX5_readCharge_48 rfl 0 rfl ?_
    refine ea_iconst (pc := 49) dX5_readCharge_49 (v := 0) rfl ?_
    obtain ⟨f43, g44, H⟩ := H
    refine ea_deref1 e16 ?_
    obtain ⟨d39, xc45, h40, m41, q42, H⟩ := H
    refine ea_callV (pc := 50) (As := [vI 0]) (st := []) dX5_readCharge_50 kX5_readSum m41 q42 rfl (Nat.le_of_ble_eq_true rfl) ew_863 ew_865 ew_23 (ci := 5) rfl (by decide) f43 g44 ?_
    refine ea_if_ne (pc := 53) (tgt := 58) dX5_readCharge_53 rfl (fun c86 => ?_) (fun c86 => ?_)
    · have H := H.1 c86
      refine ea_aload_n (pc := 58) dX5_readCharge_58 rfl 0 rfl ?_
      refine ea_bipush (pc := 59) dX5_readCharge_59 (v := (-100)) rfl ?_
      obtain ⟨f50, g51, H⟩ := H
      refine ea_deref1 e16 ?_
      obtain ⟨d46, h47, m48, q49, H⟩ := H
      refine ea_callV (pc := 61) (As := [vI (-100)]) (st := []) dX5_readCharge_61 kX5_put m48 q49 rfl (Nat.le_of_ble_eq_true rfl) ew_875 ew_877 ew_26 (ci := 5) rfl (by decide) f50 g51 ?_
      refine ea_aload_n (pc := 64) dX5_readCharge_64 rfl 0 rfl ?_
      obtain ⟨f52, g53, H⟩ := H
      refine ea_deref0 e16 ?_
      refine ea_getI (pc := 65) dX5_readCharge_65 ec_5 (k := 9) (Nat.le_of_ble_eq_true rfl) rfl (Or.inl ew_303) f52 g53 ?_
      refine ea_bipush (pc := 68) dX5_readCharge_68 (v := 13) rfl ?_
      refine ea_icmp_eq (pc := 70) (tgt := 75) dX5_readCharge_70 rfl (fun c85 => ?_) (fun c85 => ?_)
      · have H := H.1 c85
        refine ea_aload_n (pc := 75) dX5_readCharge_75 rfl 0 rfl ?_
        obtain ⟨f58, g59, H⟩ := H
        refine ea_deref0 e16 ?_
        obtain ⟨d54, h55, m56, q57, H⟩ := H
        refine ea_callV (pc := 76) (As := []) (st := []) dX5_readCharge_76 kX5_step m56 q57 rfl (Nat.le_of_ble_eq_true rfl) ew_859 ew_861 ew_22 (ci := 5) rfl (by decide) f58 g59 ?_
        refine ea_aload_n (pc := 79) dX5_readCharge_79 rfl 1 rfl ?_
        obtain ⟨f60, g61, H⟩ := H
        refine ea_deref0 e4 ?_
        refine ea_getR (pc := 80) dX5_readCharge_80 ec_0 (k := 10) (Nat.le_of_ble_eq_true rfl) rfl (Or.inl ew_822) f60 g61 rfl ?_
        refine ea_iload_n (pc := 83) dX5_readCharge_83 rfl 2 rfl ?_
        refine ea_aload_n (pc := 84) dX5_readCharge_84 rfl 0 rfl ?_
        obtain ⟨f62, g63, H⟩ := H
        refine ea_deref0 e16 ?_
        refine ea_getI (pc := 85) dX5_readCharge_85 ec_5 (k := 11) (Nat.le_of_ble_eq_true rfl) rfl (Or.inl ew_305) f62 g63 ?_
        obtain ⟨a66, e67, f64, g65, H⟩ := H
        refine ea_deref2 e67 ?_
        obtain ⟨z68, H⟩ := H
        refine ea_iast (pc := 88) dX5_readCharge_88 f64 g65 z68 ?_
        obtain ⟨h69, E70⟩ : ∃ z, z = ea_wi h55 a66 (Int32.toNatClampNeg (ea_i h a3 8)) (ea_i h55 a15 11) := ⟨_, rfl⟩
        have H := H h69 E70
        refine ea_nm E70 ?_
        refine ea_aload_n (pc := 89) dX5_readCharge_89 rfl 0 rfl ?_
        obtain ⟨f75, g76, H⟩ := H
        refine ea_deref0 e16 ?_
        obtain ⟨d71, xc77, h72, m73, q74, H⟩ := H
        refine ea_callV (pc := 90) (As := []) (st := []) dX5_readCharge_90 kX5_readWhen m73 q74 rfl (Nat.le_of_ble_eq_true rfl) ew_879 ew_881 ew_27 (ci := 5) rfl (by decide) f75 g76 ?_
        refine ea_istore_n (pc := 93) (lv' := [(0, vR r0), (3, vI xc77)]) dX5_readCharge_93 rfl (Nat.le_of_ble_eq_true rfl) [1, 0] rfl ?_
        refine ea_aload_n (pc := 94) dX5_readCharge_94 rfl 0 rfl ?_
        refine ea_bipush (pc := 95) dX5_readCharge_95 (v := (-100)) rfl ?_
        obtain ⟨f82, g83, H⟩ := H
        refine ea_deref1 e16 ?_
        obtain ⟨d78, h79, m80, q81, H⟩ := H
        refine ea_callV (pc := 97) (As := [vI (-100)]) (st := []) dX5_readCharge_97 kX5_put m80 q81 rfl (Nat.le_of_ble_eq_true rfl) ew_875 ew_877 ew_26 (ci := 5) rfl (by decide) f82 g83 ?_
        refine ea_iload_n (pc := 100) dX5_readCharge_100 rfl 1 rfl ?_
        obtain ⟨z84, rfl, rfl⟩ := H
        exact ea_ireturn (pc := 101) dX5_readCharge_101 rfl (ea_bn z84)
      · have H := H.2 c85
        refine ea_iconst (pc := 73) dX5_readCharge_73 (v := 1) rfl ?_
        obtain ⟨rfl, rfl⟩ := H
        exact ea_ireturn (pc := 74) dX5_readCharge_74 rfl (ea_bn (Or.inr rfl))
    · have H := H.2 c86
      refine ea_iconst (pc := 56) dX5_readCharge_56 (v := 0) rfl ?_
      obtain ⟨rfl, rfl⟩ := H
      exact ea_ireturn (pc := 57) dX5_readCharge_57 rfl (ea_bn (Or.inl rfl))
  · have H := H.2 c97
    refine ea_aload_n (pc := 11) dX5_readCharge_11 rfl 0 rfl ?_
    refine ea_iconst (pc := 12) dX5_readCharge_12 (v := 3) rfl ?_
    obtain ⟨a93, e94, f91, g92, H⟩ := H
    refine ea_deref1 e94 ?_
    obtain ⟨d87, xc95, h88, m89, q90, H⟩ := H
    refine ea_callV (pc := 13) (As := [vI 3]) (st := []) dX5_readCharge_13 kX5_refuse m89 q90 rfl (Nat.le_of_ble_eq_true rfl) ew_851 ew_853 ew_20 (ci := 5) rfl (by decide) f91 g92 ?_
    obtain ⟨z96, rfl, rfl⟩ := H
    exact ea_ireturn (pc := 16) dX5_readCharge_16 rfl (ea_bn z96)
theorem dX5_readWhen_0 : decode cX5_readWhen 0 = .ok (.iconst 0, 1) := by decide +kernel
theorem dX5_readWhen_1 : decode cX5_readWhen 1 = .ok (.istore_n 1, 1) := by decide +kernel
theorem dX5_readWhen_2 : decode cX5_readWhen 2 = .ok (.bipush 13, 2) := by decide +kernel
theorem dX5_readWhen_4 : decode cX5_readWhen 4 = .ok (.istore_n 2, 1) := by decide +kernel
theorem dX5_readWhen_5 : decode cX5_readWhen 5 = .ok (.iconst 0, 1) := by decide +kernel
theorem dX5_readWhen_6 : decode cX5_readWhen 6 = .ok (.istore_n 3, 1) := by decide +kernel
theorem dX5_readWhen_7 : decode cX5_readWhen 7 = .ok (.iload_n 3, 1) := by decide +kernel
theorem dX5_readWhen_8 : decode cX5_readWhen 8 = .ok (.sipush 600, 3) := by decide +kernel
theorem dX5_readWhen_11 : decode cX5_readWhen 11 = .ok (.if_icmp .gt 140, 3) := by decide +kernel
theorem dX5_readWhen_14 : decode cX5_readWhen 14 = .ok (.aload_n 0, 1) := by decide +kernel
theorem dX5_readWhen_15 : decode cX5_readWhen 15 = .ok (.invokevirtual 125, 3) := by decide +kernel
theorem dX5_readWhen_18 : decode cX5_readWhen 18 = .ok (.istore 4, 2) := by decide +kernel
theorem dX5_readWhen_20 : decode cX5_readWhen 20 = .ok (.iload 4, 2) := by decide +kernel
theorem dX5_readWhen_22 : decode cX5_readWhen 22 = .ok (.iconst (-1), 1) := by decide +kernel
theorem dX5_readWhen_23 : decode cX5_readWhen 23 = .ok (.if_icmp .eq 12, 3) := by decide +kernel
theorem dX5_readWhen_26 : decode cX5_readWhen 26 = .ok (.aload_n 0, 1) := by decide +kernel
theorem dX5_readWhen_27 : decode cX5_readWhen 27 = .ok (.iload 4, 2) := by decide +kernel
theorem dX5_readWhen_29 : decode cX5_readWhen 29 = .ok (.invokevirtual 115, 3) := by decide +kernel
theorem dX5_readWhen_32 : decode cX5_readWhen 32 = .ok (.ifCond .ne 5, 3) := by decide +kernel
theorem dX5_readWhen_35 : decode cX5_readWhen 35 = .ok (.iconst 0, 1) := by decide +kernel
theorem dX5_readWhen_36 : decode cX5_readWhen 36 = .ok (.ireturn, 1) := by decide +kernel
theorem dX5_readWhen_37 : decode cX5_readWhen 37 = .ok (.aload_n 0, 1) := by decide +kernel
theorem dX5_readWhen_38 : decode cX5_readWhen 38 = .ok (.invokevirtual 129, 3) := by decide +kernel
theorem dX5_readWhen_41 : decode cX5_readWhen 41 = .ok (.istore 5, 2) := by decide +kernel
theorem dX5_readWhen_43 : decode cX5_readWhen 43 = .ok (.iload 5, 2) := by decide +kernel
theorem dX5_readWhen_45 : decode cX5_readWhen 45 = .ok (.iconst (-1), 1) := by decide +kernel
theorem dX5_readWhen_46 : decode cX5_readWhen 46 = .ok (.if_icmp .ne 9, 3) := by decide +kernel
theorem dX5_readWhen_49 : decode cX5_readWhen 49 = .ok (.aload_n 0, 1) := by decide +kernel
theorem dX5_readWhen_50 : decode cX5_readWhen 50 = .ok (.iconst 1, 1) := by decide +kernel
theorem dX5_readWhen_51 : decode cX5_readWhen 51 = .ok (.invokevirtual 57, 3) := by decide +kernel
theorem dX5_readWhen_54 : decode cX5_readWhen 54 = .ok (.ireturn, 1) := by decide +kernel
theorem dX5_readWhen_55 : decode cX5_readWhen 55 = .ok (.aload_n 0, 1) := by decide +kernel
theorem dX5_readWhen_56 : decode cX5_readWhen 56 = .ok (.invokevirtual 81, 3) := by decide +kernel
theorem dX5_readWhen_59 : decode cX5_readWhen 59 = .ok (.aload_n 0, 1) := by decide +kernel
theorem dX5_readWhen_60 : decode cX5_readWhen 60 = .ok (.iload 4, 2) := by decide +kernel
theorem dX5_readWhen_62 : decode cX5_readWhen 62 = .ok (.invokevirtual 115, 3) := by decide +kernel
theorem dX5_readWhen_65 : decode cX5_readWhen 65 = .ok (.ifCond .ne 5, 3) := by decide +kernel
theorem dX5_readWhen_68 : decode cX5_readWhen 68 = .ok (.iconst 0, 1) := by decide +kernel
theorem dX5_readWhen_69 : decode cX5_readWhen 69 = .ok (.ireturn, 1) := by decide +kernel
theorem dX5_readWhen_70 : decode cX5_readWhen 70 = .ok (.aload_n 0, 1) := by decide +kernel
theorem dX5_readWhen_71 : decode cX5_readWhen 71 = .ok (.iload 5, 2) := by decide +kernel
theorem dX5_readWhen_73 : decode cX5_readWhen 73 = .ok (.invokevirtual 118, 3) := by decide +kernel
theorem dX5_readWhen_76 : decode cX5_readWhen 76 = .ok (.iload 4, 2) := by decide +kernel
theorem dX5_readWhen_78 : decode cX5_readWhen 78 = .ok (.iconst 2, 1) := by decide +kernel
theorem dX5_readWhen_79 : decode cX5_readWhen 79 = .ok (.irem, 1) := by decide +kernel
theorem dX5_readWhen_80 : decode cX5_readWhen 80 = .ok (.iconst 1, 1) := by decide +kernel
theorem dX5_readWhen_81 : decode cX5_readWhen 81 = .ok (.if_icmp .ne 9, 3) := by decide +kernel
theorem dX5_readWhen_84 : decode cX5_readWhen 84 = .ok (.aload_n 0, 1) := by decide +kernel
theorem dX5_readWhen_85 : decode cX5_readWhen 85 = .ok (.bipush (-17), 2) := by decide +kernel
theorem dX5_readWhen_87 : decode cX5_readWhen 87 = .ok (.invokevirtual 118, 3) := by decide +kernel
theorem dX5_readWhen_90 : decode cX5_readWhen 90 = .ok (.iload_n 2, 1) := by decide +kernel
theorem dX5_readWhen_91 : decode cX5_readWhen 91 = .ok (.bipush 16, 2) := by decide +kernel
theorem dX5_readWhen_93 : decode cX5_readWhen 93 = .ok (.if_icmp .ne 9, 3) := by decide +kernel
theorem dX5_readWhen_96 : decode cX5_readWhen 96 = .ok (.aload_n 0, 1) := by decide +kernel
theorem dX5_readWhen_97 : decode cX5_readWhen 97 = .ok (.bipush (-18), 2) := by decide +kernel
theorem dX5_readWhen_99 : decode cX5_readWhen 99 = .ok (.invokevirtual 118, 3) := by decide +kernel
theorem dX5_readWhen_102 : decode cX5_readWhen 102 = .ok (.aload_n 0, 1) := by decide +kernel
theorem dX5_readWhen_103 : decode cX5_readWhen 103 = .ok (.getfield 51, 3) := by decide +kernel
theorem dX5_readWhen_106 : decode cX5_readWhen 106 = .ok (.istore_n 2, 1) := by decide +kernel
theorem dX5_readWhen_107 : decode cX5_readWhen 107 = .ok (.iload_n 2, 1) := by decide +kernel
theorem dX5_readWhen_108 : decode cX5_readWhen 108 = .ok (.bipush 16, 2) := by decide +kernel
theorem dX5_readWhen_110 : decode cX5_readWhen 110 = .ok (.if_icmp .eq 31, 3) := by decide +kernel
theorem dX5_readWhen_113 : decode cX5_readWhen 113 = .ok (.iload_n 1, 1) := by decide +kernel
theorem dX5_readWhen_114 : decode cX5_readWhen 114 = .ok (.ifCond .eq 9, 3) := by decide +kernel
theorem dX5_readWhen_117 : decode cX5_readWhen 117 = .ok (.aload_n 0, 1) := by decide +kernel
theorem dX5_readWhen_118 : decode cX5_readWhen 118 = .ok (.bipush (-19), 2) := by decide +kernel
theorem dX5_readWhen_120 : decode cX5_readWhen 120 = .ok (.invokevirtual 118, 3) := by decide +kernel
theorem dX5_readWhen_123 : decode cX5_readWhen 123 = .ok (.iload_n 2, 1) := by decide +kernel
theorem dX5_readWhen_124 : decode cX5_readWhen 124 = .ok (.bipush 17, 2) := by decide +kernel
theorem dX5_readWhen_126 : decode cX5_readWhen 126 = .ok (.if_icmp .ne 7, 3) := by decide +kernel
theorem dX5_readWhen_129 : decode cX5_readWhen 129 = .ok (.iconst 1, 1) := by decide +kernel
theorem dX5_readWhen_130 : decode cX5_readWhen 130 = .ok (.goto 4, 3) := by decide +kernel
theorem dX5_readWhen_133 : decode cX5_readWhen 133 = .ok (.iconst 0, 1) := by decide +kernel
theorem dX5_readWhen_134 : decode cX5_readWhen 134 = .ok (.istore_n 1, 1) := by decide +kernel
theorem dX5_readWhen_135 : decode cX5_readWhen 135 = .ok (.iload_n 1, 1) := by decide +kernel
theorem dX5_readWhen_136 : decode cX5_readWhen 136 = .ok (.ifCond .ne 5, 3) := by decide +kernel
theorem dX5_readWhen_139 : decode cX5_readWhen 139 = .ok (.iconst 1, 1) := by decide +kernel
theorem dX5_readWhen_140 : decode cX5_readWhen 140 = .ok (.ireturn, 1) := by decide +kernel
theorem dX5_readWhen_141 : decode cX5_readWhen 141 = .ok (.aload_n 0, 1) := by decide +kernel
theorem dX5_readWhen_142 : decode cX5_readWhen 142 = .ok (.invokevirtual 81, 3) := by decide +kernel
theorem dX5_readWhen_145 : decode cX5_readWhen 145 = .ok (.iinc 3 1, 3) := by decide +kernel
theorem dX5_readWhen_148 : decode cX5_readWhen 148 = .ok (.goto (-141), 3) := by decide +kernel
theorem dX5_readWhen_151 : decode cX5_readWhen 151 = .ok (.iconst 0, 1) := by decide +kernel
theorem dX5_readWhen_152 : decode cX5_readWhen 152 = .ok (.ireturn, 1) := by decide +kernel
theorem bX5_readWhen_0 {d : Nat} {h0 hE h : ea_H} {rv : Option ea_V} {r0 : Option Nat} (H : ea_W mX5_readWhen d h0 rv hE 7 [(0, vR r0), (1, vI 0), (2, vI 13), (3, vI 0)] [] h) : ea_W mX5_readWhen d h0 rv hE 0 [(0, vR r0)] [] h := by
  refine ea_iconst (pc := 0) dX5_readWhen_0 (v := 0) rfl ?_
  refine ea_istore_n (pc := 1) (lv' := [(0, vR r0), (1, vI 0)]) dX5_readWhen_1 rfl (Nat.le_of_ble_eq_true rfl) [1, 0] rfl ?_
  refine ea_bipush (pc := 2) dX5_readWhen_2 (v := 13) rfl ?_
  refine ea_istore_n (pc := 4) (lv' := [(0, vR r0), (1, vI 0), (2, vI 13)]) dX5_readWhen_4 rfl (Nat.le_of_ble_eq_true rfl) [1, 2, 0] rfl ?_
  refine ea_iconst (pc := 5) dX5_readWhen_5 (v := 0) rfl ?_
  refine ea_istore_n (pc := 6) (lv' := [(0, vR r0), (1, vI 0), (2, vI 13), (3, vI 0)]) dX5_readWhen_6 rfl (Nat.le_of_ble_eq_true rfl) [1, 2, 3, 0] rfl ?_
  exact H
theorem bX5_readWhen_7 {d : Nat} {h0 hE h : ea_H} {rv : Option ea_V} {r0 : Option Nat} {x1 : Int32} {x2 : Int32} {x3 : Int32} (H : ((600 : Int32) < x3 → rv = some (vI 0) ∧ hE = h) ∧ (¬ (600 : Int32) < x3 → ∃ a7, r0 = some a7 ∧ a7 < ea_n h ∧ ea_c h a7 = 5 ∧ ∃ (d1 : Nat) (xc9 : Int32) (h2 : ea_H), ea_Met mX5_readNots d1 [vR (some a7)] h (some (vI xc9)) h2 ∧ d1 + 1 ≤ d ∧ (xc9 = ((-1) : Int32) → rv = some (vI 0) ∧ hE = h2) ∧ (¬ xc9 = ((-1) : Int32) → a7 < ea_n h2 ∧ ea_c h2 a7 = 5 ∧ ∃ (d10 : Nat) (xc16 : Int32) (h11 : ea_H), ea_Met mX5_readSum d10 [vR (some a7), vI xc9] h2 (some (vI xc16)) h11 ∧ d10 + 1 ≤ d ∧ (¬ xc16 = (0 : Int32) → a7 < ea_n h11 ∧ ea_c h11 a7 = 5 ∧ ∃ (d17 : Nat) (xc23 : Int32) (h18 : ea_H), ea_Met mX5_comparison d17 [vR (some a7)] h11 (some (vI xc23)) h18 ∧ d17 + 1 ≤ d ∧ (¬ xc23 = ((-1) : Int32) → a7 < ea_n h18 ∧ ea_c h18 a7 = 5 ∧ ∃ (d24 : Nat) (h25 : ea_H), ea_Met mX5_step d24 [vR (some a7)] h18 none h25 ∧ d24 + 1 ≤ d ∧ a7 < ea_n h25 ∧ ea_c h25 a7 = 5 ∧ ∃ (d30 : Nat) (xc36 : Int32) (h31 : ea_H), ea_Met mX5_readSum d30 [vR (some a7), vI xc9] h25 (some (vI xc36)) h31 ∧ d30 + 1 ≤ d ∧ (¬ xc36 = (0 : Int32) → a7 < ea_n h31 ∧ ea_c h31 a7 = 5 ∧ ∃ (d37 : Nat) (h38 : ea_H), ea_Met mX5_put d37 [vR (some a7), vI xc23] h31 none h38 ∧ d37 + 1 ≤ d ∧ (¬ (xc9 - xc9 / (2 : Int32) * (2 : Int32)) = (1 : Int32) → ea_W mX5_readWhen d h0 rv hE 90 [(0, vR r0), (1, vI x1), (2, vI x2), (3, vI x3)] [] h38) ∧ ((xc9 - xc9 / (2 : Int32) * (2 : Int32)) = (1 : Int32) → a7 < ea_n h38 ∧ ea_c h38 a7 = 5 ∧ ∃ (d43 : Nat) (h44 : ea_H), ea_Met mX5_put d43 [vR (some a7), vI (-17)] h38 none h44 ∧ d43 + 1 ≤ d ∧ ea_W mX5_readWhen d h0 rv hE 90 [(0, vR r0), (1, vI x1), (2, vI x2), (3, vI x3)] [] h44)) ∧ (xc36 = (0 : Int32) → rv = some (vI 0) ∧ hE = h31)) ∧ (xc23 = ((-1) : Int32) → a7 < ea_n h18 ∧ ea_c h18 a7 = 5 ∧ ∃ (d51 : Nat) (xc57 : Int32) (h52 : ea_H), ea_Met mX5_refuse d51 [vR (some a7), vI 1] h18 (some (vI xc57)) h52 ∧ d51 + 1 ≤ d ∧ (xc57 = 0 ∨ xc57 = 1) ∧ rv = some (vI xc57) ∧ hE = h52)) ∧ (xc16 = (0 : Int32) → rv = some (vI 0) ∧ hE = h11)))) : ea_W mX5_readWhen d h0 rv hE 7 [(0, vR r0), (1, vI x1), (2, vI x2), (3, vI x3)] [] h := by
  refine ea_iload_n (pc := 7) dX5_readWhen_7 rfl 3 rfl ?_
  refine ea_sipush (pc := 8) dX5_readWhen_8 (v := 600) rfl ?_
  refine ea_icmp_gt (pc := 11) (tgt := 151) dX5_readWhen_11 rfl (fun c62 => ?_) (fun c62 => ?_)
  · have H := H.1 c62
    refine ea_iconst (pc := 151) dX5_readWhen_151 (v := 0) rfl ?_
    obtain ⟨rfl, rfl⟩ := H
    exact ea_ireturn (pc := 152) dX5_readWhen_152 rfl (ea_bn (Or.inl rfl))
  · have H := H.2 c62
    refine ea_aload_n (pc := 14) dX5_readWhen_14 rfl 0 rfl ?_
    obtain ⟨a7, e8, f5, g6, H⟩ := H
    refine ea_deref0 e8 ?_
    obtain ⟨d1, xc9, h2, m3, q4, H⟩ := H
    refine ea_callV (pc := 15) (As := []) (st := []) dX5_readWhen_15 kX5_readNots m3 q4 rfl (Nat.le_of_ble_eq_true rfl) ew_883 ew_885 ew_28 (ci := 5) rfl (by decide) f5 g6 ?_
    refine ea_istore (pc := 18) (lv' := [(0, vR r0), (1, vI x1), (2, vI x2), (3, vI x3), (4, vI xc9)]) dX5_readWhen_18 (Nat.le_of_ble_eq_true rfl) [1, 2, 3, 4, 0] rfl ?_
    refine ea_iload (pc := 20) dX5_readWhen_20 4 rfl ?_
    refine ea_iconst (pc := 22) dX5_readWhen_22 (v := (-1)) rfl ?_
    refine ea_icmp_eq (pc := 23) (tgt := 35) dX5_readWhen_23 rfl (fun c61 => ?_) (fun c61 => ?_)
    · have H := H.1 c61
      refine ea_iconst (pc := 35) dX5_readWhen_35 (v := 0) rfl ?_
      obtain ⟨rfl, rfl⟩ := H
      exact ea_ireturn (pc := 36) dX5_readWhen_36 rfl (ea_bn (Or.inl rfl))
    · have H := H.2 c61
      refine ea_aload_n (pc := 26) dX5_readWhen_26 rfl 0 rfl ?_
      refine ea_iload (pc := 27) dX5_readWhen_27 4 rfl ?_
      obtain ⟨f14, g15, H⟩ := H
      refine ea_deref1 e8 ?_
      obtain ⟨d10, xc16, h11, m12, q13, H⟩ := H
      refine ea_callV (pc := 29) (As := [vI xc9]) (st := []) dX5_readWhen_29 kX5_readSum m12 q13 rfl (Nat.le_of_ble_eq_true rfl) ew_863 ew_865 ew_23 (ci := 5) rfl (by decide) f14 g15 ?_
      refine ea_if_ne (pc := 32) (tgt := 37) dX5_readWhen_32 rfl (fun c60 => ?_) (fun c60 => ?_)
      · have H := H.1 c60
        refine ea_aload_n (pc := 37) dX5_readWhen_37 rfl 0 rfl ?_
        obtain ⟨f21, g22, H⟩ := H
        refine ea_deref0 e8 ?_
        obtain ⟨d17, xc23, h18, m19, q20, H⟩ := H
        refine ea_callV (pc := 38) (As := []) (st := []) dX5_readWhen_38 kX5_comparison m19 q20 rfl (Nat.le_of_ble_eq_true rfl) ew_887 ew_889 ew_29 (ci := 5) rfl (by decide) f21 g22 ?_
        refine ea_istore (pc := 41) (lv' := [(0, vR r0), (1, vI x1), (2, vI x2), (3, vI x3), (4, vI xc9), (5, vI xc23)]) dX5_readWhen_41 (Nat.le_of_ble_eq_true rfl) [1, 2, 3, 4, 5, 0] rfl ?_
        refine ea_iload (pc := 43) dX5_readWhen_43 5 rfl ?_
        refine ea_iconst (pc := 45) dX5_readWhen_45 (v := (-1)) rfl ?_
        refine ea_icmp_ne (pc := 46) (tgt := 55) dX5_readWhen_46 rfl (fun c59 => ?_) (fun c59 => ?_)
        · have H := H.1 c59
          refine ea_aload_n (pc := 55) dX5_readWhen_55 rfl 0 rfl ?_
          obtain ⟨f28, g29, H⟩ := H
          refine ea_deref0 e8 ?_
          obtain ⟨d24, h25, m26, q27, H⟩ := H
          refine ea_callV (pc := 56) (As := []) (st := []) dX5_readWhen_56 kX5_step m26 q27 rfl (Nat.le_of_ble_eq_true rfl) ew_859 ew_861 ew_22 (ci := 5) rfl (by decide) f28 g29 ?_
          refine ea_aload_n (pc := 59) dX5_readWhen_59 rfl 0 rfl ?_
          refine ea_iload (pc := 60) dX5_readWhen_60 4 rfl ?_
          obtain ⟨f34, g35, H⟩ := H
          refine ea_deref1 e8 ?_
          obtain ⟨d30, xc36, h31, m32, q33, H⟩ := H
          refine ea_callV (pc := 62) (As := [vI xc9]) (st := []) dX5_readWhen_62 kX5_readSum m32 q33 rfl (Nat.le_of_ble_eq_true rfl) ew_863 ew_865 ew_23 (ci := 5) rfl (by decide) f34 g35 ?_
          refine ea_if_ne (pc := 65) (tgt := 70) dX5_readWhen_65 rfl (fun c50 => ?_) (fun c50 => ?_)
          · have H := H.1 c50
            refine ea_aload_n (pc := 70) dX5_readWhen_70 rfl 0 rfl ?_
            refine ea_iload (pc := 71) dX5_readWhen_71 5 rfl ?_
            obtain ⟨f41, g42, H⟩ := H
            refine ea_deref1 e8 ?_
            obtain ⟨d37, h38, m39, q40, H⟩ := H
            refine ea_callV (pc := 73) (As := [vI xc23]) (st := []) dX5_readWhen_73 kX5_put m39 q40 rfl (Nat.le_of_ble_eq_true rfl) ew_875 ew_877 ew_26 (ci := 5) rfl (by decide) f41 g42 ?_
            refine ea_iload (pc := 76) dX5_readWhen_76 4 rfl ?_
            refine ea_iconst (pc := 78) dX5_readWhen_78 (v := 2) rfl ?_
            refine ea_irem (pc := 79) dX5_readWhen_79 (by decide) ?_
            refine ea_iconst (pc := 80) dX5_readWhen_80 (v := 1) rfl ?_
            refine ea_icmp_ne (pc := 81) (tgt := 90) dX5_readWhen_81 rfl (fun c49 => ?_) (fun c49 => ?_)
            · have H := H.1 c49
              exact ea_fewer [0, 1, 2, 3] rfl H
            · have H := H.2 c49
              refine ea_aload_n (pc := 84) dX5_readWhen_84 rfl 0 rfl ?_
              refine ea_bipush (pc := 85) dX5_readWhen_85 (v := (-17)) rfl ?_
              obtain ⟨f47, g48, H⟩ := H
              refine ea_deref1 e8 ?_
              obtain ⟨d43, h44, m45, q46, H⟩ := H
              refine ea_callV (pc := 87) (As := [vI (-17)]) (st := []) dX5_readWhen_87 kX5_put m45 q46 rfl (Nat.le_of_ble_eq_true rfl) ew_875 ew_877 ew_26 (ci := 5) rfl (by decide) f47 g48 ?_
              exact ea_fewer [0, 1, 2, 3] rfl H
          · have H := H.2 c50
            refine ea_iconst (pc := 68) dX5_readWhen_68 (v := 0) rfl ?_
            obtain ⟨rfl, rfl⟩ := H
            exact ea_ireturn (pc := 69) dX5_readWhen_69 rfl (ea_bn (Or.inl rfl))
        · have H := H.2 c59
          refine ea_aload_n (pc := 49) dX5_readWhen_49 rfl 0 rfl ?_
          refine ea_iconst (pc := 50) dX5_readWhen_50 (v := 1) rfl ?_
          obtain ⟨f55, g56, H⟩ := H
          refine ea_deref1 e8 ?_
          obtain ⟨d51, xc57, h52, m53, q54, H⟩ := H
          refine ea_callV (pc := 51) (As := [vI 1]) (st := []) dX5_readWhen_51 kX5_refuse m53 q54 rfl (Nat.le_of_ble_eq_true rfl) ew_851 ew_853 ew_20 (ci := 5) rfl (by decide) f55 g56 ?_
          obtain ⟨z58, rfl, rfl⟩ := H
          exact ea_ireturn (pc := 54) dX5_readWhen_54 rfl (ea_bn z58)
      · have H := H.2 c60
        refine ea_iconst (pc := 35) dX5_readWhen_35 (v := 0) rfl ?_
        obtain ⟨rfl, rfl⟩ := H
        exact ea_ireturn (pc := 36) dX5_readWhen_36 rfl (ea_bn (Or.inl rfl))
theorem bX5_readWhen_90 {d : Nat} {h0 hE h : ea_H} {rv : Option ea_V} {r0 : Option Nat} {x1 : Int32} {x2 : Int32} {x3 : Int32} (H : (¬ x2 = (16 : Int32) → ea_W mX5_readWhen d h0 rv hE 102 [(0, vR r0), (1, vI x1), (3, vI x3)] [] h) ∧ (x2 = (16 : Int32) → ∃ a7, r0 = some a7 ∧ a7 < ea_n h ∧ ea_c h a7 = 5 ∧ ∃ (d1 : Nat) (h2 : ea_H), ea_Met mX5_put d1 [vR (some a7), vI (-18)] h none h2 ∧ d1 + 1 ≤ d ∧ ea_W mX5_readWhen d h0 rv hE 102 [(0, vR r0), (1, vI x1), (3, vI x3)] [] h2)) : ea_W mX5_readWhen d h0 rv hE 90 [(0, vR r0), (1, vI x1), (2, vI x2), (3, vI x3)] [] h := by
  refine ea_iload_n (pc := 90) dX5_readWhen_90 rfl 2 rfl ?_
  refine ea_bipush (pc := 91) dX5_readWhen_91 (v := 16) rfl ?_
  refine ea_icmp_ne (pc := 93) (tgt := 102) dX5_readWhen_93 rfl (fun c9 => ?_) (fun c9 => ?_)
  · have H := H.1 c9
    exact ea_fewer [0, 1, 3] rfl H
  · have H := H.2 c9
    refine ea_aload_n (pc := 96) dX5_readWhen_96 rfl 0 rfl ?_
    refine ea_bipush (pc := 97) dX5_readWhen_97 (v := (-18)) rfl ?_
    obtain ⟨a7, e8, f5, g6, H⟩ := H
    refine ea_deref1 e8 ?_
    obtain ⟨d1, h2, m3, q4, H⟩ := H
    refine ea_callV (pc := 99) (As := [vI (-18)]) (st := []) dX5_readWhen_99 kX5_put m3 q4 rfl (Nat.le_of_ble_eq_true rfl) ew_875 ew_877 ew_26 (ci := 5) rfl (by decide) f5 g6 ?_
    exact ea_fewer [0, 1, 3] rfl H
theorem bX5_readWhen_102 {d : Nat} {h0 hE h : ea_H} {rv : Option ea_V} {r0 : Option Nat} {x1 : Int32} {x3 : Int32} (H : ∃ a3, r0 = some a3 ∧ a3 < ea_n h ∧ ea_c h a3 = 5 ∧ ((ea_i h a3 9) = (16 : Int32) → a3 < ea_n h ∧ ea_c h a3 = 5 ∧ ∃ (d5 : Nat) (h6 : ea_H), ea_Met mX5_step d5 [vR (some a3)] h none h6 ∧ d5 + 1 ≤ d ∧ ea_W mX5_readWhen d h0 rv hE 7 [(0, vR r0), (1, vI x1), (2, vI (ea_i h a3 9)), (3, vI (x3 + 1))] [] h6) ∧ (¬ (ea_i h a3 9) = (16 : Int32) → (x1 = (0 : Int32) → ea_W mX5_readWhen d h0 rv hE 123 [(0, vR r0), (2, vI (ea_i h a3 9)), (3, vI x3)] [] h) ∧ (¬ x1 = (0 : Int32) → a3 < ea_n h ∧ ea_c h a3 = 5 ∧ ∃ (d11 : Nat) (h12 : ea_H), ea_Met mX5_put d11 [vR (some a3), vI (-19)] h none h12 ∧ d11 + 1 ≤ d ∧ ea_W mX5_readWhen d h0 rv hE 123 [(0, vR r0), (2, vI (ea_i h a3 9)), (3, vI x3)] [] h12))) : ea_W mX5_readWhen d h0 rv hE 102 [(0, vR r0), (1, vI x1), (3, vI x3)] [] h := by
  refine ea_aload_n (pc := 102) dX5_readWhen_102 rfl 0 rfl ?_
  obtain ⟨a3, e4, f1, g2, H⟩ := H
  refine ea_deref0 e4 ?_
  refine ea_getI (pc := 103) dX5_readWhen_103 ec_5 (k := 9) (Nat.le_of_ble_eq_true rfl) rfl (Or.inl ew_303) f1 g2 ?_
  refine ea_istore_n (pc := 106) (lv' := [(0, vR r0), (1, vI x1), (2, vI (ea_i h a3 9)), (3, vI x3)]) dX5_readWhen_106 rfl (Nat.le_of_ble_eq_true rfl) [1, 2, 0, 3] rfl ?_
  refine ea_iload_n (pc := 107) dX5_readWhen_107 rfl 2 rfl ?_
  refine ea_bipush (pc := 108) dX5_readWhen_108 (v := 16) rfl ?_
  refine ea_icmp_eq (pc := 110) (tgt := 141) dX5_readWhen_110 rfl (fun c18 => ?_) (fun c18 => ?_)
  · have H := H.1 c18
    refine ea_aload_n (pc := 141) dX5_readWhen_141 rfl 0 rfl ?_
    obtain ⟨f9, g10, H⟩ := H
    refine ea_deref0 e4 ?_
    obtain ⟨d5, h6, m7, q8, H⟩ := H
    refine ea_callV (pc := 142) (As := []) (st := []) dX5_readWhen_142 kX5_step m7 q8 rfl (Nat.le_of_ble_eq_true rfl) ew_859 ew_861 ew_22 (ci := 5) rfl (by decide) f9 g10 ?_
    refine ea_iinc (pc := 145) (v := 1) (lv' := [(0, vR r0), (1, vI x1), (2, vI (ea_i h a3 9)), (3, vI (x3 + 1))]) dX5_readWhen_145 3 rfl rfl (Nat.le_of_ble_eq_true rfl) [1, 2, 3, 0] rfl ?_
    refine ea_goto (pc := 148) (tgt := 7) dX5_readWhen_148 rfl ?_
    exact H
  · have H := H.2 c18
    refine ea_iload_n (pc := 113) dX5_readWhen_113 rfl 1 rfl ?_
    refine ea_if_eq (pc := 114) (tgt := 123) dX5_readWhen_114 rfl (fun c17 => ?_) (fun c17 => ?_)
    · have H := H.1 c17
      exact ea_fewer [0, 2, 3] rfl H
    · have H := H.2 c17
      refine ea_aload_n (pc := 117) dX5_readWhen_117 rfl 0 rfl ?_
      refine ea_bipush (pc := 118) dX5_readWhen_118 (v := (-19)) rfl ?_
      obtain ⟨f15, g16, H⟩ := H
      refine ea_deref1 e4 ?_
      obtain ⟨d11, h12, m13, q14, H⟩ := H
      refine ea_callV (pc := 120) (As := [vI (-19)]) (st := []) dX5_readWhen_120 kX5_put m13 q14 rfl (Nat.le_of_ble_eq_true rfl) ew_875 ew_877 ew_26 (ci := 5) rfl (by decide) f15 g16 ?_
      exact ea_fewer [0, 2, 3] rfl H
theorem bX5_readWhen_123 {d : Nat} {h0 hE h : ea_H} {rv : Option ea_V} {r0 : Option Nat} {x2 : Int32} {x3 : Int32} (H : (¬ x2 = (17 : Int32) → ea_W mX5_readWhen d h0 rv hE 134 [(0, vR r0), (2, vI x2), (3, vI x3)] [vI 0] h) ∧ (x2 = (17 : Int32) → ea_W mX5_readWhen d h0 rv hE 134 [(0, vR r0), (2, vI x2), (3, vI x3)] [vI 1] h)) : ea_W mX5_readWhen d h0 rv hE 123 [(0, vR r0), (2, vI x2), (3, vI x3)] [] h := by
  refine ea_iload_n (pc := 123) dX5_readWhen_123 rfl 1 rfl ?_
  refine ea_bipush (pc := 124) dX5_readWhen_124 (v := 17) rfl ?_
  refine ea_icmp_ne (pc := 126) (tgt := 133) dX5_readWhen_126 rfl (fun c1 => ?_) (fun c1 => ?_)
  · have H := H.1 c1
    refine ea_iconst (pc := 133) dX5_readWhen_133 (v := 0) rfl ?_
    exact H
  · have H := H.2 c1
    refine ea_iconst (pc := 129) dX5_readWhen_129 (v := 1) rfl ?_
    refine ea_goto (pc := 130) (tgt := 134) dX5_readWhen_130 rfl ?_
    exact H
theorem bX5_readWhen_134 {d : Nat} {h0 hE h : ea_H} {rv : Option ea_V} {r0 : Option Nat} {x2 : Int32} {x3 : Int32} {sx0 : Int32} (H : (¬ sx0 = (0 : Int32) → ∃ a7, r0 = some a7 ∧ a7 < ea_n h ∧ ea_c h a7 = 5 ∧ ∃ (d1 : Nat) (h2 : ea_H), ea_Met mX5_step d1 [vR (some a7)] h none h2 ∧ d1 + 1 ≤ d ∧ ea_W mX5_readWhen d h0 rv hE 7 [(0, vR r0), (1, vI sx0), (2, vI x2), (3, vI (x3 + 1))] [] h2) ∧ (sx0 = (0 : Int32) → rv = some (vI 1) ∧ hE = h)) : ea_W mX5_readWhen d h0 rv hE 134 [(0, vR r0), (2, vI x2), (3, vI x3)] [vI sx0] h := by
  refine ea_istore_n (pc := 134) (lv' := [(0, vR r0), (1, vI sx0), (2, vI x2), (3, vI x3)]) dX5_readWhen_134 rfl (Nat.le_of_ble_eq_true rfl) [1, 0, 2, 3] rfl ?_
  refine ea_iload_n (pc := 135) dX5_readWhen_135 rfl 1 rfl ?_
  refine ea_if_ne (pc := 136) (tgt := 141) dX5_readWhen_136 rfl (fun c9 => ?_) (fun c9 => ?_)
  · have H := H.1 c9
    refine ea_aload_n (pc := 141) dX5_readWhen_141 rfl 0 rfl ?_
    obtain ⟨a7, e8, f5, g6, H⟩ := H
    refine ea_deref0 e8 ?_
    obtain ⟨d1, h2, m3, q4, H⟩ := H
    refine ea_callV (pc := 142) (As := []) (st := []) dX5_readWhen_142 kX5_step m3 q4 rfl (Nat.le_of_ble_eq_true rfl) ew_859 ew_861 ew_22 (ci := 5) rfl (by decide) f5 g6 ?_
    refine ea_iinc (pc := 145) (v := 1) (lv' := [(0, vR r0), (1, vI sx0), (2, vI x2), (3, vI (x3 + 1))]) dX5_readWhen_145 3 rfl rfl (Nat.le_of_ble_eq_true rfl) [1, 2, 3, 0] rfl ?_
    refine ea_goto (pc := 148) (tgt := 7) dX5_readWhen_148 rfl ?_
    exact H
  · have H := H.2 c9
    refine ea_iconst (pc := 139) dX5_readWhen_139 (v := 1) rfl ?_
    obtain ⟨rfl, rfl⟩ := H
    exact ea_ireturn (pc := 140) dX5_readWhen_140 rfl (ea_bn (Or.inr rfl))
theorem dX5_readNots_0 : decode cX5_readNots 0 = .ok (.iconst 0, 1) := by decide +kernel
theorem dX5_readNots_1 : decode cX5_readNots 1 = .ok (.istore_n 1, 1) := by decide +kernel
theorem dX5_readNots_2 : decode cX5_readNots 2 = .ok (.iload_n 1, 1) := by decide +kernel
theorem dX5_readNots_3 : decode cX5_readNots 3 = .ok (.bipush 8, 2) := by decide +kernel
theorem dX5_readNots_5 : decode cX5_readNots 5 = .ok (.if_icmp .gt 36, 3) := by decide +kernel
theorem dX5_readNots_8 : decode cX5_readNots 8 = .ok (.aload_n 0, 1) := by decide +kernel
theorem dX5_readNots_9 : decode cX5_readNots 9 = .ok (.getfield 51, 3) := by decide +kernel
theorem dX5_readNots_12 : decode cX5_readNots 12 = .ok (.bipush 15, 2) := by decide +kernel
theorem dX5_readNots_14 : decode cX5_readNots 14 = .ok (.if_icmp .ne 27, 3) := by decide +kernel
theorem dX5_readNots_17 : decode cX5_readNots 17 = .ok (.iload_n 1, 1) := by decide +kernel
theorem dX5_readNots_18 : decode cX5_readNots 18 = .ok (.bipush 8, 2) := by decide +kernel
theorem dX5_readNots_20 : decode cX5_readNots 20 = .ok (.if_icmp .ne 11, 3) := by decide +kernel
theorem dX5_readNots_23 : decode cX5_readNots 23 = .ok (.aload_n 0, 1) := by decide +kernel
theorem dX5_readNots_24 : decode cX5_readNots 24 = .ok (.iconst 3, 1) := by decide +kernel
theorem dX5_readNots_25 : decode cX5_readNots 25 = .ok (.invokevirtual 57, 3) := by decide +kernel
theorem dX5_readNots_28 : decode cX5_readNots 28 = .ok (.pop, 1) := by decide +kernel
theorem dX5_readNots_29 : decode cX5_readNots 29 = .ok (.iconst (-1), 1) := by decide +kernel
theorem dX5_readNots_30 : decode cX5_readNots 30 = .ok (.ireturn, 1) := by decide +kernel
theorem dX5_readNots_31 : decode cX5_readNots 31 = .ok (.aload_n 0, 1) := by decide +kernel
theorem dX5_readNots_32 : decode cX5_readNots 32 = .ok (.invokevirtual 81, 3) := by decide +kernel
theorem dX5_readNots_35 : decode cX5_readNots 35 = .ok (.iinc 1 1, 3) := by decide +kernel
theorem dX5_readNots_38 : decode cX5_readNots 38 = .ok (.goto (-36), 3) := by decide +kernel
theorem dX5_readNots_41 : decode cX5_readNots 41 = .ok (.iload_n 1, 1) := by decide +kernel
theorem dX5_readNots_42 : decode cX5_readNots 42 = .ok (.ireturn, 1) := by decide +kernel
theorem bX5_readNots_0 {d : Nat} {h0 hE h : ea_H} {rv : Option ea_V} {r0 : Option Nat} (H : ea_W mX5_readNots d h0 rv hE 2 [(0, vR r0), (1, vI 0)] [] h) : ea_W mX5_readNots d h0 rv hE 0 [(0, vR r0)] [] h := by
  refine ea_iconst (pc := 0) dX5_readNots_0 (v := 0) rfl ?_
  refine ea_istore_n (pc := 1) (lv' := [(0, vR r0), (1, vI 0)]) dX5_readNots_1 rfl (Nat.le_of_ble_eq_true rfl) [1, 0] rfl ?_
  exact H
theorem bX5_readNots_2 {d : Nat} {h0 hE h : ea_H} {rv : Option ea_V} {r0 : Option Nat} {x1 : Int32} (H : ((8 : Int32) < x1 → rv = some (vI x1) ∧ hE = h) ∧ (¬ (8 : Int32) < x1 → ∃ a3, r0 = some a3 ∧ a3 < ea_n h ∧ ea_c h a3 = 5 ∧ (¬ (ea_i h a3 9) = (15 : Int32) → rv = some (vI x1) ∧ hE = h) ∧ ((ea_i h a3 9) = (15 : Int32) → (¬ x1 = (8 : Int32) → a3 < ea_n h ∧ ea_c h a3 = 5 ∧ ∃ (d5 : Nat) (h6 : ea_H), ea_Met mX5_step d5 [vR (some a3)] h none h6 ∧ d5 + 1 ≤ d ∧ ea_W mX5_readNots d h0 rv hE 2 [(0, vR r0), (1, vI (x1 + 1))] [] h6) ∧ (x1 = (8 : Int32) → a3 < ea_n h ∧ ea_c h a3 = 5 ∧ ∃ (d11 : Nat) (xc17 : Int32) (h12 : ea_H), ea_Met mX5_refuse d11 [vR (some a3), vI 3] h (some (vI xc17)) h12 ∧ d11 + 1 ≤ d ∧ rv = some (vI (-1)) ∧ hE = h12)))) : ea_W mX5_readNots d h0 rv hE 2 [(0, vR r0), (1, vI x1)] [] h := by
  refine ea_iload_n (pc := 2) dX5_readNots_2 rfl 1 rfl ?_
  refine ea_bipush (pc := 3) dX5_readNots_3 (v := 8) rfl ?_
  refine ea_icmp_gt (pc := 5) (tgt := 41) dX5_readNots_5 rfl (fun c20 => ?_) (fun c20 => ?_)
  · have H := H.1 c20
    refine ea_iload_n (pc := 41) dX5_readNots_41 rfl 1 rfl ?_
    obtain ⟨rfl, rfl⟩ := H
    exact ea_ireturn (pc := 42) dX5_readNots_42 rfl rfl
  · have H := H.2 c20
    refine ea_aload_n (pc := 8) dX5_readNots_8 rfl 0 rfl ?_
    obtain ⟨a3, e4, f1, g2, H⟩ := H
    refine ea_deref0 e4 ?_
    refine ea_getI (pc := 9) dX5_readNots_9 ec_5 (k := 9) (Nat.le_of_ble_eq_true rfl) rfl (Or.inl ew_303) f1 g2 ?_
    refine ea_bipush (pc := 12) dX5_readNots_12 (v := 15) rfl ?_
    refine ea_icmp_ne (pc := 14) (tgt := 41) dX5_readNots_14 rfl (fun c19 => ?_) (fun c19 => ?_)
    · have H := H.1 c19
      refine ea_iload_n (pc := 41) dX5_readNots_41 rfl 1 rfl ?_
      obtain ⟨rfl, rfl⟩ := H
      exact ea_ireturn (pc := 42) dX5_readNots_42 rfl rfl
    · have H := H.2 c19
      refine ea_iload_n (pc := 17) dX5_readNots_17 rfl 1 rfl ?_
      refine ea_bipush (pc := 18) dX5_readNots_18 (v := 8) rfl ?_
      refine ea_icmp_ne (pc := 20) (tgt := 31) dX5_readNots_20 rfl (fun c18 => ?_) (fun c18 => ?_)
      · have H := H.1 c18
        refine ea_aload_n (pc := 31) dX5_readNots_31 rfl 0 rfl ?_
        obtain ⟨f9, g10, H⟩ := H
        refine ea_deref0 e4 ?_
        obtain ⟨d5, h6, m7, q8, H⟩ := H
        refine ea_callV (pc := 32) (As := []) (st := []) dX5_readNots_32 kX5_step m7 q8 rfl (Nat.le_of_ble_eq_true rfl) ew_859 ew_861 ew_22 (ci := 5) rfl (by decide) f9 g10 ?_
        refine ea_iinc (pc := 35) (v := 1) (lv' := [(0, vR r0), (1, vI (x1 + 1))]) dX5_readNots_35 1 rfl rfl (Nat.le_of_ble_eq_true rfl) [1, 0] rfl ?_
        refine ea_goto (pc := 38) (tgt := 2) dX5_readNots_38 rfl ?_
        exact H
      · have H := H.2 c18
        refine ea_aload_n (pc := 23) dX5_readNots_23 rfl 0 rfl ?_
        refine ea_iconst (pc := 24) dX5_readNots_24 (v := 3) rfl ?_
        obtain ⟨f15, g16, H⟩ := H
        refine ea_deref1 e4 ?_
        obtain ⟨d11, xc17, h12, m13, q14, H⟩ := H
        refine ea_callV (pc := 25) (As := [vI 3]) (st := []) dX5_readNots_25 kX5_refuse m13 q14 rfl (Nat.le_of_ble_eq_true rfl) ew_851 ew_853 ew_20 (ci := 5) rfl (by decide) f15 g16 ?_
        refine ea_pop (pc := 28) dX5_readNots_28 rfl ?_
        refine ea_iconst (pc := 29) dX5_readNots_29 (v := (-1)) rfl ?_
        obtain ⟨rfl, rfl⟩ := H
        exact ea_ireturn (pc := 30) dX5_readNots_30 rfl rfl
theorem dX5_comparison_0 : decode cX5_comparison 0 = .ok (.aload_n 0, 1) := by decide +kernel
theorem dX5_comparison_1 : decode cX5_comparison 1 = .ok (.getfield 51, 3) := by decide +kernel
theorem dX5_comparison_4 : decode cX5_comparison 4 = .ok (.tableswitch 37 60 62 #[28, 31, 34], 28) := by decide +kernel
theorem dX5_comparison_32 : decode cX5_comparison 32 = .ok (.bipush (-14), 2) := by decide +kernel
theorem dX5_comparison_34 : decode cX5_comparison 34 = .ok (.ireturn, 1) := by decide +kernel
theorem dX5_comparison_35 : decode cX5_comparison 35 = .ok (.bipush (-15), 2) := by decide +kernel
theorem dX5_comparison_37 : decode cX5_comparison 37 = .ok (.ireturn, 1) := by decide +kernel
theorem dX5_comparison_38 : decode cX5_comparison 38 = .ok (.bipush (-16), 2) := by decide +kernel
theorem dX5_comparison_40 : decode cX5_comparison 40 = .ok (.ireturn, 1) := by decide +kernel
theorem dX5_comparison_41 : decode cX5_comparison 41 = .ok (.iconst (-1), 1) := by decide +kernel
theorem dX5_comparison_42 : decode cX5_comparison 42 = .ok (.ireturn, 1) := by decide +kernel
theorem bX5_comparison_0 {d : Nat} {h0 hE h : ea_H} {rv : Option ea_V} {r0 : Option Nat} (H : ∃ a3, r0 = some a3 ∧ a3 < ea_n h ∧ ea_c h a3 = 5 ∧ (Int32.toInt (ea_i h a3 9) = 60 → rv = some (vI (-14)) ∧ hE = h) ∧ (Int32.toInt (ea_i h a3 9) = 61 → rv = some (vI (-15)) ∧ hE = h) ∧ (Int32.toInt (ea_i h a3 9) = 62 → rv = some (vI (-16)) ∧ hE = h) ∧ (Int32.toInt (ea_i h a3 9) < 60 ∨ 62 < Int32.toInt (ea_i h a3 9) → rv = some (vI (-1)) ∧ hE = h)) : ea_W mX5_comparison d h0 rv hE 0 [(0, vR r0)] [] h := by
  refine ea_aload_n (pc := 0) dX5_comparison_0 rfl 0 rfl ?_
  obtain ⟨a3, e4, f1, g2, H⟩ := H
  refine ea_deref0 e4 ?_
  refine ea_getI (pc := 1) dX5_comparison_1 ec_5 (k := 9) (Nat.le_of_ble_eq_true rfl) rfl (Or.inl ew_303) f1 g2 ?_
  by_cases qc1 : Int32.toInt (ea_i h a3 9) = 60
  · have H := H.1 qc1
    refine ea_tswIn (pc := 4) (tgt := 32) dX5_comparison_4 (by omega) (by omega) (by rw [qc1]; rfl) rfl ?_
    refine ea_bipush (pc := 32) dX5_comparison_32 (v := (-14)) rfl ?_
    obtain ⟨rfl, rfl⟩ := H
    exact ea_ireturn (pc := 34) dX5_comparison_34 rfl rfl
  by_cases qc2 : Int32.toInt (ea_i h a3 9) = 61
  · have H := H.2.1 qc2
    refine ea_tswIn (pc := 4) (tgt := 35) dX5_comparison_4 (by omega) (by omega) (by rw [qc2]; rfl) rfl ?_
    refine ea_bipush (pc := 35) dX5_comparison_35 (v := (-15)) rfl ?_
    obtain ⟨rfl, rfl⟩ := H
    exact ea_ireturn (pc := 37) dX5_comparison_37 rfl rfl
  by_cases qc3 : Int32.toInt (ea_i h a3 9) = 62
  · have H := H.2.2.1 qc3
    refine ea_tswIn (pc := 4) (tgt := 38) dX5_comparison_4 (by omega) (by omega) (by rw [qc3]; rfl) rfl ?_
    refine ea_bipush (pc := 38) dX5_comparison_38 (v := (-16)) rfl ?_
    obtain ⟨rfl, rfl⟩ := H
    exact ea_ireturn (pc := 40) dX5_comparison_40 rfl rfl
  have qd : Int32.toInt (ea_i h a3 9) < 60 ∨ 62 < Int32.toInt (ea_i h a3 9) := by omega
  have H := H.2.2.2 qd
  refine ea_tswOut (pc := 4) (tgt := 41) dX5_comparison_4 qd rfl ?_
  refine ea_iconst (pc := 41) dX5_comparison_41 (v := (-1)) rfl ?_
  obtain ⟨rfl, rfl⟩ := H
  exact ea_ireturn (pc := 42) dX5_comparison_42 rfl rfl
theorem dX5_readSum_0 : decode cX5_readSum 0 = .ok (.aload_n 0, 1) := by decide +kernel
theorem dX5_readSum_1 : decode cX5_readSum 1 = .ok (.iload_n 1, 1) := by decide +kernel
theorem dX5_readSum_2 : decode cX5_readSum 2 = .ok (.invokevirtual 132, 3) := by decide +kernel
theorem dX5_readSum_5 : decode cX5_readSum 5 = .ok (.ifCond .ne 5, 3) := by decide +kernel
theorem dX5_readSum_8 : decode cX5_readSum 8 = .ok (.iconst 0, 1) := by decide +kernel
theorem dX5_readSum_9 : decode cX5_readSum 9 = .ok (.ireturn, 1) := by decide +kernel
theorem dX5_readSum_10 : decode cX5_readSum 10 = .ok (.iconst 0, 1) := by decide +kernel
theorem dX5_readSum_11 : decode cX5_readSum 11 = .ok (.istore_n 2, 1) := by decide +kernel
theorem dX5_readSum_12 : decode cX5_readSum 12 = .ok (.iload_n 2, 1) := by decide +kernel
theorem dX5_readSum_13 : decode cX5_readSum 13 = .ok (.sipush 600, 3) := by decide +kernel
theorem dX5_readSum_16 : decode cX5_readSum 16 = .ok (.if_icmp .gt 63, 3) := by decide +kernel
theorem dX5_readSum_19 : decode cX5_readSum 19 = .ok (.aload_n 0, 1) := by decide +kernel
theorem dX5_readSum_20 : decode cX5_readSum 20 = .ok (.getfield 51, 3) := by decide +kernel
theorem dX5_readSum_23 : decode cX5_readSum 23 = .ok (.bipush 43, 2) := by decide +kernel
theorem dX5_readSum_25 : decode cX5_readSum 25 = .ok (.if_icmp .eq 12, 3) := by decide +kernel
theorem dX5_readSum_28 : decode cX5_readSum 28 = .ok (.aload_n 0, 1) := by decide +kernel
theorem dX5_readSum_29 : decode cX5_readSum 29 = .ok (.getfield 51, 3) := by decide +kernel
theorem dX5_readSum_32 : decode cX5_readSum 32 = .ok (.bipush 45, 2) := by decide +kernel
theorem dX5_readSum_34 : decode cX5_readSum 34 = .ok (.if_icmp .ne 45, 3) := by decide +kernel
theorem dX5_readSum_37 : decode cX5_readSum 37 = .ok (.aload_n 0, 1) := by decide +kernel
theorem dX5_readSum_38 : decode cX5_readSum 38 = .ok (.getfield 51, 3) := by decide +kernel
theorem dX5_readSum_41 : decode cX5_readSum 41 = .ok (.bipush 43, 2) := by decide +kernel
theorem dX5_readSum_43 : decode cX5_readSum 43 = .ok (.if_icmp .ne 8, 3) := by decide +kernel
theorem dX5_readSum_46 : decode cX5_readSum 46 = .ok (.bipush (-10), 2) := by decide +kernel
theorem dX5_readSum_48 : decode cX5_readSum 48 = .ok (.goto 5, 3) := by decide +kernel
theorem dX5_readSum_51 : decode cX5_readSum 51 = .ok (.bipush (-11), 2) := by decide +kernel
theorem dX5_readSum_53 : decode cX5_readSum 53 = .ok (.istore_n 3, 1) := by decide +kernel
theorem dX5_readSum_54 : decode cX5_readSum 54 = .ok (.aload_n 0, 1) := by decide +kernel
theorem dX5_readSum_55 : decode cX5_readSum 55 = .ok (.invokevirtual 81, 3) := by decide +kernel
theorem dX5_readSum_58 : decode cX5_readSum 58 = .ok (.aload_n 0, 1) := by decide +kernel
theorem dX5_readSum_59 : decode cX5_readSum 59 = .ok (.iload_n 1, 1) := by decide +kernel
theorem dX5_readSum_60 : decode cX5_readSum 60 = .ok (.invokevirtual 132, 3) := by decide +kernel
theorem dX5_readSum_63 : decode cX5_readSum 63 = .ok (.ifCond .ne 5, 3) := by decide +kernel
theorem dX5_readSum_66 : decode cX5_readSum 66 = .ok (.iconst 0, 1) := by decide +kernel
theorem dX5_readSum_67 : decode cX5_readSum 67 = .ok (.ireturn, 1) := by decide +kernel
theorem dX5_readSum_68 : decode cX5_readSum 68 = .ok (.aload_n 0, 1) := by decide +kernel
theorem dX5_readSum_69 : decode cX5_readSum 69 = .ok (.iload_n 3, 1) := by decide +kernel
theorem dX5_readSum_70 : decode cX5_readSum 70 = .ok (.invokevirtual 118, 3) := by decide +kernel
theorem dX5_readSum_73 : decode cX5_readSum 73 = .ok (.iinc 2 1, 3) := by decide +kernel
theorem dX5_readSum_76 : decode cX5_readSum 76 = .ok (.goto (-64), 3) := by decide +kernel
theorem dX5_readSum_79 : decode cX5_readSum 79 = .ok (.iconst 1, 1) := by decide +kernel
theorem dX5_readSum_80 : decode cX5_readSum 80 = .ok (.ireturn, 1) := by decide +kernel
theorem bX5_readSum_0 {d : Nat} {h0 hE h : ea_H} {rv : Option ea_V} {r0 : Option Nat} {x1 : Int32} (H : ∃ a7, r0 = some a7 ∧ a7 < ea_n h ∧ ea_c h a7 = 5 ∧ ∃ (d1 : Nat) (xc9 : Int32) (h2 : ea_H), ea_Met mX5_readProduct d1 [vR (some a7), vI x1] h (some (vI xc9)) h2 ∧ d1 + 1 ≤ d ∧ (¬ xc9 = (0 : Int32) → ea_W mX5_readSum d h0 rv hE 12 [(0, vR r0), (1, vI x1), (2, vI 0)] [] h2) ∧ (xc9 = (0 : Int32) → rv = some (vI 0) ∧ hE = h2)) : ea_W mX5_readSum d h0 rv hE 0 [(0, vR r0), (1, vI x1)] [] h := by
  refine ea_aload_n (pc := 0) dX5_readSum_0 rfl 0 rfl ?_
  refine ea_iload_n (pc := 1) dX5_readSum_1 rfl 1 rfl ?_
  obtain ⟨a7, e8, f5, g6, H⟩ := H
  refine ea_deref1 e8 ?_
  obtain ⟨d1, xc9, h2, m3, q4, H⟩ := H
  refine ea_callV (pc := 2) (As := [vI x1]) (st := []) dX5_readSum_2 kX5_readProduct m3 q4 rfl (Nat.le_of_ble_eq_true rfl) ew_867 ew_869 ew_24 (ci := 5) rfl (by decide) f5 g6 ?_
  refine ea_if_ne (pc := 5) (tgt := 10) dX5_readSum_5 rfl (fun c10 => ?_) (fun c10 => ?_)
  · have H := H.1 c10
    refine ea_iconst (pc := 10) dX5_readSum_10 (v := 0) rfl ?_
    refine ea_istore_n (pc := 11) (lv' := [(0, vR r0), (1, vI x1), (2, vI 0)]) dX5_readSum_11 rfl (Nat.le_of_ble_eq_true rfl) [1, 2, 0] rfl ?_
    exact H
  · have H := H.2 c10
    refine ea_iconst (pc := 8) dX5_readSum_8 (v := 0) rfl ?_
    obtain ⟨rfl, rfl⟩ := H
    exact ea_ireturn (pc := 9) dX5_readSum_9 rfl (ea_bn (Or.inl rfl))
theorem bX5_readSum_12 {d : Nat} {h0 hE h : ea_H} {rv : Option ea_V} {r0 : Option Nat} {x1 : Int32} {x2 : Int32} (H : ((600 : Int32) < x2 → rv = some (vI 1) ∧ hE = h) ∧ (¬ (600 : Int32) < x2 → ∃ a3, r0 = some a3 ∧ a3 < ea_n h ∧ ea_c h a3 = 5 ∧ ((ea_i h a3 9) = (43 : Int32) → ea_W mX5_readSum d h0 rv hE 37 [(0, vR r0), (1, vI x1), (2, vI x2)] [] h) ∧ (¬ (ea_i h a3 9) = (43 : Int32) → a3 < ea_n h ∧ ea_c h a3 = 5 ∧ (¬ (ea_i h a3 9) = (45 : Int32) → rv = some (vI 1) ∧ hE = h) ∧ ((ea_i h a3 9) = (45 : Int32) → ea_W mX5_readSum d h0 rv hE 37 [(0, vR r0), (1, vI x1), (2, vI x2)] [] h)))) : ea_W mX5_readSum d h0 rv hE 12 [(0, vR r0), (1, vI x1), (2, vI x2)] [] h := by
  refine ea_iload_n (pc := 12) dX5_readSum_12 rfl 2 rfl ?_
  refine ea_sipush (pc := 13) dX5_readSum_13 (v := 600) rfl ?_
  refine ea_icmp_gt (pc := 16) (tgt := 79) dX5_readSum_16 rfl (fun c9 => ?_) (fun c9 => ?_)
  · have H := H.1 c9
    refine ea_iconst (pc := 79) dX5_readSum_79 (v := 1) rfl ?_
    obtain ⟨rfl, rfl⟩ := H
    exact ea_ireturn (pc := 80) dX5_readSum_80 rfl (ea_bn (Or.inr rfl))
  · have H := H.2 c9
    refine ea_aload_n (pc := 19) dX5_readSum_19 rfl 0 rfl ?_
    obtain ⟨a3, e4, f1, g2, H⟩ := H
    refine ea_deref0 e4 ?_
    refine ea_getI (pc := 20) dX5_readSum_20 ec_5 (k := 9) (Nat.le_of_ble_eq_true rfl) rfl (Or.inl ew_303) f1 g2 ?_
    refine ea_bipush (pc := 23) dX5_readSum_23 (v := 43) rfl ?_
    refine ea_icmp_eq (pc := 25) (tgt := 37) dX5_readSum_25 rfl (fun c8 => ?_) (fun c8 => ?_)
    · have H := H.1 c8
      exact H
    · have H := H.2 c8
      refine ea_aload_n (pc := 28) dX5_readSum_28 rfl 0 rfl ?_
      obtain ⟨f5, g6, H⟩ := H
      refine ea_deref0 e4 ?_
      refine ea_getI (pc := 29) dX5_readSum_29 ec_5 (k := 9) (Nat.le_of_ble_eq_true rfl) rfl (Or.inl ew_303) f5 g6 ?_
      refine ea_bipush (pc := 32) dX5_readSum_32 (v := 45) rfl ?_
      refine ea_icmp_ne (pc := 34) (tgt := 79) dX5_readSum_34 rfl (fun c7 => ?_) (fun c7 => ?_)
      · have H := H.1 c7
        refine ea_iconst (pc := 79) dX5_readSum_79 (v := 1) rfl ?_
        obtain ⟨rfl, rfl⟩ := H
        exact ea_ireturn (pc := 80) dX5_readSum_80 rfl (ea_bn (Or.inr rfl))
      · have H := H.2 c7
        exact H
theorem bX5_readSum_37 {d : Nat} {h0 hE h : ea_H} {rv : Option ea_V} {r0 : Option Nat} {x1 : Int32} {x2 : Int32} (H : ∃ a3, r0 = some a3 ∧ a3 < ea_n h ∧ ea_c h a3 = 5 ∧ (¬ (ea_i h a3 9) = (43 : Int32) → ea_W mX5_readSum d h0 rv hE 53 [(0, vR r0), (1, vI x1), (2, vI x2)] [vI (-11)] h) ∧ ((ea_i h a3 9) = (43 : Int32) → ea_W mX5_readSum d h0 rv hE 53 [(0, vR r0), (1, vI x1), (2, vI x2)] [vI (-10)] h)) : ea_W mX5_readSum d h0 rv hE 37 [(0, vR r0), (1, vI x1), (2, vI x2)] [] h := by
  refine ea_aload_n (pc := 37) dX5_readSum_37 rfl 0 rfl ?_
  obtain ⟨a3, e4, f1, g2, H⟩ := H
  refine ea_deref0 e4 ?_
  refine ea_getI (pc := 38) dX5_readSum_38 ec_5 (k := 9) (Nat.le_of_ble_eq_true rfl) rfl (Or.inl ew_303) f1 g2 ?_
  refine ea_bipush (pc := 41) dX5_readSum_41 (v := 43) rfl ?_
  refine ea_icmp_ne (pc := 43) (tgt := 51) dX5_readSum_43 rfl (fun c5 => ?_) (fun c5 => ?_)
  · have H := H.1 c5
    refine ea_bipush (pc := 51) dX5_readSum_51 (v := (-11)) rfl ?_
    exact H
  · have H := H.2 c5
    refine ea_bipush (pc := 46) dX5_readSum_46 (v := (-10)) rfl ?_
    refine ea_goto (pc := 48) (tgt := 53) dX5_readSum_48 rfl ?_
    exact H
theorem bX5_readSum_53 {d : Nat} {h0 hE h : ea_H} {rv : Option ea_V} {r0 : Option Nat} {x1 : Int32} {x2 : Int32} {sx0 : Int32} (H : ∃ a7, r0 = some a7 ∧ a7 < ea_n h ∧ ea_c h a7 = 5 ∧ ∃ (d1 : Nat) (h2 : ea_H), ea_Met mX5_step d1 [vR (some a7)] h none h2 ∧ d1 + 1 ≤ d ∧ a7 < ea_n h2 ∧ ea_c h2 a7 = 5 ∧ ∃ (d9 : Nat) (xc15 : Int32) (h10 : ea_H), ea_Met mX5_readProduct d9 [vR (some a7), vI x1] h2 (some (vI xc15)) h10 ∧ d9 + 1 ≤ d ∧ (¬ xc15 = (0 : Int32) → a7 < ea_n h10 ∧ ea_c h10 a7 = 5 ∧ ∃ (d16 : Nat) (h17 : ea_H), ea_Met mX5_put d16 [vR (some a7), vI sx0] h10 none h17 ∧ d16 + 1 ≤ d ∧ ea_W mX5_readSum d h0 rv hE 12 [(0, vR r0), (1, vI x1), (2, vI (x2 + 1))] [] h17) ∧ (xc15 = (0 : Int32) → rv = some (vI 0) ∧ hE = h10)) : ea_W mX5_readSum d h0 rv hE 53 [(0, vR r0), (1, vI x1), (2, vI x2)] [vI sx0] h := by
  refine ea_istore_n (pc := 53) (lv' := [(0, vR r0), (1, vI x1), (2, vI x2), (3, vI sx0)]) dX5_readSum_53 rfl (Nat.le_of_ble_eq_true rfl) [1, 2, 3, 0] rfl ?_
  refine ea_aload_n (pc := 54) dX5_readSum_54 rfl 0 rfl ?_
  obtain ⟨a7, e8, f5, g6, H⟩ := H
  refine ea_deref0 e8 ?_
  obtain ⟨d1, h2, m3, q4, H⟩ := H
  refine ea_callV (pc := 55) (As := []) (st := []) dX5_readSum_55 kX5_step m3 q4 rfl (Nat.le_of_ble_eq_true rfl) ew_859 ew_861 ew_22 (ci := 5) rfl (by decide) f5 g6 ?_
  refine ea_aload_n (pc := 58) dX5_readSum_58 rfl 0 rfl ?_
  refine ea_iload_n (pc := 59) dX5_readSum_59 rfl 1 rfl ?_
  obtain ⟨f13, g14, H⟩ := H
  refine ea_deref1 e8 ?_
  obtain ⟨d9, xc15, h10, m11, q12, H⟩ := H
  refine ea_callV (pc := 60) (As := [vI x1]) (st := []) dX5_readSum_60 kX5_readProduct m11 q12 rfl (Nat.le_of_ble_eq_true rfl) ew_867 ew_869 ew_24 (ci := 5) rfl (by decide) f13 g14 ?_
  refine ea_if_ne (pc := 63) (tgt := 68) dX5_readSum_63 rfl (fun c22 => ?_) (fun c22 => ?_)
  · have H := H.1 c22
    refine ea_aload_n (pc := 68) dX5_readSum_68 rfl 0 rfl ?_
    refine ea_iload_n (pc := 69) dX5_readSum_69 rfl 3 rfl ?_
    obtain ⟨f20, g21, H⟩ := H
    refine ea_deref1 e8 ?_
    obtain ⟨d16, h17, m18, q19, H⟩ := H
    refine ea_callV (pc := 70) (As := [vI sx0]) (st := []) dX5_readSum_70 kX5_put m18 q19 rfl (Nat.le_of_ble_eq_true rfl) ew_875 ew_877 ew_26 (ci := 5) rfl (by decide) f20 g21 ?_
    refine ea_iinc (pc := 73) (v := 1) (lv' := [(0, vR r0), (1, vI x1), (2, vI (x2 + 1))]) dX5_readSum_73 2 rfl rfl (Nat.le_of_ble_eq_true rfl) [1, 2, 0] rfl ?_
    refine ea_goto (pc := 76) (tgt := 12) dX5_readSum_76 rfl ?_
    exact H
  · have H := H.2 c22
    refine ea_iconst (pc := 66) dX5_readSum_66 (v := 0) rfl ?_
    obtain ⟨rfl, rfl⟩ := H
    exact ea_ireturn (pc := 67) dX5_readSum_67 rfl (ea_bn (Or.inl rfl))
theorem dX5_readProduct_0 : decode cX5_readProduct 0 = .ok (.aload_n 0, 1) := by decide +kernel
theorem dX5_readProduct_1 : decode cX5_readProduct 1 = .ok (.iload_n 1, 1) := by decide +kernel
theorem dX5_readProduct_2 : decode cX5_readProduct 2 = .ok (.invokevirtual 135, 3) := by decide +kernel
theorem dX5_readProduct_5 : decode cX5_readProduct 5 = .ok (.ifCond .ne 5, 3) := by decide +kernel
theorem dX5_readProduct_8 : decode cX5_readProduct 8 = .ok (.iconst 0, 1) := by decide +kernel
theorem dX5_readProduct_9 : decode cX5_readProduct 9 = .ok (.ireturn, 1) := by decide +kernel
theorem dX5_readProduct_10 : decode cX5_readProduct 10 = .ok (.iconst 0, 1) := by decide +kernel
theorem dX5_readProduct_11 : decode cX5_readProduct 11 = .ok (.istore_n 2, 1) := by decide +kernel
theorem dX5_readProduct_12 : decode cX5_readProduct 12 = .ok (.iload_n 2, 1) := by decide +kernel
theorem dX5_readProduct_13 : decode cX5_readProduct 13 = .ok (.sipush 600, 3) := by decide +kernel
theorem dX5_readProduct_16 : decode cX5_readProduct 16 = .ok (.if_icmp .gt 112, 3) := by decide +kernel
theorem dX5_readProduct_19 : decode cX5_readProduct 19 = .ok (.aload_n 0, 1) := by decide +kernel
theorem dX5_readProduct_20 : decode cX5_readProduct 20 = .ok (.getfield 51, 3) := by decide +kernel
theorem dX5_readProduct_23 : decode cX5_readProduct 23 = .ok (.bipush 42, 2) := by decide +kernel
theorem dX5_readProduct_25 : decode cX5_readProduct 25 = .ok (.if_icmp .eq 12, 3) := by decide +kernel
theorem dX5_readProduct_28 : decode cX5_readProduct 28 = .ok (.aload_n 0, 1) := by decide +kernel
theorem dX5_readProduct_29 : decode cX5_readProduct 29 = .ok (.getfield 51, 3) := by decide +kernel
theorem dX5_readProduct_32 : decode cX5_readProduct 32 = .ok (.bipush 47, 2) := by decide +kernel
theorem dX5_readProduct_34 : decode cX5_readProduct 34 = .ok (.if_icmp .ne 94, 3) := by decide +kernel
theorem dX5_readProduct_37 : decode cX5_readProduct 37 = .ok (.aload_n 0, 1) := by decide +kernel
theorem dX5_readProduct_38 : decode cX5_readProduct 38 = .ok (.getfield 51, 3) := by decide +kernel
theorem dX5_readProduct_41 : decode cX5_readProduct 41 = .ok (.bipush 47, 2) := by decide +kernel
theorem dX5_readProduct_43 : decode cX5_readProduct 43 = .ok (.if_icmp .ne 7, 3) := by decide +kernel
theorem dX5_readProduct_46 : decode cX5_readProduct 46 = .ok (.iconst 1, 1) := by decide +kernel
theorem dX5_readProduct_47 : decode cX5_readProduct 47 = .ok (.goto 4, 3) := by decide +kernel
theorem dX5_readProduct_50 : decode cX5_readProduct 50 = .ok (.iconst 0, 1) := by decide +kernel
theorem dX5_readProduct_51 : decode cX5_readProduct 51 = .ok (.istore_n 3, 1) := by decide +kernel
theorem dX5_readProduct_52 : decode cX5_readProduct 52 = .ok (.aload_n 0, 1) := by decide +kernel
theorem dX5_readProduct_53 : decode cX5_readProduct 53 = .ok (.invokevirtual 81, 3) := by decide +kernel
theorem dX5_readProduct_56 : decode cX5_readProduct 56 = .ok (.iload_n 3, 1) := by decide +kernel
theorem dX5_readProduct_57 : decode cX5_readProduct 57 = .ok (.ifCond .eq 18, 3) := by decide +kernel
theorem dX5_readProduct_60 : decode cX5_readProduct 60 = .ok (.aload_n 0, 1) := by decide +kernel
theorem dX5_readProduct_61 : decode cX5_readProduct 61 = .ok (.getfield 51, 3) := by decide +kernel
theorem dX5_readProduct_64 : decode cX5_readProduct 64 = .ok (.bipush 18, 2) := by decide +kernel
theorem dX5_readProduct_66 : decode cX5_readProduct 66 = .ok (.if_icmp .eq 9, 3) := by decide +kernel
theorem dX5_readProduct_69 : decode cX5_readProduct 69 = .ok (.aload_n 0, 1) := by decide +kernel
theorem dX5_readProduct_70 : decode cX5_readProduct 70 = .ok (.iconst 1, 1) := by decide +kernel
theorem dX5_readProduct_71 : decode cX5_readProduct 71 = .ok (.invokevirtual 57, 3) := by decide +kernel
theorem dX5_readProduct_74 : decode cX5_readProduct 74 = .ok (.ireturn, 1) := by decide +kernel
theorem dX5_readProduct_75 : decode cX5_readProduct 75 = .ok (.iload_n 3, 1) := by decide +kernel
theorem dX5_readProduct_76 : decode cX5_readProduct 76 = .ok (.ifCond .eq 21, 3) := by decide +kernel
theorem dX5_readProduct_79 : decode cX5_readProduct 79 = .ok (.aload_n 0, 1) := by decide +kernel
theorem dX5_readProduct_80 : decode cX5_readProduct 80 = .ok (.getfield 25, 3) := by decide +kernel
theorem dX5_readProduct_83 : decode cX5_readProduct 83 = .ok (.aload_n 0, 1) := by decide +kernel
theorem dX5_readProduct_84 : decode cX5_readProduct 84 = .ok (.getfield 48, 3) := by decide +kernel
theorem dX5_readProduct_87 : decode cX5_readProduct 87 = .ok (.iaload, 1) := by decide +kernel
theorem dX5_readProduct_88 : decode cX5_readProduct 88 = .ok (.ifCond .ne 9, 3) := by decide +kernel
theorem dX5_readProduct_91 : decode cX5_readProduct 91 = .ok (.aload_n 0, 1) := by decide +kernel
theorem dX5_readProduct_92 : decode cX5_readProduct 92 = .ok (.iconst 2, 1) := by decide +kernel
theorem dX5_readProduct_93 : decode cX5_readProduct 93 = .ok (.invokevirtual 57, 3) := by decide +kernel
theorem dX5_readProduct_96 : decode cX5_readProduct 96 = .ok (.ireturn, 1) := by decide +kernel
theorem dX5_readProduct_97 : decode cX5_readProduct 97 = .ok (.aload_n 0, 1) := by decide +kernel
theorem dX5_readProduct_98 : decode cX5_readProduct 98 = .ok (.iload_n 1, 1) := by decide +kernel
theorem dX5_readProduct_99 : decode cX5_readProduct 99 = .ok (.invokevirtual 135, 3) := by decide +kernel
theorem dX5_readProduct_102 : decode cX5_readProduct 102 = .ok (.ifCond .ne 5, 3) := by decide +kernel
theorem dX5_readProduct_105 : decode cX5_readProduct 105 = .ok (.iconst 0, 1) := by decide +kernel
theorem dX5_readProduct_106 : decode cX5_readProduct 106 = .ok (.ireturn, 1) := by decide +kernel
theorem dX5_readProduct_107 : decode cX5_readProduct 107 = .ok (.aload_n 0, 1) := by decide +kernel
theorem dX5_readProduct_108 : decode cX5_readProduct 108 = .ok (.iload_n 3, 1) := by decide +kernel
theorem dX5_readProduct_109 : decode cX5_readProduct 109 = .ok (.ifCond .eq 8, 3) := by decide +kernel
theorem dX5_readProduct_112 : decode cX5_readProduct 112 = .ok (.bipush (-13), 2) := by decide +kernel
theorem dX5_readProduct_114 : decode cX5_readProduct 114 = .ok (.goto 5, 3) := by decide +kernel
theorem dX5_readProduct_117 : decode cX5_readProduct 117 = .ok (.bipush (-12), 2) := by decide +kernel
theorem dX5_readProduct_119 : decode cX5_readProduct 119 = .ok (.invokevirtual 118, 3) := by decide +kernel
theorem dX5_readProduct_122 : decode cX5_readProduct 122 = .ok (.iinc 2 1, 3) := by decide +kernel
theorem dX5_readProduct_125 : decode cX5_readProduct 125 = .ok (.goto (-113), 3) := by decide +kernel
theorem dX5_readProduct_128 : decode cX5_readProduct 128 = .ok (.iconst 1, 1) := by decide +kernel
theorem dX5_readProduct_129 : decode cX5_readProduct 129 = .ok (.ireturn, 1) := by decide +kernel
theorem bX5_readProduct_0 {d : Nat} {h0 hE h : ea_H} {rv : Option ea_V} {r0 : Option Nat} {x1 : Int32} (H : ∃ a7, r0 = some a7 ∧ a7 < ea_n h ∧ ea_c h a7 = 5 ∧ ∃ (d1 : Nat) (xc9 : Int32) (h2 : ea_H), ea_Met mX5_readUnit d1 [vR (some a7), vI x1] h (some (vI xc9)) h2 ∧ d1 + 1 ≤ d ∧ (¬ xc9 = (0 : Int32) → ea_W mX5_readProduct d h0 rv hE 12 [(0, vR r0), (1, vI x1), (2, vI 0)] [] h2) ∧ (xc9 = (0 : Int32) → rv = some (vI 0) ∧ hE = h2)) : ea_W mX5_readProduct d h0 rv hE 0 [(0, vR r0), (1, vI x1)] [] h := by
  refine ea_aload_n (pc := 0) dX5_readProduct_0 rfl 0 rfl ?_
  refine ea_iload_n (pc := 1) dX5_readProduct_1 rfl 1 rfl ?_
  obtain ⟨a7, e8, f5, g6, H⟩ := H
  refine ea_deref1 e8 ?_
  obtain ⟨d1, xc9, h2, m3, q4, H⟩ := H
  refine ea_callV (pc := 2) (As := [vI x1]) (st := []) dX5_readProduct_2 kX5_readUnit m3 q4 rfl (Nat.le_of_ble_eq_true rfl) ew_871 ew_873 ew_25 (ci := 5) rfl (by decide) f5 g6 ?_
  refine ea_if_ne (pc := 5) (tgt := 10) dX5_readProduct_5 rfl (fun c10 => ?_) (fun c10 => ?_)
  · have H := H.1 c10
    refine ea_iconst (pc := 10) dX5_readProduct_10 (v := 0) rfl ?_
    refine ea_istore_n (pc := 11) (lv' := [(0, vR r0), (1, vI x1), (2, vI 0)]) dX5_readProduct_11 rfl (Nat.le_of_ble_eq_true rfl) [1, 2, 0] rfl ?_
    exact H
  · have H := H.2 c10
    refine ea_iconst (pc := 8) dX5_readProduct_8 (v := 0) rfl ?_
    obtain ⟨rfl, rfl⟩ := H
    exact ea_ireturn (pc := 9) dX5_readProduct_9 rfl (ea_bn (Or.inl rfl))
theorem bX5_readProduct_12 {d : Nat} {h0 hE h : ea_H} {rv : Option ea_V} {r0 : Option Nat} {x1 : Int32} {x2 : Int32} (H : ((600 : Int32) < x2 → rv = some (vI 1) ∧ hE = h) ∧ (¬ (600 : Int32) < x2 → ∃ a3, r0 = some a3 ∧ a3 < ea_n h ∧ ea_c h a3 = 5 ∧ ((ea_i h a3 9) = (42 : Int32) → ea_W mX5_readProduct d h0 rv hE 37 [(0, vR r0), (1, vI x1), (2, vI x2)] [] h) ∧ (¬ (ea_i h a3 9) = (42 : Int32) → a3 < ea_n h ∧ ea_c h a3 = 5 ∧ (¬ (ea_i h a3 9) = (47 : Int32) → rv = some (vI 1) ∧ hE = h) ∧ ((ea_i h a3 9) = (47 : Int32) → ea_W mX5_readProduct d h0 rv hE 37 [(0, vR r0), (1, vI x1), (2, vI x2)] [] h)))) : ea_W mX5_readProduct d h0 rv hE 12 [(0, vR r0), (1, vI x1), (2, vI x2)] [] h := by
  refine ea_iload_n (pc := 12) dX5_readProduct_12 rfl 2 rfl ?_
  refine ea_sipush (pc := 13) dX5_readProduct_13 (v := 600) rfl ?_
  refine ea_icmp_gt (pc := 16) (tgt := 128) dX5_readProduct_16 rfl (fun c9 => ?_) (fun c9 => ?_)
  · have H := H.1 c9
    refine ea_iconst (pc := 128) dX5_readProduct_128 (v := 1) rfl ?_
    obtain ⟨rfl, rfl⟩ := H
    exact ea_ireturn (pc := 129) dX5_readProduct_129 rfl (ea_bn (Or.inr rfl))
  · have H := H.2 c9
    refine ea_aload_n (pc := 19) dX5_readProduct_19 rfl 0 rfl ?_
    obtain ⟨a3, e4, f1, g2, H⟩ := H
    refine ea_deref0 e4 ?_
    refine ea_getI (pc := 20) dX5_readProduct_20 ec_5 (k := 9) (Nat.le_of_ble_eq_true rfl) rfl (Or.inl ew_303) f1 g2 ?_
    refine ea_bipush (pc := 23) dX5_readProduct_23 (v := 42) rfl ?_
    refine ea_icmp_eq (pc := 25) (tgt := 37) dX5_readProduct_25 rfl (fun c8 => ?_) (fun c8 => ?_)
    · have H := H.1 c8
      exact H
    · have H := H.2 c8
      refine ea_aload_n (pc := 28) dX5_readProduct_28 rfl 0 rfl ?_
      obtain ⟨f5, g6, H⟩ := H
      refine ea_deref0 e4 ?_
      refine ea_getI (pc := 29) dX5_readProduct_29 ec_5 (k := 9) (Nat.le_of_ble_eq_true rfl) rfl (Or.inl ew_303) f5 g6 ?_
      refine ea_bipush (pc := 32) dX5_readProduct_32 (v := 47) rfl ?_
      refine ea_icmp_ne (pc := 34) (tgt := 128) dX5_readProduct_34 rfl (fun c7 => ?_) (fun c7 => ?_)
      · have H := H.1 c7
        refine ea_iconst (pc := 128) dX5_readProduct_128 (v := 1) rfl ?_
        obtain ⟨rfl, rfl⟩ := H
        exact ea_ireturn (pc := 129) dX5_readProduct_129 rfl (ea_bn (Or.inr rfl))
      · have H := H.2 c7
        exact H
theorem bX5_readProduct_37 {d : Nat} {h0 hE h : ea_H} {rv : Option ea_V} {r0 : Option Nat} {x1 : Int32} {x2 : Int32} (H : ∃ a3, r0 = some a3 ∧ a3 < ea_n h ∧ ea_c h a3 = 5 ∧ (¬ (ea_i h a3 9) = (47 : Int32) → ea_W mX5_readProduct d h0 rv hE 51 [(0, vR r0), (1, vI x1), (2, vI x2)] [vI 0] h) ∧ ((ea_i h a3 9) = (47 : Int32) → ea_W mX5_readProduct d h0 rv hE 51 [(0, vR r0), (1, vI x1), (2, vI x2)] [vI 1] h)) : ea_W mX5_readProduct d h0 rv hE 37 [(0, vR r0), (1, vI x1), (2, vI x2)] [] h := by
  refine ea_aload_n (pc := 37) dX5_readProduct_37 rfl 0 rfl ?_
  obtain ⟨a3, e4, f1, g2, H⟩ := H
  refine ea_deref0 e4 ?_
  refine ea_getI (pc := 38) dX5_readProduct_38 ec_5 (k := 9) (Nat.le_of_ble_eq_true rfl) rfl (Or.inl ew_303) f1 g2 ?_
  refine ea_bipush (pc := 41) dX5_readProduct_41 (v := 47) rfl ?_
  refine ea_icmp_ne (pc := 43) (tgt := 50) dX5_readProduct_43 rfl (fun c5 => ?_) (fun c5 => ?_)
  · have H := H.1 c5
    refine ea_iconst (pc := 50) dX5_readProduct_50 (v := 0) rfl ?_
    exact H
  · have H := H.2 c5
    refine ea_iconst (pc := 46) dX5_readProduct_46 (v := 1) rfl ?_
    refine ea_goto (pc := 47) (tgt := 51) dX5_readProduct_47 rfl ?_
    exact H
theorem bX5_readProduct_51 {d : Nat} {h0 hE h : ea_H} {rv : Option ea_V} {r0 : Option Nat} {x1 : Int32} {x2 : Int32} {sx0 : Int32} (H : ∃ a7, r0 = some a7 ∧ a7 < ea_n h ∧ ea_c h a7 = 5 ∧ ∃ (d1 : Nat) (h2 : ea_H), ea_Met mX5_step d1 [vR (some a7)] h none h2 ∧ d1 + 1 ≤ d ∧ (sx0 = (0 : Int32) → ea_W mX5_readProduct d h0 rv hE 75 [(0, vR r0), (1, vI x1), (2, vI x2), (3, vI sx0)] [] h2) ∧ (¬ sx0 = (0 : Int32) → a7 < ea_n h2 ∧ ea_c h2 a7 = 5 ∧ ((ea_i h2 a7 9) = (18 : Int32) → ea_W mX5_readProduct d h0 rv hE 75 [(0, vR r0), (1, vI x1), (2, vI x2), (3, vI sx0)] [] h2) ∧ (¬ (ea_i h2 a7 9) = (18 : Int32) → a7 < ea_n h2 ∧ ea_c h2 a7 = 5 ∧ ∃ (d11 : Nat) (xc17 : Int32) (h12 : ea_H), ea_Met mX5_refuse d11 [vR (some a7), vI 1] h2 (some (vI xc17)) h12 ∧ d11 + 1 ≤ d ∧ (xc17 = 0 ∨ xc17 = 1) ∧ rv = some (vI xc17) ∧ hE = h12))) : ea_W mX5_readProduct d h0 rv hE 51 [(0, vR r0), (1, vI x1), (2, vI x2)] [vI sx0] h := by
  refine ea_istore_n (pc := 51) (lv' := [(0, vR r0), (1, vI x1), (2, vI x2), (3, vI sx0)]) dX5_readProduct_51 rfl (Nat.le_of_ble_eq_true rfl) [1, 2, 3, 0] rfl ?_
  refine ea_aload_n (pc := 52) dX5_readProduct_52 rfl 0 rfl ?_
  obtain ⟨a7, e8, f5, g6, H⟩ := H
  refine ea_deref0 e8 ?_
  obtain ⟨d1, h2, m3, q4, H⟩ := H
  refine ea_callV (pc := 53) (As := []) (st := []) dX5_readProduct_53 kX5_step m3 q4 rfl (Nat.le_of_ble_eq_true rfl) ew_859 ew_861 ew_22 (ci := 5) rfl (by decide) f5 g6 ?_
  refine ea_iload_n (pc := 56) dX5_readProduct_56 rfl 3 rfl ?_
  refine ea_if_eq (pc := 57) (tgt := 75) dX5_readProduct_57 rfl (fun c20 => ?_) (fun c20 => ?_)
  · have H := H.1 c20
    exact H
  · have H := H.2 c20
    refine ea_aload_n (pc := 60) dX5_readProduct_60 rfl 0 rfl ?_
    obtain ⟨f9, g10, H⟩ := H
    refine ea_deref0 e8 ?_
    refine ea_getI (pc := 61) dX5_readProduct_61 ec_5 (k := 9) (Nat.le_of_ble_eq_true rfl) rfl (Or.inl ew_303) f9 g10 ?_
    refine ea_bipush (pc := 64) dX5_readProduct_64 (v := 18) rfl ?_
    refine ea_icmp_eq (pc := 66) (tgt := 75) dX5_readProduct_66 rfl (fun c19 => ?_) (fun c19 => ?_)
    · have H := H.1 c19
      exact H
    · have H := H.2 c19
      refine ea_aload_n (pc := 69) dX5_readProduct_69 rfl 0 rfl ?_
      refine ea_iconst (pc := 70) dX5_readProduct_70 (v := 1) rfl ?_
      obtain ⟨f15, g16, H⟩ := H
      refine ea_deref1 e8 ?_
      obtain ⟨d11, xc17, h12, m13, q14, H⟩ := H
      refine ea_callV (pc := 71) (As := [vI 1]) (st := []) dX5_readProduct_71 kX5_refuse m13 q14 rfl (Nat.le_of_ble_eq_true rfl) ew_851 ew_853 ew_20 (ci := 5) rfl (by decide) f15 g16 ?_
      obtain ⟨z18, rfl, rfl⟩ := H
      exact ea_ireturn (pc := 74) dX5_readProduct_74 rfl (ea_bn z18)
theorem bX5_readProduct_75 {d : Nat} {h0 hE h : ea_H} {rv : Option ea_V} {r0 : Option Nat} {x1 : Int32} {x2 : Int32} {x3 : Int32} (H : (x3 = (0 : Int32) → ea_W mX5_readProduct d h0 rv hE 97 [(0, vR r0), (1, vI x1), (2, vI x2), (3, vI x3)] [] h) ∧ (¬ x3 = (0 : Int32) → ∃ a3, r0 = some a3 ∧ a3 < ea_n h ∧ ea_c h a3 = 5 ∧ a3 < ea_n h ∧ ea_c h a3 = 5 ∧ ∃ a9, (ea_r h a3 6) = some a9 ∧ a9 < ea_n h ∧ ea_c h a9 = 20 ∧ vp_in (ea_i h a3 8) (ea_l h a9) ∧ (¬ (ea_i h a9 (Int32.toNatClampNeg (ea_i h a3 8))) = (0 : Int32) → ea_W mX5_readProduct d h0 rv hE 97 [(0, vR r0), (1, vI x1), (2, vI x2), (3, vI x3)] [] h) ∧ ((ea_i h a9 (Int32.toNatClampNeg (ea_i h a3 8))) = (0 : Int32) → a3 < ea_n h ∧ ea_c h a3 = 5 ∧ ∃ (d12 : Nat) (xc18 : Int32) (h13 : ea_H), ea_Met mX5_refuse d12 [vR (some a3), vI 2] h (some (vI xc18)) h13 ∧ d12 + 1 ≤ d ∧ (xc18 = 0 ∨ xc18 = 1) ∧ rv = some (vI xc18) ∧ hE = h13))) : ea_W mX5_readProduct d h0 rv hE 75 [(0, vR r0), (1, vI x1), (2, vI x2), (3, vI x3)] [] h := by
  refine ea_iload_n (pc := 75) dX5_readProduct_75 rfl 3 rfl ?_
  refine ea_if_eq (pc := 76) (tgt := 97) dX5_readProduct_76 rfl (fun c21 => ?_) (fun c21 => ?_)
  · have H := H.1 c21
    exact H
  · have H := H.2 c21
    refine ea_aload_n (pc := 79) dX5_readProduct_79 rfl 0 rfl ?_
    obtain ⟨a3, e4, f1, g2, H⟩ := H
    refine ea_deref0 e4 ?_
    refine ea_getR (pc := 80) dX5_readProduct_80 ec_5 (k := 6) (Nat.le_of_ble_eq_true rfl) rfl (Or.inl ew_300) f1 g2 rfl ?_
    refine ea_aload_n (pc := 83) dX5_readProduct_83 rfl 0 rfl ?_
    obtain ⟨f5, g6, H⟩ := H
    refine ea_deref0 e4 ?_
    refine ea_getI (pc := 84) dX5_readProduct_84 ec_5 (k := 8) (Nat.le_of_ble_eq_true rfl) rfl (Or.inl ew_302) f5 g6 ?_
    obtain ⟨a9, e10, f7, g8, H⟩ := H
    refine ea_deref1 e10 ?_
    obtain ⟨z11, H⟩ := H
    refine ea_iald (pc := 87) dX5_readProduct_87 f7 g8 z11 ?_
    refine ea_if_ne (pc := 88) (tgt := 97) dX5_readProduct_88 rfl (fun c20 => ?_) (fun c20 => ?_)
    · have H := H.1 c20
      exact H
    · have H := H.2 c20
      refine ea_aload_n (pc := 91) dX5_readProduct_91 rfl 0 rfl ?_
      refine ea_iconst (pc := 92) dX5_readProduct_92 (v := 2) rfl ?_
      obtain ⟨f16, g17, H⟩ := H
      refine ea_deref1 e4 ?_
      obtain ⟨d12, xc18, h13, m14, q15, H⟩ := H
      refine ea_callV (pc := 93) (As := [vI 2]) (st := []) dX5_readProduct_93 kX5_refuse m14 q15 rfl (Nat.le_of_ble_eq_true rfl) ew_851 ew_853 ew_20 (ci := 5) rfl (by decide) f16 g17 ?_
      obtain ⟨z19, rfl, rfl⟩ := H
      exact ea_ireturn (pc := 96) dX5_readProduct_96 rfl (ea_bn z19)
theorem bX5_readProduct_97 {d : Nat} {h0 hE h : ea_H} {rv : Option ea_V} {r0 : Option Nat} {x1 : Int32} {x2 : Int32} {x3 : Int32} (H : ∃ a7, r0 = some a7 ∧ a7 < ea_n h ∧ ea_c h a7 = 5 ∧ ∃ (d1 : Nat) (xc9 : Int32) (h2 : ea_H), ea_Met mX5_readUnit d1 [vR (some a7), vI x1] h (some (vI xc9)) h2 ∧ d1 + 1 ≤ d ∧ (¬ xc9 = (0 : Int32) → (x3 = (0 : Int32) → a7 < ea_n h2 ∧ ea_c h2 a7 = 5 ∧ ∃ (d10 : Nat) (h11 : ea_H), ea_Met mX5_put d10 [vR (some a7), vI (-12)] h2 none h11 ∧ d10 + 1 ≤ d ∧ ea_W mX5_readProduct d h0 rv hE 12 [(0, vR r0), (1, vI x1), (2, vI (x2 + 1))] [] h11) ∧ (¬ x3 = (0 : Int32) → a7 < ea_n h2 ∧ ea_c h2 a7 = 5 ∧ ∃ (d16 : Nat) (h17 : ea_H), ea_Met mX5_put d16 [vR (some a7), vI (-13)] h2 none h17 ∧ d16 + 1 ≤ d ∧ ea_W mX5_readProduct d h0 rv hE 12 [(0, vR r0), (1, vI x1), (2, vI (x2 + 1))] [] h17)) ∧ (xc9 = (0 : Int32) → rv = some (vI 0) ∧ hE = h2)) : ea_W mX5_readProduct d h0 rv hE 97 [(0, vR r0), (1, vI x1), (2, vI x2), (3, vI x3)] [] h := by
  refine ea_aload_n (pc := 97) dX5_readProduct_97 rfl 0 rfl ?_
  refine ea_iload_n (pc := 98) dX5_readProduct_98 rfl 1 rfl ?_
  obtain ⟨a7, e8, f5, g6, H⟩ := H
  refine ea_deref1 e8 ?_
  obtain ⟨d1, xc9, h2, m3, q4, H⟩ := H
  refine ea_callV (pc := 99) (As := [vI x1]) (st := []) dX5_readProduct_99 kX5_readUnit m3 q4 rfl (Nat.le_of_ble_eq_true rfl) ew_871 ew_873 ew_25 (ci := 5) rfl (by decide) f5 g6 ?_
  refine ea_if_ne (pc := 102) (tgt := 107) dX5_readProduct_102 rfl (fun c23 => ?_) (fun c23 => ?_)
  · have H := H.1 c23
    refine ea_aload_n (pc := 107) dX5_readProduct_107 rfl 0 rfl ?_
    refine ea_iload_n (pc := 108) dX5_readProduct_108 rfl 3 rfl ?_
    refine ea_if_eq (pc := 109) (tgt := 117) dX5_readProduct_109 rfl (fun c22 => ?_) (fun c22 => ?_)
    · have H := H.1 c22
      refine ea_bipush (pc := 117) dX5_readProduct_117 (v := (-12)) rfl ?_
      obtain ⟨f14, g15, H⟩ := H
      refine ea_deref1 e8 ?_
      obtain ⟨d10, h11, m12, q13, H⟩ := H
      refine ea_callV (pc := 119) (As := [vI (-12)]) (st := []) dX5_readProduct_119 kX5_put m12 q13 rfl (Nat.le_of_ble_eq_true rfl) ew_875 ew_877 ew_26 (ci := 5) rfl (by decide) f14 g15 ?_
      refine ea_iinc (pc := 122) (v := 1) (lv' := [(0, vR r0), (1, vI x1), (2, vI (x2 + 1))]) dX5_readProduct_122 2 rfl rfl (Nat.le_of_ble_eq_true rfl) [1, 2, 0] rfl ?_
      refine ea_goto (pc := 125) (tgt := 12) dX5_readProduct_125 rfl ?_
      exact H
    · have H := H.2 c22
      refine ea_bipush (pc := 112) dX5_readProduct_112 (v := (-13)) rfl ?_
      refine ea_goto (pc := 114) (tgt := 119) dX5_readProduct_114 rfl ?_
      obtain ⟨f20, g21, H⟩ := H
      refine ea_deref1 e8 ?_
      obtain ⟨d16, h17, m18, q19, H⟩ := H
      refine ea_callV (pc := 119) (As := [vI (-13)]) (st := []) dX5_readProduct_119 kX5_put m18 q19 rfl (Nat.le_of_ble_eq_true rfl) ew_875 ew_877 ew_26 (ci := 5) rfl (by decide) f20 g21 ?_
      refine ea_iinc (pc := 122) (v := 1) (lv' := [(0, vR r0), (1, vI x1), (2, vI (x2 + 1))]) dX5_readProduct_122 2 rfl rfl (Nat.le_of_ble_eq_true rfl) [1, 2, 0] rfl ?_
      refine ea_goto (pc := 125) (tgt := 12) dX5_readProduct_125 rfl ?_
      exact H
  · have H := H.2 c23
    refine ea_iconst (pc := 105) dX5_readProduct_105 (v := 0) rfl ?_
    obtain ⟨rfl, rfl⟩ := H
    exact ea_ireturn (pc := 106) dX5_readProduct_106 rfl (ea_bn (Or.inl rfl))
theorem dX5_readUnit_0 : decode cX5_readUnit 0 = .ok (.aload_n 0, 1) := by decide +kernel
theorem dX5_readUnit_1 : decode cX5_readUnit 1 = .ok (.getfield 51, 3) := by decide +kernel
theorem dX5_readUnit_4 : decode cX5_readUnit 4 = .ok (.bipush 18, 2) := by decide +kernel
theorem dX5_readUnit_6 : decode cX5_readUnit 6 = .ok (.if_icmp .ne 22, 3) := by decide +kernel
theorem dX5_readUnit_9 : decode cX5_readUnit 9 = .ok (.aload_n 0, 1) := by decide +kernel
theorem dX5_readUnit_10 : decode cX5_readUnit 10 = .ok (.aload_n 0, 1) := by decide +kernel
theorem dX5_readUnit_11 : decode cX5_readUnit 11 = .ok (.getfield 25, 3) := by decide +kernel
theorem dX5_readUnit_14 : decode cX5_readUnit 14 = .ok (.aload_n 0, 1) := by decide +kernel
theorem dX5_readUnit_15 : decode cX5_readUnit 15 = .ok (.getfield 48, 3) := by decide +kernel
theorem dX5_readUnit_18 : decode cX5_readUnit 18 = .ok (.iaload, 1) := by decide +kernel
theorem dX5_readUnit_19 : decode cX5_readUnit 19 = .ok (.invokevirtual 118, 3) := by decide +kernel
theorem dX5_readUnit_22 : decode cX5_readUnit 22 = .ok (.aload_n 0, 1) := by decide +kernel
theorem dX5_readUnit_23 : decode cX5_readUnit 23 = .ok (.invokevirtual 81, 3) := by decide +kernel
theorem dX5_readUnit_26 : decode cX5_readUnit 26 = .ok (.iconst 1, 1) := by decide +kernel
theorem dX5_readUnit_27 : decode cX5_readUnit 27 = .ok (.ireturn, 1) := by decide +kernel
theorem dX5_readUnit_28 : decode cX5_readUnit 28 = .ok (.aload_n 0, 1) := by decide +kernel
theorem dX5_readUnit_29 : decode cX5_readUnit 29 = .ok (.getfield 51, 3) := by decide +kernel
theorem dX5_readUnit_32 : decode cX5_readUnit 32 = .ok (.bipush 6, 2) := by decide +kernel
theorem dX5_readUnit_34 : decode cX5_readUnit 34 = .ok (.if_icmp .lt 31, 3) := by decide +kernel
theorem dX5_readUnit_37 : decode cX5_readUnit 37 = .ok (.aload_n 0, 1) := by decide +kernel
theorem dX5_readUnit_38 : decode cX5_readUnit 38 = .ok (.getfield 51, 3) := by decide +kernel
theorem dX5_readUnit_41 : decode cX5_readUnit 41 = .ok (.bipush 12, 2) := by decide +kernel
theorem dX5_readUnit_43 : decode cX5_readUnit 43 = .ok (.if_icmp .gt 22, 3) := by decide +kernel
theorem dX5_readUnit_46 : decode cX5_readUnit 46 = .ok (.aload_n 0, 1) := by decide +kernel
theorem dX5_readUnit_47 : decode cX5_readUnit 47 = .ok (.iconst (-1), 1) := by decide +kernel
theorem dX5_readUnit_48 : decode cX5_readUnit 48 = .ok (.aload_n 0, 1) := by decide +kernel
theorem dX5_readUnit_49 : decode cX5_readUnit 49 = .ok (.getfield 51, 3) := by decide +kernel
theorem dX5_readUnit_52 : decode cX5_readUnit 52 = .ok (.bipush 6, 2) := by decide +kernel
theorem dX5_readUnit_54 : decode cX5_readUnit 54 = .ok (.isub, 1) := by decide +kernel
theorem dX5_readUnit_55 : decode cX5_readUnit 55 = .ok (.isub, 1) := by decide +kernel
theorem dX5_readUnit_56 : decode cX5_readUnit 56 = .ok (.invokevirtual 118, 3) := by decide +kernel
theorem dX5_readUnit_59 : decode cX5_readUnit 59 = .ok (.aload_n 0, 1) := by decide +kernel
theorem dX5_readUnit_60 : decode cX5_readUnit 60 = .ok (.invokevirtual 81, 3) := by decide +kernel
theorem dX5_readUnit_63 : decode cX5_readUnit 63 = .ok (.iconst 1, 1) := by decide +kernel
theorem dX5_readUnit_64 : decode cX5_readUnit 64 = .ok (.ireturn, 1) := by decide +kernel
theorem dX5_readUnit_65 : decode cX5_readUnit 65 = .ok (.aload_n 0, 1) := by decide +kernel
theorem dX5_readUnit_66 : decode cX5_readUnit 66 = .ok (.getfield 51, 3) := by decide +kernel
theorem dX5_readUnit_69 : decode cX5_readUnit 69 = .ok (.bipush 40, 2) := by decide +kernel
theorem dX5_readUnit_71 : decode cX5_readUnit 71 = .ok (.if_icmp .eq 9, 3) := by decide +kernel
theorem dX5_readUnit_74 : decode cX5_readUnit 74 = .ok (.aload_n 0, 1) := by decide +kernel
theorem dX5_readUnit_75 : decode cX5_readUnit 75 = .ok (.iconst 1, 1) := by decide +kernel
theorem dX5_readUnit_76 : decode cX5_readUnit 76 = .ok (.invokevirtual 57, 3) := by decide +kernel
theorem dX5_readUnit_79 : decode cX5_readUnit 79 = .ok (.ireturn, 1) := by decide +kernel
theorem dX5_readUnit_80 : decode cX5_readUnit 80 = .ok (.iload_n 1, 1) := by decide +kernel
theorem dX5_readUnit_81 : decode cX5_readUnit 81 = .ok (.bipush 8, 2) := by decide +kernel
theorem dX5_readUnit_83 : decode cX5_readUnit 83 = .ok (.if_icmp .lt 9, 3) := by decide +kernel
theorem dX5_readUnit_86 : decode cX5_readUnit 86 = .ok (.aload_n 0, 1) := by decide +kernel
theorem dX5_readUnit_87 : decode cX5_readUnit 87 = .ok (.iconst 3, 1) := by decide +kernel
theorem dX5_readUnit_88 : decode cX5_readUnit 88 = .ok (.invokevirtual 57, 3) := by decide +kernel
theorem dX5_readUnit_91 : decode cX5_readUnit 91 = .ok (.ireturn, 1) := by decide +kernel
theorem dX5_readUnit_92 : decode cX5_readUnit 92 = .ok (.aload_n 0, 1) := by decide +kernel
theorem dX5_readUnit_93 : decode cX5_readUnit 93 = .ok (.invokevirtual 81, 3) := by decide +kernel
theorem dX5_readUnit_96 : decode cX5_readUnit 96 = .ok (.aload_n 0, 1) := by decide +kernel
theorem dX5_readUnit_97 : decode cX5_readUnit 97 = .ok (.iload_n 1, 1) := by decide +kernel
theorem dX5_readUnit_98 : decode cX5_readUnit 98 = .ok (.iconst 1, 1) := by decide +kernel
theorem dX5_readUnit_99 : decode cX5_readUnit 99 = .ok (.iadd, 1) := by decide +kernel
theorem dX5_readUnit_100 : decode cX5_readUnit 100 = .ok (.invokevirtual 115, 3) := by decide +kernel
theorem dX5_readUnit_103 : decode cX5_readUnit 103 = .ok (.ifCond .ne 5, 3) := by decide +kernel
theorem dX5_readUnit_106 : decode cX5_readUnit 106 = .ok (.iconst 0, 1) := by decide +kernel
theorem dX5_readUnit_107 : decode cX5_readUnit 107 = .ok (.ireturn, 1) := by decide +kernel
theorem dX5_readUnit_108 : decode cX5_readUnit 108 = .ok (.aload_n 0, 1) := by decide +kernel
theorem dX5_readUnit_109 : decode cX5_readUnit 109 = .ok (.getfield 51, 3) := by decide +kernel
theorem dX5_readUnit_112 : decode cX5_readUnit 112 = .ok (.bipush 41, 2) := by decide +kernel
theorem dX5_readUnit_114 : decode cX5_readUnit 114 = .ok (.if_icmp .eq 9, 3) := by decide +kernel
theorem dX5_readUnit_117 : decode cX5_readUnit 117 = .ok (.aload_n 0, 1) := by decide +kernel
theorem dX5_readUnit_118 : decode cX5_readUnit 118 = .ok (.iconst 1, 1) := by decide +kernel
theorem dX5_readUnit_119 : decode cX5_readUnit 119 = .ok (.invokevirtual 57, 3) := by decide +kernel
theorem dX5_readUnit_122 : decode cX5_readUnit 122 = .ok (.ireturn, 1) := by decide +kernel
theorem dX5_readUnit_123 : decode cX5_readUnit 123 = .ok (.aload_n 0, 1) := by decide +kernel
theorem dX5_readUnit_124 : decode cX5_readUnit 124 = .ok (.invokevirtual 81, 3) := by decide +kernel
theorem dX5_readUnit_127 : decode cX5_readUnit 127 = .ok (.iconst 1, 1) := by decide +kernel
theorem dX5_readUnit_128 : decode cX5_readUnit 128 = .ok (.ireturn, 1) := by decide +kernel
theorem bX5_readUnit_0 {d : Nat} {h0 hE h : ea_H} {rv : Option ea_V} {r0 : Option Nat} {x1 : Int32} (H : ∃ a3, r0 = some a3 ∧ a3 < ea_n h ∧ ea_c h a3 = 5 ∧ (¬ (ea_i h a3 9) = (18 : Int32) → a3 < ea_n h ∧ ea_c h a3 = 5 ∧ ((ea_i h a3 9) < (6 : Int32) → ea_W mX5_readUnit d h0 rv hE 65 [(0, vR r0), (1, vI x1)] [] h) ∧ (¬ (ea_i h a3 9) < (6 : Int32) → a3 < ea_n h ∧ ea_c h a3 = 5 ∧ ((12 : Int32) < (ea_i h a3 9) → ea_W mX5_readUnit d h0 rv hE 65 [(0, vR r0), (1, vI x1)] [] h) ∧ (¬ (12 : Int32) < (ea_i h a3 9) → a3 < ea_n h ∧ ea_c h a3 = 5 ∧ a3 < ea_n h ∧ ea_c h a3 = 5 ∧ ∃ (d11 : Nat) (h12 : ea_H), ea_Met mX5_put d11 [vR (some a3), vI (((-1) : Int32) - ((ea_i h a3 9) - (6 : Int32)))] h none h12 ∧ d11 + 1 ≤ d ∧ a3 < ea_n h12 ∧ ea_c h12 a3 = 5 ∧ ∃ (d17 : Nat) (h18 : ea_H), ea_Met mX5_step d17 [vR (some a3)] h12 none h18 ∧ d17 + 1 ≤ d ∧ rv = some (vI 1) ∧ hE = h18))) ∧ ((ea_i h a3 9) = (18 : Int32) → a3 < ea_n h ∧ ea_c h a3 = 5 ∧ a3 < ea_n h ∧ ea_c h a3 = 5 ∧ ∃ a31, (ea_r h a3 6) = some a31 ∧ a31 < ea_n h ∧ ea_c h a31 = 20 ∧ vp_in (ea_i h a3 8) (ea_l h a31) ∧ a3 < ea_n h ∧ ea_c h a3 = 5 ∧ ∃ (d34 : Nat) (h35 : ea_H), ea_Met mX5_put d34 [vR (some a3), vI (ea_i h a31 (Int32.toNatClampNeg (ea_i h a3 8)))] h none h35 ∧ d34 + 1 ≤ d ∧ a3 < ea_n h35 ∧ ea_c h35 a3 = 5 ∧ ∃ (d40 : Nat) (h41 : ea_H), ea_Met mX5_step d40 [vR (some a3)] h35 none h41 ∧ d40 + 1 ≤ d ∧ rv = some (vI 1) ∧ hE = h41)) : ea_W mX5_readUnit d h0 rv hE 0 [(0, vR r0), (1, vI x1)] [] h := by
  refine ea_aload_n (pc := 0) dX5_readUnit_0 rfl 0 rfl ?_
  obtain ⟨a3, e4, f1, g2, H⟩ := H
  refine ea_deref0 e4 ?_
  refine ea_getI (pc := 1) dX5_readUnit_1 ec_5 (k := 9) (Nat.le_of_ble_eq_true rfl) rfl (Or.inl ew_303) f1 g2 ?_
  refine ea_bipush (pc := 4) dX5_readUnit_4 (v := 18) rfl ?_
  refine ea_icmp_ne (pc := 6) (tgt := 28) dX5_readUnit_6 rfl (fun c46 => ?_) (fun c46 => ?_)
  · have H := H.1 c46
    refine ea_aload_n (pc := 28) dX5_readUnit_28 rfl 0 rfl ?_
    obtain ⟨f5, g6, H⟩ := H
    refine ea_deref0 e4 ?_
    refine ea_getI (pc := 29) dX5_readUnit_29 ec_5 (k := 9) (Nat.le_of_ble_eq_true rfl) rfl (Or.inl ew_303) f5 g6 ?_
    refine ea_bipush (pc := 32) dX5_readUnit_32 (v := 6) rfl ?_
    refine ea_icmp_lt (pc := 34) (tgt := 65) dX5_readUnit_34 rfl (fun c24 => ?_) (fun c24 => ?_)
    · have H := H.1 c24
      exact H
    · have H := H.2 c24
      refine ea_aload_n (pc := 37) dX5_readUnit_37 rfl 0 rfl ?_
      obtain ⟨f7, g8, H⟩ := H
      refine ea_deref0 e4 ?_
      refine ea_getI (pc := 38) dX5_readUnit_38 ec_5 (k := 9) (Nat.le_of_ble_eq_true rfl) rfl (Or.inl ew_303) f7 g8 ?_
      refine ea_bipush (pc := 41) dX5_readUnit_41 (v := 12) rfl ?_
      refine ea_icmp_gt (pc := 43) (tgt := 65) dX5_readUnit_43 rfl (fun c23 => ?_) (fun c23 => ?_)
      · have H := H.1 c23
        exact H
      · have H := H.2 c23
        refine ea_aload_n (pc := 46) dX5_readUnit_46 rfl 0 rfl ?_
        refine ea_iconst (pc := 47) dX5_readUnit_47 (v := (-1)) rfl ?_
        refine ea_aload_n (pc := 48) dX5_readUnit_48 rfl 0 rfl ?_
        obtain ⟨f9, g10, H⟩ := H
        refine ea_deref0 e4 ?_
        refine ea_getI (pc := 49) dX5_readUnit_49 ec_5 (k := 9) (Nat.le_of_ble_eq_true rfl) rfl (Or.inl ew_303) f9 g10 ?_
        refine ea_bipush (pc := 52) dX5_readUnit_52 (v := 6) rfl ?_
        refine ea_isub (pc := 54) dX5_readUnit_54 ?_
        refine ea_isub (pc := 55) dX5_readUnit_55 ?_
        obtain ⟨f15, g16, H⟩ := H
        refine ea_deref1 e4 ?_
        obtain ⟨d11, h12, m13, q14, H⟩ := H
        refine ea_callV (pc := 56) (As := [vI (((-1) : Int32) - ((ea_i h a3 9) - (6 : Int32)))]) (st := []) dX5_readUnit_56 kX5_put m13 q14 rfl (Nat.le_of_ble_eq_true rfl) ew_875 ew_877 ew_26 (ci := 5) rfl (by decide) f15 g16 ?_
        refine ea_aload_n (pc := 59) dX5_readUnit_59 rfl 0 rfl ?_
        obtain ⟨f21, g22, H⟩ := H
        refine ea_deref0 e4 ?_
        obtain ⟨d17, h18, m19, q20, H⟩ := H
        refine ea_callV (pc := 60) (As := []) (st := []) dX5_readUnit_60 kX5_step m19 q20 rfl (Nat.le_of_ble_eq_true rfl) ew_859 ew_861 ew_22 (ci := 5) rfl (by decide) f21 g22 ?_
        refine ea_iconst (pc := 63) dX5_readUnit_63 (v := 1) rfl ?_
        obtain ⟨rfl, rfl⟩ := H
        exact ea_ireturn (pc := 64) dX5_readUnit_64 rfl (ea_bn (Or.inr rfl))
  · have H := H.2 c46
    refine ea_aload_n (pc := 9) dX5_readUnit_9 rfl 0 rfl ?_
    refine ea_aload_n (pc := 10) dX5_readUnit_10 rfl 0 rfl ?_
    obtain ⟨f25, g26, H⟩ := H
    refine ea_deref0 e4 ?_
    refine ea_getR (pc := 11) dX5_readUnit_11 ec_5 (k := 6) (Nat.le_of_ble_eq_true rfl) rfl (Or.inl ew_300) f25 g26 rfl ?_
    refine ea_aload_n (pc := 14) dX5_readUnit_14 rfl 0 rfl ?_
    obtain ⟨f27, g28, H⟩ := H
    refine ea_deref0 e4 ?_
    refine ea_getI (pc := 15) dX5_readUnit_15 ec_5 (k := 8) (Nat.le_of_ble_eq_true rfl) rfl (Or.inl ew_302) f27 g28 ?_
    obtain ⟨a31, e32, f29, g30, H⟩ := H
    refine ea_deref1 e32 ?_
    obtain ⟨z33, H⟩ := H
    refine ea_iald (pc := 18) dX5_readUnit_18 f29 g30 z33 ?_
    obtain ⟨f38, g39, H⟩ := H
    refine ea_deref1 e4 ?_
    obtain ⟨d34, h35, m36, q37, H⟩ := H
    refine ea_callV (pc := 19) (As := [vI (ea_i h a31 (Int32.toNatClampNeg (ea_i h a3 8)))]) (st := []) dX5_readUnit_19 kX5_put m36 q37 rfl (Nat.le_of_ble_eq_true rfl) ew_875 ew_877 ew_26 (ci := 5) rfl (by decide) f38 g39 ?_
    refine ea_aload_n (pc := 22) dX5_readUnit_22 rfl 0 rfl ?_
    obtain ⟨f44, g45, H⟩ := H
    refine ea_deref0 e4 ?_
    obtain ⟨d40, h41, m42, q43, H⟩ := H
    refine ea_callV (pc := 23) (As := []) (st := []) dX5_readUnit_23 kX5_step m42 q43 rfl (Nat.le_of_ble_eq_true rfl) ew_859 ew_861 ew_22 (ci := 5) rfl (by decide) f44 g45 ?_
    refine ea_iconst (pc := 26) dX5_readUnit_26 (v := 1) rfl ?_
    obtain ⟨rfl, rfl⟩ := H
    exact ea_ireturn (pc := 27) dX5_readUnit_27 rfl (ea_bn (Or.inr rfl))
theorem bX5_readUnit_65 {d : Nat} {h0 hE h : ea_H} {rv : Option ea_V} {r0 : Option Nat} {x1 : Int32} (H : ∃ a3, r0 = some a3 ∧ a3 < ea_n h ∧ ea_c h a3 = 5 ∧ ((ea_i h a3 9) = (40 : Int32) → (x1 < (8 : Int32) → a3 < ea_n h ∧ ea_c h a3 = 5 ∧ ∃ (d5 : Nat) (h6 : ea_H), ea_Met mX5_step d5 [vR (some a3)] h none h6 ∧ d5 + 1 ≤ d ∧ a3 < ea_n h6 ∧ ea_c h6 a3 = 5 ∧ ∃ (d11 : Nat) (xc17 : Int32) (h12 : ea_H), ea_Met mX5_readSum d11 [vR (some a3), vI (x1 + (1 : Int32))] h6 (some (vI xc17)) h12 ∧ d11 + 1 ≤ d ∧ (¬ xc17 = (0 : Int32) → a3 < ea_n h12 ∧ ea_c h12 a3 = 5 ∧ ((ea_i h12 a3 9) = (41 : Int32) → a3 < ea_n h12 ∧ ea_c h12 a3 = 5 ∧ ∃ (d20 : Nat) (h21 : ea_H), ea_Met mX5_step d20 [vR (some a3)] h12 none h21 ∧ d20 + 1 ≤ d ∧ rv = some (vI 1) ∧ hE = h21) ∧ (¬ (ea_i h12 a3 9) = (41 : Int32) → a3 < ea_n h12 ∧ ea_c h12 a3 = 5 ∧ ∃ (d26 : Nat) (xc32 : Int32) (h27 : ea_H), ea_Met mX5_refuse d26 [vR (some a3), vI 1] h12 (some (vI xc32)) h27 ∧ d26 + 1 ≤ d ∧ (xc32 = 0 ∨ xc32 = 1) ∧ rv = some (vI xc32) ∧ hE = h27)) ∧ (xc17 = (0 : Int32) → rv = some (vI 0) ∧ hE = h12)) ∧ (¬ x1 < (8 : Int32) → a3 < ea_n h ∧ ea_c h a3 = 5 ∧ ∃ (d36 : Nat) (xc42 : Int32) (h37 : ea_H), ea_Met mX5_refuse d36 [vR (some a3), vI 3] h (some (vI xc42)) h37 ∧ d36 + 1 ≤ d ∧ (xc42 = 0 ∨ xc42 = 1) ∧ rv = some (vI xc42) ∧ hE = h37)) ∧ (¬ (ea_i h a3 9) = (40 : Int32) → a3 < ea_n h ∧ ea_c h a3 = 5 ∧ ∃ (d45 : Nat) (xc51 : Int32) (h46 : ea_H), ea_Met mX5_refuse d45 [vR (some a3), vI 1] h (some (vI xc51)) h46 ∧ d45 + 1 ≤ d ∧ (xc51 = 0 ∨ xc51 = 1) ∧ rv = some (vI xc51) ∧ hE = h46)) : ea_W mX5_readUnit d h0 rv hE 65 [(0, vR r0), (1, vI x1)] [] h := by
  refine ea_aload_n (pc := 65) dX5_readUnit_65 rfl 0 rfl ?_
  obtain ⟨a3, e4, f1, g2, H⟩ := H
  refine ea_deref0 e4 ?_
  refine ea_getI (pc := 66) dX5_readUnit_66 ec_5 (k := 9) (Nat.le_of_ble_eq_true rfl) rfl (Or.inl ew_303) f1 g2 ?_
  refine ea_bipush (pc := 69) dX5_readUnit_69 (v := 40) rfl ?_
  refine ea_icmp_eq (pc := 71) (tgt := 80) dX5_readUnit_71 rfl (fun c53 => ?_) (fun c53 => ?_)
  · have H := H.1 c53
    refine ea_iload_n (pc := 80) dX5_readUnit_80 rfl 1 rfl ?_
    refine ea_bipush (pc := 81) dX5_readUnit_81 (v := 8) rfl ?_
    refine ea_icmp_lt (pc := 83) (tgt := 92) dX5_readUnit_83 rfl (fun c44 => ?_) (fun c44 => ?_)
    · have H := H.1 c44
      refine ea_aload_n (pc := 92) dX5_readUnit_92 rfl 0 rfl ?_
      obtain ⟨f9, g10, H⟩ := H
      refine ea_deref0 e4 ?_
      obtain ⟨d5, h6, m7, q8, H⟩ := H
      refine ea_callV (pc := 93) (As := []) (st := []) dX5_readUnit_93 kX5_step m7 q8 rfl (Nat.le_of_ble_eq_true rfl) ew_859 ew_861 ew_22 (ci := 5) rfl (by decide) f9 g10 ?_
      refine ea_aload_n (pc := 96) dX5_readUnit_96 rfl 0 rfl ?_
      refine ea_iload_n (pc := 97) dX5_readUnit_97 rfl 1 rfl ?_
      refine ea_iconst (pc := 98) dX5_readUnit_98 (v := 1) rfl ?_
      refine ea_iadd (pc := 99) dX5_readUnit_99 ?_
      obtain ⟨f15, g16, H⟩ := H
      refine ea_deref1 e4 ?_
      obtain ⟨d11, xc17, h12, m13, q14, H⟩ := H
      refine ea_callV (pc := 100) (As := [vI (x1 + (1 : Int32))]) (st := []) dX5_readUnit_100 kX5_readSum m13 q14 rfl (Nat.le_of_ble_eq_true rfl) ew_863 ew_865 ew_23 (ci := 5) rfl (by decide) f15 g16 ?_
      refine ea_if_ne (pc := 103) (tgt := 108) dX5_readUnit_103 rfl (fun c35 => ?_) (fun c35 => ?_)
      · have H := H.1 c35
        refine ea_aload_n (pc := 108) dX5_readUnit_108 rfl 0 rfl ?_
        obtain ⟨f18, g19, H⟩ := H
        refine ea_deref0 e4 ?_
        refine ea_getI (pc := 109) dX5_readUnit_109 ec_5 (k := 9) (Nat.le_of_ble_eq_true rfl) rfl (Or.inl ew_303) f18 g19 ?_
        refine ea_bipush (pc := 112) dX5_readUnit_112 (v := 41) rfl ?_
        refine ea_icmp_eq (pc := 114) (tgt := 123) dX5_readUnit_114 rfl (fun c34 => ?_) (fun c34 => ?_)
        · have H := H.1 c34
          refine ea_aload_n (pc := 123) dX5_readUnit_123 rfl 0 rfl ?_
          obtain ⟨f24, g25, H⟩ := H
          refine ea_deref0 e4 ?_
          obtain ⟨d20, h21, m22, q23, H⟩ := H
          refine ea_callV (pc := 124) (As := []) (st := []) dX5_readUnit_124 kX5_step m22 q23 rfl (Nat.le_of_ble_eq_true rfl) ew_859 ew_861 ew_22 (ci := 5) rfl (by decide) f24 g25 ?_
          refine ea_iconst (pc := 127) dX5_readUnit_127 (v := 1) rfl ?_
          obtain ⟨rfl, rfl⟩ := H
          exact ea_ireturn (pc := 128) dX5_readUnit_128 rfl (ea_bn (Or.inr rfl))
        · have H := H.2 c34
          refine ea_aload_n (pc := 117) dX5_readUnit_117 rfl 0 rfl ?_
          refine ea_iconst (pc := 118) dX5_readUnit_118 (v := 1) rfl ?_
          obtain ⟨f30, g31, H⟩ := H
          refine ea_deref1 e4 ?_
          obtain ⟨d26, xc32, h27, m28, q29, H⟩ := H
          refine ea_callV (pc := 119) (As := [vI 1]) (st := []) dX5_readUnit_119 kX5_refuse m28 q29 rfl (Nat.le_of_ble_eq_true rfl) ew_851 ew_853 ew_20 (ci := 5) rfl (by decide) f30 g31 ?_
          obtain ⟨z33, rfl, rfl⟩ := H
          exact ea_ireturn (pc := 122) dX5_readUnit_122 rfl (ea_bn z33)
      · have H := H.2 c35
        refine ea_iconst (pc := 106) dX5_readUnit_106 (v := 0) rfl ?_
        obtain ⟨rfl, rfl⟩ := H
        exact ea_ireturn (pc := 107) dX5_readUnit_107 rfl (ea_bn (Or.inl rfl))
    · have H := H.2 c44
      refine ea_aload_n (pc := 86) dX5_readUnit_86 rfl 0 rfl ?_
      refine ea_iconst (pc := 87) dX5_readUnit_87 (v := 3) rfl ?_
      obtain ⟨f40, g41, H⟩ := H
      refine ea_deref1 e4 ?_
      obtain ⟨d36, xc42, h37, m38, q39, H⟩ := H
      refine ea_callV (pc := 88) (As := [vI 3]) (st := []) dX5_readUnit_88 kX5_refuse m38 q39 rfl (Nat.le_of_ble_eq_true rfl) ew_851 ew_853 ew_20 (ci := 5) rfl (by decide) f40 g41 ?_
      obtain ⟨z43, rfl, rfl⟩ := H
      exact ea_ireturn (pc := 91) dX5_readUnit_91 rfl (ea_bn z43)
  · have H := H.2 c53
    refine ea_aload_n (pc := 74) dX5_readUnit_74 rfl 0 rfl ?_
    refine ea_iconst (pc := 75) dX5_readUnit_75 (v := 1) rfl ?_
    obtain ⟨f49, g50, H⟩ := H
    refine ea_deref1 e4 ?_
    obtain ⟨d45, xc51, h46, m47, q48, H⟩ := H
    refine ea_callV (pc := 76) (As := [vI 1]) (st := []) dX5_readUnit_76 kX5_refuse m47 q48 rfl (Nat.le_of_ble_eq_true rfl) ew_851 ew_853 ew_20 (ci := 5) rfl (by decide) f49 g50 ?_
    obtain ⟨z52, rfl, rfl⟩ := H
    exact ea_ireturn (pc := 79) dX5_readUnit_79 rfl (ea_bn z52)
theorem dX5_skip_0 : decode cX5_skip 0 = .ok (.aload_n 0, 1) := by decide +kernel
theorem dX5_skip_1 : decode cX5_skip 1 = .ok (.getfield 51, 3) := by decide +kernel
theorem dX5_skip_4 : decode cX5_skip 4 = .ok (.iload_n 1, 1) := by decide +kernel
theorem dX5_skip_5 : decode cX5_skip 5 = .ok (.if_icmp .eq 9, 3) := by decide +kernel
theorem dX5_skip_8 : decode cX5_skip 8 = .ok (.aload_n 0, 1) := by decide +kernel
theorem dX5_skip_9 : decode cX5_skip 9 = .ok (.iconst 1, 1) := by decide +kernel
theorem dX5_skip_10 : decode cX5_skip 10 = .ok (.invokevirtual 57, 3) := by decide +kernel
theorem dX5_skip_13 : decode cX5_skip 13 = .ok (.ireturn, 1) := by decide +kernel
theorem dX5_skip_14 : decode cX5_skip 14 = .ok (.aload_n 0, 1) := by decide +kernel
theorem dX5_skip_15 : decode cX5_skip 15 = .ok (.invokevirtual 81, 3) := by decide +kernel
theorem dX5_skip_18 : decode cX5_skip 18 = .ok (.iconst 1, 1) := by decide +kernel
theorem dX5_skip_19 : decode cX5_skip 19 = .ok (.ireturn, 1) := by decide +kernel
theorem bX5_skip_0 {d : Nat} {h0 hE h : ea_H} {rv : Option ea_V} {r0 : Option Nat} {x1 : Int32} (H : ∃ a3, r0 = some a3 ∧ a3 < ea_n h ∧ ea_c h a3 = 5 ∧ ((ea_i h a3 9) = x1 → a3 < ea_n h ∧ ea_c h a3 = 5 ∧ ∃ (d5 : Nat) (h6 : ea_H), ea_Met mX5_step d5 [vR (some a3)] h none h6 ∧ d5 + 1 ≤ d ∧ rv = some (vI 1) ∧ hE = h6) ∧ (¬ (ea_i h a3 9) = x1 → a3 < ea_n h ∧ ea_c h a3 = 5 ∧ ∃ (d11 : Nat) (xc17 : Int32) (h12 : ea_H), ea_Met mX5_refuse d11 [vR (some a3), vI 1] h (some (vI xc17)) h12 ∧ d11 + 1 ≤ d ∧ (xc17 = 0 ∨ xc17 = 1) ∧ rv = some (vI xc17) ∧ hE = h12)) : ea_W mX5_skip d h0 rv hE 0 [(0, vR r0), (1, vI x1)] [] h := by
  refine ea_aload_n (pc := 0) dX5_skip_0 rfl 0 rfl ?_
  obtain ⟨a3, e4, f1, g2, H⟩ := H
  refine ea_deref0 e4 ?_
  refine ea_getI (pc := 1) dX5_skip_1 ec_5 (k := 9) (Nat.le_of_ble_eq_true rfl) rfl (Or.inl ew_303) f1 g2 ?_
  refine ea_iload_n (pc := 4) dX5_skip_4 rfl 1 rfl ?_
  refine ea_icmp_eq (pc := 5) (tgt := 14) dX5_skip_5 rfl (fun c19 => ?_) (fun c19 => ?_)
  · have H := H.1 c19
    refine ea_aload_n (pc := 14) dX5_skip_14 rfl 0 rfl ?_
    obtain ⟨f9, g10, H⟩ := H
    refine ea_deref0 e4 ?_
    obtain ⟨d5, h6, m7, q8, H⟩ := H
    refine ea_callV (pc := 15) (As := []) (st := []) dX5_skip_15 kX5_step m7 q8 rfl (Nat.le_of_ble_eq_true rfl) ew_859 ew_861 ew_22 (ci := 5) rfl (by decide) f9 g10 ?_
    refine ea_iconst (pc := 18) dX5_skip_18 (v := 1) rfl ?_
    obtain ⟨rfl, rfl⟩ := H
    exact ea_ireturn (pc := 19) dX5_skip_19 rfl (ea_bn (Or.inr rfl))
  · have H := H.2 c19
    refine ea_aload_n (pc := 8) dX5_skip_8 rfl 0 rfl ?_
    refine ea_iconst (pc := 9) dX5_skip_9 (v := 1) rfl ?_
    obtain ⟨f15, g16, H⟩ := H
    refine ea_deref1 e4 ?_
    obtain ⟨d11, xc17, h12, m13, q14, H⟩ := H
    refine ea_callV (pc := 10) (As := [vI 1]) (st := []) dX5_skip_10 kX5_refuse m13 q14 rfl (Nat.le_of_ble_eq_true rfl) ew_851 ew_853 ew_20 (ci := 5) rfl (by decide) f15 g16 ?_
    obtain ⟨z18, rfl, rfl⟩ := H
    exact ea_ireturn (pc := 13) dX5_skip_13 rfl (ea_bn z18)
theorem dX5_step_0 : decode cX5_step 0 = .ok (.aload_n 0, 1) := by decide +kernel
theorem dX5_step_1 : decode cX5_step 1 = .ok (.getfield 48, 3) := by decide +kernel
theorem dX5_step_4 : decode cX5_step 4 = .ok (.aload_n 0, 1) := by decide +kernel
theorem dX5_step_5 : decode cX5_step 5 = .ok (.getfield 138, 3) := by decide +kernel
theorem dX5_step_8 : decode cX5_step 8 = .ok (.iconst 1, 1) := by decide +kernel
theorem dX5_step_9 : decode cX5_step 9 = .ok (.isub, 1) := by decide +kernel
theorem dX5_step_10 : decode cX5_step 10 = .ok (.if_icmp .ge 13, 3) := by decide +kernel
theorem dX5_step_13 : decode cX5_step 13 = .ok (.aload_n 0, 1) := by decide +kernel
theorem dX5_step_14 : decode cX5_step 14 = .ok (.dup, 1) := by decide +kernel
theorem dX5_step_15 : decode cX5_step 15 = .ok (.getfield 48, 3) := by decide +kernel
theorem dX5_step_18 : decode cX5_step 18 = .ok (.iconst 1, 1) := by decide +kernel
theorem dX5_step_19 : decode cX5_step 19 = .ok (.iadd, 1) := by decide +kernel
theorem dX5_step_20 : decode cX5_step 20 = .ok (.putfield 48, 3) := by decide +kernel
theorem dX5_step_23 : decode cX5_step 23 = .ok (.aload_n 0, 1) := by decide +kernel
theorem dX5_step_24 : decode cX5_step 24 = .ok (.aload_n 0, 1) := by decide +kernel
theorem dX5_step_25 : decode cX5_step 25 = .ok (.getfield 19, 3) := by decide +kernel
theorem dX5_step_28 : decode cX5_step 28 = .ok (.aload_n 0, 1) := by decide +kernel
theorem dX5_step_29 : decode cX5_step 29 = .ok (.getfield 48, 3) := by decide +kernel
theorem dX5_step_32 : decode cX5_step 32 = .ok (.iaload, 1) := by decide +kernel
theorem dX5_step_33 : decode cX5_step 33 = .ok (.putfield 51, 3) := by decide +kernel
theorem dX5_step_36 : decode cX5_step 36 = .ok (.return_, 1) := by decide +kernel
theorem bX5_step_0 {d : Nat} {h0 hE h : ea_H} {rv : Option ea_V} {r0 : Option Nat} (H : ∃ a3, r0 = some a3 ∧ a3 < ea_n h ∧ ea_c h a3 = 5 ∧ a3 < ea_n h ∧ ea_c h a3 = 5 ∧ (((ea_i h a3 7) - (1 : Int32)) ≤ (ea_i h a3 8) → a3 < ea_n h ∧ ea_c h a3 = 5 ∧ a3 < ea_n h ∧ ea_c h a3 = 5 ∧ ∃ a13, (ea_r h a3 4) = some a13 ∧ a13 < ea_n h ∧ ea_c h a13 = 20 ∧ vp_in (ea_i h a3 8) (ea_l h a13) ∧ a3 < ea_n h ∧ ea_c h a3 = 5 ∧ ∀ h18, h18 = ea_wi h a3 9 (ea_i h a13 (Int32.toNatClampNeg (ea_i h a3 8))) → rv = none ∧ hE = h18) ∧ (¬ ((ea_i h a3 7) - (1 : Int32)) ≤ (ea_i h a3 8) → a3 < ea_n h ∧ ea_c h a3 = 5 ∧ a3 < ea_n h ∧ ea_c h a3 = 5 ∧ ∀ h24, h24 = ea_wi h a3 8 ((ea_i h a3 8) + (1 : Int32)) → a3 < ea_n h24 ∧ ea_c h24 a3 = 5 ∧ a3 < ea_n h24 ∧ ea_c h24 a3 = 5 ∧ ∃ a32, (ea_r h24 a3 4) = some a32 ∧ a32 < ea_n h24 ∧ ea_c h24 a32 = 20 ∧ vp_in (ea_i h24 a3 8) (ea_l h24 a32) ∧ a3 < ea_n h24 ∧ ea_c h24 a3 = 5 ∧ ∀ h37, h37 = ea_wi h24 a3 9 (ea_i h24 a32 (Int32.toNatClampNeg (ea_i h24 a3 8))) → rv = none ∧ hE = h37)) : ea_W mX5_step d h0 rv hE 0 [(0, vR r0)] [] h := by
  refine ea_aload_n (pc := 0) dX5_step_0 rfl 0 rfl ?_
  obtain ⟨a3, e4, f1, g2, H⟩ := H
  refine ea_deref0 e4 ?_
  refine ea_getI (pc := 1) dX5_step_1 ec_5 (k := 8) (Nat.le_of_ble_eq_true rfl) rfl (Or.inl ew_302) f1 g2 ?_
  refine ea_aload_n (pc := 4) dX5_step_4 rfl 0 rfl ?_
  obtain ⟨f5, g6, H⟩ := H
  refine ea_deref0 e4 ?_
  refine ea_getI (pc := 5) dX5_step_5 ec_5 (k := 7) (Nat.le_of_ble_eq_true rfl) rfl (Or.inl ew_301) f5 g6 ?_
  refine ea_iconst (pc := 8) dX5_step_8 (v := 1) rfl ?_
  refine ea_isub (pc := 9) dX5_step_9 ?_
  refine ea_icmp_ge (pc := 10) (tgt := 23) dX5_step_10 rfl (fun c39 => ?_) (fun c39 => ?_)
  · have H := H.1 c39
    refine ea_aload_n (pc := 23) dX5_step_23 rfl 0 rfl ?_
    refine ea_aload_n (pc := 24) dX5_step_24 rfl 0 rfl ?_
    obtain ⟨f7, g8, H⟩ := H
    refine ea_deref0 e4 ?_
    refine ea_getR (pc := 25) dX5_step_25 ec_5 (k := 4) (Nat.le_of_ble_eq_true rfl) rfl (Or.inl ew_298) f7 g8 rfl ?_
    refine ea_aload_n (pc := 28) dX5_step_28 rfl 0 rfl ?_
    obtain ⟨f9, g10, H⟩ := H
    refine ea_deref0 e4 ?_
    refine ea_getI (pc := 29) dX5_step_29 ec_5 (k := 8) (Nat.le_of_ble_eq_true rfl) rfl (Or.inl ew_302) f9 g10 ?_
    obtain ⟨a13, e14, f11, g12, H⟩ := H
    refine ea_deref1 e14 ?_
    obtain ⟨z15, H⟩ := H
    refine ea_iald (pc := 32) dX5_step_32 f11 g12 z15 ?_
    obtain ⟨f16, g17, H⟩ := H
    refine ea_deref1 e4 ?_
    refine ea_putI (pc := 33) dX5_step_33 ec_5 (k := 9) (Nat.le_of_ble_eq_true rfl) rfl (Or.inl ⟨rfl, Or.inl ew_303⟩) rfl rfl f16 g17 ?_
    obtain ⟨h18, E19⟩ : ∃ z, z = ea_wi h a3 9 (ea_i h a13 (Int32.toNatClampNeg (ea_i h a3 8))) := ⟨_, rfl⟩
    have H := H h18 E19
    refine ea_nm E19 ?_
    obtain ⟨rfl, rfl⟩ := H
    exact ea_return (pc := 36) dX5_step_36 rfl
  · have H := H.2 c39
    refine ea_aload_n (pc := 13) dX5_step_13 rfl 0 rfl ?_
    refine ea_dup (pc := 14) dX5_step_14 rfl ?_
    obtain ⟨f20, g21, H⟩ := H
    refine ea_deref0 e4 ?_
    refine ea_getI (pc := 15) dX5_step_15 ec_5 (k := 8) (Nat.le_of_ble_eq_true rfl) rfl (Or.inl ew_302) f20 g21 ?_
    refine ea_iconst (pc := 18) dX5_step_18 (v := 1) rfl ?_
    refine ea_iadd (pc := 19) dX5_step_19 ?_
    obtain ⟨f22, g23, H⟩ := H
    refine ea_deref1 e4 ?_
    refine ea_putI (pc := 20) dX5_step_20 ec_5 (k := 8) (Nat.le_of_ble_eq_true rfl) rfl (Or.inl ⟨rfl, Or.inl ew_302⟩) rfl rfl f22 g23 ?_
    obtain ⟨h24, E25⟩ : ∃ z, z = ea_wi h a3 8 ((ea_i h a3 8) + (1 : Int32)) := ⟨_, rfl⟩
    have H := H h24 E25
    refine ea_nm E25 ?_
    refine ea_aload_n (pc := 23) dX5_step_23 rfl 0 rfl ?_
    refine ea_aload_n (pc := 24) dX5_step_24 rfl 0 rfl ?_
    obtain ⟨f26, g27, H⟩ := H
    refine ea_deref0 e4 ?_
    refine ea_getR (pc := 25) dX5_step_25 ec_5 (k := 4) (Nat.le_of_ble_eq_true rfl) rfl (Or.inl ew_298) f26 g27 rfl ?_
    refine ea_aload_n (pc := 28) dX5_step_28 rfl 0 rfl ?_
    obtain ⟨f28, g29, H⟩ := H
    refine ea_deref0 e4 ?_
    refine ea_getI (pc := 29) dX5_step_29 ec_5 (k := 8) (Nat.le_of_ble_eq_true rfl) rfl (Or.inl ew_302) f28 g29 ?_
    obtain ⟨a32, e33, f30, g31, H⟩ := H
    refine ea_deref1 e33 ?_
    obtain ⟨z34, H⟩ := H
    refine ea_iald (pc := 32) dX5_step_32 f30 g31 z34 ?_
    obtain ⟨f35, g36, H⟩ := H
    refine ea_deref1 e4 ?_
    refine ea_putI (pc := 33) dX5_step_33 ec_5 (k := 9) (Nat.le_of_ble_eq_true rfl) rfl (Or.inl ⟨rfl, Or.inl ew_303⟩) rfl rfl f35 g36 ?_
    obtain ⟨h37, E38⟩ : ∃ z, z = ea_wi h24 a3 9 (ea_i h24 a32 (Int32.toNatClampNeg (ea_i h24 a3 8))) := ⟨_, rfl⟩
    have H := H h37 E38
    refine ea_nm E38 ?_
    obtain ⟨rfl, rfl⟩ := H
    exact ea_return (pc := 36) dX5_step_36 rfl
theorem dX5_refuse_0 : decode cX5_refuse 0 = .ok (.aload_n 0, 1) := by decide +kernel
theorem dX5_refuse_1 : decode cX5_refuse 1 = .ok (.iload_n 1, 1) := by decide +kernel
theorem dX5_refuse_2 : decode cX5_refuse 2 = .ok (.putfield 36, 3) := by decide +kernel
theorem dX5_refuse_5 : decode cX5_refuse 5 = .ok (.aload_n 0, 1) := by decide +kernel
theorem dX5_refuse_6 : decode cX5_refuse 6 = .ok (.aload_n 0, 1) := by decide +kernel
theorem dX5_refuse_7 : decode cX5_refuse 7 = .ok (.getfield 22, 3) := by decide +kernel
theorem dX5_refuse_10 : decode cX5_refuse 10 = .ok (.aload_n 0, 1) := by decide +kernel
theorem dX5_refuse_11 : decode cX5_refuse 11 = .ok (.getfield 48, 3) := by decide +kernel
theorem dX5_refuse_14 : decode cX5_refuse 14 = .ok (.iaload, 1) := by decide +kernel
theorem dX5_refuse_15 : decode cX5_refuse 15 = .ok (.putfield 9, 3) := by decide +kernel
theorem dX5_refuse_18 : decode cX5_refuse 18 = .ok (.iconst 0, 1) := by decide +kernel
theorem dX5_refuse_19 : decode cX5_refuse 19 = .ok (.ireturn, 1) := by decide +kernel
theorem bX5_refuse_0 {d : Nat} {h0 hE h : ea_H} {rv : Option ea_V} {r0 : Option Nat} {x1 : Int32} (H : ∃ a3, r0 = some a3 ∧ a3 < ea_n h ∧ ea_c h a3 = 5 ∧ ∀ h5, h5 = ea_wi h a3 1 x1 → a3 < ea_n h5 ∧ ea_c h5 a3 = 5 ∧ a3 < ea_n h5 ∧ ea_c h5 a3 = 5 ∧ ∃ a13, (ea_r h5 a3 5) = some a13 ∧ a13 < ea_n h5 ∧ ea_c h5 a13 = 20 ∧ vp_in (ea_i h5 a3 8) (ea_l h5 a13) ∧ a3 < ea_n h5 ∧ ea_c h5 a3 = 5 ∧ ∀ h18, h18 = ea_wi h5 a3 2 (ea_i h5 a13 (Int32.toNatClampNeg (ea_i h5 a3 8))) → rv = some (vI 0) ∧ hE = h18) : ea_W mX5_refuse d h0 rv hE 0 [(0, vR r0), (1, vI x1)] [] h := by
  refine ea_aload_n (pc := 0) dX5_refuse_0 rfl 0 rfl ?_
  refine ea_iload_n (pc := 1) dX5_refuse_1 rfl 1 rfl ?_
  obtain ⟨a3, e4, f1, g2, H⟩ := H
  refine ea_deref1 e4 ?_
  refine ea_putI (pc := 2) dX5_refuse_2 ec_5 (k := 1) (Nat.le_of_ble_eq_true rfl) rfl (Or.inl ⟨rfl, Or.inl ew_293⟩) rfl rfl f1 g2 ?_
  obtain ⟨h5, E6⟩ : ∃ z, z = ea_wi h a3 1 x1 := ⟨_, rfl⟩
  have H := H h5 E6
  refine ea_nm E6 ?_
  refine ea_aload_n (pc := 5) dX5_refuse_5 rfl 0 rfl ?_
  refine ea_aload_n (pc := 6) dX5_refuse_6 rfl 0 rfl ?_
  obtain ⟨f7, g8, H⟩ := H
  refine ea_deref0 e4 ?_
  refine ea_getR (pc := 7) dX5_refuse_7 ec_5 (k := 5) (Nat.le_of_ble_eq_true rfl) rfl (Or.inl ew_299) f7 g8 rfl ?_
  refine ea_aload_n (pc := 10) dX5_refuse_10 rfl 0 rfl ?_
  obtain ⟨f9, g10, H⟩ := H
  refine ea_deref0 e4 ?_
  refine ea_getI (pc := 11) dX5_refuse_11 ec_5 (k := 8) (Nat.le_of_ble_eq_true rfl) rfl (Or.inl ew_302) f9 g10 ?_
  obtain ⟨a13, e14, f11, g12, H⟩ := H
  refine ea_deref1 e14 ?_
  obtain ⟨z15, H⟩ := H
  refine ea_iald (pc := 14) dX5_refuse_14 f11 g12 z15 ?_
  obtain ⟨f16, g17, H⟩ := H
  refine ea_deref1 e4 ?_
  refine ea_putI (pc := 15) dX5_refuse_15 ec_5 (k := 2) (Nat.le_of_ble_eq_true rfl) rfl (Or.inl ⟨rfl, Or.inl ew_295⟩) rfl rfl f16 g17 ?_
  obtain ⟨h18, E19⟩ : ∃ z, z = ea_wi h5 a3 2 (ea_i h5 a13 (Int32.toNatClampNeg (ea_i h5 a3 8))) := ⟨_, rfl⟩
  have H := H h18 E19
  refine ea_nm E19 ?_
  refine ea_iconst (pc := 18) dX5_refuse_18 (v := 0) rfl ?_
  obtain ⟨rfl, rfl⟩ := H
  exact ea_ireturn (pc := 19) dX5_refuse_19 rfl (ea_bn (Or.inl rfl))
theorem dX5_put_0 : decode cX5_put 0 = .ok (.aload_n 0, 1) := by decide +kernel
theorem dX5_put_1 : decode cX5_put 1 = .ok (.getfield 45, 3) := by decide +kernel
theorem dX5_put_4 : decode cX5_put 4 = .ok (.aload_n 0, 1) := by decide +kernel
theorem dX5_put_5 : decode cX5_put 5 = .ok (.getfield 30, 3) := by decide +kernel
theorem dX5_put_8 : decode cX5_put 8 = .ok (.arraylength, 1) := by decide +kernel
theorem dX5_put_9 : decode cX5_put 9 = .ok (.if_icmp .ge 23, 3) := by decide +kernel
theorem dX5_put_12 : decode cX5_put 12 = .ok (.aload_n 0, 1) := by decide +kernel
theorem dX5_put_13 : decode cX5_put 13 = .ok (.getfield 30, 3) := by decide +kernel
theorem dX5_put_16 : decode cX5_put 16 = .ok (.aload_n 0, 1) := by decide +kernel
theorem dX5_put_17 : decode cX5_put 17 = .ok (.getfield 45, 3) := by decide +kernel
theorem dX5_put_20 : decode cX5_put 20 = .ok (.iload_n 1, 1) := by decide +kernel
theorem dX5_put_21 : decode cX5_put 21 = .ok (.iastore, 1) := by decide +kernel
theorem dX5_put_22 : decode cX5_put 22 = .ok (.aload_n 0, 1) := by decide +kernel
theorem dX5_put_23 : decode cX5_put 23 = .ok (.dup, 1) := by decide +kernel
theorem dX5_put_24 : decode cX5_put 24 = .ok (.getfield 45, 3) := by decide +kernel
theorem dX5_put_27 : decode cX5_put 27 = .ok (.iconst 1, 1) := by decide +kernel
theorem dX5_put_28 : decode cX5_put 28 = .ok (.iadd, 1) := by decide +kernel
theorem dX5_put_29 : decode cX5_put 29 = .ok (.putfield 45, 3) := by decide +kernel
theorem dX5_put_32 : decode cX5_put 32 = .ok (.return_, 1) := by decide +kernel
theorem bX5_put_0 {d : Nat} {h0 hE h : ea_H} {rv : Option ea_V} {r0 : Option Nat} {x1 : Int32} (H : ∃ a3, r0 = some a3 ∧ a3 < ea_n h ∧ ea_c h a3 = 5 ∧ a3 < ea_n h ∧ ea_c h a3 = 5 ∧ ∃ a9, (ea_r h a3 10) = some a9 ∧ a9 < ea_n h ∧ ea_c h a9 = 20 ∧ ((Int32.ofNat (ea_l h a9)) ≤ (ea_i h a3 11) → rv = none ∧ hE = h) ∧ (¬ (Int32.ofNat (ea_l h a9)) ≤ (ea_i h a3 11) → a3 < ea_n h ∧ ea_c h a3 = 5 ∧ a3 < ea_n h ∧ ea_c h a3 = 5 ∧ a9 < ea_n h ∧ ea_c h a9 = 20 ∧ vp_in (ea_i h a3 11) (ea_l h a9) ∧ ∀ h18, h18 = ea_wi h a9 (Int32.toNatClampNeg (ea_i h a3 11)) x1 → a3 < ea_n h18 ∧ ea_c h18 a3 = 5 ∧ a3 < ea_n h18 ∧ ea_c h18 a3 = 5 ∧ ∀ h24, h24 = ea_wi h18 a3 11 ((ea_i h18 a3 11) + (1 : Int32)) → rv = none ∧ hE = h24)) : ea_W mX5_put d h0 rv hE 0 [(0, vR r0), (1, vI x1)] [] h := by
  refine ea_aload_n (pc := 0) dX5_put_0 rfl 0 rfl ?_
  obtain ⟨a3, e4, f1, g2, H⟩ := H
  refine ea_deref0 e4 ?_
  refine ea_getI (pc := 1) dX5_put_1 ec_5 (k := 11) (Nat.le_of_ble_eq_true rfl) rfl (Or.inl ew_305) f1 g2 ?_
  refine ea_aload_n (pc := 4) dX5_put_4 rfl 0 rfl ?_
  obtain ⟨f5, g6, H⟩ := H
  refine ea_deref0 e4 ?_
  refine ea_getR (pc := 5) dX5_put_5 ec_5 (k := 10) (Nat.le_of_ble_eq_true rfl) rfl (Or.inl ew_304) f5 g6 rfl ?_
  obtain ⟨a9, e10, f7, g8, H⟩ := H
  refine ea_deref0 e10 ?_
  refine ea_alen (pc := 8) dX5_put_8 f7 g8 (by decide) (by decide) ?_
  refine ea_icmp_ge (pc := 9) (tgt := 32) dX5_put_9 rfl (fun c26 => ?_) (fun c26 => ?_)
  · have H := H.1 c26
    obtain ⟨rfl, rfl⟩ := H
    exact ea_return (pc := 32) dX5_put_32 rfl
  · have H := H.2 c26
    refine ea_aload_n (pc := 12) dX5_put_12 rfl 0 rfl ?_
    obtain ⟨f11, g12, H⟩ := H
    refine ea_deref0 e4 ?_
    refine ea_getR (pc := 13) dX5_put_13 ec_5 (k := 10) (Nat.le_of_ble_eq_true rfl) rfl (Or.inl ew_304) f11 g12 rfl ?_
    refine ea_aload_n (pc := 16) dX5_put_16 rfl 0 rfl ?_
    obtain ⟨f13, g14, H⟩ := H
    refine ea_deref0 e4 ?_
    refine ea_getI (pc := 17) dX5_put_17 ec_5 (k := 11) (Nat.le_of_ble_eq_true rfl) rfl (Or.inl ew_305) f13 g14 ?_
    refine ea_iload_n (pc := 20) dX5_put_20 rfl 1 rfl ?_
    obtain ⟨f15, g16, H⟩ := H
    refine ea_deref2 e10 ?_
    obtain ⟨z17, H⟩ := H
    refine ea_iast (pc := 21) dX5_put_21 f15 g16 z17 ?_
    obtain ⟨h18, E19⟩ : ∃ z, z = ea_wi h a9 (Int32.toNatClampNeg (ea_i h a3 11)) x1 := ⟨_, rfl⟩
    have H := H h18 E19
    refine ea_nm E19 ?_
    refine ea_aload_n (pc := 22) dX5_put_22 rfl 0 rfl ?_
    refine ea_dup (pc := 23) dX5_put_23 rfl ?_
    obtain ⟨f20, g21, H⟩ := H
    refine ea_deref0 e4 ?_
    refine ea_getI (pc := 24) dX5_put_24 ec_5 (k := 11) (Nat.le_of_ble_eq_true rfl) rfl (Or.inl ew_305) f20 g21 ?_
    refine ea_iconst (pc := 27) dX5_put_27 (v := 1) rfl ?_
    refine ea_iadd (pc := 28) dX5_put_28 ?_
    obtain ⟨f22, g23, H⟩ := H
    refine ea_deref1 e4 ?_
    refine ea_putI (pc := 29) dX5_put_29 ec_5 (k := 11) (Nat.le_of_ble_eq_true rfl) rfl (Or.inl ⟨rfl, Or.inl ew_305⟩) rfl rfl f22 g23 ?_
    obtain ⟨h24, E25⟩ : ∃ z, z = ea_wi h18 a3 11 ((ea_i h18 a3 11) + (1 : Int32)) := ⟨_, rfl⟩
    have H := H h24 E25
    refine ea_nm E25 ?_
    obtain ⟨rfl, rfl⟩ := H
    exact ea_return (pc := 32) dX5_put_32 rfl
theorem dX5_scan_0 : decode cX5_scan 0 = .ok (.aload_n 0, 1) := by decide +kernel
theorem dX5_scan_1 : decode cX5_scan 1 = .ok (.iconst 0, 1) := by decide +kernel
theorem dX5_scan_2 : decode cX5_scan 2 = .ok (.putfield 138, 3) := by decide +kernel
theorem dX5_scan_5 : decode cX5_scan 5 = .ok (.iconst 0, 1) := by decide +kernel
theorem dX5_scan_6 : decode cX5_scan 6 = .ok (.istore_n 1, 1) := by decide +kernel
theorem dX5_scan_7 : decode cX5_scan 7 = .ok (.iload_n 1, 1) := by decide +kernel
theorem dX5_scan_8 : decode cX5_scan 8 = .ok (.aload_n 0, 1) := by decide +kernel
theorem dX5_scan_9 : decode cX5_scan 9 = .ok (.getfield 33, 3) := by decide +kernel
theorem dX5_scan_12 : decode cX5_scan 12 = .ok (.if_icmp .ge 79, 3) := by decide +kernel
theorem dX5_scan_15 : decode cX5_scan 15 = .ok (.aload_n 0, 1) := by decide +kernel
theorem dX5_scan_16 : decode cX5_scan 16 = .ok (.getfield 15, 3) := by decide +kernel
theorem dX5_scan_19 : decode cX5_scan 19 = .ok (.iload_n 1, 1) := by decide +kernel
theorem dX5_scan_20 : decode cX5_scan 20 = .ok (.iaload, 1) := by decide +kernel
theorem dX5_scan_21 : decode cX5_scan 21 = .ok (.istore_n 2, 1) := by decide +kernel
theorem dX5_scan_22 : decode cX5_scan 22 = .ok (.iload_n 2, 1) := by decide +kernel
theorem dX5_scan_23 : decode cX5_scan 23 = .ok (.invokestatic 141, 3) := by decide +kernel
theorem dX5_scan_26 : decode cX5_scan 26 = .ok (.ifCond .eq 12, 3) := by decide +kernel
theorem dX5_scan_29 : decode cX5_scan 29 = .ok (.aload_n 0, 1) := by decide +kernel
theorem dX5_scan_30 : decode cX5_scan 30 = .ok (.iload_n 1, 1) := by decide +kernel
theorem dX5_scan_31 : decode cX5_scan 31 = .ok (.invokevirtual 144, 3) := by decide +kernel
theorem dX5_scan_34 : decode cX5_scan 34 = .ok (.istore_n 1, 1) := by decide +kernel
theorem dX5_scan_35 : decode cX5_scan 35 = .ok (.goto 50, 3) := by decide +kernel
theorem dX5_scan_38 : decode cX5_scan 38 = .ok (.iload_n 2, 1) := by decide +kernel
theorem dX5_scan_39 : decode cX5_scan 39 = .ok (.invokestatic 148, 3) := by decide +kernel
theorem dX5_scan_42 : decode cX5_scan 42 = .ok (.ifCond .eq 12, 3) := by decide +kernel
theorem dX5_scan_45 : decode cX5_scan 45 = .ok (.aload_n 0, 1) := by decide +kernel
theorem dX5_scan_46 : decode cX5_scan 46 = .ok (.iload_n 1, 1) := by decide +kernel
theorem dX5_scan_47 : decode cX5_scan 47 = .ok (.invokevirtual 151, 3) := by decide +kernel
theorem dX5_scan_50 : decode cX5_scan 50 = .ok (.istore_n 1, 1) := by decide +kernel
theorem dX5_scan_51 : decode cX5_scan 51 = .ok (.goto 34, 3) := by decide +kernel
theorem dX5_scan_54 : decode cX5_scan 54 = .ok (.iload_n 2, 1) := by decide +kernel
theorem dX5_scan_55 : decode cX5_scan 55 = .ok (.bipush 32, 2) := by decide +kernel
theorem dX5_scan_57 : decode cX5_scan 57 = .ok (.if_icmp .eq 28, 3) := by decide +kernel
theorem dX5_scan_60 : decode cX5_scan 60 = .ok (.iload_n 2, 1) := by decide +kernel
theorem dX5_scan_61 : decode cX5_scan 61 = .ok (.bipush 10, 2) := by decide +kernel
theorem dX5_scan_63 : decode cX5_scan 63 = .ok (.if_icmp .eq 22, 3) := by decide +kernel
theorem dX5_scan_66 : decode cX5_scan 66 = .ok (.aload_n 0, 1) := by decide +kernel
theorem dX5_scan_67 : decode cX5_scan 67 = .ok (.iload_n 2, 1) := by decide +kernel
theorem dX5_scan_68 : decode cX5_scan 68 = .ok (.invokestatic 154, 3) := by decide +kernel
theorem dX5_scan_71 : decode cX5_scan 71 = .ok (.ifCond .eq 7, 3) := by decide +kernel
theorem dX5_scan_74 : decode cX5_scan 74 = .ok (.iload_n 2, 1) := by decide +kernel
theorem dX5_scan_75 : decode cX5_scan 75 = .ok (.goto 5, 3) := by decide +kernel
theorem dX5_scan_78 : decode cX5_scan 78 = .ok (.bipush 20, 2) := by decide +kernel
theorem dX5_scan_80 : decode cX5_scan 80 = .ok (.iload_n 1, 1) := by decide +kernel
theorem dX5_scan_81 : decode cX5_scan 81 = .ok (.iconst 0, 1) := by decide +kernel
theorem dX5_scan_82 : decode cX5_scan 82 = .ok (.invokevirtual 157, 3) := by decide +kernel
theorem dX5_scan_85 : decode cX5_scan 85 = .ok (.iinc 1 1, 3) := by decide +kernel
theorem dX5_scan_88 : decode cX5_scan 88 = .ok (.goto (-81), 3) := by decide +kernel
theorem dX5_scan_91 : decode cX5_scan 91 = .ok (.aload_n 0, 1) := by decide +kernel
theorem dX5_scan_92 : decode cX5_scan 92 = .ok (.bipush 19, 2) := by decide +kernel
theorem dX5_scan_94 : decode cX5_scan 94 = .ok (.aload_n 0, 1) := by decide +kernel
theorem dX5_scan_95 : decode cX5_scan 95 = .ok (.getfield 33, 3) := by decide +kernel
theorem dX5_scan_98 : decode cX5_scan 98 = .ok (.iconst 0, 1) := by decide +kernel
theorem dX5_scan_99 : decode cX5_scan 99 = .ok (.invokevirtual 157, 3) := by decide +kernel
theorem dX5_scan_102 : decode cX5_scan 102 = .ok (.return_, 1) := by decide +kernel
theorem bX5_scan_0 {d : Nat} {h0 hE h : ea_H} {rv : Option ea_V} {r0 : Option Nat} (H : ∃ a3, r0 = some a3 ∧ a3 < ea_n h ∧ ea_c h a3 = 5 ∧ ∀ h5, h5 = ea_wi h a3 7 0 → ea_W mX5_scan d h0 rv hE 7 [(0, vR r0), (1, vI 0)] [] h5) : ea_W mX5_scan d h0 rv hE 0 [(0, vR r0)] [] h := by
  refine ea_aload_n (pc := 0) dX5_scan_0 rfl 0 rfl ?_
  refine ea_iconst (pc := 1) dX5_scan_1 (v := 0) rfl ?_
  obtain ⟨a3, e4, f1, g2, H⟩ := H
  refine ea_deref1 e4 ?_
  refine ea_putI (pc := 2) dX5_scan_2 ec_5 (k := 7) (Nat.le_of_ble_eq_true rfl) rfl (Or.inl ⟨rfl, Or.inl ew_301⟩) rfl rfl f1 g2 ?_
  obtain ⟨h5, E6⟩ : ∃ z, z = ea_wi h a3 7 0 := ⟨_, rfl⟩
  have H := H h5 E6
  refine ea_nm E6 ?_
  refine ea_iconst (pc := 5) dX5_scan_5 (v := 0) rfl ?_
  refine ea_istore_n (pc := 6) (lv' := [(0, vR r0), (1, vI 0)]) dX5_scan_6 rfl (Nat.le_of_ble_eq_true rfl) [1, 0] rfl ?_
  exact H
theorem bX5_scan_7 {d : Nat} {h0 hE h : ea_H} {rv : Option ea_V} {r0 : Option Nat} {x1 : Int32} (H : ∃ a3, r0 = some a3 ∧ a3 < ea_n h ∧ ea_c h a3 = 5 ∧ ((ea_i h a3 0) ≤ x1 → a3 < ea_n h ∧ ea_c h a3 = 5 ∧ a3 < ea_n h ∧ ea_c h a3 = 5 ∧ ∃ (d7 : Nat) (h8 : ea_H), ea_Met mX5_addToken d7 [vR (some a3), vI 19, vI (ea_i h a3 0), vI 0] h none h8 ∧ d7 + 1 ≤ d ∧ rv = none ∧ hE = h8) ∧ (¬ (ea_i h a3 0) ≤ x1 → a3 < ea_n h ∧ ea_c h a3 = 5 ∧ ∃ a17, (ea_r h a3 3) = some a17 ∧ a17 < ea_n h ∧ ea_c h a17 = 20 ∧ vp_in x1 (ea_l h a17) ∧ ∃ (d20 : Nat) (xc24 : Int32) (h21 : ea_H), ea_Met mX5_isLetter d20 [vI (ea_i h a17 (Int32.toNatClampNeg x1))] h (some (vI xc24)) h21 ∧ d20 + 1 ≤ d ∧ (xc24 = (0 : Int32) → ∃ (d25 : Nat) (xc29 : Int32) (h26 : ea_H), ea_Met mX5_isDigit d25 [vI (ea_i h a17 (Int32.toNatClampNeg x1))] h21 (some (vI xc29)) h26 ∧ d25 + 1 ≤ d ∧ (xc29 = (0 : Int32) → ((ea_i h a17 (Int32.toNatClampNeg x1)) = (32 : Int32) → ea_W mX5_scan d h0 rv hE 7 [(0, vR r0), (1, vI (x1 + 1))] [] h26) ∧ (¬ (ea_i h a17 (Int32.toNatClampNeg x1)) = (32 : Int32) → ((ea_i h a17 (Int32.toNatClampNeg x1)) = (10 : Int32) → ea_W mX5_scan d h0 rv hE 7 [(0, vR r0), (1, vI (x1 + 1))] [] h26) ∧ (¬ (ea_i h a17 (Int32.toNatClampNeg x1)) = (10 : Int32) → ∃ (d30 : Nat) (xc34 : Int32) (h31 : ea_H), ea_Met mX5_isSign d30 [vI (ea_i h a17 (Int32.toNatClampNeg x1))] h26 (some (vI xc34)) h31 ∧ d30 + 1 ≤ d ∧ (xc34 = (0 : Int32) → a3 < ea_n h31 ∧ ea_c h31 a3 = 5 ∧ ∃ (d35 : Nat) (h36 : ea_H), ea_Met mX5_addToken d35 [vR (some a3), vI 20, vI x1, vI 0] h31 none h36 ∧ d35 + 1 ≤ d ∧ ea_W mX5_scan d h0 rv hE 7 [(0, vR r0), (1, vI (x1 + 1))] [] h36) ∧ (¬ xc34 = (0 : Int32) → a3 < ea_n h31 ∧ ea_c h31 a3 = 5 ∧ ∃ (d41 : Nat) (h42 : ea_H), ea_Met mX5_addToken d41 [vR (some a3), vI (ea_i h a17 (Int32.toNatClampNeg x1)), vI x1, vI 0] h31 none h42 ∧ d41 + 1 ≤ d ∧ ea_W mX5_scan d h0 rv hE 7 [(0, vR r0), (1, vI (x1 + 1))] [] h42)))) ∧ (¬ xc29 = (0 : Int32) → a3 < ea_n h26 ∧ ea_c h26 a3 = 5 ∧ ∃ (d50 : Nat) (xc56 : Int32) (h51 : ea_H), ea_Met mX5_scanNumber d50 [vR (some a3), vI x1] h26 (some (vI xc56)) h51 ∧ d50 + 1 ≤ d ∧ ea_W mX5_scan d h0 rv hE 7 [(0, vR r0), (1, vI (xc56 + 1))] [] h51)) ∧ (¬ xc24 = (0 : Int32) → a3 < ea_n h21 ∧ ea_c h21 a3 = 5 ∧ ∃ (d58 : Nat) (xc64 : Int32) (h59 : ea_H), ea_Met mX5_scanWord d58 [vR (some a3), vI x1] h21 (some (vI xc64)) h59 ∧ d58 + 1 ≤ d ∧ ea_W mX5_scan d h0 rv hE 7 [(0, vR r0), (1, vI (xc64 + 1))] [] h59))) : ea_W mX5_scan d h0 rv hE 7 [(0, vR r0), (1, vI x1)] [] h := by
  refine ea_iload_n (pc := 7) dX5_scan_7 rfl 1 rfl ?_
  refine ea_aload_n (pc := 8) dX5_scan_8 rfl 0 rfl ?_
  obtain ⟨a3, e4, f1, g2, H⟩ := H
  refine ea_deref0 e4 ?_
  refine ea_getI (pc := 9) dX5_scan_9 ec_5 (k := 0) (Nat.le_of_ble_eq_true rfl) rfl (Or.inl ew_291) f1 g2 ?_
  refine ea_icmp_ge (pc := 12) (tgt := 91) dX5_scan_12 rfl (fun c66 => ?_) (fun c66 => ?_)
  · have H := H.1 c66
    refine ea_aload_n (pc := 91) dX5_scan_91 rfl 0 rfl ?_
    refine ea_bipush (pc := 92) dX5_scan_92 (v := 19) rfl ?_
    refine ea_aload_n (pc := 94) dX5_scan_94 rfl 0 rfl ?_
    obtain ⟨f5, g6, H⟩ := H
    refine ea_deref0 e4 ?_
    refine ea_getI (pc := 95) dX5_scan_95 ec_5 (k := 0) (Nat.le_of_ble_eq_true rfl) rfl (Or.inl ew_291) f5 g6 ?_
    refine ea_iconst (pc := 98) dX5_scan_98 (v := 0) rfl ?_
    obtain ⟨f11, g12, H⟩ := H
    refine ea_deref3 e4 ?_
    obtain ⟨d7, h8, m9, q10, H⟩ := H
    refine ea_callV (pc := 99) (As := [vI 19, vI (ea_i h a3 0), vI 0]) (st := []) dX5_scan_99 kX5_addToken m9 q10 rfl (Nat.le_of_ble_eq_true rfl) ew_771 ew_773 ew_18 (ci := 5) rfl (by decide) f11 g12 ?_
    obtain ⟨rfl, rfl⟩ := H
    exact ea_return (pc := 102) dX5_scan_102 rfl
  · have H := H.2 c66
    refine ea_aload_n (pc := 15) dX5_scan_15 rfl 0 rfl ?_
    obtain ⟨f13, g14, H⟩ := H
    refine ea_deref0 e4 ?_
    refine ea_getR (pc := 16) dX5_scan_16 ec_5 (k := 3) (Nat.le_of_ble_eq_true rfl) rfl (Or.inl ew_297) f13 g14 rfl ?_
    refine ea_iload_n (pc := 19) dX5_scan_19 rfl 1 rfl ?_
    obtain ⟨a17, e18, f15, g16, H⟩ := H
    refine ea_deref1 e18 ?_
    obtain ⟨z19, H⟩ := H
    refine ea_iald (pc := 20) dX5_scan_20 f15 g16 z19 ?_
    refine ea_istore_n (pc := 21) (lv' := [(0, vR r0), (1, vI x1), (2, vI (ea_i h a17 (Int32.toNatClampNeg x1)))]) dX5_scan_21 rfl (Nat.le_of_ble_eq_true rfl) [1, 2, 0] rfl ?_
    refine ea_iload_n (pc := 22) dX5_scan_22 rfl 2 rfl ?_
    obtain ⟨d20, xc24, h21, m22, q23, H⟩ := H
    refine ea_callS (pc := 23) (As := [vI (ea_i h a17 (Int32.toNatClampNeg x1))]) (st := []) dX5_scan_23 kX5_isLetter m22 q23 rfl (Nat.le_of_ble_eq_true rfl) ew_761 ew_762 ?_
    refine ea_if_eq (pc := 26) (tgt := 38) dX5_scan_26 rfl (fun c65 => ?_) (fun c65 => ?_)
    · have H := H.1 c65
      refine ea_iload_n (pc := 38) dX5_scan_38 rfl 2 rfl ?_
      obtain ⟨d25, xc29, h26, m27, q28, H⟩ := H
      refine ea_callS (pc := 39) (As := [vI (ea_i h a17 (Int32.toNatClampNeg x1))]) (st := []) dX5_scan_39 kX5_isDigit m27 q28 rfl (Nat.le_of_ble_eq_true rfl) ew_775 ew_776 ?_
      refine ea_if_eq (pc := 42) (tgt := 54) dX5_scan_42 rfl (fun c57 => ?_) (fun c57 => ?_)
      · have H := H.1 c57
        refine ea_iload_n (pc := 54) dX5_scan_54 rfl 2 rfl ?_
        refine ea_bipush (pc := 55) dX5_scan_55 (v := 32) rfl ?_
        refine ea_icmp_eq (pc := 57) (tgt := 85) dX5_scan_57 rfl (fun c49 => ?_) (fun c49 => ?_)
        · have H := H.1 c49
          refine ea_iinc (pc := 85) (v := 1) (lv' := [(0, vR r0), (1, vI (x1 + 1))]) dX5_scan_85 1 rfl rfl (Nat.le_of_ble_eq_true rfl) [1, 0] rfl ?_
          refine ea_goto (pc := 88) (tgt := 7) dX5_scan_88 rfl ?_
          exact H
        · have H := H.2 c49
          refine ea_iload_n (pc := 60) dX5_scan_60 rfl 2 rfl ?_
          refine ea_bipush (pc := 61) dX5_scan_61 (v := 10) rfl ?_
          refine ea_icmp_eq (pc := 63) (tgt := 85) dX5_scan_63 rfl (fun c48 => ?_) (fun c48 => ?_)
          · have H := H.1 c48
            refine ea_iinc (pc := 85) (v := 1) (lv' := [(0, vR r0), (1, vI (x1 + 1))]) dX5_scan_85 1 rfl rfl (Nat.le_of_ble_eq_true rfl) [1, 0] rfl ?_
            refine ea_goto (pc := 88) (tgt := 7) dX5_scan_88 rfl ?_
            exact H
          · have H := H.2 c48
            refine ea_aload_n (pc := 66) dX5_scan_66 rfl 0 rfl ?_
            refine ea_iload_n (pc := 67) dX5_scan_67 rfl 2 rfl ?_
            obtain ⟨d30, xc34, h31, m32, q33, H⟩ := H
            refine ea_callS (pc := 68) (As := [vI (ea_i h a17 (Int32.toNatClampNeg x1))]) (st := [vR r0]) dX5_scan_68 kX5_isSign m32 q33 rfl (Nat.le_of_ble_eq_true rfl) ew_782 ew_783 ?_
            refine ea_if_eq (pc := 71) (tgt := 78) dX5_scan_71 rfl (fun c47 => ?_) (fun c47 => ?_)
            · have H := H.1 c47
              refine ea_bipush (pc := 78) dX5_scan_78 (v := 20) rfl ?_
              refine ea_iload_n (pc := 80) dX5_scan_80 rfl 1 rfl ?_
              refine ea_iconst (pc := 81) dX5_scan_81 (v := 0) rfl ?_
              obtain ⟨f39, g40, H⟩ := H
              refine ea_deref3 e4 ?_
              obtain ⟨d35, h36, m37, q38, H⟩ := H
              refine ea_callV (pc := 82) (As := [vI 20, vI x1, vI 0]) (st := []) dX5_scan_82 kX5_addToken m37 q38 rfl (Nat.le_of_ble_eq_true rfl) ew_771 ew_773 ew_18 (ci := 5) rfl (by decide) f39 g40 ?_
              refine ea_iinc (pc := 85) (v := 1) (lv' := [(0, vR r0), (1, vI (x1 + 1))]) dX5_scan_85 1 rfl rfl (Nat.le_of_ble_eq_true rfl) [1, 0] rfl ?_
              refine ea_goto (pc := 88) (tgt := 7) dX5_scan_88 rfl ?_
              exact H
            · have H := H.2 c47
              refine ea_iload_n (pc := 74) dX5_scan_74 rfl 2 rfl ?_
              refine ea_goto (pc := 75) (tgt := 80) dX5_scan_75 rfl ?_
              refine ea_iload_n (pc := 80) dX5_scan_80 rfl 1 rfl ?_
              refine ea_iconst (pc := 81) dX5_scan_81 (v := 0) rfl ?_
              obtain ⟨f45, g46, H⟩ := H
              refine ea_deref3 e4 ?_
              obtain ⟨d41, h42, m43, q44, H⟩ := H
              refine ea_callV (pc := 82) (As := [vI (ea_i h a17 (Int32.toNatClampNeg x1)), vI x1, vI 0]) (st := []) dX5_scan_82 kX5_addToken m43 q44 rfl (Nat.le_of_ble_eq_true rfl) ew_771 ew_773 ew_18 (ci := 5) rfl (by decide) f45 g46 ?_
              refine ea_iinc (pc := 85) (v := 1) (lv' := [(0, vR r0), (1, vI (x1 + 1))]) dX5_scan_85 1 rfl rfl (Nat.le_of_ble_eq_true rfl) [1, 0] rfl ?_
              refine ea_goto (pc := 88) (tgt := 7) dX5_scan_88 rfl ?_
              exact H
      · have H := H.2 c57
        refine ea_aload_n (pc := 45) dX5_scan_45 rfl 0 rfl ?_
        refine ea_iload_n (pc := 46) dX5_scan_46 rfl 1 rfl ?_
        obtain ⟨f54, g55, H⟩ := H
        refine ea_deref1 e4 ?_
        obtain ⟨d50, xc56, h51, m52, q53, H⟩ := H
        refine ea_callV (pc := 47) (As := [vI x1]) (st := []) dX5_scan_47 kX5_scanNumber m52 q53 rfl (Nat.le_of_ble_eq_true rfl) ew_778 ew_780 ew_19 (ci := 5) rfl (by decide) f54 g55 ?_
        refine ea_istore_n (pc := 50) (lv' := [(0, vR r0), (1, vI xc56)]) dX5_scan_50 rfl (Nat.le_of_ble_eq_true rfl) [1, 0] rfl ?_
        refine ea_goto (pc := 51) (tgt := 85) dX5_scan_51 rfl ?_
        refine ea_iinc (pc := 85) (v := 1) (lv' := [(0, vR r0), (1, vI (xc56 + 1))]) dX5_scan_85 1 rfl rfl (Nat.le_of_ble_eq_true rfl) [1, 0] rfl ?_
        refine ea_goto (pc := 88) (tgt := 7) dX5_scan_88 rfl ?_
        exact H
    · have H := H.2 c65
      refine ea_aload_n (pc := 29) dX5_scan_29 rfl 0 rfl ?_
      refine ea_iload_n (pc := 30) dX5_scan_30 rfl 1 rfl ?_
      obtain ⟨f62, g63, H⟩ := H
      refine ea_deref1 e4 ?_
      obtain ⟨d58, xc64, h59, m60, q61, H⟩ := H
      refine ea_callV (pc := 31) (As := [vI x1]) (st := []) dX5_scan_31 kX5_scanWord m60 q61 rfl (Nat.le_of_ble_eq_true rfl) ew_764 ew_766 ew_17 (ci := 5) rfl (by decide) f62 g63 ?_
      refine ea_istore_n (pc := 34) (lv' := [(0, vR r0), (1, vI xc64)]) dX5_scan_34 rfl (Nat.le_of_ble_eq_true rfl) [1, 0] rfl ?_
      refine ea_goto (pc := 35) (tgt := 85) dX5_scan_35 rfl ?_
      refine ea_iinc (pc := 85) (v := 1) (lv' := [(0, vR r0), (1, vI (xc64 + 1))]) dX5_scan_85 1 rfl rfl (Nat.le_of_ble_eq_true rfl) [1, 0] rfl ?_
      refine ea_goto (pc := 88) (tgt := 7) dX5_scan_88 rfl ?_
      exact H
theorem dX5_addToken_0 : decode cX5_addToken 0 = .ok (.aload_n 0, 1) := by decide +kernel
theorem dX5_addToken_1 : decode cX5_addToken 1 = .ok (.getfield 138, 3) := by decide +kernel
theorem dX5_addToken_4 : decode cX5_addToken 4 = .ok (.aload_n 0, 1) := by decide +kernel
theorem dX5_addToken_5 : decode cX5_addToken 5 = .ok (.getfield 19, 3) := by decide +kernel
theorem dX5_addToken_8 : decode cX5_addToken 8 = .ok (.arraylength, 1) := by decide +kernel
theorem dX5_addToken_9 : decode cX5_addToken 9 = .ok (.if_icmp .ge 43, 3) := by decide +kernel
theorem dX5_addToken_12 : decode cX5_addToken 12 = .ok (.aload_n 0, 1) := by decide +kernel
theorem dX5_addToken_13 : decode cX5_addToken 13 = .ok (.getfield 19, 3) := by decide +kernel
theorem dX5_addToken_16 : decode cX5_addToken 16 = .ok (.aload_n 0, 1) := by decide +kernel
theorem dX5_addToken_17 : decode cX5_addToken 17 = .ok (.getfield 138, 3) := by decide +kernel
theorem dX5_addToken_20 : decode cX5_addToken 20 = .ok (.iload_n 1, 1) := by decide +kernel
theorem dX5_addToken_21 : decode cX5_addToken 21 = .ok (.iastore, 1) := by decide +kernel
theorem dX5_addToken_22 : decode cX5_addToken 22 = .ok (.aload_n 0, 1) := by decide +kernel
theorem dX5_addToken_23 : decode cX5_addToken 23 = .ok (.getfield 22, 3) := by decide +kernel
theorem dX5_addToken_26 : decode cX5_addToken 26 = .ok (.aload_n 0, 1) := by decide +kernel
theorem dX5_addToken_27 : decode cX5_addToken 27 = .ok (.getfield 138, 3) := by decide +kernel
theorem dX5_addToken_30 : decode cX5_addToken 30 = .ok (.iload_n 2, 1) := by decide +kernel
theorem dX5_addToken_31 : decode cX5_addToken 31 = .ok (.iastore, 1) := by decide +kernel
theorem dX5_addToken_32 : decode cX5_addToken 32 = .ok (.aload_n 0, 1) := by decide +kernel
theorem dX5_addToken_33 : decode cX5_addToken 33 = .ok (.getfield 25, 3) := by decide +kernel
theorem dX5_addToken_36 : decode cX5_addToken 36 = .ok (.aload_n 0, 1) := by decide +kernel
theorem dX5_addToken_37 : decode cX5_addToken 37 = .ok (.getfield 138, 3) := by decide +kernel
theorem dX5_addToken_40 : decode cX5_addToken 40 = .ok (.iload_n 3, 1) := by decide +kernel
theorem dX5_addToken_41 : decode cX5_addToken 41 = .ok (.iastore, 1) := by decide +kernel
theorem dX5_addToken_42 : decode cX5_addToken 42 = .ok (.aload_n 0, 1) := by decide +kernel
theorem dX5_addToken_43 : decode cX5_addToken 43 = .ok (.dup, 1) := by decide +kernel
theorem dX5_addToken_44 : decode cX5_addToken 44 = .ok (.getfield 138, 3) := by decide +kernel
theorem dX5_addToken_47 : decode cX5_addToken 47 = .ok (.iconst 1, 1) := by decide +kernel
theorem dX5_addToken_48 : decode cX5_addToken 48 = .ok (.iadd, 1) := by decide +kernel
theorem dX5_addToken_49 : decode cX5_addToken 49 = .ok (.putfield 138, 3) := by decide +kernel
theorem dX5_addToken_52 : decode cX5_addToken 52 = .ok (.return_, 1) := by decide +kernel
theorem bX5_addToken_0 {d : Nat} {h0 hE h : ea_H} {rv : Option ea_V} {r0 : Option Nat} {x1 : Int32} {x2 : Int32} {x3 : Int32} (H : ∃ a3, r0 = some a3 ∧ a3 < ea_n h ∧ ea_c h a3 = 5 ∧ a3 < ea_n h ∧ ea_c h a3 = 5 ∧ ∃ a9, (ea_r h a3 4) = some a9 ∧ a9 < ea_n h ∧ ea_c h a9 = 20 ∧ ((Int32.ofNat (ea_l h a9)) ≤ (ea_i h a3 7) → rv = none ∧ hE = h) ∧ (¬ (Int32.ofNat (ea_l h a9)) ≤ (ea_i h a3 7) → a3 < ea_n h ∧ ea_c h a3 = 5 ∧ a3 < ea_n h ∧ ea_c h a3 = 5 ∧ a9 < ea_n h ∧ ea_c h a9 = 20 ∧ vp_in (ea_i h a3 7) (ea_l h a9) ∧ ∀ h18, h18 = ea_wi h a9 (Int32.toNatClampNeg (ea_i h a3 7)) x1 → a3 < ea_n h18 ∧ ea_c h18 a3 = 5 ∧ a3 < ea_n h18 ∧ ea_c h18 a3 = 5 ∧ ∃ a26, (ea_r h18 a3 5) = some a26 ∧ a26 < ea_n h18 ∧ ea_c h18 a26 = 20 ∧ vp_in (ea_i h18 a3 7) (ea_l h18 a26) ∧ ∀ h29, h29 = ea_wi h18 a26 (Int32.toNatClampNeg (ea_i h18 a3 7)) x2 → a3 < ea_n h29 ∧ ea_c h29 a3 = 5 ∧ a3 < ea_n h29 ∧ ea_c h29 a3 = 5 ∧ ∃ a37, (ea_r h29 a3 6) = some a37 ∧ a37 < ea_n h29 ∧ ea_c h29 a37 = 20 ∧ vp_in (ea_i h29 a3 7) (ea_l h29 a37) ∧ ∀ h40, h40 = ea_wi h29 a37 (Int32.toNatClampNeg (ea_i h29 a3 7)) x3 → a3 < ea_n h40 ∧ ea_c h40 a3 = 5 ∧ a3 < ea_n h40 ∧ ea_c h40 a3 = 5 ∧ ∀ h46, h46 = ea_wi h40 a3 7 ((ea_i h40 a3 7) + (1 : Int32)) → rv = none ∧ hE = h46)) : ea_W mX5_addToken d h0 rv hE 0 [(0, vR r0), (1, vI x1), (2, vI x2), (3, vI x3)] [] h := by
  refine ea_aload_n (pc := 0) dX5_addToken_0 rfl 0 rfl ?_
  obtain ⟨a3, e4, f1, g2, H⟩ := H
  refine ea_deref0 e4 ?_
  refine ea_getI (pc := 1) dX5_addToken_1 ec_5 (k := 7) (Nat.le_of_ble_eq_true rfl) rfl (Or.inl ew_301) f1 g2 ?_
  refine ea_aload_n (pc := 4) dX5_addToken_4 rfl 0 rfl ?_
  obtain ⟨f5, g6, H⟩ := H
  refine ea_deref0 e4 ?_
  refine ea_getR (pc := 5) dX5_addToken_5 ec_5 (k := 4) (Nat.le_of_ble_eq_true rfl) rfl (Or.inl ew_298) f5 g6 rfl ?_
  obtain ⟨a9, e10, f7, g8, H⟩ := H
  refine ea_deref0 e10 ?_
  refine ea_alen (pc := 8) dX5_addToken_8 f7 g8 (by decide) (by decide) ?_
  refine ea_icmp_ge (pc := 9) (tgt := 52) dX5_addToken_9 rfl (fun c48 => ?_) (fun c48 => ?_)
  · have H := H.1 c48
    obtain ⟨rfl, rfl⟩ := H
    exact ea_return (pc := 52) dX5_addToken_52 rfl
  · have H := H.2 c48
    refine ea_aload_n (pc := 12) dX5_addToken_12 rfl 0 rfl ?_
    obtain ⟨f11, g12, H⟩ := H
    refine ea_deref0 e4 ?_
    refine ea_getR (pc := 13) dX5_addToken_13 ec_5 (k := 4) (Nat.le_of_ble_eq_true rfl) rfl (Or.inl ew_298) f11 g12 rfl ?_
    refine ea_aload_n (pc := 16) dX5_addToken_16 rfl 0 rfl ?_
    obtain ⟨f13, g14, H⟩ := H
    refine ea_deref0 e4 ?_
    refine ea_getI (pc := 17) dX5_addToken_17 ec_5 (k := 7) (Nat.le_of_ble_eq_true rfl) rfl (Or.inl ew_301) f13 g14 ?_
    refine ea_iload_n (pc := 20) dX5_addToken_20 rfl 1 rfl ?_
    obtain ⟨f15, g16, H⟩ := H
    refine ea_deref2 e10 ?_
    obtain ⟨z17, H⟩ := H
    refine ea_iast (pc := 21) dX5_addToken_21 f15 g16 z17 ?_
    obtain ⟨h18, E19⟩ : ∃ z, z = ea_wi h a9 (Int32.toNatClampNeg (ea_i h a3 7)) x1 := ⟨_, rfl⟩
    have H := H h18 E19
    refine ea_nm E19 ?_
    refine ea_aload_n (pc := 22) dX5_addToken_22 rfl 0 rfl ?_
    obtain ⟨f20, g21, H⟩ := H
    refine ea_deref0 e4 ?_
    refine ea_getR (pc := 23) dX5_addToken_23 ec_5 (k := 5) (Nat.le_of_ble_eq_true rfl) rfl (Or.inl ew_299) f20 g21 rfl ?_
    refine ea_aload_n (pc := 26) dX5_addToken_26 rfl 0 rfl ?_
    obtain ⟨f22, g23, H⟩ := H
    refine ea_deref0 e4 ?_
    refine ea_getI (pc := 27) dX5_addToken_27 ec_5 (k := 7) (Nat.le_of_ble_eq_true rfl) rfl (Or.inl ew_301) f22 g23 ?_
    refine ea_iload_n (pc := 30) dX5_addToken_30 rfl 2 rfl ?_
    obtain ⟨a26, e27, f24, g25, H⟩ := H
    refine ea_deref2 e27 ?_
    obtain ⟨z28, H⟩ := H
    refine ea_iast (pc := 31) dX5_addToken_31 f24 g25 z28 ?_
    obtain ⟨h29, E30⟩ : ∃ z, z = ea_wi h18 a26 (Int32.toNatClampNeg (ea_i h18 a3 7)) x2 := ⟨_, rfl⟩
    have H := H h29 E30
    refine ea_nm E30 ?_
    refine ea_aload_n (pc := 32) dX5_addToken_32 rfl 0 rfl ?_
    obtain ⟨f31, g32, H⟩ := H
    refine ea_deref0 e4 ?_
    refine ea_getR (pc := 33) dX5_addToken_33 ec_5 (k := 6) (Nat.le_of_ble_eq_true rfl) rfl (Or.inl ew_300) f31 g32 rfl ?_
    refine ea_aload_n (pc := 36) dX5_addToken_36 rfl 0 rfl ?_
    obtain ⟨f33, g34, H⟩ := H
    refine ea_deref0 e4 ?_
    refine ea_getI (pc := 37) dX5_addToken_37 ec_5 (k := 7) (Nat.le_of_ble_eq_true rfl) rfl (Or.inl ew_301) f33 g34 ?_
    refine ea_iload_n (pc := 40) dX5_addToken_40 rfl 3 rfl ?_
    obtain ⟨a37, e38, f35, g36, H⟩ := H
    refine ea_deref2 e38 ?_
    obtain ⟨z39, H⟩ := H
    refine ea_iast (pc := 41) dX5_addToken_41 f35 g36 z39 ?_
    obtain ⟨h40, E41⟩ : ∃ z, z = ea_wi h29 a37 (Int32.toNatClampNeg (ea_i h29 a3 7)) x3 := ⟨_, rfl⟩
    have H := H h40 E41
    refine ea_nm E41 ?_
    refine ea_aload_n (pc := 42) dX5_addToken_42 rfl 0 rfl ?_
    refine ea_dup (pc := 43) dX5_addToken_43 rfl ?_
    obtain ⟨f42, g43, H⟩ := H
    refine ea_deref0 e4 ?_
    refine ea_getI (pc := 44) dX5_addToken_44 ec_5 (k := 7) (Nat.le_of_ble_eq_true rfl) rfl (Or.inl ew_301) f42 g43 ?_
    refine ea_iconst (pc := 47) dX5_addToken_47 (v := 1) rfl ?_
    refine ea_iadd (pc := 48) dX5_addToken_48 ?_
    obtain ⟨f44, g45, H⟩ := H
    refine ea_deref1 e4 ?_
    refine ea_putI (pc := 49) dX5_addToken_49 ec_5 (k := 7) (Nat.le_of_ble_eq_true rfl) rfl (Or.inl ⟨rfl, Or.inl ew_301⟩) rfl rfl f44 g45 ?_
    obtain ⟨h46, E47⟩ : ∃ z, z = ea_wi h40 a3 7 ((ea_i h40 a3 7) + (1 : Int32)) := ⟨_, rfl⟩
    have H := H h46 E47
    refine ea_nm E47 ?_
    obtain ⟨rfl, rfl⟩ := H
    exact ea_return (pc := 52) dX5_addToken_52 rfl
theorem dX5_scanWord_0 : decode cX5_scanWord 0 = .ok (.lconst 0, 1) := by decide +kernel
theorem dX5_scanWord_1 : decode cX5_scanWord 1 = .ok (.lstore_n 2, 1) := by decide +kernel
theorem dX5_scanWord_2 : decode cX5_scanWord 2 = .ok (.iload_n 1, 1) := by decide +kernel
theorem dX5_scanWord_3 : decode cX5_scanWord 3 = .ok (.istore 4, 2) := by decide +kernel
theorem dX5_scanWord_5 : decode cX5_scanWord 5 = .ok (.iload 4, 2) := by decide +kernel
theorem dX5_scanWord_7 : decode cX5_scanWord 7 = .ok (.aload_n 0, 1) := by decide +kernel
theorem dX5_scanWord_8 : decode cX5_scanWord 8 = .ok (.getfield 33, 3) := by decide +kernel
theorem dX5_scanWord_11 : decode cX5_scanWord 11 = .ok (.if_icmp .ge 51, 3) := by decide +kernel
theorem dX5_scanWord_14 : decode cX5_scanWord 14 = .ok (.aload_n 0, 1) := by decide +kernel
theorem dX5_scanWord_15 : decode cX5_scanWord 15 = .ok (.getfield 15, 3) := by decide +kernel
theorem dX5_scanWord_18 : decode cX5_scanWord 18 = .ok (.iload 4, 2) := by decide +kernel
theorem dX5_scanWord_20 : decode cX5_scanWord 20 = .ok (.iaload, 1) := by decide +kernel
theorem dX5_scanWord_21 : decode cX5_scanWord 21 = .ok (.invokestatic 141, 3) := by decide +kernel
theorem dX5_scanWord_24 : decode cX5_scanWord 24 = .ok (.ifCond .eq 38, 3) := by decide +kernel
theorem dX5_scanWord_27 : decode cX5_scanWord 27 = .ok (.iload 4, 2) := by decide +kernel
theorem dX5_scanWord_29 : decode cX5_scanWord 29 = .ok (.iload_n 1, 1) := by decide +kernel
theorem dX5_scanWord_30 : decode cX5_scanWord 30 = .ok (.isub, 1) := by decide +kernel
theorem dX5_scanWord_31 : decode cX5_scanWord 31 = .ok (.bipush 6, 2) := by decide +kernel
theorem dX5_scanWord_33 : decode cX5_scanWord 33 = .ok (.if_icmp .ge 19, 3) := by decide +kernel
theorem dX5_scanWord_36 : decode cX5_scanWord 36 = .ok (.lload_n 2, 1) := by decide +kernel
theorem dX5_scanWord_37 : decode cX5_scanWord 37 = .ok (.bipush 8, 2) := by decide +kernel
theorem dX5_scanWord_39 : decode cX5_scanWord 39 = .ok (.lshl, 1) := by decide +kernel
theorem dX5_scanWord_40 : decode cX5_scanWord 40 = .ok (.aload_n 0, 1) := by decide +kernel
theorem dX5_scanWord_41 : decode cX5_scanWord 41 = .ok (.getfield 15, 3) := by decide +kernel
theorem dX5_scanWord_44 : decode cX5_scanWord 44 = .ok (.iload 4, 2) := by decide +kernel
theorem dX5_scanWord_46 : decode cX5_scanWord 46 = .ok (.iaload, 1) := by decide +kernel
theorem dX5_scanWord_47 : decode cX5_scanWord 47 = .ok (.i2l, 1) := by decide +kernel
theorem dX5_scanWord_48 : decode cX5_scanWord 48 = .ok (.lor, 1) := by decide +kernel
theorem dX5_scanWord_49 : decode cX5_scanWord 49 = .ok (.goto 6, 3) := by decide +kernel
theorem dX5_scanWord_52 : decode cX5_scanWord 52 = .ok (.ldc2_w 161, 3) := by decide +kernel
theorem dX5_scanWord_55 : decode cX5_scanWord 55 = .ok (.lstore_n 2, 1) := by decide +kernel
theorem dX5_scanWord_56 : decode cX5_scanWord 56 = .ok (.iinc 4 1, 3) := by decide +kernel
theorem dX5_scanWord_59 : decode cX5_scanWord 59 = .ok (.goto (-54), 3) := by decide +kernel
theorem dX5_scanWord_62 : decode cX5_scanWord 62 = .ok (.bipush 20, 2) := by decide +kernel
theorem dX5_scanWord_64 : decode cX5_scanWord 64 = .ok (.istore 5, 2) := by decide +kernel
theorem dX5_scanWord_66 : decode cX5_scanWord 66 = .ok (.iconst 0, 1) := by decide +kernel
theorem dX5_scanWord_67 : decode cX5_scanWord 67 = .ok (.istore 6, 2) := by decide +kernel
theorem dX5_scanWord_69 : decode cX5_scanWord 69 = .ok (.iload 6, 2) := by decide +kernel
theorem dX5_scanWord_71 : decode cX5_scanWord 71 = .ok (.getstatic 163, 3) := by decide +kernel
theorem dX5_scanWord_74 : decode cX5_scanWord 74 = .ok (.arraylength, 1) := by decide +kernel
theorem dX5_scanWord_75 : decode cX5_scanWord 75 = .ok (.if_icmp .ge 24, 3) := by decide +kernel
theorem dX5_scanWord_78 : decode cX5_scanWord 78 = .ok (.getstatic 163, 3) := by decide +kernel
theorem dX5_scanWord_81 : decode cX5_scanWord 81 = .ok (.iload 6, 2) := by decide +kernel
theorem dX5_scanWord_83 : decode cX5_scanWord 83 = .ok (.laload, 1) := by decide +kernel
theorem dX5_scanWord_84 : decode cX5_scanWord 84 = .ok (.lload_n 2, 1) := by decide +kernel
theorem dX5_scanWord_85 : decode cX5_scanWord 85 = .ok (.lcmp, 1) := by decide +kernel
theorem dX5_scanWord_86 : decode cX5_scanWord 86 = .ok (.ifCond .ne 7, 3) := by decide +kernel
theorem dX5_scanWord_89 : decode cX5_scanWord 89 = .ok (.iload 6, 2) := by decide +kernel
theorem dX5_scanWord_91 : decode cX5_scanWord 91 = .ok (.istore 5, 2) := by decide +kernel
theorem dX5_scanWord_93 : decode cX5_scanWord 93 = .ok (.iinc 6 1, 3) := by decide +kernel
theorem dX5_scanWord_96 : decode cX5_scanWord 96 = .ok (.goto (-27), 3) := by decide +kernel
theorem dX5_scanWord_99 : decode cX5_scanWord 99 = .ok (.aload_n 0, 1) := by decide +kernel
theorem dX5_scanWord_100 : decode cX5_scanWord 100 = .ok (.iload 5, 2) := by decide +kernel
theorem dX5_scanWord_102 : decode cX5_scanWord 102 = .ok (.iload_n 1, 1) := by decide +kernel
theorem dX5_scanWord_103 : decode cX5_scanWord 103 = .ok (.iconst 0, 1) := by decide +kernel
theorem dX5_scanWord_104 : decode cX5_scanWord 104 = .ok (.invokevirtual 157, 3) := by decide +kernel
theorem dX5_scanWord_107 : decode cX5_scanWord 107 = .ok (.iload 4, 2) := by decide +kernel
theorem dX5_scanWord_109 : decode cX5_scanWord 109 = .ok (.iconst 1, 1) := by decide +kernel
theorem dX5_scanWord_110 : decode cX5_scanWord 110 = .ok (.isub, 1) := by decide +kernel
theorem dX5_scanWord_111 : decode cX5_scanWord 111 = .ok (.ireturn, 1) := by decide +kernel
theorem bX5_scanWord_0 {d : Nat} {h0 hE h : ea_H} {rv : Option ea_V} {r0 : Option Nat} {x1 : Int32} (H : ea_W mX5_scanWord d h0 rv hE 5 [(0, vR r0), (1, vI x1), (2, vJ 0), (4, vI x1)] [] h) : ea_W mX5_scanWord d h0 rv hE 0 [(0, vR r0), (1, vI x1)] [] h := by
  refine ea_lconst (pc := 0) dX5_scanWord_0 (v := 0) rfl ?_
  refine ea_lstore_n (pc := 1) (lv' := [(0, vR r0), (1, vI x1), (2, vJ 0)]) dX5_scanWord_1 rfl (Nat.le_of_ble_eq_true rfl) [1, 2, 0] rfl ?_
  refine ea_iload_n (pc := 2) dX5_scanWord_2 rfl 1 rfl ?_
  refine ea_istore (pc := 3) (lv' := [(0, vR r0), (1, vI x1), (2, vJ 0), (4, vI x1)]) dX5_scanWord_3 (Nat.le_of_ble_eq_true rfl) [1, 2, 3, 0] rfl ?_
  exact H
theorem bX5_scanWord_5 {d : Nat} {h0 hE h : ea_H} {rv : Option ea_V} {r0 : Option Nat} {x1 : Int32} {y2 : Int64} {x4 : Int32} (H : ∃ a3, r0 = some a3 ∧ a3 < ea_n h ∧ ea_c h a3 = 5 ∧ ((ea_i h a3 0) ≤ x4 → ea_W mX5_scanWord d h0 rv hE 69 [(0, vR r0), (1, vI x1), (2, vJ y2), (4, vI x4), (5, vI 20), (6, vI 0)] [] h) ∧ (¬ (ea_i h a3 0) ≤ x4 → a3 < ea_n h ∧ ea_c h a3 = 5 ∧ ∃ a9, (ea_r h a3 3) = some a9 ∧ a9 < ea_n h ∧ ea_c h a9 = 20 ∧ vp_in x4 (ea_l h a9) ∧ ∃ (d12 : Nat) (xc16 : Int32) (h13 : ea_H), ea_Met mX5_isLetter d12 [vI (ea_i h a9 (Int32.toNatClampNeg x4))] h (some (vI xc16)) h13 ∧ d12 + 1 ≤ d ∧ (xc16 = (0 : Int32) → ea_W mX5_scanWord d h0 rv hE 69 [(0, vR r0), (1, vI x1), (2, vJ y2), (4, vI x4), (5, vI 20), (6, vI 0)] [] h13) ∧ (¬ xc16 = (0 : Int32) → ((6 : Int32) ≤ (x4 - x1) → ea_W mX5_scanWord d h0 rv hE 5 [(0, vR r0), (1, vI x1), (2, vJ (-1)), (4, vI (x4 + 1))] [] h13) ∧ (¬ (6 : Int32) ≤ (x4 - x1) → a3 < ea_n h13 ∧ ea_c h13 a3 = 5 ∧ ∃ a21, (ea_r h13 a3 3) = some a21 ∧ a21 < ea_n h13 ∧ ea_c h13 a21 = 20 ∧ vp_in x4 (ea_l h13 a21) ∧ ea_W mX5_scanWord d h0 rv hE 5 [(0, vR r0), (1, vI x1), (2, vJ ((y2 <<< (Int32.toInt64 8 &&& 63)) ||| (Int32.toInt64 (ea_i h13 a21 (Int32.toNatClampNeg x4))))), (4, vI (x4 + 1))] [] h13)))) : ea_W mX5_scanWord d h0 rv hE 5 [(0, vR r0), (1, vI x1), (2, vJ y2), (4, vI x4)] [] h := by
  refine ea_iload (pc := 5) dX5_scanWord_5 3 rfl ?_
  refine ea_aload_n (pc := 7) dX5_scanWord_7 rfl 0 rfl ?_
  obtain ⟨a3, e4, f1, g2, H⟩ := H
  refine ea_deref0 e4 ?_
  refine ea_getI (pc := 8) dX5_scanWord_8 ec_5 (k := 0) (Nat.le_of_ble_eq_true rfl) rfl (Or.inl ew_291) f1 g2 ?_
  refine ea_icmp_ge (pc := 11) (tgt := 62) dX5_scanWord_11 rfl (fun c26 => ?_) (fun c26 => ?_)
  · have H := H.1 c26
    refine ea_bipush (pc := 62) dX5_scanWord_62 (v := 20) rfl ?_
    refine ea_istore (pc := 64) (lv' := [(0, vR r0), (1, vI x1), (2, vJ y2), (4, vI x4), (5, vI 20)]) dX5_scanWord_64 (Nat.le_of_ble_eq_true rfl) [1, 2, 3, 4, 0] rfl ?_
    refine ea_iconst (pc := 66) dX5_scanWord_66 (v := 0) rfl ?_
    refine ea_istore (pc := 67) (lv' := [(0, vR r0), (1, vI x1), (2, vJ y2), (4, vI x4), (5, vI 20), (6, vI 0)]) dX5_scanWord_67 (Nat.le_of_ble_eq_true rfl) [1, 2, 3, 4, 5, 0] rfl ?_
    exact H
  · have H := H.2 c26
    refine ea_aload_n (pc := 14) dX5_scanWord_14 rfl 0 rfl ?_
    obtain ⟨f5, g6, H⟩ := H
    refine ea_deref0 e4 ?_
    refine ea_getR (pc := 15) dX5_scanWord_15 ec_5 (k := 3) (Nat.le_of_ble_eq_true rfl) rfl (Or.inl ew_297) f5 g6 rfl ?_
    refine ea_iload (pc := 18) dX5_scanWord_18 3 rfl ?_
    obtain ⟨a9, e10, f7, g8, H⟩ := H
    refine ea_deref1 e10 ?_
    obtain ⟨z11, H⟩ := H
    refine ea_iald (pc := 20) dX5_scanWord_20 f7 g8 z11 ?_
    obtain ⟨d12, xc16, h13, m14, q15, H⟩ := H
    refine ea_callS (pc := 21) (As := [vI (ea_i h a9 (Int32.toNatClampNeg x4))]) (st := []) dX5_scanWord_21 kX5_isLetter m14 q15 rfl (Nat.le_of_ble_eq_true rfl) ew_761 ew_762 ?_
    refine ea_if_eq (pc := 24) (tgt := 62) dX5_scanWord_24 rfl (fun c25 => ?_) (fun c25 => ?_)
    · have H := H.1 c25
      refine ea_bipush (pc := 62) dX5_scanWord_62 (v := 20) rfl ?_
      refine ea_istore (pc := 64) (lv' := [(0, vR r0), (1, vI x1), (2, vJ y2), (4, vI x4), (5, vI 20)]) dX5_scanWord_64 (Nat.le_of_ble_eq_true rfl) [1, 2, 3, 4, 0] rfl ?_
      refine ea_iconst (pc := 66) dX5_scanWord_66 (v := 0) rfl ?_
      refine ea_istore (pc := 67) (lv' := [(0, vR r0), (1, vI x1), (2, vJ y2), (4, vI x4), (5, vI 20), (6, vI 0)]) dX5_scanWord_67 (Nat.le_of_ble_eq_true rfl) [1, 2, 3, 4, 5, 0] rfl ?_
      exact H
    · have H := H.2 c25
      refine ea_iload (pc := 27) dX5_scanWord_27 3 rfl ?_
      refine ea_iload_n (pc := 29) dX5_scanWord_29 rfl 1 rfl ?_
      refine ea_isub (pc := 30) dX5_scanWord_30 ?_
      refine ea_bipush (pc := 31) dX5_scanWord_31 (v := 6) rfl ?_
      refine ea_icmp_ge (pc := 33) (tgt := 52) dX5_scanWord_33 rfl (fun c24 => ?_) (fun c24 => ?_)
      · have H := H.1 c24
        refine ea_ldc2 (pc := 52) dX5_scanWord_52 ew_768 ?_
        refine ea_lstore_n (pc := 55) (lv' := [(0, vR r0), (1, vI x1), (2, vJ (-1)), (4, vI x4)]) dX5_scanWord_55 rfl (Nat.le_of_ble_eq_true rfl) [1, 2, 0, 3] rfl ?_
        refine ea_iinc (pc := 56) (v := 1) (lv' := [(0, vR r0), (1, vI x1), (2, vJ (-1)), (4, vI (x4 + 1))]) dX5_scanWord_56 3 rfl rfl (Nat.le_of_ble_eq_true rfl) [1, 2, 3, 0] rfl ?_
        refine ea_goto (pc := 59) (tgt := 5) dX5_scanWord_59 rfl ?_
        exact H
      · have H := H.2 c24
        refine ea_lload_n (pc := 36) dX5_scanWord_36 rfl 2 rfl ?_
        refine ea_bipush (pc := 37) dX5_scanWord_37 (v := 8) rfl ?_
        refine ea_lshl (pc := 39) dX5_scanWord_39 ?_
        refine ea_aload_n (pc := 40) dX5_scanWord_40 rfl 0 rfl ?_
        obtain ⟨f17, g18, H⟩ := H
        refine ea_deref0 e4 ?_
        refine ea_getR (pc := 41) dX5_scanWord_41 ec_5 (k := 3) (Nat.le_of_ble_eq_true rfl) rfl (Or.inl ew_297) f17 g18 rfl ?_
        refine ea_iload (pc := 44) dX5_scanWord_44 3 rfl ?_
        obtain ⟨a21, e22, f19, g20, H⟩ := H
        refine ea_deref1 e22 ?_
        obtain ⟨z23, H⟩ := H
        refine ea_iald (pc := 46) dX5_scanWord_46 f19 g20 z23 ?_
        refine ea_i2l (pc := 47) dX5_scanWord_47 ?_
        refine ea_lor (pc := 48) dX5_scanWord_48 ?_
        refine ea_goto (pc := 49) (tgt := 55) dX5_scanWord_49 rfl ?_
        refine ea_lstore_n (pc := 55) (lv' := [(0, vR r0), (1, vI x1), (2, vJ ((y2 <<< (Int32.toInt64 8 &&& 63)) ||| (Int32.toInt64 (ea_i h13 a21 (Int32.toNatClampNeg x4))))), (4, vI x4)]) dX5_scanWord_55 rfl (Nat.le_of_ble_eq_true rfl) [1, 2, 0, 3] rfl ?_
        refine ea_iinc (pc := 56) (v := 1) (lv' := [(0, vR r0), (1, vI x1), (2, vJ ((y2 <<< (Int32.toInt64 8 &&& 63)) ||| (Int32.toInt64 (ea_i h13 a21 (Int32.toNatClampNeg x4))))), (4, vI (x4 + 1))]) dX5_scanWord_56 3 rfl rfl (Nat.le_of_ble_eq_true rfl) [1, 2, 3, 0] rfl ?_
        refine ea_goto (pc := 59) (tgt := 5) dX5_scanWord_59 rfl ?_
        exact H
theorem bX5_scanWord_69 {d : Nat} {h0 hE h : ea_H} {rv : Option ea_V} {r0 : Option Nat} {x1 : Int32} {y2 : Int64} {x4 : Int32} {x5 : Int32} {x6 : Int32} (H : False) : ea_W mX5_scanWord d h0 rv hE 69 [(0, vR r0), (1, vI x1), (2, vJ y2), (4, vI x4), (5, vI x5), (6, vI x6)] [] h := by
  refine ea_iload (pc := 69) dX5_scanWord_69 5 rfl ?_
  exact H.elim
theorem dX5_scanNumber_0 : decode cX5_scanNumber 0 = .ok (.iconst 0, 1) := by decide +kernel
theorem dX5_scanNumber_1 : decode cX5_scanNumber 1 = .ok (.istore_n 2, 1) := by decide +kernel
theorem dX5_scanNumber_2 : decode cX5_scanNumber 2 = .ok (.iload_n 1, 1) := by decide +kernel
theorem dX5_scanNumber_3 : decode cX5_scanNumber 3 = .ok (.istore_n 3, 1) := by decide +kernel
theorem dX5_scanNumber_4 : decode cX5_scanNumber 4 = .ok (.iload_n 3, 1) := by decide +kernel
theorem dX5_scanNumber_5 : decode cX5_scanNumber 5 = .ok (.aload_n 0, 1) := by decide +kernel
theorem dX5_scanNumber_6 : decode cX5_scanNumber 6 = .ok (.getfield 33, 3) := by decide +kernel
theorem dX5_scanNumber_9 : decode cX5_scanNumber 9 = .ok (.if_icmp .ge 47, 3) := by decide +kernel
theorem dX5_scanNumber_12 : decode cX5_scanNumber 12 = .ok (.aload_n 0, 1) := by decide +kernel
theorem dX5_scanNumber_13 : decode cX5_scanNumber 13 = .ok (.getfield 15, 3) := by decide +kernel
theorem dX5_scanNumber_16 : decode cX5_scanNumber 16 = .ok (.iload_n 3, 1) := by decide +kernel
theorem dX5_scanNumber_17 : decode cX5_scanNumber 17 = .ok (.iaload, 1) := by decide +kernel
theorem dX5_scanNumber_18 : decode cX5_scanNumber 18 = .ok (.invokestatic 148, 3) := by decide +kernel
theorem dX5_scanNumber_21 : decode cX5_scanNumber 21 = .ok (.ifCond .eq 35, 3) := by decide +kernel
theorem dX5_scanNumber_24 : decode cX5_scanNumber 24 = .ok (.iload_n 3, 1) := by decide +kernel
theorem dX5_scanNumber_25 : decode cX5_scanNumber 25 = .ok (.iload_n 1, 1) := by decide +kernel
theorem dX5_scanNumber_26 : decode cX5_scanNumber 26 = .ok (.isub, 1) := by decide +kernel
theorem dX5_scanNumber_27 : decode cX5_scanNumber 27 = .ok (.iconst 4, 1) := by decide +kernel
theorem dX5_scanNumber_28 : decode cX5_scanNumber 28 = .ok (.if_icmp .ge 20, 3) := by decide +kernel
theorem dX5_scanNumber_31 : decode cX5_scanNumber 31 = .ok (.iload_n 2, 1) := by decide +kernel
theorem dX5_scanNumber_32 : decode cX5_scanNumber 32 = .ok (.bipush 10, 2) := by decide +kernel
theorem dX5_scanNumber_34 : decode cX5_scanNumber 34 = .ok (.imul, 1) := by decide +kernel
theorem dX5_scanNumber_35 : decode cX5_scanNumber 35 = .ok (.aload_n 0, 1) := by decide +kernel
theorem dX5_scanNumber_36 : decode cX5_scanNumber 36 = .ok (.getfield 15, 3) := by decide +kernel
theorem dX5_scanNumber_39 : decode cX5_scanNumber 39 = .ok (.iload_n 3, 1) := by decide +kernel
theorem dX5_scanNumber_40 : decode cX5_scanNumber 40 = .ok (.iaload, 1) := by decide +kernel
theorem dX5_scanNumber_41 : decode cX5_scanNumber 41 = .ok (.iadd, 1) := by decide +kernel
theorem dX5_scanNumber_42 : decode cX5_scanNumber 42 = .ok (.bipush 48, 2) := by decide +kernel
theorem dX5_scanNumber_44 : decode cX5_scanNumber 44 = .ok (.isub, 1) := by decide +kernel
theorem dX5_scanNumber_45 : decode cX5_scanNumber 45 = .ok (.goto 4, 3) := by decide +kernel
theorem dX5_scanNumber_48 : decode cX5_scanNumber 48 = .ok (.iconst (-1), 1) := by decide +kernel
theorem dX5_scanNumber_49 : decode cX5_scanNumber 49 = .ok (.istore_n 2, 1) := by decide +kernel
theorem dX5_scanNumber_50 : decode cX5_scanNumber 50 = .ok (.iinc 3 1, 3) := by decide +kernel
theorem dX5_scanNumber_53 : decode cX5_scanNumber 53 = .ok (.goto (-49), 3) := by decide +kernel
theorem dX5_scanNumber_56 : decode cX5_scanNumber 56 = .ok (.aload_n 0, 1) := by decide +kernel
theorem dX5_scanNumber_57 : decode cX5_scanNumber 57 = .ok (.iload_n 2, 1) := by decide +kernel
theorem dX5_scanNumber_58 : decode cX5_scanNumber 58 = .ok (.iconst (-1), 1) := by decide +kernel
theorem dX5_scanNumber_59 : decode cX5_scanNumber 59 = .ok (.if_icmp .ne 8, 3) := by decide +kernel
theorem dX5_scanNumber_62 : decode cX5_scanNumber 62 = .ok (.bipush 20, 2) := by decide +kernel
theorem dX5_scanNumber_64 : decode cX5_scanNumber 64 = .ok (.goto 5, 3) := by decide +kernel
theorem dX5_scanNumber_67 : decode cX5_scanNumber 67 = .ok (.bipush 18, 2) := by decide +kernel
theorem dX5_scanNumber_69 : decode cX5_scanNumber 69 = .ok (.iload_n 1, 1) := by decide +kernel
theorem dX5_scanNumber_70 : decode cX5_scanNumber 70 = .ok (.iload_n 2, 1) := by decide +kernel
theorem dX5_scanNumber_71 : decode cX5_scanNumber 71 = .ok (.invokevirtual 157, 3) := by decide +kernel
theorem dX5_scanNumber_74 : decode cX5_scanNumber 74 = .ok (.iload_n 3, 1) := by decide +kernel
theorem dX5_scanNumber_75 : decode cX5_scanNumber 75 = .ok (.iconst 1, 1) := by decide +kernel
theorem dX5_scanNumber_76 : decode cX5_scanNumber 76 = .ok (.isub, 1) := by decide +kernel
theorem dX5_scanNumber_77 : decode cX5_scanNumber 77 = .ok (.ireturn, 1) := by decide +kernel
theorem bX5_scanNumber_0 {d : Nat} {h0 hE h : ea_H} {rv : Option ea_V} {r0 : Option Nat} {x1 : Int32} (H : ea_W mX5_scanNumber d h0 rv hE 4 [(0, vR r0), (1, vI x1), (2, vI 0), (3, vI x1)] [] h) : ea_W mX5_scanNumber d h0 rv hE 0 [(0, vR r0), (1, vI x1)] [] h := by
  refine ea_iconst (pc := 0) dX5_scanNumber_0 (v := 0) rfl ?_
  refine ea_istore_n (pc := 1) (lv' := [(0, vR r0), (1, vI x1), (2, vI 0)]) dX5_scanNumber_1 rfl (Nat.le_of_ble_eq_true rfl) [1, 2, 0] rfl ?_
  refine ea_iload_n (pc := 2) dX5_scanNumber_2 rfl 1 rfl ?_
  refine ea_istore_n (pc := 3) (lv' := [(0, vR r0), (1, vI x1), (2, vI 0), (3, vI x1)]) dX5_scanNumber_3 rfl (Nat.le_of_ble_eq_true rfl) [1, 2, 3, 0] rfl ?_
  exact H
theorem bX5_scanNumber_4 {d : Nat} {h0 hE h : ea_H} {rv : Option ea_V} {r0 : Option Nat} {x1 : Int32} {x2 : Int32} {x3 : Int32} (H : ∃ a3, r0 = some a3 ∧ a3 < ea_n h ∧ ea_c h a3 = 5 ∧ ((ea_i h a3 0) ≤ x3 → ea_W mX5_scanNumber d h0 rv hE 56 [(0, vR r0), (1, vI x1), (2, vI x2), (3, vI x3)] [] h) ∧ (¬ (ea_i h a3 0) ≤ x3 → a3 < ea_n h ∧ ea_c h a3 = 5 ∧ ∃ a9, (ea_r h a3 3) = some a9 ∧ a9 < ea_n h ∧ ea_c h a9 = 20 ∧ vp_in x3 (ea_l h a9) ∧ ∃ (d12 : Nat) (xc16 : Int32) (h13 : ea_H), ea_Met mX5_isDigit d12 [vI (ea_i h a9 (Int32.toNatClampNeg x3))] h (some (vI xc16)) h13 ∧ d12 + 1 ≤ d ∧ (xc16 = (0 : Int32) → ea_W mX5_scanNumber d h0 rv hE 56 [(0, vR r0), (1, vI x1), (2, vI x2), (3, vI x3)] [] h13) ∧ (¬ xc16 = (0 : Int32) → ((4 : Int32) ≤ (x3 - x1) → ea_W mX5_scanNumber d h0 rv hE 4 [(0, vR r0), (1, vI x1), (2, vI (-1)), (3, vI (x3 + 1))] [] h13) ∧ (¬ (4 : Int32) ≤ (x3 - x1) → a3 < ea_n h13 ∧ ea_c h13 a3 = 5 ∧ ∃ a21, (ea_r h13 a3 3) = some a21 ∧ a21 < ea_n h13 ∧ ea_c h13 a21 = 20 ∧ vp_in x3 (ea_l h13 a21) ∧ ea_W mX5_scanNumber d h0 rv hE 4 [(0, vR r0), (1, vI x1), (2, vI (((x2 * (10 : Int32)) + (ea_i h13 a21 (Int32.toNatClampNeg x3))) - (48 : Int32))), (3, vI (x3 + 1))] [] h13)))) : ea_W mX5_scanNumber d h0 rv hE 4 [(0, vR r0), (1, vI x1), (2, vI x2), (3, vI x3)] [] h := by
  refine ea_iload_n (pc := 4) dX5_scanNumber_4 rfl 3 rfl ?_
  refine ea_aload_n (pc := 5) dX5_scanNumber_5 rfl 0 rfl ?_
  obtain ⟨a3, e4, f1, g2, H⟩ := H
  refine ea_deref0 e4 ?_
  refine ea_getI (pc := 6) dX5_scanNumber_6 ec_5 (k := 0) (Nat.le_of_ble_eq_true rfl) rfl (Or.inl ew_291) f1 g2 ?_
  refine ea_icmp_ge (pc := 9) (tgt := 56) dX5_scanNumber_9 rfl (fun c26 => ?_) (fun c26 => ?_)
  · have H := H.1 c26
    exact H
  · have H := H.2 c26
    refine ea_aload_n (pc := 12) dX5_scanNumber_12 rfl 0 rfl ?_
    obtain ⟨f5, g6, H⟩ := H
    refine ea_deref0 e4 ?_
    refine ea_getR (pc := 13) dX5_scanNumber_13 ec_5 (k := 3) (Nat.le_of_ble_eq_true rfl) rfl (Or.inl ew_297) f5 g6 rfl ?_
    refine ea_iload_n (pc := 16) dX5_scanNumber_16 rfl 3 rfl ?_
    obtain ⟨a9, e10, f7, g8, H⟩ := H
    refine ea_deref1 e10 ?_
    obtain ⟨z11, H⟩ := H
    refine ea_iald (pc := 17) dX5_scanNumber_17 f7 g8 z11 ?_
    obtain ⟨d12, xc16, h13, m14, q15, H⟩ := H
    refine ea_callS (pc := 18) (As := [vI (ea_i h a9 (Int32.toNatClampNeg x3))]) (st := []) dX5_scanNumber_18 kX5_isDigit m14 q15 rfl (Nat.le_of_ble_eq_true rfl) ew_775 ew_776 ?_
    refine ea_if_eq (pc := 21) (tgt := 56) dX5_scanNumber_21 rfl (fun c25 => ?_) (fun c25 => ?_)
    · have H := H.1 c25
      exact H
    · have H := H.2 c25
      refine ea_iload_n (pc := 24) dX5_scanNumber_24 rfl 3 rfl ?_
      refine ea_iload_n (pc := 25) dX5_scanNumber_25 rfl 1 rfl ?_
      refine ea_isub (pc := 26) dX5_scanNumber_26 ?_
      refine ea_iconst (pc := 27) dX5_scanNumber_27 (v := 4) rfl ?_
      refine ea_icmp_ge (pc := 28) (tgt := 48) dX5_scanNumber_28 rfl (fun c24 => ?_) (fun c24 => ?_)
      · have H := H.1 c24
        refine ea_iconst (pc := 48) dX5_scanNumber_48 (v := (-1)) rfl ?_
        refine ea_istore_n (pc := 49) (lv' := [(0, vR r0), (1, vI x1), (2, vI (-1)), (3, vI x3)]) dX5_scanNumber_49 rfl (Nat.le_of_ble_eq_true rfl) [1, 2, 0, 3] rfl ?_
        refine ea_iinc (pc := 50) (v := 1) (lv' := [(0, vR r0), (1, vI x1), (2, vI (-1)), (3, vI (x3 + 1))]) dX5_scanNumber_50 3 rfl rfl (Nat.le_of_ble_eq_true rfl) [1, 2, 3, 0] rfl ?_
        refine ea_goto (pc := 53) (tgt := 4) dX5_scanNumber_53 rfl ?_
        exact H
      · have H := H.2 c24
        refine ea_iload_n (pc := 31) dX5_scanNumber_31 rfl 2 rfl ?_
        refine ea_bipush (pc := 32) dX5_scanNumber_32 (v := 10) rfl ?_
        refine ea_imul (pc := 34) dX5_scanNumber_34 ?_
        refine ea_aload_n (pc := 35) dX5_scanNumber_35 rfl 0 rfl ?_
        obtain ⟨f17, g18, H⟩ := H
        refine ea_deref0 e4 ?_
        refine ea_getR (pc := 36) dX5_scanNumber_36 ec_5 (k := 3) (Nat.le_of_ble_eq_true rfl) rfl (Or.inl ew_297) f17 g18 rfl ?_
        refine ea_iload_n (pc := 39) dX5_scanNumber_39 rfl 3 rfl ?_
        obtain ⟨a21, e22, f19, g20, H⟩ := H
        refine ea_deref1 e22 ?_
        obtain ⟨z23, H⟩ := H
        refine ea_iald (pc := 40) dX5_scanNumber_40 f19 g20 z23 ?_
        refine ea_iadd (pc := 41) dX5_scanNumber_41 ?_
        refine ea_bipush (pc := 42) dX5_scanNumber_42 (v := 48) rfl ?_
        refine ea_isub (pc := 44) dX5_scanNumber_44 ?_
        refine ea_goto (pc := 45) (tgt := 49) dX5_scanNumber_45 rfl ?_
        refine ea_istore_n (pc := 49) (lv' := [(0, vR r0), (1, vI x1), (2, vI (((x2 * (10 : Int32)) + (ea_i h13 a21 (Int32.toNatClampNeg x3))) - (48 : Int32))), (3, vI x3)]) dX5_scanNumber_49 rfl (Nat.le_of_ble_eq_true rfl) [1, 2, 0, 3] rfl ?_
        refine ea_iinc (pc := 50) (v := 1) (lv' := [(0, vR r0), (1, vI x1), (2, vI (((x2 * (10 : Int32)) + (ea_i h13 a21 (Int32.toNatClampNeg x3))) - (48 : Int32))), (3, vI (x3 + 1))]) dX5_scanNumber_50 3 rfl rfl (Nat.le_of_ble_eq_true rfl) [1, 2, 3, 0] rfl ?_
        refine ea_goto (pc := 53) (tgt := 4) dX5_scanNumber_53 rfl ?_
        exact H
theorem bX5_scanNumber_56 {d : Nat} {h0 hE h : ea_H} {rv : Option ea_V} {r0 : Option Nat} {x1 : Int32} {x2 : Int32} {x3 : Int32} (H : (¬ x2 = ((-1) : Int32) → ∃ a7, r0 = some a7 ∧ a7 < ea_n h ∧ ea_c h a7 = 5 ∧ ∃ (d1 : Nat) (h2 : ea_H), ea_Met mX5_addToken d1 [vR (some a7), vI 18, vI x1, vI x2] h none h2 ∧ d1 + 1 ≤ d ∧ rv = some (vI (x3 - (1 : Int32))) ∧ hE = h2) ∧ (x2 = ((-1) : Int32) → ∃ a15, r0 = some a15 ∧ a15 < ea_n h ∧ ea_c h a15 = 5 ∧ ∃ (d9 : Nat) (h10 : ea_H), ea_Met mX5_addToken d9 [vR (some a15), vI 20, vI x1, vI x2] h none h10 ∧ d9 + 1 ≤ d ∧ rv = some (vI (x3 - (1 : Int32))) ∧ hE = h10)) : ea_W mX5_scanNumber d h0 rv hE 56 [(0, vR r0), (1, vI x1), (2, vI x2), (3, vI x3)] [] h := by
  refine ea_aload_n (pc := 56) dX5_scanNumber_56 rfl 0 rfl ?_
  refine ea_iload_n (pc := 57) dX5_scanNumber_57 rfl 2 rfl ?_
  refine ea_iconst (pc := 58) dX5_scanNumber_58 (v := (-1)) rfl ?_
  refine ea_icmp_ne (pc := 59) (tgt := 67) dX5_scanNumber_59 rfl (fun c17 => ?_) (fun c17 => ?_)
  · have H := H.1 c17
    refine ea_bipush (pc := 67) dX5_scanNumber_67 (v := 18) rfl ?_
    refine ea_iload_n (pc := 69) dX5_scanNumber_69 rfl 1 rfl ?_
    refine ea_iload_n (pc := 70) dX5_scanNumber_70 rfl 2 rfl ?_
    obtain ⟨a7, e8, f5, g6, H⟩ := H
    refine ea_deref3 e8 ?_
    obtain ⟨d1, h2, m3, q4, H⟩ := H
    refine ea_callV (pc := 71) (As := [vI 18, vI x1, vI x2]) (st := []) dX5_scanNumber_71 kX5_addToken m3 q4 rfl (Nat.le_of_ble_eq_true rfl) ew_771 ew_773 ew_18 (ci := 5) rfl (by decide) f5 g6 ?_
    refine ea_iload_n (pc := 74) dX5_scanNumber_74 rfl 3 rfl ?_
    refine ea_iconst (pc := 75) dX5_scanNumber_75 (v := 1) rfl ?_
    refine ea_isub (pc := 76) dX5_scanNumber_76 ?_
    obtain ⟨rfl, rfl⟩ := H
    exact ea_ireturn (pc := 77) dX5_scanNumber_77 rfl rfl
  · have H := H.2 c17
    refine ea_bipush (pc := 62) dX5_scanNumber_62 (v := 20) rfl ?_
    refine ea_goto (pc := 64) (tgt := 69) dX5_scanNumber_64 rfl ?_
    refine ea_iload_n (pc := 69) dX5_scanNumber_69 rfl 1 rfl ?_
    refine ea_iload_n (pc := 70) dX5_scanNumber_70 rfl 2 rfl ?_
    obtain ⟨a15, e16, f13, g14, H⟩ := H
    refine ea_deref3 e16 ?_
    obtain ⟨d9, h10, m11, q12, H⟩ := H
    refine ea_callV (pc := 71) (As := [vI 20, vI x1, vI x2]) (st := []) dX5_scanNumber_71 kX5_addToken m11 q12 rfl (Nat.le_of_ble_eq_true rfl) ew_771 ew_773 ew_18 (ci := 5) rfl (by decide) f13 g14 ?_
    refine ea_iload_n (pc := 74) dX5_scanNumber_74 rfl 3 rfl ?_
    refine ea_iconst (pc := 75) dX5_scanNumber_75 (v := 1) rfl ?_
    refine ea_isub (pc := 76) dX5_scanNumber_76 ?_
    obtain ⟨rfl, rfl⟩ := H
    exact ea_ireturn (pc := 77) dX5_scanNumber_77 rfl rfl
theorem dX5_isLetter_0 : decode cX5_isLetter 0 = .ok (.iload_n 0, 1) := by decide +kernel
theorem dX5_isLetter_1 : decode cX5_isLetter 1 = .ok (.bipush 97, 2) := by decide +kernel
theorem dX5_isLetter_3 : decode cX5_isLetter 3 = .ok (.if_icmp .lt 9, 3) := by decide +kernel
theorem dX5_isLetter_6 : decode cX5_isLetter 6 = .ok (.iload_n 0, 1) := by decide +kernel
theorem dX5_isLetter_7 : decode cX5_isLetter 7 = .ok (.bipush 122, 2) := by decide +kernel
theorem dX5_isLetter_9 : decode cX5_isLetter 9 = .ok (.if_icmp .le 15, 3) := by decide +kernel
theorem dX5_isLetter_12 : decode cX5_isLetter 12 = .ok (.iload_n 0, 1) := by decide +kernel
theorem dX5_isLetter_13 : decode cX5_isLetter 13 = .ok (.bipush 65, 2) := by decide +kernel
theorem dX5_isLetter_15 : decode cX5_isLetter 15 = .ok (.if_icmp .lt 13, 3) := by decide +kernel
theorem dX5_isLetter_18 : decode cX5_isLetter 18 = .ok (.iload_n 0, 1) := by decide +kernel
theorem dX5_isLetter_19 : decode cX5_isLetter 19 = .ok (.bipush 90, 2) := by decide +kernel
theorem dX5_isLetter_21 : decode cX5_isLetter 21 = .ok (.if_icmp .gt 7, 3) := by decide +kernel
theorem dX5_isLetter_24 : decode cX5_isLetter 24 = .ok (.iconst 1, 1) := by decide +kernel
theorem dX5_isLetter_25 : decode cX5_isLetter 25 = .ok (.goto 4, 3) := by decide +kernel
theorem dX5_isLetter_28 : decode cX5_isLetter 28 = .ok (.iconst 0, 1) := by decide +kernel
theorem dX5_isLetter_29 : decode cX5_isLetter 29 = .ok (.ireturn, 1) := by decide +kernel
theorem bX5_isLetter_0 {d : Nat} {h0 hE h : ea_H} {rv : Option ea_V} {x0 : Int32} (H : (x0 < (97 : Int32) → ea_W mX5_isLetter d h0 rv hE 12 [(0, vI x0)] [] h) ∧ (¬ x0 < (97 : Int32) → (x0 ≤ (122 : Int32) → rv = some (vI 1) ∧ hE = h) ∧ (¬ x0 ≤ (122 : Int32) → ea_W mX5_isLetter d h0 rv hE 12 [(0, vI x0)] [] h))) : ea_W mX5_isLetter d h0 rv hE 0 [(0, vI x0)] [] h := by
  refine ea_iload_n (pc := 0) dX5_isLetter_0 rfl 0 rfl ?_
  refine ea_bipush (pc := 1) dX5_isLetter_1 (v := 97) rfl ?_
  refine ea_icmp_lt (pc := 3) (tgt := 12) dX5_isLetter_3 rfl (fun c2 => ?_) (fun c2 => ?_)
  · have H := H.1 c2
    exact H
  · have H := H.2 c2
    refine ea_iload_n (pc := 6) dX5_isLetter_6 rfl 0 rfl ?_
    refine ea_bipush (pc := 7) dX5_isLetter_7 (v := 122) rfl ?_
    refine ea_icmp_le (pc := 9) (tgt := 24) dX5_isLetter_9 rfl (fun c1 => ?_) (fun c1 => ?_)
    · have H := H.1 c1
      refine ea_iconst (pc := 24) dX5_isLetter_24 (v := 1) rfl ?_
      refine ea_goto (pc := 25) (tgt := 29) dX5_isLetter_25 rfl ?_
      obtain ⟨rfl, rfl⟩ := H
      exact ea_ireturn (pc := 29) dX5_isLetter_29 rfl (ea_bn (Or.inr rfl))
    · have H := H.2 c1
      exact H
theorem bX5_isLetter_12 {d : Nat} {h0 hE h : ea_H} {rv : Option ea_V} {x0 : Int32} (H : (x0 < (65 : Int32) → rv = some (vI 0) ∧ hE = h) ∧ (¬ x0 < (65 : Int32) → ((90 : Int32) < x0 → rv = some (vI 0) ∧ hE = h) ∧ (¬ (90 : Int32) < x0 → rv = some (vI 1) ∧ hE = h))) : ea_W mX5_isLetter d h0 rv hE 12 [(0, vI x0)] [] h := by
  refine ea_iload_n (pc := 12) dX5_isLetter_12 rfl 0 rfl ?_
  refine ea_bipush (pc := 13) dX5_isLetter_13 (v := 65) rfl ?_
  refine ea_icmp_lt (pc := 15) (tgt := 28) dX5_isLetter_15 rfl (fun c2 => ?_) (fun c2 => ?_)
  · have H := H.1 c2
    refine ea_iconst (pc := 28) dX5_isLetter_28 (v := 0) rfl ?_
    obtain ⟨rfl, rfl⟩ := H
    exact ea_ireturn (pc := 29) dX5_isLetter_29 rfl (ea_bn (Or.inl rfl))
  · have H := H.2 c2
    refine ea_iload_n (pc := 18) dX5_isLetter_18 rfl 0 rfl ?_
    refine ea_bipush (pc := 19) dX5_isLetter_19 (v := 90) rfl ?_
    refine ea_icmp_gt (pc := 21) (tgt := 28) dX5_isLetter_21 rfl (fun c1 => ?_) (fun c1 => ?_)
    · have H := H.1 c1
      refine ea_iconst (pc := 28) dX5_isLetter_28 (v := 0) rfl ?_
      obtain ⟨rfl, rfl⟩ := H
      exact ea_ireturn (pc := 29) dX5_isLetter_29 rfl (ea_bn (Or.inl rfl))
    · have H := H.2 c1
      refine ea_iconst (pc := 24) dX5_isLetter_24 (v := 1) rfl ?_
      refine ea_goto (pc := 25) (tgt := 29) dX5_isLetter_25 rfl ?_
      obtain ⟨rfl, rfl⟩ := H
      exact ea_ireturn (pc := 29) dX5_isLetter_29 rfl (ea_bn (Or.inr rfl))
theorem dX5_isDigit_0 : decode cX5_isDigit 0 = .ok (.iload_n 0, 1) := by decide +kernel
theorem dX5_isDigit_1 : decode cX5_isDigit 1 = .ok (.bipush 48, 2) := by decide +kernel
theorem dX5_isDigit_3 : decode cX5_isDigit 3 = .ok (.if_icmp .lt 13, 3) := by decide +kernel
theorem dX5_isDigit_6 : decode cX5_isDigit 6 = .ok (.iload_n 0, 1) := by decide +kernel
theorem dX5_isDigit_7 : decode cX5_isDigit 7 = .ok (.bipush 57, 2) := by decide +kernel
theorem dX5_isDigit_9 : decode cX5_isDigit 9 = .ok (.if_icmp .gt 7, 3) := by decide +kernel
theorem dX5_isDigit_12 : decode cX5_isDigit 12 = .ok (.iconst 1, 1) := by decide +kernel
theorem dX5_isDigit_13 : decode cX5_isDigit 13 = .ok (.goto 4, 3) := by decide +kernel
theorem dX5_isDigit_16 : decode cX5_isDigit 16 = .ok (.iconst 0, 1) := by decide +kernel
theorem dX5_isDigit_17 : decode cX5_isDigit 17 = .ok (.ireturn, 1) := by decide +kernel
theorem bX5_isDigit_0 {d : Nat} {h0 hE h : ea_H} {rv : Option ea_V} {x0 : Int32} (H : (x0 < (48 : Int32) → rv = some (vI 0) ∧ hE = h) ∧ (¬ x0 < (48 : Int32) → ((57 : Int32) < x0 → rv = some (vI 0) ∧ hE = h) ∧ (¬ (57 : Int32) < x0 → rv = some (vI 1) ∧ hE = h))) : ea_W mX5_isDigit d h0 rv hE 0 [(0, vI x0)] [] h := by
  refine ea_iload_n (pc := 0) dX5_isDigit_0 rfl 0 rfl ?_
  refine ea_bipush (pc := 1) dX5_isDigit_1 (v := 48) rfl ?_
  refine ea_icmp_lt (pc := 3) (tgt := 16) dX5_isDigit_3 rfl (fun c2 => ?_) (fun c2 => ?_)
  · have H := H.1 c2
    refine ea_iconst (pc := 16) dX5_isDigit_16 (v := 0) rfl ?_
    obtain ⟨rfl, rfl⟩ := H
    exact ea_ireturn (pc := 17) dX5_isDigit_17 rfl (ea_bn (Or.inl rfl))
  · have H := H.2 c2
    refine ea_iload_n (pc := 6) dX5_isDigit_6 rfl 0 rfl ?_
    refine ea_bipush (pc := 7) dX5_isDigit_7 (v := 57) rfl ?_
    refine ea_icmp_gt (pc := 9) (tgt := 16) dX5_isDigit_9 rfl (fun c1 => ?_) (fun c1 => ?_)
    · have H := H.1 c1
      refine ea_iconst (pc := 16) dX5_isDigit_16 (v := 0) rfl ?_
      obtain ⟨rfl, rfl⟩ := H
      exact ea_ireturn (pc := 17) dX5_isDigit_17 rfl (ea_bn (Or.inl rfl))
    · have H := H.2 c1
      refine ea_iconst (pc := 12) dX5_isDigit_12 (v := 1) rfl ?_
      refine ea_goto (pc := 13) (tgt := 17) dX5_isDigit_13 rfl ?_
      obtain ⟨rfl, rfl⟩ := H
      exact ea_ireturn (pc := 17) dX5_isDigit_17 rfl (ea_bn (Or.inr rfl))
theorem dX5_isSign_0 : decode cX5_isSign 0 = .ok (.iload_n 0, 1) := by decide +kernel
theorem dX5_isSign_1 : decode cX5_isSign 1 = .ok (.tableswitch 109 40 62 #[107, 107, 107, 107, 109, 107, 109, 107, 109, 109, 109, 109, 109, 109, 109, 109, 109, 109, 109, 107, 107, 107, 107], 107) := by decide +kernel
theorem dX5_isSign_108 : decode cX5_isSign 108 = .ok (.iconst 1, 1) := by decide +kernel
theorem dX5_isSign_109 : decode cX5_isSign 109 = .ok (.ireturn, 1) := by decide +kernel
theorem dX5_isSign_110 : decode cX5_isSign 110 = .ok (.iconst 0, 1) := by decide +kernel
theorem dX5_isSign_111 : decode cX5_isSign 111 = .ok (.ireturn, 1) := by decide +kernel
theorem bX5_isSign_0 {d : Nat} {h0 hE h : ea_H} {rv : Option ea_V} {x0 : Int32} (H : (Int32.toInt x0 = 40 → rv = some (vI 1) ∧ hE = h) ∧ (Int32.toInt x0 = 41 → rv = some (vI 1) ∧ hE = h) ∧ (Int32.toInt x0 = 42 → rv = some (vI 1) ∧ hE = h) ∧ (Int32.toInt x0 = 43 → rv = some (vI 1) ∧ hE = h) ∧ (Int32.toInt x0 = 44 → rv = some (vI 0) ∧ hE = h) ∧ (Int32.toInt x0 = 45 → rv = some (vI 1) ∧ hE = h) ∧ (Int32.toInt x0 = 46 → rv = some (vI 0) ∧ hE = h) ∧ (Int32.toInt x0 = 47 → rv = some (vI 1) ∧ hE = h) ∧ (Int32.toInt x0 = 48 → rv = some (vI 0) ∧ hE = h) ∧ (Int32.toInt x0 = 49 → rv = some (vI 0) ∧ hE = h) ∧ (Int32.toInt x0 = 50 → rv = some (vI 0) ∧ hE = h) ∧ (Int32.toInt x0 = 51 → rv = some (vI 0) ∧ hE = h) ∧ (Int32.toInt x0 = 52 → rv = some (vI 0) ∧ hE = h) ∧ (Int32.toInt x0 = 53 → rv = some (vI 0) ∧ hE = h) ∧ (Int32.toInt x0 = 54 → rv = some (vI 0) ∧ hE = h) ∧ (Int32.toInt x0 = 55 → rv = some (vI 0) ∧ hE = h) ∧ (Int32.toInt x0 = 56 → rv = some (vI 0) ∧ hE = h) ∧ (Int32.toInt x0 = 57 → rv = some (vI 0) ∧ hE = h) ∧ (Int32.toInt x0 = 58 → rv = some (vI 0) ∧ hE = h) ∧ (Int32.toInt x0 = 59 → rv = some (vI 1) ∧ hE = h) ∧ (Int32.toInt x0 = 60 → rv = some (vI 1) ∧ hE = h) ∧ (Int32.toInt x0 = 61 → rv = some (vI 1) ∧ hE = h) ∧ (Int32.toInt x0 = 62 → rv = some (vI 1) ∧ hE = h) ∧ (Int32.toInt x0 < 40 ∨ 62 < Int32.toInt x0 → rv = some (vI 0) ∧ hE = h)) : ea_W mX5_isSign d h0 rv hE 0 [(0, vI x0)] [] h := by
  refine ea_iload_n (pc := 0) dX5_isSign_0 rfl 0 rfl ?_
  by_cases qc1 : Int32.toInt x0 = 40
  · have H := H.1 qc1
    refine ea_tswIn (pc := 1) (tgt := 108) dX5_isSign_1 (by omega) (by omega) (by rw [qc1]; rfl) rfl ?_
    refine ea_iconst (pc := 108) dX5_isSign_108 (v := 1) rfl ?_
    obtain ⟨rfl, rfl⟩ := H
    exact ea_ireturn (pc := 109) dX5_isSign_109 rfl (ea_bn (Or.inr rfl))
  by_cases qc2 : Int32.toInt x0 = 41
  · have H := H.2.1 qc2
    refine ea_tswIn (pc := 1) (tgt := 108) dX5_isSign_1 (by omega) (by omega) (by rw [qc2]; rfl) rfl ?_
    refine ea_iconst (pc := 108) dX5_isSign_108 (v := 1) rfl ?_
    obtain ⟨rfl, rfl⟩ := H
    exact ea_ireturn (pc := 109) dX5_isSign_109 rfl (ea_bn (Or.inr rfl))
  by_cases qc3 : Int32.toInt x0 = 42
  · have H := H.2.2.1 qc3
    refine ea_tswIn (pc := 1) (tgt := 108) dX5_isSign_1 (by omega) (by omega) (by rw [qc3]; rfl) rfl ?_
    refine ea_iconst (pc := 108) dX5_isSign_108 (v := 1) rfl ?_
    obtain ⟨rfl, rfl⟩ := H
    exact ea_ireturn (pc := 109) dX5_isSign_109 rfl (ea_bn (Or.inr rfl))
  by_cases qc4 : Int32.toInt x0 = 43
  · have H := H.2.2.2.1 qc4
    refine ea_tswIn (pc := 1) (tgt := 108) dX5_isSign_1 (by omega) (by omega) (by rw [qc4]; rfl) rfl ?_
    refine ea_iconst (pc := 108) dX5_isSign_108 (v := 1) rfl ?_
    obtain ⟨rfl, rfl⟩ := H
    exact ea_ireturn (pc := 109) dX5_isSign_109 rfl (ea_bn (Or.inr rfl))
  by_cases qc5 : Int32.toInt x0 = 44
  · have H := H.2.2.2.2.1 qc5
    refine ea_tswIn (pc := 1) (tgt := 110) dX5_isSign_1 (by omega) (by omega) (by rw [qc5]; rfl) rfl ?_
    refine ea_iconst (pc := 110) dX5_isSign_110 (v := 0) rfl ?_
    obtain ⟨rfl, rfl⟩ := H
    exact ea_ireturn (pc := 111) dX5_isSign_111 rfl (ea_bn (Or.inl rfl))
  by_cases qc6 : Int32.toInt x0 = 45
  · have H := H.2.2.2.2.2.1 qc6
    refine ea_tswIn (pc := 1) (tgt := 108) dX5_isSign_1 (by omega) (by omega) (by rw [qc6]; rfl) rfl ?_
    refine ea_iconst (pc := 108) dX5_isSign_108 (v := 1) rfl ?_
    obtain ⟨rfl, rfl⟩ := H
    exact ea_ireturn (pc := 109) dX5_isSign_109 rfl (ea_bn (Or.inr rfl))
  by_cases qc7 : Int32.toInt x0 = 46
  · have H := H.2.2.2.2.2.2.1 qc7
    refine ea_tswIn (pc := 1) (tgt := 110) dX5_isSign_1 (by omega) (by omega) (by rw [qc7]; rfl) rfl ?_
    refine ea_iconst (pc := 110) dX5_isSign_110 (v := 0) rfl ?_
    obtain ⟨rfl, rfl⟩ := H
    exact ea_ireturn (pc := 111) dX5_isSign_111 rfl (ea_bn (Or.inl rfl))
  by_cases qc8 : Int32.toInt x0 = 47
  · have H := H.2.2.2.2.2.2.2.1 qc8
    refine ea_tswIn (pc := 1) (tgt := 108) dX5_isSign_1 (by omega) (by omega) (by rw [qc8]; rfl) rfl ?_
    refine ea_iconst (pc := 108) dX5_isSign_108 (v := 1) rfl ?_
    obtain ⟨rfl, rfl⟩ := H
    exact ea_ireturn (pc := 109) dX5_isSign_109 rfl (ea_bn (Or.inr rfl))
  by_cases qc9 : Int32.toInt x0 = 48
  · have H := H.2.2.2.2.2.2.2.2.1 qc9
    refine ea_tswIn (pc := 1) (tgt := 110) dX5_isSign_1 (by omega) (by omega) (by rw [qc9]; rfl) rfl ?_
    refine ea_iconst (pc := 110) dX5_isSign_110 (v := 0) rfl ?_
    obtain ⟨rfl, rfl⟩ := H
    exact ea_ireturn (pc := 111) dX5_isSign_111 rfl (ea_bn (Or.inl rfl))
  by_cases qc10 : Int32.toInt x0 = 49
  · have H := H.2.2.2.2.2.2.2.2.2.1 qc10
    refine ea_tswIn (pc := 1) (tgt := 110) dX5_isSign_1 (by omega) (by omega) (by rw [qc10]; rfl) rfl ?_
    refine ea_iconst (pc := 110) dX5_isSign_110 (v := 0) rfl ?_
    obtain ⟨rfl, rfl⟩ := H
    exact ea_ireturn (pc := 111) dX5_isSign_111 rfl (ea_bn (Or.inl rfl))
  by_cases qc11 : Int32.toInt x0 = 50
  · have H := H.2.2.2.2.2.2.2.2.2.2.1 qc11
    refine ea_tswIn (pc := 1) (tgt := 110) dX5_isSign_1 (by omega) (by omega) (by rw [qc11]; rfl) rfl ?_
    refine ea_iconst (pc := 110) dX5_isSign_110 (v := 0) rfl ?_
    obtain ⟨rfl, rfl⟩ := H
    exact ea_ireturn (pc := 111) dX5_isSign_111 rfl (ea_bn (Or.inl rfl))
  by_cases qc12 : Int32.toInt x0 = 51
  · have H := H.2.2.2.2.2.2.2.2.2.2.2.1 qc12
    refine ea_tswIn (pc := 1) (tgt := 110) dX5_isSign_1 (by omega) (by omega) (by rw [qc12]; rfl) rfl ?_
    refine ea_iconst (pc := 110) dX5_isSign_110 (v := 0) rfl ?_
    obtain ⟨rfl, rfl⟩ := H
    exact ea_ireturn (pc := 111) dX5_isSign_111 rfl (ea_bn (Or.inl rfl))
  by_cases qc13 : Int32.toInt x0 = 52
  · have H := H.2.2.2.2.2.2.2.2.2.2.2.2.1 qc13
    refine ea_tswIn (pc := 1) (tgt := 110) dX5_isSign_1 (by omega) (by omega) (by rw [qc13]; rfl) rfl ?_
    refine ea_iconst (pc := 110) dX5_isSign_110 (v := 0) rfl ?_
    obtain ⟨rfl, rfl⟩ := H
    exact ea_ireturn (pc := 111) dX5_isSign_111 rfl (ea_bn (Or.inl rfl))
  by_cases qc14 : Int32.toInt x0 = 53
  · have H := H.2.2.2.2.2.2.2.2.2.2.2.2.2.1 qc14
    refine ea_tswIn (pc := 1) (tgt := 110) dX5_isSign_1 (by omega) (by omega) (by rw [qc14]; rfl) rfl ?_
    refine ea_iconst (pc := 110) dX5_isSign_110 (v := 0) rfl ?_
    obtain ⟨rfl, rfl⟩ := H
    exact ea_ireturn (pc := 111) dX5_isSign_111 rfl (ea_bn (Or.inl rfl))
  by_cases qc15 : Int32.toInt x0 = 54
  · have H := H.2.2.2.2.2.2.2.2.2.2.2.2.2.2.1 qc15
    refine ea_tswIn (pc := 1) (tgt := 110) dX5_isSign_1 (by omega) (by omega) (by rw [qc15]; rfl) rfl ?_
    refine ea_iconst (pc := 110) dX5_isSign_110 (v := 0) rfl ?_
    obtain ⟨rfl, rfl⟩ := H
    exact ea_ireturn (pc := 111) dX5_isSign_111 rfl (ea_bn (Or.inl rfl))
  by_cases qc16 : Int32.toInt x0 = 55
  · have H := H.2.2.2.2.2.2.2.2.2.2.2.2.2.2.2.1 qc16
    refine ea_tswIn (pc := 1) (tgt := 110) dX5_isSign_1 (by omega) (by omega) (by rw [qc16]; rfl) rfl ?_
    refine ea_iconst (pc := 110) dX5_isSign_110 (v := 0) rfl ?_
    obtain ⟨rfl, rfl⟩ := H
    exact ea_ireturn (pc := 111) dX5_isSign_111 rfl (ea_bn (Or.inl rfl))
  by_cases qc17 : Int32.toInt x0 = 56
  · have H := H.2.2.2.2.2.2.2.2.2.2.2.2.2.2.2.2.1 qc17
    refine ea_tswIn (pc := 1) (tgt := 110) dX5_isSign_1 (by omega) (by omega) (by rw [qc17]; rfl) rfl ?_
    refine ea_iconst (pc := 110) dX5_isSign_110 (v := 0) rfl ?_
    obtain ⟨rfl, rfl⟩ := H
    exact ea_ireturn (pc := 111) dX5_isSign_111 rfl (ea_bn (Or.inl rfl))
  by_cases qc18 : Int32.toInt x0 = 57
  · have H := H.2.2.2.2.2.2.2.2.2.2.2.2.2.2.2.2.2.1 qc18
    refine ea_tswIn (pc := 1) (tgt := 110) dX5_isSign_1 (by omega) (by omega) (by rw [qc18]; rfl) rfl ?_
    refine ea_iconst (pc := 110) dX5_isSign_110 (v := 0) rfl ?_
    obtain ⟨rfl, rfl⟩ := H
    exact ea_ireturn (pc := 111) dX5_isSign_111 rfl (ea_bn (Or.inl rfl))
  by_cases qc19 : Int32.toInt x0 = 58
  · have H := H.2.2.2.2.2.2.2.2.2.2.2.2.2.2.2.2.2.2.1 qc19
    refine ea_tswIn (pc := 1) (tgt := 110) dX5_isSign_1 (by omega) (by omega) (by rw [qc19]; rfl) rfl ?_
    refine ea_iconst (pc := 110) dX5_isSign_110 (v := 0) rfl ?_
    obtain ⟨rfl, rfl⟩ := H
    exact ea_ireturn (pc := 111) dX5_isSign_111 rfl (ea_bn (Or.inl rfl))
  by_cases qc20 : Int32.toInt x0 = 59
  · have H := H.2.2.2.2.2.2.2.2.2.2.2.2.2.2.2.2.2.2.2.1 qc20
    refine ea_tswIn (pc := 1) (tgt := 108) dX5_isSign_1 (by omega) (by omega) (by rw [qc20]; rfl) rfl ?_
    refine ea_iconst (pc := 108) dX5_isSign_108 (v := 1) rfl ?_
    obtain ⟨rfl, rfl⟩ := H
    exact ea_ireturn (pc := 109) dX5_isSign_109 rfl (ea_bn (Or.inr rfl))
  by_cases qc21 : Int32.toInt x0 = 60
  · have H := H.2.2.2.2.2.2.2.2.2.2.2.2.2.2.2.2.2.2.2.2.1 qc21
    refine ea_tswIn (pc := 1) (tgt := 108) dX5_isSign_1 (by omega) (by omega) (by rw [qc21]; rfl) rfl ?_
    refine ea_iconst (pc := 108) dX5_isSign_108 (v := 1) rfl ?_
    obtain ⟨rfl, rfl⟩ := H
    exact ea_ireturn (pc := 109) dX5_isSign_109 rfl (ea_bn (Or.inr rfl))
  by_cases qc22 : Int32.toInt x0 = 61
  · have H := H.2.2.2.2.2.2.2.2.2.2.2.2.2.2.2.2.2.2.2.2.2.1 qc22
    refine ea_tswIn (pc := 1) (tgt := 108) dX5_isSign_1 (by omega) (by omega) (by rw [qc22]; rfl) rfl ?_
    refine ea_iconst (pc := 108) dX5_isSign_108 (v := 1) rfl ?_
    obtain ⟨rfl, rfl⟩ := H
    exact ea_ireturn (pc := 109) dX5_isSign_109 rfl (ea_bn (Or.inr rfl))
  by_cases qc23 : Int32.toInt x0 = 62
  · have H := H.2.2.2.2.2.2.2.2.2.2.2.2.2.2.2.2.2.2.2.2.2.2.1 qc23
    refine ea_tswIn (pc := 1) (tgt := 108) dX5_isSign_1 (by omega) (by omega) (by rw [qc23]; rfl) rfl ?_
    refine ea_iconst (pc := 108) dX5_isSign_108 (v := 1) rfl ?_
    obtain ⟨rfl, rfl⟩ := H
    exact ea_ireturn (pc := 109) dX5_isSign_109 rfl (ea_bn (Or.inr rfl))
  have qd : Int32.toInt x0 < 40 ∨ 62 < Int32.toInt x0 := by omega
  have H := H.2.2.2.2.2.2.2.2.2.2.2.2.2.2.2.2.2.2.2.2.2.2.2 qd
  refine ea_tswOut (pc := 1) (tgt := 110) dX5_isSign_1 qd rfl ?_
  refine ea_iconst (pc := 110) dX5_isSign_110 (v := 0) rfl ?_
  obtain ⟨rfl, rfl⟩ := H
  exact ea_ireturn (pc := 111) dX5_isSign_111 rfl (ea_bn (Or.inl rfl))
theorem dX1_init_0 : decode cX1_init 0 = .ok (.aload_n 0, 1) := by decide +kernel
theorem dX1_init_1 : decode cX1_init 1 = .ok (.invokespecial 3, 3) := by decide +kernel
theorem dX1_init_4 : decode cX1_init 4 = .ok (.aload_n 0, 1) := by decide +kernel
theorem dX1_init_5 : decode cX1_init 5 = .ok (.bipush 120, 2) := by decide +kernel
theorem dX1_init_7 : decode cX1_init 7 = .ok (.newarray .int, 2) := by decide +kernel
theorem dX1_init_9 : decode cX1_init 9 = .ok (.putfield 9, 3) := by decide +kernel
theorem dX1_init_12 : decode cX1_init 12 = .ok (.aload_n 0, 1) := by decide +kernel
theorem dX1_init_13 : decode cX1_init 13 = .ok (.bipush 120, 2) := by decide +kernel
theorem dX1_init_15 : decode cX1_init 15 = .ok (.newarray .int, 2) := by decide +kernel
theorem dX1_init_17 : decode cX1_init 17 = .ok (.putfield 15, 3) := by decide +kernel
theorem dX1_init_20 : decode cX1_init 20 = .ok (.aload_n 0, 1) := by decide +kernel
theorem dX1_init_21 : decode cX1_init 21 = .ok (.bipush 120, 2) := by decide +kernel
theorem dX1_init_23 : decode cX1_init 23 = .ok (.newarray .int, 2) := by decide +kernel
theorem dX1_init_25 : decode cX1_init 25 = .ok (.putfield 18, 3) := by decide +kernel
theorem dX1_init_28 : decode cX1_init 28 = .ok (.aload_n 0, 1) := by decide +kernel
theorem dX1_init_29 : decode cX1_init 29 = .ok (.bipush 120, 2) := by decide +kernel
theorem dX1_init_31 : decode cX1_init 31 = .ok (.newarray .int, 2) := by decide +kernel
theorem dX1_init_33 : decode cX1_init 33 = .ok (.putfield 21, 3) := by decide +kernel
theorem dX1_init_36 : decode cX1_init 36 = .ok (.aload_n 0, 1) := by decide +kernel
theorem dX1_init_37 : decode cX1_init 37 = .ok (.bipush 120, 2) := by decide +kernel
theorem dX1_init_39 : decode cX1_init 39 = .ok (.newarray .boolean, 2) := by decide +kernel
theorem dX1_init_41 : decode cX1_init 41 = .ok (.putfield 24, 3) := by decide +kernel
theorem dX1_init_44 : decode cX1_init 44 = .ok (.aload_n 0, 1) := by decide +kernel
theorem dX1_init_45 : decode cX1_init 45 = .ok (.bipush 70, 2) := by decide +kernel
theorem dX1_init_47 : decode cX1_init 47 = .ok (.newarray .int, 2) := by decide +kernel
theorem dX1_init_49 : decode cX1_init 49 = .ok (.putfield 28, 3) := by decide +kernel
theorem dX1_init_52 : decode cX1_init 52 = .ok (.aload_n 0, 1) := by decide +kernel
theorem dX1_init_53 : decode cX1_init 53 = .ok (.bipush 120, 2) := by decide +kernel
theorem dX1_init_55 : decode cX1_init 55 = .ok (.newarray .int, 2) := by decide +kernel
theorem dX1_init_57 : decode cX1_init 57 = .ok (.putfield 31, 3) := by decide +kernel
theorem dX1_init_60 : decode cX1_init 60 = .ok (.aload_n 0, 1) := by decide +kernel
theorem dX1_init_61 : decode cX1_init 61 = .ok (.bipush 12, 2) := by decide +kernel
theorem dX1_init_63 : decode cX1_init 63 = .ok (.newarray .int, 2) := by decide +kernel
theorem dX1_init_65 : decode cX1_init 65 = .ok (.putfield 34, 3) := by decide +kernel
theorem dX1_init_68 : decode cX1_init 68 = .ok (.aload_n 0, 1) := by decide +kernel
theorem dX1_init_69 : decode cX1_init 69 = .ok (.bipush 70, 2) := by decide +kernel
theorem dX1_init_71 : decode cX1_init 71 = .ok (.newarray .int, 2) := by decide +kernel
theorem dX1_init_73 : decode cX1_init 73 = .ok (.putfield 37, 3) := by decide +kernel
theorem dX1_init_76 : decode cX1_init 76 = .ok (.aload_n 0, 1) := by decide +kernel
theorem dX1_init_77 : decode cX1_init 77 = .ok (.aload_n 1, 1) := by decide +kernel
theorem dX1_init_78 : decode cX1_init 78 = .ok (.putfield 40, 3) := by decide +kernel
theorem dX1_init_81 : decode cX1_init 81 = .ok (.aload_n 0, 1) := by decide +kernel
theorem dX1_init_82 : decode cX1_init 82 = .ok (.aload_n 2, 1) := by decide +kernel
theorem dX1_init_83 : decode cX1_init 83 = .ok (.putfield 44, 3) := by decide +kernel
theorem dX1_init_86 : decode cX1_init 86 = .ok (.aload_n 0, 1) := by decide +kernel
theorem dX1_init_87 : decode cX1_init 87 = .ok (.aload_n 3, 1) := by decide +kernel
theorem dX1_init_88 : decode cX1_init 88 = .ok (.putfield 48, 3) := by decide +kernel
theorem dX1_init_91 : decode cX1_init 91 = .ok (.aload_n 0, 1) := by decide +kernel
theorem dX1_init_92 : decode cX1_init 92 = .ok (.aload 4, 2) := by decide +kernel
theorem dX1_init_94 : decode cX1_init 94 = .ok (.putfield 52, 3) := by decide +kernel
theorem dX1_init_97 : decode cX1_init 97 = .ok (.aload_n 0, 1) := by decide +kernel
theorem dX1_init_98 : decode cX1_init 98 = .ok (.iload 5, 2) := by decide +kernel
theorem dX1_init_100 : decode cX1_init 100 = .ok (.putfield 56, 3) := by decide +kernel
theorem dX1_init_103 : decode cX1_init 103 = .ok (.return_, 1) := by decide +kernel
theorem bX1_init_0 {d : Nat} {h0 hE h : ea_H} {rv : Option ea_V} {r0 : Option Nat} {r1 : Option Nat} {r2 : Option Nat} {r3 : Option Nat} {r4 : Option Nat} {x5 : Int32} (H : 1 ≤ d ∧ ∃ a79, r0 = some a79 ∧ ∀ h81, h81 = ea_new h 20 120 120 → a79 < ea_n h81 ∧ ea_c h81 a79 = 1 ∧ ∀ h85, h85 = ea_wr h81 a79 1 (some (ea_n h)) → ∀ h87, h87 = ea_new h85 20 120 120 → a79 < ea_n h87 ∧ ea_c h87 a79 = 1 ∧ ∀ h91, h91 = ea_wr h87 a79 2 (some (ea_n h85)) → ∀ h93, h93 = ea_new h91 20 120 120 → a79 < ea_n h93 ∧ ea_c h93 a79 = 1 ∧ ∀ h97, h97 = ea_wr h93 a79 3 (some (ea_n h91)) → ∀ h99, h99 = ea_new h97 20 120 120 → a79 < ea_n h99 ∧ ea_c h99 a79 = 1 ∧ ∀ h103, h103 = ea_wr h99 a79 4 (some (ea_n h97)) → ∀ h105, h105 = ea_new h103 21 120 120 → a79 < ea_n h105 ∧ ea_c h105 a79 = 1 ∧ ∀ h109, h109 = ea_wr h105 a79 5 (some (ea_n h103)) → ∀ h111, h111 = ea_new h109 20 70 70 → a79 < ea_n h111 ∧ ea_c h111 a79 = 1 ∧ ∀ h115, h115 = ea_wr h111 a79 6 (some (ea_n h109)) → ∀ h117, h117 = ea_new h115 20 120 120 → a79 < ea_n h117 ∧ ea_c h117 a79 = 1 ∧ ∀ h121, h121 = ea_wr h117 a79 7 (some (ea_n h115)) → ∀ h123, h123 = ea_new h121 20 12 12 → a79 < ea_n h123 ∧ ea_c h123 a79 = 1 ∧ ∀ h127, h127 = ea_wr h123 a79 8 (some (ea_n h121)) → ∀ h129, h129 = ea_new h127 20 70 70 → a79 < ea_n h129 ∧ ea_c h129 a79 = 1 ∧ ∀ h133, h133 = ea_wr h129 a79 9 (some (ea_n h127)) → a79 < ea_n h133 ∧ ea_c h133 a79 = 1 ∧ ∀ h137, h137 = ea_wr h133 a79 11 r1 → a79 < ea_n h137 ∧ ea_c h137 a79 = 1 ∧ ∀ h141, h141 = ea_wr h137 a79 12 r2 → a79 < ea_n h141 ∧ ea_c h141 a79 = 1 ∧ ∀ h145, h145 = ea_wr h141 a79 13 r3 → a79 < ea_n h145 ∧ ea_c h145 a79 = 1 ∧ ∀ h149, h149 = ea_wr h145 a79 14 r4 → a79 < ea_n h149 ∧ ea_c h149 a79 = 1 ∧ (x5 = 0 ∨ x5 = 1) ∧ ∀ h153, h153 = ea_wi h149 a79 15 x5 → rv = none ∧ hE = h153) : ea_W mX1_init d h0 rv hE 0 [(0, vR r0), (1, vR r1), (2, vR r2), (3, vR r3), (4, vR r4), (5, vI x5)] [] h := by
  refine ea_aload_n (pc := 0) dX1_init_0 rfl 0 rfl ?_
  obtain ⟨z78, a79, e80, H⟩ := H
  refine ea_deref0 e80 ?_
  refine ea_objInit (pc := 1) dX1_init_1 ew_358 ew_134 ew_135 z78 (Nat.le_of_ble_eq_true rfl) ?_
  refine ea_aload_n (pc := 4) dX1_init_4 rfl 0 rfl ?_
  refine ea_bipush (pc := 5) dX1_init_5 (v := 120) rfl ?_
  refine ea_newI (pc := 7) (N := 120) dX1_init_7 ew_170 (by decide) rfl (Nat.le_of_ble_eq_true rfl) ?_
  obtain ⟨h81, E82⟩ : ∃ z, z = ea_new h 20 120 120 := ⟨_, rfl⟩
  have H := H h81 E82
  refine ea_nm E82 ?_
  obtain ⟨f83, g84, H⟩ := H
  refine ea_deref1 e80 ?_
  refine ea_putR (pc := 9) dX1_init_9 ec_1 (k := 1) (Nat.le_of_ble_eq_true rfl) rfl (Or.inr ⟨rfl, rfl, rfl, ew_361⟩) f83 g84 ?_
  obtain ⟨h85, E86⟩ : ∃ z, z = ea_wr h81 a79 1 (some (ea_n h)) := ⟨_, rfl⟩
  have H := H h85 E86
  refine ea_nm E86 ?_
  refine ea_aload_n (pc := 12) dX1_init_12 rfl 0 rfl ?_
  refine ea_bipush (pc := 13) dX1_init_13 (v := 120) rfl ?_
  refine ea_newI (pc := 15) (N := 120) dX1_init_15 ew_170 (by decide) rfl (Nat.le_of_ble_eq_true rfl) ?_
  obtain ⟨h87, E88⟩ : ∃ z, z = ea_new h85 20 120 120 := ⟨_, rfl⟩
  have H := H h87 E88
  refine ea_nm E88 ?_
  obtain ⟨f89, g90, H⟩ := H
  refine ea_deref1 e80 ?_
  refine ea_putR (pc := 17) dX1_init_17 ec_1 (k := 2) (Nat.le_of_ble_eq_true rfl) rfl (Or.inr ⟨rfl, rfl, rfl, ew_363⟩) f89 g90 ?_
  obtain ⟨h91, E92⟩ : ∃ z, z = ea_wr h87 a79 2 (some (ea_n h85)) := ⟨_, rfl⟩
  have H := H h91 E92
  refine ea_nm E92 ?_
  refine ea_aload_n (pc := 20) dX1_init_20 rfl 0 rfl ?_
  refine ea_bipush (pc := 21) dX1_init_21 (v := 120) rfl ?_
  refine ea_newI (pc := 23) (N := 120) dX1_init_23 ew_170 (by decide) rfl (Nat.le_of_ble_eq_true rfl) ?_
  obtain ⟨h93, E94⟩ : ∃ z, z = ea_new h91 20 120 120 := ⟨_, rfl⟩
  have H := H h93 E94
  refine ea_nm E94 ?_
  obtain ⟨f95, g96, H⟩ := H
  refine ea_deref1 e80 ?_
  refine ea_putR (pc := 25) dX1_init_25 ec_1 (k := 3) (Nat.le_of_ble_eq_true rfl) rfl (Or.inr ⟨rfl, rfl, rfl, ew_365⟩) f95 g96 ?_
  obtain ⟨h97, E98⟩ : ∃ z, z = ea_wr h93 a79 3 (some (ea_n h91)) := ⟨_, rfl⟩
  have H := H h97 E98
  refine ea_nm E98 ?_
  refine ea_aload_n (pc := 28) dX1_init_28 rfl 0 rfl ?_
  refine ea_bipush (pc := 29) dX1_init_29 (v := 120) rfl ?_
  refine ea_newI (pc := 31) (N := 120) dX1_init_31 ew_170 (by decide) rfl (Nat.le_of_ble_eq_true rfl) ?_
  obtain ⟨h99, E100⟩ : ∃ z, z = ea_new h97 20 120 120 := ⟨_, rfl⟩
  have H := H h99 E100
  refine ea_nm E100 ?_
  obtain ⟨f101, g102, H⟩ := H
  refine ea_deref1 e80 ?_
  refine ea_putR (pc := 33) dX1_init_33 ec_1 (k := 4) (Nat.le_of_ble_eq_true rfl) rfl (Or.inr ⟨rfl, rfl, rfl, ew_367⟩) f101 g102 ?_
  obtain ⟨h103, E104⟩ : ∃ z, z = ea_wr h99 a79 4 (some (ea_n h97)) := ⟨_, rfl⟩
  have H := H h103 E104
  refine ea_nm E104 ?_
  refine ea_aload_n (pc := 36) dX1_init_36 rfl 0 rfl ?_
  refine ea_bipush (pc := 37) dX1_init_37 (v := 120) rfl ?_
  refine ea_newZ (pc := 39) (N := 120) dX1_init_39 ew_218 (by decide) rfl (Nat.le_of_ble_eq_true rfl) ?_
  obtain ⟨h105, E106⟩ : ∃ z, z = ea_new h103 21 120 120 := ⟨_, rfl⟩
  have H := H h105 E106
  refine ea_nm E106 ?_
  obtain ⟨f107, g108, H⟩ := H
  refine ea_deref1 e80 ?_
  refine ea_putR (pc := 41) dX1_init_41 ec_1 (k := 5) (Nat.le_of_ble_eq_true rfl) rfl (Or.inr ⟨rfl, rfl, rfl, ew_369⟩) f107 g108 ?_
  obtain ⟨h109, E110⟩ : ∃ z, z = ea_wr h105 a79 5 (some (ea_n h103)) := ⟨_, rfl⟩
  have H := H h109 E110
  refine ea_nm E110 ?_
  refine ea_aload_n (pc := 44) dX1_init_44 rfl 0 rfl ?_
  refine ea_bipush (pc := 45) dX1_init_45 (v := 70) rfl ?_
  refine ea_newI (pc := 47) (N := 70) dX1_init_47 ew_170 (by decide) rfl (Nat.le_of_ble_eq_true rfl) ?_
  obtain ⟨h111, E112⟩ : ∃ z, z = ea_new h109 20 70 70 := ⟨_, rfl⟩
  have H := H h111 E112
  refine ea_nm E112 ?_
  obtain ⟨f113, g114, H⟩ := H
  refine ea_deref1 e80 ?_
  refine ea_putR (pc := 49) dX1_init_49 ec_1 (k := 6) (Nat.le_of_ble_eq_true rfl) rfl (Or.inr ⟨rfl, rfl, rfl, ew_371⟩) f113 g114 ?_
  obtain ⟨h115, E116⟩ : ∃ z, z = ea_wr h111 a79 6 (some (ea_n h109)) := ⟨_, rfl⟩
  have H := H h115 E116
  refine ea_nm E116 ?_
  refine ea_aload_n (pc := 52) dX1_init_52 rfl 0 rfl ?_
  refine ea_bipush (pc := 53) dX1_init_53 (v := 120) rfl ?_
  refine ea_newI (pc := 55) (N := 120) dX1_init_55 ew_170 (by decide) rfl (Nat.le_of_ble_eq_true rfl) ?_
  obtain ⟨h117, E118⟩ : ∃ z, z = ea_new h115 20 120 120 := ⟨_, rfl⟩
  have H := H h117 E118
  refine ea_nm E118 ?_
  obtain ⟨f119, g120, H⟩ := H
  refine ea_deref1 e80 ?_
  refine ea_putR (pc := 57) dX1_init_57 ec_1 (k := 7) (Nat.le_of_ble_eq_true rfl) rfl (Or.inr ⟨rfl, rfl, rfl, ew_373⟩) f119 g120 ?_
  obtain ⟨h121, E122⟩ : ∃ z, z = ea_wr h117 a79 7 (some (ea_n h115)) := ⟨_, rfl⟩
  have H := H h121 E122
  refine ea_nm E122 ?_
  refine ea_aload_n (pc := 60) dX1_init_60 rfl 0 rfl ?_
  refine ea_bipush (pc := 61) dX1_init_61 (v := 12) rfl ?_
  refine ea_newI (pc := 63) (N := 12) dX1_init_63 ew_170 (by decide) rfl (Nat.le_of_ble_eq_true rfl) ?_
  obtain ⟨h123, E124⟩ : ∃ z, z = ea_new h121 20 12 12 := ⟨_, rfl⟩
  have H := H h123 E124
  refine ea_nm E124 ?_
  obtain ⟨f125, g126, H⟩ := H
  refine ea_deref1 e80 ?_
  refine ea_putR (pc := 65) dX1_init_65 ec_1 (k := 8) (Nat.le_of_ble_eq_true rfl) rfl (Or.inr ⟨rfl, rfl, rfl, ew_374⟩) f125 g126 ?_
  obtain ⟨h127, E128⟩ : ∃ z, z = ea_wr h123 a79 8 (some (ea_n h121)) := ⟨_, rfl⟩
  have H := H h127 E128
  refine ea_nm E128 ?_
  refine ea_aload_n (pc := 68) dX1_init_68 rfl 0 rfl ?_
  refine ea_bipush (pc := 69) dX1_init_69 (v := 70) rfl ?_
  refine ea_newI (pc := 71) (N := 70) dX1_init_71 ew_170 (by decide) rfl (Nat.le_of_ble_eq_true rfl) ?_
  obtain ⟨h129, E130⟩ : ∃ z, z = ea_new h127 20 70 70 := ⟨_, rfl⟩
  have H := H h129 E130
  refine ea_nm E130 ?_
  obtain ⟨f131, g132, H⟩ := H
  refine ea_deref1 e80 ?_
  refine ea_putR (pc := 73) dX1_init_73 ec_1 (k := 9) (Nat.le_of_ble_eq_true rfl) rfl (Or.inr ⟨rfl, rfl, rfl, ew_375⟩) f131 g132 ?_
  obtain ⟨h133, E134⟩ : ∃ z, z = ea_wr h129 a79 9 (some (ea_n h127)) := ⟨_, rfl⟩
  have H := H h133 E134
  refine ea_nm E134 ?_
  refine ea_aload_n (pc := 76) dX1_init_76 rfl 0 rfl ?_
  refine ea_aload_n (pc := 77) dX1_init_77 rfl 1 rfl ?_
  obtain ⟨f135, g136, H⟩ := H
  refine ea_deref1 e80 ?_
  refine ea_putR (pc := 78) dX1_init_78 ec_1 (k := 11) (Nat.le_of_ble_eq_true rfl) rfl (Or.inr ⟨rfl, rfl, rfl, ew_377⟩) f135 g136 ?_
  obtain ⟨h137, E138⟩ : ∃ z, z = ea_wr h133 a79 11 r1 := ⟨_, rfl⟩
  have H := H h137 E138
  refine ea_nm E138 ?_
  refine ea_aload_n (pc := 81) dX1_init_81 rfl 0 rfl ?_
  refine ea_aload_n (pc := 82) dX1_init_82 rfl 2 rfl ?_
  obtain ⟨f139, g140, H⟩ := H
  refine ea_deref1 e80 ?_
  refine ea_putR (pc := 83) dX1_init_83 ec_1 (k := 12) (Nat.le_of_ble_eq_true rfl) rfl (Or.inr ⟨rfl, rfl, rfl, ew_378⟩) f139 g140 ?_
  obtain ⟨h141, E142⟩ : ∃ z, z = ea_wr h137 a79 12 r2 := ⟨_, rfl⟩
  have H := H h141 E142
  refine ea_nm E142 ?_
  refine ea_aload_n (pc := 86) dX1_init_86 rfl 0 rfl ?_
  refine ea_aload_n (pc := 87) dX1_init_87 rfl 3 rfl ?_
  obtain ⟨f143, g144, H⟩ := H
  refine ea_deref1 e80 ?_
  refine ea_putR (pc := 88) dX1_init_88 ec_1 (k := 13) (Nat.le_of_ble_eq_true rfl) rfl (Or.inr ⟨rfl, rfl, rfl, ew_379⟩) f143 g144 ?_
  obtain ⟨h145, E146⟩ : ∃ z, z = ea_wr h141 a79 13 r3 := ⟨_, rfl⟩
  have H := H h145 E146
  refine ea_nm E146 ?_
  refine ea_aload_n (pc := 91) dX1_init_91 rfl 0 rfl ?_
  refine ea_aload (pc := 92) dX1_init_92 4 rfl ?_
  obtain ⟨f147, g148, H⟩ := H
  refine ea_deref1 e80 ?_
  refine ea_putR (pc := 94) dX1_init_94 ec_1 (k := 14) (Nat.le_of_ble_eq_true rfl) rfl (Or.inr ⟨rfl, rfl, rfl, ew_380⟩) f147 g148 ?_
  obtain ⟨h149, E150⟩ : ∃ z, z = ea_wr h145 a79 14 r4 := ⟨_, rfl⟩
  have H := H h149 E150
  refine ea_nm E150 ?_
  refine ea_aload_n (pc := 97) dX1_init_97 rfl 0 rfl ?_
  refine ea_iload (pc := 98) dX1_init_98 5 rfl ?_
  obtain ⟨f151, g152, H⟩ := H
  refine ea_deref1 e80 ?_
  obtain ⟨z155, H⟩ := H
  refine ea_putI (pc := 100) dX1_init_100 ec_1 (k := 15) (Nat.le_of_ble_eq_true rfl) rfl (Or.inr ⟨rfl, rfl, rfl, ew_381⟩) (ea_bn z155) (ea_bf z155) f151 g152 ?_
  obtain ⟨h153, E154⟩ : ∃ z, z = ea_wi h149 a79 15 x5 := ⟨_, rfl⟩
  have H := H h153 E154
  refine ea_nm E154 ?_
  obtain ⟨rfl, rfl⟩ := H
  exact ea_return (pc := 103) dX1_init_103 rfl
theorem dX1_begin_0 : decode cX1_begin 0 = .ok (.aload_n 0, 1) := by decide +kernel
theorem dX1_begin_1 : decode cX1_begin 1 = .ok (.getfield 60, 3) := by decide +kernel
theorem dX1_begin_4 : decode cX1_begin 4 = .ok (.istore_n 3, 1) := by decide +kernel
theorem dX1_begin_5 : decode cX1_begin 5 = .ok (.aload_n 0, 1) := by decide +kernel
theorem dX1_begin_6 : decode cX1_begin 6 = .ok (.dup, 1) := by decide +kernel
theorem dX1_begin_7 : decode cX1_begin 7 = .ok (.getfield 60, 3) := by decide +kernel
theorem dX1_begin_10 : decode cX1_begin 10 = .ok (.iconst 1, 1) := by decide +kernel
theorem dX1_begin_11 : decode cX1_begin 11 = .ok (.iadd, 1) := by decide +kernel
theorem dX1_begin_12 : decode cX1_begin 12 = .ok (.putfield 60, 3) := by decide +kernel
theorem dX1_begin_15 : decode cX1_begin 15 = .ok (.aload_n 0, 1) := by decide +kernel
theorem dX1_begin_16 : decode cX1_begin 16 = .ok (.dup, 1) := by decide +kernel
theorem dX1_begin_17 : decode cX1_begin 17 = .ok (.getfield 64, 3) := by decide +kernel
theorem dX1_begin_20 : decode cX1_begin 20 = .ok (.iconst 1, 1) := by decide +kernel
theorem dX1_begin_21 : decode cX1_begin 21 = .ok (.iadd, 1) := by decide +kernel
theorem dX1_begin_22 : decode cX1_begin 22 = .ok (.putfield 64, 3) := by decide +kernel
theorem dX1_begin_25 : decode cX1_begin 25 = .ok (.aload_n 0, 1) := by decide +kernel
theorem dX1_begin_26 : decode cX1_begin 26 = .ok (.getfield 34, 3) := by decide +kernel
theorem dX1_begin_29 : decode cX1_begin 29 = .ok (.iload_n 2, 1) := by decide +kernel
theorem dX1_begin_30 : decode cX1_begin 30 = .ok (.dup2, 1) := by decide +kernel
theorem dX1_begin_31 : decode cX1_begin 31 = .ok (.iaload, 1) := by decide +kernel
theorem dX1_begin_32 : decode cX1_begin 32 = .ok (.iconst 1, 1) := by decide +kernel
theorem dX1_begin_33 : decode cX1_begin 33 = .ok (.iadd, 1) := by decide +kernel
theorem dX1_begin_34 : decode cX1_begin 34 = .ok (.iastore, 1) := by decide +kernel
theorem dX1_begin_35 : decode cX1_begin 35 = .ok (.aload_n 0, 1) := by decide +kernel
theorem dX1_begin_36 : decode cX1_begin 36 = .ok (.getfield 9, 3) := by decide +kernel
theorem dX1_begin_39 : decode cX1_begin 39 = .ok (.iload_n 3, 1) := by decide +kernel
theorem dX1_begin_40 : decode cX1_begin 40 = .ok (.iconst 0, 1) := by decide +kernel
theorem dX1_begin_41 : decode cX1_begin 41 = .ok (.iastore, 1) := by decide +kernel
theorem dX1_begin_42 : decode cX1_begin 42 = .ok (.aload_n 0, 1) := by decide +kernel
theorem dX1_begin_43 : decode cX1_begin 43 = .ok (.getfield 15, 3) := by decide +kernel
theorem dX1_begin_46 : decode cX1_begin 46 = .ok (.iload_n 3, 1) := by decide +kernel
theorem dX1_begin_47 : decode cX1_begin 47 = .ok (.iload_n 2, 1) := by decide +kernel
theorem dX1_begin_48 : decode cX1_begin 48 = .ok (.iastore, 1) := by decide +kernel
theorem dX1_begin_49 : decode cX1_begin 49 = .ok (.aload_n 0, 1) := by decide +kernel
theorem dX1_begin_50 : decode cX1_begin 50 = .ok (.getfield 52, 3) := by decide +kernel
theorem dX1_begin_53 : decode cX1_begin 53 = .ok (.iload_n 3, 1) := by decide +kernel
theorem dX1_begin_54 : decode cX1_begin 54 = .ok (.aaload, 1) := by decide +kernel
theorem dX1_begin_55 : decode cX1_begin 55 = .ok (.iload_n 1, 1) := by decide +kernel
theorem dX1_begin_56 : decode cX1_begin 56 = .ok (.iconst 0, 1) := by decide +kernel
theorem dX1_begin_57 : decode cX1_begin 57 = .ok (.iload_n 2, 1) := by decide +kernel
theorem dX1_begin_58 : decode cX1_begin 58 = .ok (.invokevirtual 67, 3) := by decide +kernel
theorem dX1_begin_61 : decode cX1_begin 61 = .ok (.return_, 1) := by decide +kernel
theorem bX1_begin_0 {d : Nat} {h0 hE h : ea_H} {rv : Option ea_V} {r0 : Option Nat} {x1 : Int32} {x2 : Int32} (H : ∃ a3, r0 = some a3 ∧ a3 < ea_n h ∧ ea_c h a3 = 1 ∧ a3 < ea_n h ∧ ea_c h a3 = 1 ∧ a3 < ea_n h ∧ ea_c h a3 = 1 ∧ ∀ h9, h9 = ea_wi h a3 0 ((ea_i h a3 0) + (1 : Int32)) → a3 < ea_n h9 ∧ ea_c h9 a3 = 1 ∧ a3 < ea_n h9 ∧ ea_c h9 a3 = 1 ∧ ∀ h15, h15 = ea_wi h9 a3 10 ((ea_i h9 a3 10) + (1 : Int32)) → a3 < ea_n h15 ∧ ea_c h15 a3 = 1 ∧ ∃ a21, (ea_r h15 a3 8) = some a21 ∧ a21 < ea_n h15 ∧ ea_c h15 a21 = 20 ∧ vp_in x2 (ea_l h15 a21) ∧ a21 < ea_n h15 ∧ ea_c h15 a21 = 20 ∧ vp_in x2 (ea_l h15 a21) ∧ ∀ h27, h27 = ea_wi h15 a21 (Int32.toNatClampNeg x2) ((ea_i h15 a21 (Int32.toNatClampNeg x2)) + (1 : Int32)) → a3 < ea_n h27 ∧ ea_c h27 a3 = 1 ∧ ∃ a33, (ea_r h27 a3 1) = some a33 ∧ a33 < ea_n h27 ∧ ea_c h27 a33 = 20 ∧ vp_in (ea_i h a3 0) (ea_l h27 a33) ∧ ∀ h36, h36 = ea_wi h27 a33 (Int32.toNatClampNeg (ea_i h a3 0)) 0 → a3 < ea_n h36 ∧ ea_c h36 a3 = 1 ∧ ∃ a42, (ea_r h36 a3 2) = some a42 ∧ a42 < ea_n h36 ∧ ea_c h36 a42 = 20 ∧ vp_in (ea_i h a3 0) (ea_l h36 a42) ∧ ∀ h45, h45 = ea_wi h36 a42 (Int32.toNatClampNeg (ea_i h a3 0)) x2 → a3 < ea_n h45 ∧ ea_c h45 a3 = 1 ∧ ∃ a51, (ea_r h45 a3 14) = some a51 ∧ a51 < ea_n h45 ∧ ea_c h45 a51 = 23 ∧ vp_in (ea_i h a3 0) (ea_l h45 a51) ∧ ∃ a60, (ea_r h45 a51 (Int32.toNatClampNeg (ea_i h a3 0))) = some a60 ∧ a60 < ea_n h45 ∧ ea_c h45 a60 = 4 ∧ ∃ (d54 : Nat) (h55 : ea_H), ea_Met mX4_note d54 [vR (some a60), vI x1, vI 0, vI x2] h45 none h55 ∧ d54 + 1 ≤ d ∧ rv = none ∧ hE = h55) : ea_W mX1_begin d h0 rv hE 0 [(0, vR r0), (1, vI x1), (2, vI x2)] [] h := by
  refine ea_aload_n (pc := 0) dX1_begin_0 rfl 0 rfl ?_
  obtain ⟨a3, e4, f1, g2, H⟩ := H
  refine ea_deref0 e4 ?_
  refine ea_getI (pc := 1) dX1_begin_1 ec_1 (k := 0) (Nat.le_of_ble_eq_true rfl) rfl (Or.inl ew_359) f1 g2 ?_
  refine ea_istore_n (pc := 4) (lv' := [(0, vR r0), (1, vI x1), (2, vI x2), (3, vI (ea_i h a3 0))]) dX1_begin_4 rfl (Nat.le_of_ble_eq_true rfl) [1, 2, 3, 0] rfl ?_
  refine ea_aload_n (pc := 5) dX1_begin_5 rfl 0 rfl ?_
  refine ea_dup (pc := 6) dX1_begin_6 rfl ?_
  obtain ⟨f5, g6, H⟩ := H
  refine ea_deref0 e4 ?_
  refine ea_getI (pc := 7) dX1_begin_7 ec_1 (k := 0) (Nat.le_of_ble_eq_true rfl) rfl (Or.inl ew_359) f5 g6 ?_
  refine ea_iconst (pc := 10) dX1_begin_10 (v := 1) rfl ?_
  refine ea_iadd (pc := 11) dX1_begin_11 ?_
  obtain ⟨f7, g8, H⟩ := H
  refine ea_deref1 e4 ?_
  refine ea_putI (pc := 12) dX1_begin_12 ec_1 (k := 0) (Nat.le_of_ble_eq_true rfl) rfl (Or.inl ⟨rfl, Or.inl ew_359⟩) rfl rfl f7 g8 ?_
  obtain ⟨h9, E10⟩ : ∃ z, z = ea_wi h a3 0 ((ea_i h a3 0) + (1 : Int32)) := ⟨_, rfl⟩
  have H := H h9 E10
  refine ea_nm E10 ?_
  refine ea_aload_n (pc := 15) dX1_begin_15 rfl 0 rfl ?_
  refine ea_dup (pc := 16) dX1_begin_16 rfl ?_
  obtain ⟨f11, g12, H⟩ := H
  refine ea_deref0 e4 ?_
  refine ea_getI (pc := 17) dX1_begin_17 ec_1 (k := 10) (Nat.le_of_ble_eq_true rfl) rfl (Or.inl ew_376) f11 g12 ?_
  refine ea_iconst (pc := 20) dX1_begin_20 (v := 1) rfl ?_
  refine ea_iadd (pc := 21) dX1_begin_21 ?_
  obtain ⟨f13, g14, H⟩ := H
  refine ea_deref1 e4 ?_
  refine ea_putI (pc := 22) dX1_begin_22 ec_1 (k := 10) (Nat.le_of_ble_eq_true rfl) rfl (Or.inl ⟨rfl, Or.inl ew_376⟩) rfl rfl f13 g14 ?_
  obtain ⟨h15, E16⟩ : ∃ z, z = ea_wi h9 a3 10 ((ea_i h9 a3 10) + (1 : Int32)) := ⟨_, rfl⟩
  have H := H h15 E16
  refine ea_nm E16 ?_
  refine ea_aload_n (pc := 25) dX1_begin_25 rfl 0 rfl ?_
  obtain ⟨f17, g18, H⟩ := H
  refine ea_deref0 e4 ?_
  refine ea_getR (pc := 26) dX1_begin_26 ec_1 (k := 8) (Nat.le_of_ble_eq_true rfl) rfl (Or.inl ew_374) f17 g18 rfl ?_
  refine ea_iload_n (pc := 29) dX1_begin_29 rfl 2 rfl ?_
  refine ea_dup2 (pc := 30) dX1_begin_30 rfl rfl ?_
  obtain ⟨a21, e22, f19, g20, H⟩ := H
  refine ea_deref1 e22 ?_
  obtain ⟨z23, H⟩ := H
  refine ea_iald (pc := 31) dX1_begin_31 f19 g20 z23 ?_
  refine ea_iconst (pc := 32) dX1_begin_32 (v := 1) rfl ?_
  refine ea_iadd (pc := 33) dX1_begin_33 ?_
  obtain ⟨f24, g25, H⟩ := H
  refine ea_deref2 e22 ?_
  obtain ⟨z26, H⟩ := H
  refine ea_iast (pc := 34) dX1_begin_34 f24 g25 z26 ?_
  obtain ⟨h27, E28⟩ : ∃ z, z = ea_wi h15 a21 (Int32.toNatClampNeg x2) ((ea_i h15 a21 (Int32.toNatClampNeg x2)) + (1 : Int32)) := ⟨_, rfl⟩
  have H := H h27 E28
  refine ea_nm E28 ?_
  refine ea_aload_n (pc := 35) dX1_begin_35 rfl 0 rfl ?_
  obtain ⟨f29, g30, H⟩ := H
  refine ea_deref0 e4 ?_
  refine ea_getR (pc := 36) dX1_begin_36 ec_1 (k := 1) (Nat.le_of_ble_eq_true rfl) rfl (Or.inl ew_361) f29 g30 rfl ?_
  refine ea_iload_n (pc := 39) dX1_begin_39 rfl 3 rfl ?_
  refine ea_iconst (pc := 40) dX1_begin_40 (v := 0) rfl ?_
  obtain ⟨a33, e34, f31, g32, H⟩ := H
  refine ea_deref2 e34 ?_
  obtain ⟨z35, H⟩ := H
  refine ea_iast (pc := 41) dX1_begin_41 f31 g32 z35 ?_
  obtain ⟨h36, E37⟩ : ∃ z, z = ea_wi h27 a33 (Int32.toNatClampNeg (ea_i h a3 0)) 0 := ⟨_, rfl⟩
  have H := H h36 E37
  refine ea_nm E37 ?_
  refine ea_aload_n (pc := 42) dX1_begin_42 rfl 0 rfl ?_
  obtain ⟨f38, g39, H⟩ := H
  refine ea_deref0 e4 ?_
  refine ea_getR (pc := 43) dX1_begin_43 ec_1 (k := 2) (Nat.le_of_ble_eq_true rfl) rfl (Or.inl ew_363) f38 g39 rfl ?_
  refine ea_iload_n (pc := 46) dX1_begin_46 rfl 3 rfl ?_
  refine ea_iload_n (pc := 47) dX1_begin_47 rfl 2 rfl ?_
  obtain ⟨a42, e43, f40, g41, H⟩ := H
  refine ea_deref2 e43 ?_
  obtain ⟨z44, H⟩ := H
  refine ea_iast (pc := 48) dX1_begin_48 f40 g41 z44 ?_
  obtain ⟨h45, E46⟩ : ∃ z, z = ea_wi h36 a42 (Int32.toNatClampNeg (ea_i h a3 0)) x2 := ⟨_, rfl⟩
  have H := H h45 E46
  refine ea_nm E46 ?_
  refine ea_aload_n (pc := 49) dX1_begin_49 rfl 0 rfl ?_
  obtain ⟨f47, g48, H⟩ := H
  refine ea_deref0 e4 ?_
  refine ea_getR (pc := 50) dX1_begin_50 ec_1 (k := 14) (Nat.le_of_ble_eq_true rfl) rfl (Or.inl ew_380) f47 g48 rfl ?_
  refine ea_iload_n (pc := 53) dX1_begin_53 rfl 3 rfl ?_
  obtain ⟨a51, e52, f49, g50, H⟩ := H
  refine ea_deref1 e52 ?_
  obtain ⟨z53, H⟩ := H
  refine ea_aald23 (pc := 54) dX1_begin_54 f49 g50 z53 rfl ?_
  refine ea_iload_n (pc := 55) dX1_begin_55 rfl 1 rfl ?_
  refine ea_iconst (pc := 56) dX1_begin_56 (v := 0) rfl ?_
  refine ea_iload_n (pc := 57) dX1_begin_57 rfl 2 rfl ?_
  obtain ⟨a60, e61, f58, g59, H⟩ := H
  refine ea_deref3 e61 ?_
  obtain ⟨d54, h55, m56, q57, H⟩ := H
  refine ea_callV (pc := 58) (As := [vI x1, vI 0, vI x2]) (st := []) dX1_begin_58 kX4_note m56 q57 rfl (Nat.le_of_ble_eq_true rfl) ew_649 ew_650 ew_651 (ci := 4) rfl (by decide) f58 g59 ?_
  obtain ⟨rfl, rfl⟩ := H
  exact ea_return (pc := 61) dX1_begin_61 rfl
theorem dX1_move_0 : decode cX1_move 0 = .ok (.aload_n 0, 1) := by decide +kernel
theorem dX1_move_1 : decode cX1_move 1 = .ok (.getfield 9, 3) := by decide +kernel
theorem dX1_move_4 : decode cX1_move 4 = .ok (.iload_n 1, 1) := by decide +kernel
theorem dX1_move_5 : decode cX1_move 5 = .ok (.iaload, 1) := by decide +kernel
theorem dX1_move_6 : decode cX1_move 6 = .ok (.ifCond .ne 31, 3) := by decide +kernel
theorem dX1_move_9 : decode cX1_move 9 = .ok (.aload_n 0, 1) := by decide +kernel
theorem dX1_move_10 : decode cX1_move 10 = .ok (.getfield 34, 3) := by decide +kernel
theorem dX1_move_13 : decode cX1_move 13 = .ok (.aload_n 0, 1) := by decide +kernel
theorem dX1_move_14 : decode cX1_move 14 = .ok (.getfield 15, 3) := by decide +kernel
theorem dX1_move_17 : decode cX1_move 17 = .ok (.iload_n 1, 1) := by decide +kernel
theorem dX1_move_18 : decode cX1_move 18 = .ok (.iaload, 1) := by decide +kernel
theorem dX1_move_19 : decode cX1_move 19 = .ok (.dup2, 1) := by decide +kernel
theorem dX1_move_20 : decode cX1_move 20 = .ok (.iaload, 1) := by decide +kernel
theorem dX1_move_21 : decode cX1_move 21 = .ok (.iconst 1, 1) := by decide +kernel
theorem dX1_move_22 : decode cX1_move 22 = .ok (.isub, 1) := by decide +kernel
theorem dX1_move_23 : decode cX1_move 23 = .ok (.iastore, 1) := by decide +kernel
theorem dX1_move_24 : decode cX1_move 24 = .ok (.aload_n 0, 1) := by decide +kernel
theorem dX1_move_25 : decode cX1_move 25 = .ok (.dup, 1) := by decide +kernel
theorem dX1_move_26 : decode cX1_move 26 = .ok (.getfield 64, 3) := by decide +kernel
theorem dX1_move_29 : decode cX1_move 29 = .ok (.iconst 1, 1) := by decide +kernel
theorem dX1_move_30 : decode cX1_move 30 = .ok (.isub, 1) := by decide +kernel
theorem dX1_move_31 : decode cX1_move 31 = .ok (.putfield 64, 3) := by decide +kernel
theorem dX1_move_34 : decode cX1_move 34 = .ok (.goto 38, 3) := by decide +kernel
theorem dX1_move_37 : decode cX1_move 37 = .ok (.aload_n 0, 1) := by decide +kernel
theorem dX1_move_38 : decode cX1_move 38 = .ok (.getfield 9, 3) := by decide +kernel
theorem dX1_move_41 : decode cX1_move 41 = .ok (.iload_n 1, 1) := by decide +kernel
theorem dX1_move_42 : decode cX1_move 42 = .ok (.iaload, 1) := by decide +kernel
theorem dX1_move_43 : decode cX1_move 43 = .ok (.iconst 1, 1) := by decide +kernel
theorem dX1_move_44 : decode cX1_move 44 = .ok (.if_icmp .ne 28, 3) := by decide +kernel
theorem dX1_move_47 : decode cX1_move 47 = .ok (.aload_n 0, 1) := by decide +kernel
theorem dX1_move_48 : decode cX1_move 48 = .ok (.getfield 37, 3) := by decide +kernel
theorem dX1_move_51 : decode cX1_move 51 = .ok (.aload_n 0, 1) := by decide +kernel
theorem dX1_move_52 : decode cX1_move 52 = .ok (.getfield 15, 3) := by decide +kernel
theorem dX1_move_55 : decode cX1_move 55 = .ok (.iload_n 1, 1) := by decide +kernel
theorem dX1_move_56 : decode cX1_move 56 = .ok (.iaload, 1) := by decide +kernel
theorem dX1_move_57 : decode cX1_move 57 = .ok (.dup2, 1) := by decide +kernel
theorem dX1_move_58 : decode cX1_move 58 = .ok (.iaload, 1) := by decide +kernel
theorem dX1_move_59 : decode cX1_move 59 = .ok (.iconst 1, 1) := by decide +kernel
theorem dX1_move_60 : decode cX1_move 60 = .ok (.isub, 1) := by decide +kernel
theorem dX1_move_61 : decode cX1_move 61 = .ok (.iastore, 1) := by decide +kernel
theorem dX1_move_62 : decode cX1_move 62 = .ok (.aload_n 0, 1) := by decide +kernel
theorem dX1_move_63 : decode cX1_move 63 = .ok (.dup, 1) := by decide +kernel
theorem dX1_move_64 : decode cX1_move 64 = .ok (.getfield 64, 3) := by decide +kernel
theorem dX1_move_67 : decode cX1_move 67 = .ok (.iconst 1, 1) := by decide +kernel
theorem dX1_move_68 : decode cX1_move 68 = .ok (.isub, 1) := by decide +kernel
theorem dX1_move_69 : decode cX1_move 69 = .ok (.putfield 64, 3) := by decide +kernel
theorem dX1_move_72 : decode cX1_move 72 = .ok (.iload_n 3, 1) := by decide +kernel
theorem dX1_move_73 : decode cX1_move 73 = .ok (.ifCond .ne 27, 3) := by decide +kernel
theorem dX1_move_76 : decode cX1_move 76 = .ok (.aload_n 0, 1) := by decide +kernel
theorem dX1_move_77 : decode cX1_move 77 = .ok (.getfield 34, 3) := by decide +kernel
theorem dX1_move_80 : decode cX1_move 80 = .ok (.iload 4, 2) := by decide +kernel
theorem dX1_move_82 : decode cX1_move 82 = .ok (.dup2, 1) := by decide +kernel
theorem dX1_move_83 : decode cX1_move 83 = .ok (.iaload, 1) := by decide +kernel
theorem dX1_move_84 : decode cX1_move 84 = .ok (.iconst 1, 1) := by decide +kernel
theorem dX1_move_85 : decode cX1_move 85 = .ok (.iadd, 1) := by decide +kernel
theorem dX1_move_86 : decode cX1_move 86 = .ok (.iastore, 1) := by decide +kernel
theorem dX1_move_87 : decode cX1_move 87 = .ok (.aload_n 0, 1) := by decide +kernel
theorem dX1_move_88 : decode cX1_move 88 = .ok (.dup, 1) := by decide +kernel
theorem dX1_move_89 : decode cX1_move 89 = .ok (.getfield 64, 3) := by decide +kernel
theorem dX1_move_92 : decode cX1_move 92 = .ok (.iconst 1, 1) := by decide +kernel
theorem dX1_move_93 : decode cX1_move 93 = .ok (.iadd, 1) := by decide +kernel
theorem dX1_move_94 : decode cX1_move 94 = .ok (.putfield 64, 3) := by decide +kernel
theorem dX1_move_97 : decode cX1_move 97 = .ok (.goto 29, 3) := by decide +kernel
theorem dX1_move_100 : decode cX1_move 100 = .ok (.iload_n 3, 1) := by decide +kernel
theorem dX1_move_101 : decode cX1_move 101 = .ok (.iconst 1, 1) := by decide +kernel
theorem dX1_move_102 : decode cX1_move 102 = .ok (.if_icmp .ne 24, 3) := by decide +kernel
theorem dX1_move_105 : decode cX1_move 105 = .ok (.aload_n 0, 1) := by decide +kernel
theorem dX1_move_106 : decode cX1_move 106 = .ok (.getfield 37, 3) := by decide +kernel
theorem dX1_move_109 : decode cX1_move 109 = .ok (.iload 4, 2) := by decide +kernel
theorem dX1_move_111 : decode cX1_move 111 = .ok (.dup2, 1) := by decide +kernel
theorem dX1_move_112 : decode cX1_move 112 = .ok (.iaload, 1) := by decide +kernel
theorem dX1_move_113 : decode cX1_move 113 = .ok (.iconst 1, 1) := by decide +kernel
theorem dX1_move_114 : decode cX1_move 114 = .ok (.iadd, 1) := by decide +kernel
theorem dX1_move_115 : decode cX1_move 115 = .ok (.iastore, 1) := by decide +kernel
theorem dX1_move_116 : decode cX1_move 116 = .ok (.aload_n 0, 1) := by decide +kernel
theorem dX1_move_117 : decode cX1_move 117 = .ok (.dup, 1) := by decide +kernel
theorem dX1_move_118 : decode cX1_move 118 = .ok (.getfield 64, 3) := by decide +kernel
theorem dX1_move_121 : decode cX1_move 121 = .ok (.iconst 1, 1) := by decide +kernel
theorem dX1_move_122 : decode cX1_move 122 = .ok (.iadd, 1) := by decide +kernel
theorem dX1_move_123 : decode cX1_move 123 = .ok (.putfield 64, 3) := by decide +kernel
theorem dX1_move_126 : decode cX1_move 126 = .ok (.aload_n 0, 1) := by decide +kernel
theorem dX1_move_127 : decode cX1_move 127 = .ok (.getfield 9, 3) := by decide +kernel
theorem dX1_move_130 : decode cX1_move 130 = .ok (.iload_n 1, 1) := by decide +kernel
theorem dX1_move_131 : decode cX1_move 131 = .ok (.iload_n 3, 1) := by decide +kernel
theorem dX1_move_132 : decode cX1_move 132 = .ok (.iastore, 1) := by decide +kernel
theorem dX1_move_133 : decode cX1_move 133 = .ok (.aload_n 0, 1) := by decide +kernel
theorem dX1_move_134 : decode cX1_move 134 = .ok (.getfield 15, 3) := by decide +kernel
theorem dX1_move_137 : decode cX1_move 137 = .ok (.iload_n 1, 1) := by decide +kernel
theorem dX1_move_138 : decode cX1_move 138 = .ok (.iload 4, 2) := by decide +kernel
theorem dX1_move_140 : decode cX1_move 140 = .ok (.iastore, 1) := by decide +kernel
theorem dX1_move_141 : decode cX1_move 141 = .ok (.aload_n 0, 1) := by decide +kernel
theorem dX1_move_142 : decode cX1_move 142 = .ok (.getfield 31, 3) := by decide +kernel
theorem dX1_move_145 : decode cX1_move 145 = .ok (.iload_n 1, 1) := by decide +kernel
theorem dX1_move_146 : decode cX1_move 146 = .ok (.iload_n 2, 1) := by decide +kernel
theorem dX1_move_147 : decode cX1_move 147 = .ok (.iastore, 1) := by decide +kernel
theorem dX1_move_148 : decode cX1_move 148 = .ok (.aload_n 0, 1) := by decide +kernel
theorem dX1_move_149 : decode cX1_move 149 = .ok (.getfield 24, 3) := by decide +kernel
theorem dX1_move_152 : decode cX1_move 152 = .ok (.iload_n 1, 1) := by decide +kernel
theorem dX1_move_153 : decode cX1_move 153 = .ok (.iconst 0, 1) := by decide +kernel
theorem dX1_move_154 : decode cX1_move 154 = .ok (.bastore, 1) := by decide +kernel
theorem dX1_move_155 : decode cX1_move 155 = .ok (.aload_n 0, 1) := by decide +kernel
theorem dX1_move_156 : decode cX1_move 156 = .ok (.getfield 56, 3) := by decide +kernel
theorem dX1_move_159 : decode cX1_move 159 = .ok (.ifCond .eq 16, 3) := by decide +kernel
theorem dX1_move_162 : decode cX1_move 162 = .ok (.aload_n 0, 1) := by decide +kernel
theorem dX1_move_163 : decode cX1_move 163 = .ok (.getfield 52, 3) := by decide +kernel
theorem dX1_move_166 : decode cX1_move 166 = .ok (.iload_n 1, 1) := by decide +kernel
theorem dX1_move_167 : decode cX1_move 167 = .ok (.aaload, 1) := by decide +kernel
theorem dX1_move_168 : decode cX1_move 168 = .ok (.iload_n 2, 1) := by decide +kernel
theorem dX1_move_169 : decode cX1_move 169 = .ok (.iload_n 3, 1) := by decide +kernel
theorem dX1_move_170 : decode cX1_move 170 = .ok (.iload 4, 2) := by decide +kernel
theorem dX1_move_172 : decode cX1_move 172 = .ok (.invokevirtual 67, 3) := by decide +kernel
theorem dX1_move_175 : decode cX1_move 175 = .ok (.return_, 1) := by decide +kernel
theorem bX1_move_0 {d : Nat} {h0 hE h : ea_H} {rv : Option ea_V} {r0 : Option Nat} {x1 : Int32} {x2 : Int32} {x3 : Int32} {x4 : Int32} (H : ∃ a3, r0 = some a3 ∧ a3 < ea_n h ∧ ea_c h a3 = 1 ∧ ∃ a7, (ea_r h a3 1) = some a7 ∧ a7 < ea_n h ∧ ea_c h a7 = 20 ∧ vp_in x1 (ea_l h a7) ∧ (¬ (ea_i h a7 (Int32.toNatClampNeg x1)) = (0 : Int32) → a3 < ea_n h ∧ ea_c h a3 = 1 ∧ a7 < ea_n h ∧ ea_c h a7 = 20 ∧ vp_in x1 (ea_l h a7) ∧ (¬ (ea_i h a7 (Int32.toNatClampNeg x1)) = (1 : Int32) → ea_W mX1_move d h0 rv hE 72 [(0, vR r0), (1, vI x1), (2, vI x2), (3, vI x3), (4, vI x4)] [] h) ∧ ((ea_i h a7 (Int32.toNatClampNeg x1)) = (1 : Int32) → a3 < ea_n h ∧ ea_c h a3 = 1 ∧ a3 < ea_n h ∧ ea_c h a3 = 1 ∧ ∃ a21, (ea_r h a3 2) = some a21 ∧ a21 < ea_n h ∧ ea_c h a21 = 20 ∧ vp_in x1 (ea_l h a21) ∧ ∃ a26, (ea_r h a3 9) = some a26 ∧ a26 < ea_n h ∧ ea_c h a26 = 20 ∧ vp_in (ea_i h a21 (Int32.toNatClampNeg x1)) (ea_l h a26) ∧ a26 < ea_n h ∧ ea_c h a26 = 20 ∧ vp_in (ea_i h a21 (Int32.toNatClampNeg x1)) (ea_l h a26) ∧ ∀ h32, h32 = ea_wi h a26 (Int32.toNatClampNeg (ea_i h a21 (Int32.toNatClampNeg x1))) ((ea_i h a26 (Int32.toNatClampNeg (ea_i h a21 (Int32.toNatClampNeg x1)))) - (1 : Int32)) → a3 < ea_n h32 ∧ ea_c h32 a3 = 1 ∧ a3 < ea_n h32 ∧ ea_c h32 a3 = 1 ∧ ∀ h38, h38 = ea_wi h32 a3 10 ((ea_i h32 a3 10) - (1 : Int32)) → ea_W mX1_move d h0 rv hE 72 [(0, vR r0), (1, vI x1), (2, vI x2), (3, vI x3), (4, vI x4)] [] h38)) ∧ ((ea_i h a7 (Int32.toNatClampNeg x1)) = (0 : Int32) → a3 < ea_n h ∧ ea_c h a3 = 1 ∧ a3 < ea_n h ∧ ea_c h a3 = 1 ∧ ∃ a47, (ea_r h a3 2) = some a47 ∧ a47 < ea_n h ∧ ea_c h a47 = 20 ∧ vp_in x1 (ea_l h a47) ∧ ∃ a52, (ea_r h a3 8) = some a52 ∧ a52 < ea_n h ∧ ea_c h a52 = 20 ∧ vp_in (ea_i h a47 (Int32.toNatClampNeg x1)) (ea_l h a52) ∧ a52 < ea_n h ∧ ea_c h a52 = 20 ∧ vp_in (ea_i h a47 (Int32.toNatClampNeg x1)) (ea_l h a52) ∧ ∀ h58, h58 = ea_wi h a52 (Int32.toNatClampNeg (ea_i h a47 (Int32.toNatClampNeg x1))) ((ea_i h a52 (Int32.toNatClampNeg (ea_i h a47 (Int32.toNatClampNeg x1)))) - (1 : Int32)) → a3 < ea_n h58 ∧ ea_c h58 a3 = 1 ∧ a3 < ea_n h58 ∧ ea_c h58 a3 = 1 ∧ ∀ h64, h64 = ea_wi h58 a3 10 ((ea_i h58 a3 10) - (1 : Int32)) → ea_W mX1_move d h0 rv hE 72 [(0, vR r0), (1, vI x1), (2, vI x2), (3, vI x3), (4, vI x4)] [] h64)) : ea_W mX1_move d h0 rv hE 0 [(0, vR r0), (1, vI x1), (2, vI x2), (3, vI x3), (4, vI x4)] [] h := by
  refine ea_aload_n (pc := 0) dX1_move_0 rfl 0 rfl ?_
  obtain ⟨a3, e4, f1, g2, H⟩ := H
  refine ea_deref0 e4 ?_
  refine ea_getR (pc := 1) dX1_move_1 ec_1 (k := 1) (Nat.le_of_ble_eq_true rfl) rfl (Or.inl ew_361) f1 g2 rfl ?_
  refine ea_iload_n (pc := 4) dX1_move_4 rfl 1 rfl ?_
  obtain ⟨a7, e8, f5, g6, H⟩ := H
  refine ea_deref1 e8 ?_
  obtain ⟨z9, H⟩ := H
  refine ea_iald (pc := 5) dX1_move_5 f5 g6 z9 ?_
  refine ea_if_ne (pc := 6) (tgt := 37) dX1_move_6 rfl (fun c66 => ?_) (fun c66 => ?_)
  · have H := H.1 c66
    refine ea_aload_n (pc := 37) dX1_move_37 rfl 0 rfl ?_
    obtain ⟨f10, g11, H⟩ := H
    refine ea_deref0 e4 ?_
    refine ea_getR (pc := 38) dX1_move_38 ec_1 (k := 1) (Nat.le_of_ble_eq_true rfl) rfl (Or.inl ew_361) f10 g11 rfl ?_
    refine ea_iload_n (pc := 41) dX1_move_41 rfl 1 rfl ?_
    obtain ⟨f12, g13, H⟩ := H
    refine ea_deref1 e8 ?_
    obtain ⟨z14, H⟩ := H
    refine ea_iald (pc := 42) dX1_move_42 f12 g13 z14 ?_
    refine ea_iconst (pc := 43) dX1_move_43 (v := 1) rfl ?_
    refine ea_icmp_ne (pc := 44) (tgt := 72) dX1_move_44 rfl (fun c40 => ?_) (fun c40 => ?_)
    · have H := H.1 c40
      exact H
    · have H := H.2 c40
      refine ea_aload_n (pc := 47) dX1_move_47 rfl 0 rfl ?_
      obtain ⟨f15, g16, H⟩ := H
      refine ea_deref0 e4 ?_
      refine ea_getR (pc := 48) dX1_move_48 ec_1 (k := 9) (Nat.le_of_ble_eq_true rfl) rfl (Or.inl ew_375) f15 g16 rfl ?_
      refine ea_aload_n (pc := 51) dX1_move_51 rfl 0 rfl ?_
      obtain ⟨f17, g18, H⟩ := H
      refine ea_deref0 e4 ?_
      refine ea_getR (pc := 52) dX1_move_52 ec_1 (k := 2) (Nat.le_of_ble_eq_true rfl) rfl (Or.inl ew_363) f17 g18 rfl ?_
      refine ea_iload_n (pc := 55) dX1_move_55 rfl 1 rfl ?_
      obtain ⟨a21, e22, f19, g20, H⟩ := H
      refine ea_deref1 e22 ?_
      obtain ⟨z23, H⟩ := H
      refine ea_iald (pc := 56) dX1_move_56 f19 g20 z23 ?_
      refine ea_dup2 (pc := 57) dX1_move_57 rfl rfl ?_
      obtain ⟨a26, e27, f24, g25, H⟩ := H
      refine ea_deref1 e27 ?_
      obtain ⟨z28, H⟩ := H
      refine ea_iald (pc := 58) dX1_move_58 f24 g25 z28 ?_
      refine ea_iconst (pc := 59) dX1_move_59 (v := 1) rfl ?_
      refine ea_isub (pc := 60) dX1_move_60 ?_
      obtain ⟨f29, g30, H⟩ := H
      refine ea_deref2 e27 ?_
      obtain ⟨z31, H⟩ := H
      refine ea_iast (pc := 61) dX1_move_61 f29 g30 z31 ?_
      obtain ⟨h32, E33⟩ : ∃ z, z = ea_wi h a26 (Int32.toNatClampNeg (ea_i h a21 (Int32.toNatClampNeg x1))) ((ea_i h a26 (Int32.toNatClampNeg (ea_i h a21 (Int32.toNatClampNeg x1)))) - (1 : Int32)) := ⟨_, rfl⟩
      have H := H h32 E33
      refine ea_nm E33 ?_
      refine ea_aload_n (pc := 62) dX1_move_62 rfl 0 rfl ?_
      refine ea_dup (pc := 63) dX1_move_63 rfl ?_
      obtain ⟨f34, g35, H⟩ := H
      refine ea_deref0 e4 ?_
      refine ea_getI (pc := 64) dX1_move_64 ec_1 (k := 10) (Nat.le_of_ble_eq_true rfl) rfl (Or.inl ew_376) f34 g35 ?_
      refine ea_iconst (pc := 67) dX1_move_67 (v := 1) rfl ?_
      refine ea_isub (pc := 68) dX1_move_68 ?_
      obtain ⟨f36, g37, H⟩ := H
      refine ea_deref1 e4 ?_
      refine ea_putI (pc := 69) dX1_move_69 ec_1 (k := 10) (Nat.le_of_ble_eq_true rfl) rfl (Or.inl ⟨rfl, Or.inl ew_376⟩) rfl rfl f36 g37 ?_
      obtain ⟨h38, E39⟩ : ∃ z, z = ea_wi h32 a3 10 ((ea_i h32 a3 10) - (1 : Int32)) := ⟨_, rfl⟩
      have H := H h38 E39
      refine ea_nm E39 ?_
      exact H
  · have H := H.2 c66
    refine ea_aload_n (pc := 9) dX1_move_9 rfl 0 rfl ?_
    obtain ⟨f41, g42, H⟩ := H
    refine ea_deref0 e4 ?_
    refine ea_getR (pc := 10) dX1_move_10 ec_1 (k := 8) (Nat.le_of_ble_eq_true rfl) rfl (Or.inl ew_374) f41 g42 rfl ?_
    refine ea_aload_n (pc := 13) dX1_move_13 rfl 0 rfl ?_
    obtain ⟨f43, g44, H⟩ := H
    refine ea_deref0 e4 ?_
    refine ea_getR (pc := 14) dX1_move_14 ec_1 (k := 2) (Nat.le_of_ble_eq_true rfl) rfl (Or.inl ew_363) f43 g44 rfl ?_
    refine ea_iload_n (pc := 17) dX1_move_17 rfl 1 rfl ?_
    obtain ⟨a47, e48, f45, g46, H⟩ := H
    refine ea_deref1 e48 ?_
    obtain ⟨z49, H⟩ := H
    refine ea_iald (pc := 18) dX1_move_18 f45 g46 z49 ?_
    refine ea_dup2 (pc := 19) dX1_move_19 rfl rfl ?_
    obtain ⟨a52, e53, f50, g51, H⟩ := H
    refine ea_deref1 e53 ?_
    obtain ⟨z54, H⟩ := H
    refine ea_iald (pc := 20) dX1_move_20 f50 g51 z54 ?_
    refine ea_iconst (pc := 21) dX1_move_21 (v := 1) rfl ?_
    refine ea_isub (pc := 22) dX1_move_22 ?_
    obtain ⟨f55, g56, H⟩ := H
    refine ea_deref2 e53 ?_
    obtain ⟨z57, H⟩ := H
    refine ea_iast (pc := 23) dX1_move_23 f55 g56 z57 ?_
    obtain ⟨h58, E59⟩ : ∃ z, z = ea_wi h a52 (Int32.toNatClampNeg (ea_i h a47 (Int32.toNatClampNeg x1))) ((ea_i h a52 (Int32.toNatClampNeg (ea_i h a47 (Int32.toNatClampNeg x1)))) - (1 : Int32)) := ⟨_, rfl⟩
    have H := H h58 E59
    refine ea_nm E59 ?_
    refine ea_aload_n (pc := 24) dX1_move_24 rfl 0 rfl ?_
    refine ea_dup (pc := 25) dX1_move_25 rfl ?_
    obtain ⟨f60, g61, H⟩ := H
    refine ea_deref0 e4 ?_
    refine ea_getI (pc := 26) dX1_move_26 ec_1 (k := 10) (Nat.le_of_ble_eq_true rfl) rfl (Or.inl ew_376) f60 g61 ?_
    refine ea_iconst (pc := 29) dX1_move_29 (v := 1) rfl ?_
    refine ea_isub (pc := 30) dX1_move_30 ?_
    obtain ⟨f62, g63, H⟩ := H
    refine ea_deref1 e4 ?_
    refine ea_putI (pc := 31) dX1_move_31 ec_1 (k := 10) (Nat.le_of_ble_eq_true rfl) rfl (Or.inl ⟨rfl, Or.inl ew_376⟩) rfl rfl f62 g63 ?_
    obtain ⟨h64, E65⟩ : ∃ z, z = ea_wi h58 a3 10 ((ea_i h58 a3 10) - (1 : Int32)) := ⟨_, rfl⟩
    have H := H h64 E65
    refine ea_nm E65 ?_
    refine ea_goto (pc := 34) (tgt := 72) dX1_move_34 rfl ?_
    exact H
theorem bX1_move_72 {d : Nat} {h0 hE h : ea_H} {rv : Option ea_V} {r0 : Option Nat} {x1 : Int32} {x2 : Int32} {x3 : Int32} {x4 : Int32} (H : (¬ x3 = (0 : Int32) → (¬ x3 = (1 : Int32) → ea_W mX1_move d h0 rv hE 126 [(0, vR r0), (1, vI x1), (2, vI x2), (3, vI x3), (4, vI x4)] [] h) ∧ (x3 = (1 : Int32) → ∃ a3, r0 = some a3 ∧ a3 < ea_n h ∧ ea_c h a3 = 1 ∧ ∃ a7, (ea_r h a3 9) = some a7 ∧ a7 < ea_n h ∧ ea_c h a7 = 20 ∧ vp_in x4 (ea_l h a7) ∧ a7 < ea_n h ∧ ea_c h a7 = 20 ∧ vp_in x4 (ea_l h a7) ∧ ∀ h13, h13 = ea_wi h a7 (Int32.toNatClampNeg x4) ((ea_i h a7 (Int32.toNatClampNeg x4)) + (1 : Int32)) → a3 < ea_n h13 ∧ ea_c h13 a3 = 1 ∧ a3 < ea_n h13 ∧ ea_c h13 a3 = 1 ∧ ∀ h19, h19 = ea_wi h13 a3 10 ((ea_i h13 a3 10) + (1 : Int32)) → ea_W mX1_move d h0 rv hE 126 [(0, vR r0), (1, vI x1), (2, vI x2), (3, vI x3), (4, vI x4)] [] h19)) ∧ (x3 = (0 : Int32) → ∃ a24, r0 = some a24 ∧ a24 < ea_n h ∧ ea_c h a24 = 1 ∧ ∃ a28, (ea_r h a24 8) = some a28 ∧ a28 < ea_n h ∧ ea_c h a28 = 20 ∧ vp_in x4 (ea_l h a28) ∧ a28 < ea_n h ∧ ea_c h a28 = 20 ∧ vp_in x4 (ea_l h a28) ∧ ∀ h34, h34 = ea_wi h a28 (Int32.toNatClampNeg x4) ((ea_i h a28 (Int32.toNatClampNeg x4)) + (1 : Int32)) → a24 < ea_n h34 ∧ ea_c h34 a24 = 1 ∧ a24 < ea_n h34 ∧ ea_c h34 a24 = 1 ∧ ∀ h40, h40 = ea_wi h34 a24 10 ((ea_i h34 a24 10) + (1 : Int32)) → ea_W mX1_move d h0 rv hE 126 [(0, vR r0), (1, vI x1), (2, vI x2), (3, vI x3), (4, vI x4)] [] h40)) : ea_W mX1_move d h0 rv hE 72 [(0, vR r0), (1, vI x1), (2, vI x2), (3, vI x3), (4, vI x4)] [] h := by
  refine ea_iload_n (pc := 72) dX1_move_72 rfl 3 rfl ?_
  refine ea_if_ne (pc := 73) (tgt := 100) dX1_move_73 rfl (fun c42 => ?_) (fun c42 => ?_)
  · have H := H.1 c42
    refine ea_iload_n (pc := 100) dX1_move_100 rfl 3 rfl ?_
    refine ea_iconst (pc := 101) dX1_move_101 (v := 1) rfl ?_
    refine ea_icmp_ne (pc := 102) (tgt := 126) dX1_move_102 rfl (fun c21 => ?_) (fun c21 => ?_)
    · have H := H.1 c21
      exact H
    · have H := H.2 c21
      refine ea_aload_n (pc := 105) dX1_move_105 rfl 0 rfl ?_
      obtain ⟨a3, e4, f1, g2, H⟩ := H
      refine ea_deref0 e4 ?_
      refine ea_getR (pc := 106) dX1_move_106 ec_1 (k := 9) (Nat.le_of_ble_eq_true rfl) rfl (Or.inl ew_375) f1 g2 rfl ?_
      refine ea_iload (pc := 109) dX1_move_109 4 rfl ?_
      refine ea_dup2 (pc := 111) dX1_move_111 rfl rfl ?_
      obtain ⟨a7, e8, f5, g6, H⟩ := H
      refine ea_deref1 e8 ?_
      obtain ⟨z9, H⟩ := H
      refine ea_iald (pc := 112) dX1_move_112 f5 g6 z9 ?_
      refine ea_iconst (pc := 113) dX1_move_113 (v := 1) rfl ?_
      refine ea_iadd (pc := 114) dX1_move_114 ?_
      obtain ⟨f10, g11, H⟩ := H
      refine ea_deref2 e8 ?_
      obtain ⟨z12, H⟩ := H
      refine ea_iast (pc := 115) dX1_move_115 f10 g11 z12 ?_
      obtain ⟨h13, E14⟩ : ∃ z, z = ea_wi h a7 (Int32.toNatClampNeg x4) ((ea_i h a7 (Int32.toNatClampNeg x4)) + (1 : Int32)) := ⟨_, rfl⟩
      have H := H h13 E14
      refine ea_nm E14 ?_
      refine ea_aload_n (pc := 116) dX1_move_116 rfl 0 rfl ?_
      refine ea_dup (pc := 117) dX1_move_117 rfl ?_
      obtain ⟨f15, g16, H⟩ := H
      refine ea_deref0 e4 ?_
      refine ea_getI (pc := 118) dX1_move_118 ec_1 (k := 10) (Nat.le_of_ble_eq_true rfl) rfl (Or.inl ew_376) f15 g16 ?_
      refine ea_iconst (pc := 121) dX1_move_121 (v := 1) rfl ?_
      refine ea_iadd (pc := 122) dX1_move_122 ?_
      obtain ⟨f17, g18, H⟩ := H
      refine ea_deref1 e4 ?_
      refine ea_putI (pc := 123) dX1_move_123 ec_1 (k := 10) (Nat.le_of_ble_eq_true rfl) rfl (Or.inl ⟨rfl, Or.inl ew_376⟩) rfl rfl f17 g18 ?_
      obtain ⟨h19, E20⟩ : ∃ z, z = ea_wi h13 a3 10 ((ea_i h13 a3 10) + (1 : Int32)) := ⟨_, rfl⟩
      have H := H h19 E20
      refine ea_nm E20 ?_
      exact H
  · have H := H.2 c42
    refine ea_aload_n (pc := 76) dX1_move_76 rfl 0 rfl ?_
    obtain ⟨a24, e25, f22, g23, H⟩ := H
    refine ea_deref0 e25 ?_
    refine ea_getR (pc := 77) dX1_move_77 ec_1 (k := 8) (Nat.le_of_ble_eq_true rfl) rfl (Or.inl ew_374) f22 g23 rfl ?_
    refine ea_iload (pc := 80) dX1_move_80 4 rfl ?_
    refine ea_dup2 (pc := 82) dX1_move_82 rfl rfl ?_
    obtain ⟨a28, e29, f26, g27, H⟩ := H
    refine ea_deref1 e29 ?_
    obtain ⟨z30, H⟩ := H
    refine ea_iald (pc := 83) dX1_move_83 f26 g27 z30 ?_
    refine ea_iconst (pc := 84) dX1_move_84 (v := 1) rfl ?_
    refine ea_iadd (pc := 85) dX1_move_85 ?_
    obtain ⟨f31, g32, H⟩ := H
    refine ea_deref2 e29 ?_
    obtain ⟨z33, H⟩ := H
    refine ea_iast (pc := 86) dX1_move_86 f31 g32 z33 ?_
    obtain ⟨h34, E35⟩ : ∃ z, z = ea_wi h a28 (Int32.toNatClampNeg x4) ((ea_i h a28 (Int32.toNatClampNeg x4)) + (1 : Int32)) := ⟨_, rfl⟩
    have H := H h34 E35
    refine ea_nm E35 ?_
    refine ea_aload_n (pc := 87) dX1_move_87 rfl 0 rfl ?_
    refine ea_dup (pc := 88) dX1_move_88 rfl ?_
    obtain ⟨f36, g37, H⟩ := H
    refine ea_deref0 e25 ?_
    refine ea_getI (pc := 89) dX1_move_89 ec_1 (k := 10) (Nat.le_of_ble_eq_true rfl) rfl (Or.inl ew_376) f36 g37 ?_
    refine ea_iconst (pc := 92) dX1_move_92 (v := 1) rfl ?_
    refine ea_iadd (pc := 93) dX1_move_93 ?_
    obtain ⟨f38, g39, H⟩ := H
    refine ea_deref1 e25 ?_
    refine ea_putI (pc := 94) dX1_move_94 ec_1 (k := 10) (Nat.le_of_ble_eq_true rfl) rfl (Or.inl ⟨rfl, Or.inl ew_376⟩) rfl rfl f38 g39 ?_
    obtain ⟨h40, E41⟩ : ∃ z, z = ea_wi h34 a24 10 ((ea_i h34 a24 10) + (1 : Int32)) := ⟨_, rfl⟩
    have H := H h40 E41
    refine ea_nm E41 ?_
    refine ea_goto (pc := 97) (tgt := 126) dX1_move_97 rfl ?_
    exact H
theorem bX1_move_126 {d : Nat} {h0 hE h : ea_H} {rv : Option ea_V} {r0 : Option Nat} {x1 : Int32} {x2 : Int32} {x3 : Int32} {x4 : Int32} (H : ∃ a3, r0 = some a3 ∧ a3 < ea_n h ∧ ea_c h a3 = 1 ∧ ∃ a7, (ea_r h a3 1) = some a7 ∧ a7 < ea_n h ∧ ea_c h a7 = 20 ∧ vp_in x1 (ea_l h a7) ∧ ∀ h10, h10 = ea_wi h a7 (Int32.toNatClampNeg x1) x3 → a3 < ea_n h10 ∧ ea_c h10 a3 = 1 ∧ ∃ a16, (ea_r h10 a3 2) = some a16 ∧ a16 < ea_n h10 ∧ ea_c h10 a16 = 20 ∧ vp_in x1 (ea_l h10 a16) ∧ ∀ h19, h19 = ea_wi h10 a16 (Int32.toNatClampNeg x1) x4 → a3 < ea_n h19 ∧ ea_c h19 a3 = 1 ∧ ∃ a25, (ea_r h19 a3 7) = some a25 ∧ a25 < ea_n h19 ∧ ea_c h19 a25 = 20 ∧ vp_in x1 (ea_l h19 a25) ∧ ∀ h28, h28 = ea_wi h19 a25 (Int32.toNatClampNeg x1) x2 → a3 < ea_n h28 ∧ ea_c h28 a3 = 1 ∧ ∃ a34, (ea_r h28 a3 5) = some a34 ∧ a34 < ea_n h28 ∧ ea_c h28 a34 = 21 ∧ vp_in x1 (ea_l h28 a34) ∧ ∀ h37, h37 = ea_wi h28 a34 (Int32.toNatClampNeg x1) 0 → a3 < ea_n h37 ∧ ea_c h37 a3 = 1 ∧ ((ea_i h37 a3 15) = (0 : Int32) → rv = none ∧ hE = h37) ∧ (¬ (ea_i h37 a3 15) = (0 : Int32) → a3 < ea_n h37 ∧ ea_c h37 a3 = 1 ∧ ∃ a45, (ea_r h37 a3 14) = some a45 ∧ a45 < ea_n h37 ∧ ea_c h37 a45 = 23 ∧ vp_in x1 (ea_l h37 a45) ∧ ∃ a54, (ea_r h37 a45 (Int32.toNatClampNeg x1)) = some a54 ∧ a54 < ea_n h37 ∧ ea_c h37 a54 = 4 ∧ ∃ (d48 : Nat) (h49 : ea_H), ea_Met mX4_note d48 [vR (some a54), vI x2, vI x3, vI x4] h37 none h49 ∧ d48 + 1 ≤ d ∧ rv = none ∧ hE = h49)) : ea_W mX1_move d h0 rv hE 126 [(0, vR r0), (1, vI x1), (2, vI x2), (3, vI x3), (4, vI x4)] [] h := by
  refine ea_aload_n (pc := 126) dX1_move_126 rfl 0 rfl ?_
  obtain ⟨a3, e4, f1, g2, H⟩ := H
  refine ea_deref0 e4 ?_
  refine ea_getR (pc := 127) dX1_move_127 ec_1 (k := 1) (Nat.le_of_ble_eq_true rfl) rfl (Or.inl ew_361) f1 g2 rfl ?_
  refine ea_iload_n (pc := 130) dX1_move_130 rfl 1 rfl ?_
  refine ea_iload_n (pc := 131) dX1_move_131 rfl 3 rfl ?_
  obtain ⟨a7, e8, f5, g6, H⟩ := H
  refine ea_deref2 e8 ?_
  obtain ⟨z9, H⟩ := H
  refine ea_iast (pc := 132) dX1_move_132 f5 g6 z9 ?_
  obtain ⟨h10, E11⟩ : ∃ z, z = ea_wi h a7 (Int32.toNatClampNeg x1) x3 := ⟨_, rfl⟩
  have H := H h10 E11
  refine ea_nm E11 ?_
  refine ea_aload_n (pc := 133) dX1_move_133 rfl 0 rfl ?_
  obtain ⟨f12, g13, H⟩ := H
  refine ea_deref0 e4 ?_
  refine ea_getR (pc := 134) dX1_move_134 ec_1 (k := 2) (Nat.le_of_ble_eq_true rfl) rfl (Or.inl ew_363) f12 g13 rfl ?_
  refine ea_iload_n (pc := 137) dX1_move_137 rfl 1 rfl ?_
  refine ea_iload (pc := 138) dX1_move_138 4 rfl ?_
  obtain ⟨a16, e17, f14, g15, H⟩ := H
  refine ea_deref2 e17 ?_
  obtain ⟨z18, H⟩ := H
  refine ea_iast (pc := 140) dX1_move_140 f14 g15 z18 ?_
  obtain ⟨h19, E20⟩ : ∃ z, z = ea_wi h10 a16 (Int32.toNatClampNeg x1) x4 := ⟨_, rfl⟩
  have H := H h19 E20
  refine ea_nm E20 ?_
  refine ea_aload_n (pc := 141) dX1_move_141 rfl 0 rfl ?_
  obtain ⟨f21, g22, H⟩ := H
  refine ea_deref0 e4 ?_
  refine ea_getR (pc := 142) dX1_move_142 ec_1 (k := 7) (Nat.le_of_ble_eq_true rfl) rfl (Or.inl ew_373) f21 g22 rfl ?_
  refine ea_iload_n (pc := 145) dX1_move_145 rfl 1 rfl ?_
  refine ea_iload_n (pc := 146) dX1_move_146 rfl 2 rfl ?_
  obtain ⟨a25, e26, f23, g24, H⟩ := H
  refine ea_deref2 e26 ?_
  obtain ⟨z27, H⟩ := H
  refine ea_iast (pc := 147) dX1_move_147 f23 g24 z27 ?_
  obtain ⟨h28, E29⟩ : ∃ z, z = ea_wi h19 a25 (Int32.toNatClampNeg x1) x2 := ⟨_, rfl⟩
  have H := H h28 E29
  refine ea_nm E29 ?_
  refine ea_aload_n (pc := 148) dX1_move_148 rfl 0 rfl ?_
  obtain ⟨f30, g31, H⟩ := H
  refine ea_deref0 e4 ?_
  refine ea_getR (pc := 149) dX1_move_149 ec_1 (k := 5) (Nat.le_of_ble_eq_true rfl) rfl (Or.inl ew_369) f30 g31 rfl ?_
  refine ea_iload_n (pc := 152) dX1_move_152 rfl 1 rfl ?_
  refine ea_iconst (pc := 153) dX1_move_153 (v := 0) rfl ?_
  obtain ⟨a34, e35, f32, g33, H⟩ := H
  refine ea_deref2 e35 ?_
  obtain ⟨z36, H⟩ := H
  refine ea_zast (pc := 154) dX1_move_154 (y := 0) (ea_bn (Or.inl rfl)) f32 g33 z36 ?_
  obtain ⟨h37, E38⟩ : ∃ z, z = ea_wi h28 a34 (Int32.toNatClampNeg x1) 0 := ⟨_, rfl⟩
  have H := H h37 E38
  refine ea_nm E38 ?_
  refine ea_aload_n (pc := 155) dX1_move_155 rfl 0 rfl ?_
  obtain ⟨f39, g40, H⟩ := H
  refine ea_deref0 e4 ?_
  refine ea_getI (pc := 156) dX1_move_156 ec_1 (k := 15) (Nat.le_of_ble_eq_true rfl) rfl (Or.inl ew_381) f39 g40 ?_
  refine ea_if_eq (pc := 159) (tgt := 175) dX1_move_159 rfl (fun c56 => ?_) (fun c56 => ?_)
  · have H := H.1 c56
    obtain ⟨rfl, rfl⟩ := H
    exact ea_return (pc := 175) dX1_move_175 rfl
  · have H := H.2 c56
    refine ea_aload_n (pc := 162) dX1_move_162 rfl 0 rfl ?_
    obtain ⟨f41, g42, H⟩ := H
    refine ea_deref0 e4 ?_
    refine ea_getR (pc := 163) dX1_move_163 ec_1 (k := 14) (Nat.le_of_ble_eq_true rfl) rfl (Or.inl ew_380) f41 g42 rfl ?_
    refine ea_iload_n (pc := 166) dX1_move_166 rfl 1 rfl ?_
    obtain ⟨a45, e46, f43, g44, H⟩ := H
    refine ea_deref1 e46 ?_
    obtain ⟨z47, H⟩ := H
    refine ea_aald23 (pc := 167) dX1_move_167 f43 g44 z47 rfl ?_
    refine ea_iload_n (pc := 168) dX1_move_168 rfl 2 rfl ?_
    refine ea_iload_n (pc := 169) dX1_move_169 rfl 3 rfl ?_
    refine ea_iload (pc := 170) dX1_move_170 4 rfl ?_
    obtain ⟨a54, e55, f52, g53, H⟩ := H
    refine ea_deref3 e55 ?_
    obtain ⟨d48, h49, m50, q51, H⟩ := H
    refine ea_callV (pc := 172) (As := [vI x2, vI x3, vI x4]) (st := []) dX1_move_172 kX4_note m50 q51 rfl (Nat.le_of_ble_eq_true rfl) ew_649 ew_650 ew_651 (ci := 4) rfl (by decide) f52 g53 ?_
    obtain ⟨rfl, rfl⟩ := H
    exact ea_return (pc := 175) dX1_move_175 rfl
