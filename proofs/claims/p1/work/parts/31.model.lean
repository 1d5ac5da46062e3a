/-! the reference, 1 -/
noncomputable def vX12_both (x0 : Int32) (x1 : Int32) (x2 : Int32) (h : ea_H) : Int32 := (if Int32.toInt x0 = 8 then (x1 + x2) else (if Int32.toInt x0 = 9 then (x1 - x2) else (if Int32.toInt x0 = 10 then (x1 * x2) else (if Int32.toInt x0 = 11 then (x1 ||| x2) else (if Int32.toInt x0 = 12 then (if x2 ≤ x1 then (0 : Int32) else (1 : Int32)) else (if Int32.toInt x0 = 13 then (if x1 = x2 then (1 : Int32) else (0 : Int32)) else (if Int32.toInt x0 = 14 then (if x1 ≤ x2 then (0 : Int32) else (1 : Int32)) else (if Int32.toInt x0 = 15 then (x1 ||| x2) else (if Int32.toInt x0 = 16 then (x1 &&& x2) else (x1 ||| x2))))))))))
theorem sX12_both {d : Nat} {x0 : Int32} {x1 : Int32} {x2 : Int32} {h : ea_H} (hd : 1 ≤ d) : ea_Met mX12_both d [vI x0, vI x1, vI x2] h (some (vI (vX12_both x0 x1 x2 h))) h := by
  obtain ⟨X, EX⟩ : ∃ z, z = vX12_both x0 x1 x2 h := ⟨_, rfl⟩
  rw [← EX]
  unfold vX12_both at EX
  refine ea_enter rfl (Nat.le_of_ble_eq_true rfl) ?_
  refine ea_iload_n (pc := 0) dX12_both_0 rfl 0 rfl ?_
  by_cases qc1_0 : Int32.toInt x0 = 8
  · have EX := EX.trans (if_pos qc1_0)
    refine ea_tswIn (pc := 1) (tgt := 52) dX12_both_1 (by rw [qc1_0]; decide) (by rw [qc1_0]; decide) (by rw [qc1_0]; rfl) rfl ?_
    refine ea_iload_n (pc := 52) dX12_both_52 rfl 1 rfl ?_
    refine ea_iload_n (pc := 53) dX12_both_53 rfl 2 rfl ?_
    refine ea_iadd (pc := 54) dX12_both_54 ?_
    subst EX
    exact ea_ireturn (pc := 55) dX12_both_55 rfl rfl
  have EX := EX.trans (if_neg qc1_0)
  by_cases qc1_1 : Int32.toInt x0 = 9
  · have EX := EX.trans (if_pos qc1_1)
    refine ea_tswIn (pc := 1) (tgt := 56) dX12_both_1 (by rw [qc1_1]; decide) (by rw [qc1_1]; decide) (by rw [qc1_1]; rfl) rfl ?_
    refine ea_iload_n (pc := 56) dX12_both_56 rfl 1 rfl ?_
    refine ea_iload_n (pc := 57) dX12_both_57 rfl 2 rfl ?_
    refine ea_isub (pc := 58) dX12_both_58 ?_
    subst EX
    exact ea_ireturn (pc := 59) dX12_both_59 rfl rfl
  have EX := EX.trans (if_neg qc1_1)
  by_cases qc1_2 : Int32.toInt x0 = 10
  · have EX := EX.trans (if_pos qc1_2)
    refine ea_tswIn (pc := 1) (tgt := 60) dX12_both_1 (by rw [qc1_2]; decide) (by rw [qc1_2]; decide) (by rw [qc1_2]; rfl) rfl ?_
    refine ea_iload_n (pc := 60) dX12_both_60 rfl 1 rfl ?_
    refine ea_iload_n (pc := 61) dX12_both_61 rfl 2 rfl ?_
    refine ea_imul (pc := 62) dX12_both_62 ?_
    subst EX
    exact ea_ireturn (pc := 63) dX12_both_63 rfl rfl
  have EX := EX.trans (if_neg qc1_2)
  by_cases qc1_3 : Int32.toInt x0 = 11
  · have EX := EX.trans (if_pos qc1_3)
    refine ea_tswIn (pc := 1) (tgt := 101) dX12_both_1 (by rw [qc1_3]; decide) (by rw [qc1_3]; decide) (by rw [qc1_3]; rfl) rfl ?_
    refine ea_iload_n (pc := 101) dX12_both_101 rfl 1 rfl ?_
    refine ea_iload_n (pc := 102) dX12_both_102 rfl 2 rfl ?_
    refine ea_ior (pc := 103) dX12_both_103 ?_
    subst EX
    exact ea_ireturn (pc := 104) dX12_both_104 rfl rfl
  have EX := EX.trans (if_neg qc1_3)
  by_cases qc1_4 : Int32.toInt x0 = 12
  · have EX := EX.trans (if_pos qc1_4)
    refine ea_tswIn (pc := 1) (tgt := 64) dX12_both_1 (by rw [qc1_4]; decide) (by rw [qc1_4]; decide) (by rw [qc1_4]; rfl) rfl ?_
    refine ea_iload_n (pc := 64) dX12_both_64 rfl 1 rfl ?_
    refine ea_iload_n (pc := 65) dX12_both_65 rfl 2 rfl ?_
    refine ea_icmp_ge (pc := 66) (tgt := 73) dX12_both_66 rfl (fun c1 => ?_) (fun c1 => ?_)
    · have EX := EX.trans (if_pos c1)
      refine ea_iconst (pc := 73) dX12_both_73 (v := 0) rfl ?_
      subst EX
      exact ea_ireturn (pc := 74) dX12_both_74 rfl rfl
    · have EX := EX.trans (if_neg c1)
      refine ea_iconst (pc := 69) dX12_both_69 (v := 1) rfl ?_
      refine ea_goto (pc := 70) (tgt := 74) dX12_both_70 rfl ?_
      subst EX
      exact ea_ireturn (pc := 74) dX12_both_74 rfl rfl
  have EX := EX.trans (if_neg qc1_4)
  by_cases qc1_5 : Int32.toInt x0 = 13
  · have EX := EX.trans (if_pos qc1_5)
    refine ea_tswIn (pc := 1) (tgt := 75) dX12_both_1 (by rw [qc1_5]; decide) (by rw [qc1_5]; decide) (by rw [qc1_5]; rfl) rfl ?_
    refine ea_iload_n (pc := 75) dX12_both_75 rfl 1 rfl ?_
    refine ea_iload_n (pc := 76) dX12_both_76 rfl 2 rfl ?_
    refine ea_icmp_ne (pc := 77) (tgt := 84) dX12_both_77 rfl (fun c2 => ?_) (fun c2 => ?_)
    · have EX := EX.trans (if_neg c2)
      refine ea_iconst (pc := 84) dX12_both_84 (v := 0) rfl ?_
      subst EX
      exact ea_ireturn (pc := 85) dX12_both_85 rfl rfl
    · have EX := EX.trans (if_pos c2)
      refine ea_iconst (pc := 80) dX12_both_80 (v := 1) rfl ?_
      refine ea_goto (pc := 81) (tgt := 85) dX12_both_81 rfl ?_
      subst EX
      exact ea_ireturn (pc := 85) dX12_both_85 rfl rfl
  have EX := EX.trans (if_neg qc1_5)
  by_cases qc1_6 : Int32.toInt x0 = 14
  · have EX := EX.trans (if_pos qc1_6)
    refine ea_tswIn (pc := 1) (tgt := 86) dX12_both_1 (by rw [qc1_6]; decide) (by rw [qc1_6]; decide) (by rw [qc1_6]; rfl) rfl ?_
    refine ea_iload_n (pc := 86) dX12_both_86 rfl 1 rfl ?_
    refine ea_iload_n (pc := 87) dX12_both_87 rfl 2 rfl ?_
    refine ea_icmp_le (pc := 88) (tgt := 95) dX12_both_88 rfl (fun c3 => ?_) (fun c3 => ?_)
    · have EX := EX.trans (if_pos c3)
      refine ea_iconst (pc := 95) dX12_both_95 (v := 0) rfl ?_
      subst EX
      exact ea_ireturn (pc := 96) dX12_both_96 rfl rfl
    · have EX := EX.trans (if_neg c3)
      refine ea_iconst (pc := 91) dX12_both_91 (v := 1) rfl ?_
      refine ea_goto (pc := 92) (tgt := 96) dX12_both_92 rfl ?_
      subst EX
      exact ea_ireturn (pc := 96) dX12_both_96 rfl rfl
  have EX := EX.trans (if_neg qc1_6)
  by_cases qc1_7 : Int32.toInt x0 = 15
  · have EX := EX.trans (if_pos qc1_7)
    refine ea_tswIn (pc := 1) (tgt := 101) dX12_both_1 (by rw [qc1_7]; decide) (by rw [qc1_7]; decide) (by rw [qc1_7]; rfl) rfl ?_
    refine ea_iload_n (pc := 101) dX12_both_101 rfl 1 rfl ?_
    refine ea_iload_n (pc := 102) dX12_both_102 rfl 2 rfl ?_
    refine ea_ior (pc := 103) dX12_both_103 ?_
    subst EX
    exact ea_ireturn (pc := 104) dX12_both_104 rfl rfl
  have EX := EX.trans (if_neg qc1_7)
  by_cases qc1_8 : Int32.toInt x0 = 16
  · have EX := EX.trans (if_pos qc1_8)
    refine ea_tswIn (pc := 1) (tgt := 97) dX12_both_1 (by rw [qc1_8]; decide) (by rw [qc1_8]; decide) (by rw [qc1_8]; rfl) rfl ?_
    refine ea_iload_n (pc := 97) dX12_both_97 rfl 1 rfl ?_
    refine ea_iload_n (pc := 98) dX12_both_98 rfl 2 rfl ?_
    refine ea_iand (pc := 99) dX12_both_99 ?_
    subst EX
    exact ea_ireturn (pc := 100) dX12_both_100 rfl rfl
  have EX := EX.trans (if_neg qc1_8)
  refine ea_tswOut (pc := 1) (tgt := 101) dX12_both_1 (ea_sw_8_16 qc1_0 qc1_1 qc1_2 qc1_3 qc1_4 qc1_5 qc1_6 qc1_7 qc1_8) rfl ?_
  refine ea_iload_n (pc := 101) dX12_both_101 rfl 1 rfl ?_
  refine ea_iload_n (pc := 102) dX12_both_102 rfl 2 rfl ?_
  refine ea_ior (pc := 103) dX12_both_103 ?_
  subst EX
  exact ea_ireturn (pc := 104) dX12_both_104 rfl rfl
noncomputable def gX12_comesTo (b0 : Nat) : Nat → Nat → Int32 → Int32 → Int32 → Int32 → Int32 → ea_H → Option (Int32 × ea_H)
  | 0, _, _, _, _, _, _, _ => none
  | f + 1, lbl, x1, x2, x3, x4, x5, h =>
    if lbl = 0 then (gX12_comesTo b0 f 6 (x1 : Int32) 0 (x3 : Int32) (0 : Int32) (x2 : Int32) h) else
    if lbl = 6 then (if x3 ≤ x5 then (some ((ea_i h (b0 + 37) 0), h)) else (gd (vp_in (((1220 : Int32) * x1) + ((2 : Int32) * x5)) 7320) (gd (vp_in ((((1220 : Int32) * x1) + ((2 : Int32) * x5)) + (1 : Int32)) 7320) (if (8 : Int32) ≤ (ea_i h (b0 + 32) (Int32.toNatClampNeg (((1220 : Int32) * x1) + ((2 : Int32) * x5)))) then (if (ea_i h (b0 + 32) (Int32.toNatClampNeg (((1220 : Int32) * x1) + ((2 : Int32) * x5)))) = (11 : Int32) then (gd (vp_in (x4 - (1 : Int32)) 620) (gd ((¬ (ea_i h (b0 + 32) (Int32.toNatClampNeg ((((1220 : Int32) * x1) + ((2 : Int32) * x5)) + (1 : Int32)))) = 0)) (gd (vp_in (x4 - (1 : Int32)) 620) (gX12_comesTo b0 f 6 (x1 : Int32) 0 (x3 : Int32) (x4 : Int32) ((x5 + (1 : Int32)) : Int32) (ea_wi h (b0 + 37) (Int32.toNatClampNeg (x4 - (1 : Int32))) ((ea_i h (b0 + 37) (Int32.toNatClampNeg (x4 - (1 : Int32)))) / (ea_i h (b0 + 32) (Int32.toNatClampNeg ((((1220 : Int32) * x1) + ((2 : Int32) * x5)) + (1 : Int32)))))))))) else (if (ea_i h (b0 + 32) (Int32.toNatClampNeg (((1220 : Int32) * x1) + ((2 : Int32) * x5)))) = (15 : Int32) then (gd (vp_in (x4 - (1 : Int32)) 620) (gd (vp_in (x4 - (1 : Int32)) 620) (gX12_comesTo b0 f 6 (x1 : Int32) 0 (x3 : Int32) (x4 : Int32) ((x5 + (1 : Int32)) : Int32) (ea_wi h (b0 + 37) (Int32.toNatClampNeg (x4 - (1 : Int32))) ((1 : Int32) - (ea_i h (b0 + 37) (Int32.toNatClampNeg (x4 - (1 : Int32))))))))) else (gd (vp_in ((x4 + ((-1) : Int32)) - (1 : Int32)) 620) (gd (vp_in (x4 + ((-1) : Int32)) 620) (gd (vp_in ((x4 + ((-1) : Int32)) - (1 : Int32)) 620) (gX12_comesTo b0 f 6 (x1 : Int32) 0 (x3 : Int32) ((x4 + ((-1) : Int32)) : Int32) ((x5 + (1 : Int32)) : Int32) (ea_wi h (b0 + 37) (Int32.toNatClampNeg ((x4 + ((-1) : Int32)) - (1 : Int32))) (vX12_both ((ea_i h (b0 + 32) (Int32.toNatClampNeg (((1220 : Int32) * x1) + ((2 : Int32) * x5)))) : Int32) ((ea_i h (b0 + 37) (Int32.toNatClampNeg ((x4 + ((-1) : Int32)) - (1 : Int32)))) : Int32) ((ea_i h (b0 + 37) (Int32.toNatClampNeg (x4 + ((-1) : Int32)))) : Int32) h)))))))) else (if (ea_i h (b0 + 32) (Int32.toNatClampNeg (((1220 : Int32) * x1) + ((2 : Int32) * x5)))) = (0 : Int32) then (gd (vp_in x4 620) (gX12_comesTo b0 f 6 (x1 : Int32) 0 (x3 : Int32) ((x4 + (1 : Int32)) : Int32) ((x5 + (1 : Int32)) : Int32) (ea_wi h (b0 + 37) (Int32.toNatClampNeg x4) (ea_i h (b0 + 32) (Int32.toNatClampNeg ((((1220 : Int32) * x1) + ((2 : Int32) * x5)) + (1 : Int32))))))) else (gd (vp_in (ea_i h (b0 + 32) (Int32.toNatClampNeg (((1220 : Int32) * x1) + ((2 : Int32) * x5)))) 8) (gd (vp_in x4 620) (gX12_comesTo b0 f 6 (x1 : Int32) 0 (x3 : Int32) ((x4 + (1 : Int32)) : Int32) ((x5 + (1 : Int32)) : Int32) (ea_wi h (b0 + 37) (Int32.toNatClampNeg x4) (ea_i h (b0 + 65) (Int32.toNatClampNeg (ea_i h (b0 + 32) (Int32.toNatClampNeg (((1220 : Int32) * x1) + ((2 : Int32) * x5))))))))))))))) else none
theorem tX12_comesTo {d : Nat} {b0 : Nat} {h0 : ea_H} (hd : 2 ≤ d) : ∀ (f lbl : Nat) (x1 : Int32) (x2 : Int32) (x3 : Int32) (x4 : Int32) (x5 : Int32) (h : ea_H) (r : Int32) (h' : ea_H), gX12_comesTo b0 f lbl x1 x2 x3 x4 x5 h = some (r, h') → ShM b0 h → (lbl = 0 → ea_W mX12_comesTo d h0 (some (vI r)) h' 0 [(0, vR (some (b0 + 0))), (1, vI x1), (2, vI x2), (3, vI x3)] [] h) ∧ (lbl = 6 → ea_W mX12_comesTo d h0 (some (vI r)) h' 6 [(0, vR (some (b0 + 0))), (1, vI x1), (3, vI x3), (4, vI x4), (5, vI x5)] [] h) := by
  intro f
  induction f with
  | zero => intro lbl x1 x2 x3 x4 x5 h r h' E; cases E
  | succ f ih =>
    intro lbl x1 x2 x3 x4 x5 h r h' E hs
    unfold gX12_comesTo at E
    refine ⟨?_, ?_⟩
    · intro el
      subst el
      have E := (if_pos rfl).symm.trans E
      refine ea_iconst (pc := 0) dX12_comesTo_0 (v := 0) rfl ?_
      refine ea_istore (pc := 1) (lv' := [(0, vR (some (b0 + 0))), (1, vI x1), (2, vI x2), (3, vI x3), (4, vI 0)]) dX12_comesTo_1 (Nat.le_of_ble_eq_true rfl) [1, 2, 3, 4, 0] rfl ?_
      refine ea_iload_n (pc := 3) dX12_comesTo_3 rfl 2 rfl ?_
      refine ea_istore (pc := 4) (lv' := [(0, vR (some (b0 + 0))), (1, vI x1), (3, vI x3), (4, vI 0), (5, vI x2)]) dX12_comesTo_4 (Nat.le_of_ble_eq_true rfl) [1, 2, 4, 5, 0] rfl ?_
      exact ((ih 6 (x1 : Int32) 0 (x3 : Int32) (0 : Int32) (x2 : Int32) h _ _ E hs).2 rfl)
    intro el
    subst el
    have E := (if_neg (by decide)).symm.trans E
    have E := (if_pos rfl).symm.trans E
    refine ea_iload (pc := 6) dX12_comesTo_6 4 rfl ?_
    refine ea_iload_n (pc := 8) dX12_comesTo_8 rfl 2 rfl ?_
    refine ea_icmp_ge (pc := 9) (tgt := 178) dX12_comesTo_9 rfl (fun c24 => ?_) (fun c24 => ?_)
    · have E := (if_pos c24).symm.trans E
      refine ea_aload_n (pc := 178) dX12_comesTo_178 rfl 0 rfl ?_
      refine ea_getR (pc := 179) dX12_comesTo_179 ec_12 (k := 42) (Nat.le_of_ble_eq_true rfl) rfl (Or.inl ew_1387) (hs.1 0 (by decide)).1 (hs.1 0 (by decide)).2.1 (hs.2 0 42 rfl) ?_
      refine ea_iconst (pc := 182) dX12_comesTo_182 (v := 0) rfl ?_
      refine ea_iald (pc := 183) dX12_comesTo_183 (hs.1 37 (by decide)).1 (hs.1 37 (by decide)).2.1 (ea_vpl (n := 620) (hs.1 37 (by decide)).2.2 (by unfold vp_in; decide)) ?_
      cases E
      exact ea_ireturn (pc := 184) dX12_comesTo_184 rfl rfl
    · have E := (if_neg c24).symm.trans E
      refine ea_aload_n (pc := 12) dX12_comesTo_12 rfl 0 rfl ?_
      refine ea_getR (pc := 13) dX12_comesTo_13 ec_12 (k := 37) (Nat.le_of_ble_eq_true rfl) rfl (Or.inl ew_1382) (hs.1 0 (by decide)).1 (hs.1 0 (by decide)).2.1 (hs.2 0 37 rfl) ?_
      refine ea_sipush (pc := 16) dX12_comesTo_16 (v := 1220) rfl ?_
      refine ea_iload_n (pc := 19) dX12_comesTo_19 rfl 1 rfl ?_
      refine ea_imul (pc := 20) dX12_comesTo_20 ?_
      refine ea_iconst (pc := 21) dX12_comesTo_21 (v := 2) rfl ?_
      refine ea_iload (pc := 22) dX12_comesTo_22 4 rfl ?_
      refine ea_imul (pc := 24) dX12_comesTo_24 ?_
      refine ea_iadd (pc := 25) dX12_comesTo_25 ?_
      obtain ⟨z1, E⟩ := gd_some E
      refine ea_iald (pc := 26) dX12_comesTo_26 (hs.1 32 (by decide)).1 (hs.1 32 (by decide)).2.1 (ea_vpl (hs.1 32 (by decide)).2.2 z1) ?_
      refine ea_istore (pc := 27) (lv' := [(0, vR (some (b0 + 0))), (1, vI x1), (3, vI x3), (4, vI x4), (5, vI x5), (6, vI (ea_i h (b0 + 32) (Int32.toNatClampNeg (((1220 : Int32) * x1) + ((2 : Int32) * x5)))))]) dX12_comesTo_27 (Nat.le_of_ble_eq_true rfl) [1, 2, 3, 4, 5, 0] rfl ?_
      refine ea_aload_n (pc := 29) dX12_comesTo_29 rfl 0 rfl ?_
      refine ea_getR (pc := 30) dX12_comesTo_30 ec_12 (k := 37) (Nat.le_of_ble_eq_true rfl) rfl (Or.inl ew_1382) (hs.1 0 (by decide)).1 (hs.1 0 (by decide)).2.1 (hs.2 0 37 rfl) ?_
      refine ea_sipush (pc := 33) dX12_comesTo_33 (v := 1220) rfl ?_
      refine ea_iload_n (pc := 36) dX12_comesTo_36 rfl 1 rfl ?_
      refine ea_imul (pc := 37) dX12_comesTo_37 ?_
      refine ea_iconst (pc := 38) dX12_comesTo_38 (v := 2) rfl ?_
      refine ea_iload (pc := 39) dX12_comesTo_39 4 rfl ?_
      refine ea_imul (pc := 41) dX12_comesTo_41 ?_
      refine ea_iadd (pc := 42) dX12_comesTo_42 ?_
      refine ea_iconst (pc := 43) dX12_comesTo_43 (v := 1) rfl ?_
      refine ea_iadd (pc := 44) dX12_comesTo_44 ?_
      obtain ⟨z2, E⟩ := gd_some E
      refine ea_iald (pc := 45) dX12_comesTo_45 (hs.1 32 (by decide)).1 (hs.1 32 (by decide)).2.1 (ea_vpl (hs.1 32 (by decide)).2.2 z2) ?_
      refine ea_istore (pc := 46) (lv' := [(0, vR (some (b0 + 0))), (1, vI x1), (3, vI x3), (4, vI x4), (5, vI x5), (6, vI (ea_i h (b0 + 32) (Int32.toNatClampNeg (((1220 : Int32) * x1) + ((2 : Int32) * x5))))), (7, vI (ea_i h (b0 + 32) (Int32.toNatClampNeg ((((1220 : Int32) * x1) + ((2 : Int32) * x5)) + (1 : Int32)))))]) dX12_comesTo_46 (Nat.le_of_ble_eq_true rfl) [1, 2, 3, 4, 5, 6, 0] rfl ?_
      refine ea_iload (pc := 48) dX12_comesTo_48 5 rfl ?_
      refine ea_bipush (pc := 50) dX12_comesTo_50 (v := 8) rfl ?_
      refine ea_icmp_ge (pc := 52) (tgt := 85) dX12_comesTo_52 rfl (fun c23 => ?_) (fun c23 => ?_)
      · have E := (if_pos c23).symm.trans E
        refine ea_iload (pc := 85) dX12_comesTo_85 5 rfl ?_
        refine ea_bipush (pc := 87) dX12_comesTo_87 (v := 11) rfl ?_
        refine ea_icmp_ne (pc := 89) (tgt := 109) dX12_comesTo_89 rfl (fun c16 => ?_) (fun c16 => ?_)
        · have E := (if_neg c16).symm.trans E
          refine ea_iload (pc := 109) dX12_comesTo_109 5 rfl ?_
          refine ea_bipush (pc := 111) dX12_comesTo_111 (v := 15) rfl ?_
          refine ea_icmp_ne (pc := 113) (tgt := 139) dX12_comesTo_113 rfl (fun c11 => ?_) (fun c11 => ?_)
          · have E := (if_neg c11).symm.trans E
            refine ea_iinc (pc := 139) (v := (-1)) (lv' := [(0, vR (some (b0 + 0))), (1, vI x1), (3, vI x3), (4, vI (x4 + ((-1) : Int32))), (5, vI x5), (6, vI (ea_i h (b0 + 32) (Int32.toNatClampNeg (((1220 : Int32) * x1) + ((2 : Int32) * x5)))))]) dX12_comesTo_139 3 rfl rfl (Nat.le_of_ble_eq_true rfl) [1, 2, 3, 0, 4, 5] rfl ?_
            refine ea_aload_n (pc := 142) dX12_comesTo_142 rfl 0 rfl ?_
            refine ea_getR (pc := 143) dX12_comesTo_143 ec_12 (k := 42) (Nat.le_of_ble_eq_true rfl) rfl (Or.inl ew_1387) (hs.1 0 (by decide)).1 (hs.1 0 (by decide)).2.1 (hs.2 0 42 rfl) ?_
            refine ea_iload (pc := 146) dX12_comesTo_146 3 rfl ?_
            refine ea_iconst (pc := 148) dX12_comesTo_148 (v := 1) rfl ?_
            refine ea_isub (pc := 149) dX12_comesTo_149 ?_
            refine ea_iload (pc := 150) dX12_comesTo_150 5 rfl ?_
            refine ea_aload_n (pc := 152) dX12_comesTo_152 rfl 0 rfl ?_
            refine ea_getR (pc := 153) dX12_comesTo_153 ec_12 (k := 42) (Nat.le_of_ble_eq_true rfl) rfl (Or.inl ew_1387) (hs.1 0 (by decide)).1 (hs.1 0 (by decide)).2.1 (hs.2 0 42 rfl) ?_
            refine ea_iload (pc := 156) dX12_comesTo_156 3 rfl ?_
            refine ea_iconst (pc := 158) dX12_comesTo_158 (v := 1) rfl ?_
            refine ea_isub (pc := 159) dX12_comesTo_159 ?_
            obtain ⟨z3, E⟩ := gd_some E
            refine ea_iald (pc := 160) dX12_comesTo_160 (hs.1 37 (by decide)).1 (hs.1 37 (by decide)).2.1 (ea_vpl (hs.1 37 (by decide)).2.2 z3) ?_
            refine ea_aload_n (pc := 161) dX12_comesTo_161 rfl 0 rfl ?_
            refine ea_getR (pc := 162) dX12_comesTo_162 ec_12 (k := 42) (Nat.le_of_ble_eq_true rfl) rfl (Or.inl ew_1387) (hs.1 0 (by decide)).1 (hs.1 0 (by decide)).2.1 (hs.2 0 42 rfl) ?_
            refine ea_iload (pc := 165) dX12_comesTo_165 3 rfl ?_
            obtain ⟨z4, E⟩ := gd_some E
            refine ea_iald (pc := 167) dX12_comesTo_167 (hs.1 37 (by decide)).1 (hs.1 37 (by decide)).2.1 (ea_vpl (hs.1 37 (by decide)).2.2 z4) ?_
            refine ea_callS (pc := 168) (d' := d - 1) (As := [vI (ea_i h (b0 + 32) (Int32.toNatClampNeg (((1220 : Int32) * x1) + ((2 : Int32) * x5)))), vI (ea_i h (b0 + 37) (Int32.toNatClampNeg ((x4 + ((-1) : Int32)) - (1 : Int32)))), vI (ea_i h (b0 + 37) (Int32.toNatClampNeg (x4 + ((-1) : Int32))))]) (st := [vI ((x4 + ((-1) : Int32)) - (1 : Int32)), vR (some (b0 + 37))]) dX12_comesTo_168 kX12_both (sX12_both (d := d - 1) (by omega)) (by omega) rfl (Nat.le_of_ble_eq_true rfl) ew_2007 ew_2008 ?_
            obtain ⟨z6, E⟩ := gd_some E
            refine ea_iast (pc := 171) dX12_comesTo_171 (hs.1 37 (by decide)).1 (hs.1 37 (by decide)).2.1 (ea_vpl (hs.1 37 (by decide)).2.2 z6) ?_
            have hs7 : ShM b0 (ea_wi h (b0 + 37) (Int32.toNatClampNeg ((x4 + ((-1) : Int32)) - (1 : Int32))) (vX12_both ((ea_i h (b0 + 32) (Int32.toNatClampNeg (((1220 : Int32) * x1) + ((2 : Int32) * x5)))) : Int32) ((ea_i h (b0 + 37) (Int32.toNatClampNeg ((x4 + ((-1) : Int32)) - (1 : Int32)))) : Int32) ((ea_i h (b0 + 37) (Int32.toNatClampNeg (x4 + ((-1) : Int32)))) : Int32) h)) := ShM_wi hs
            refine ea_iinc (pc := 172) (v := 1) (lv' := [(0, vR (some (b0 + 0))), (1, vI x1), (3, vI x3), (4, vI (x4 + ((-1) : Int32))), (5, vI (x5 + (1 : Int32)))]) dX12_comesTo_172 4 rfl rfl (Nat.le_of_ble_eq_true rfl) [1, 2, 3, 4, 0] rfl ?_
            refine ea_goto (pc := 175) (tgt := 6) dX12_comesTo_175 rfl ?_
            exact ((ih 6 (x1 : Int32) 0 (x3 : Int32) ((x4 + ((-1) : Int32)) : Int32) ((x5 + (1 : Int32)) : Int32) (ea_wi h (b0 + 37) (Int32.toNatClampNeg ((x4 + ((-1) : Int32)) - (1 : Int32))) (vX12_both ((ea_i h (b0 + 32) (Int32.toNatClampNeg (((1220 : Int32) * x1) + ((2 : Int32) * x5)))) : Int32) ((ea_i h (b0 + 37) (Int32.toNatClampNeg ((x4 + ((-1) : Int32)) - (1 : Int32)))) : Int32) ((ea_i h (b0 + 37) (Int32.toNatClampNeg (x4 + ((-1) : Int32)))) : Int32) h)) _ _ E hs7).2 rfl)
          · have E := (if_pos c11).symm.trans E
            refine ea_aload_n (pc := 116) dX12_comesTo_116 rfl 0 rfl ?_
            refine ea_getR (pc := 117) dX12_comesTo_117 ec_12 (k := 42) (Nat.le_of_ble_eq_true rfl) rfl (Or.inl ew_1387) (hs.1 0 (by decide)).1 (hs.1 0 (by decide)).2.1 (hs.2 0 42 rfl) ?_
            refine ea_iload (pc := 120) dX12_comesTo_120 3 rfl ?_
            refine ea_iconst (pc := 122) dX12_comesTo_122 (v := 1) rfl ?_
            refine ea_isub (pc := 123) dX12_comesTo_123 ?_
            refine ea_iconst (pc := 124) dX12_comesTo_124 (v := 1) rfl ?_
            refine ea_aload_n (pc := 125) dX12_comesTo_125 rfl 0 rfl ?_
            refine ea_getR (pc := 126) dX12_comesTo_126 ec_12 (k := 42) (Nat.le_of_ble_eq_true rfl) rfl (Or.inl ew_1387) (hs.1 0 (by decide)).1 (hs.1 0 (by decide)).2.1 (hs.2 0 42 rfl) ?_
            refine ea_iload (pc := 129) dX12_comesTo_129 3 rfl ?_
            refine ea_iconst (pc := 131) dX12_comesTo_131 (v := 1) rfl ?_
            refine ea_isub (pc := 132) dX12_comesTo_132 ?_
            obtain ⟨z8, E⟩ := gd_some E
            refine ea_iald (pc := 133) dX12_comesTo_133 (hs.1 37 (by decide)).1 (hs.1 37 (by decide)).2.1 (ea_vpl (hs.1 37 (by decide)).2.2 z8) ?_
            refine ea_isub (pc := 134) dX12_comesTo_134 ?_
            obtain ⟨z9, E⟩ := gd_some E
            refine ea_iast (pc := 135) dX12_comesTo_135 (hs.1 37 (by decide)).1 (hs.1 37 (by decide)).2.1 (ea_vpl (hs.1 37 (by decide)).2.2 z9) ?_
            have hs10 : ShM b0 (ea_wi h (b0 + 37) (Int32.toNatClampNeg (x4 - (1 : Int32))) ((1 : Int32) - (ea_i h (b0 + 37) (Int32.toNatClampNeg (x4 - (1 : Int32)))))) := ShM_wi hs
            refine ea_goto (pc := 136) (tgt := 172) dX12_comesTo_136 rfl ?_
            refine ea_iinc (pc := 172) (v := 1) (lv' := [(0, vR (some (b0 + 0))), (1, vI x1), (3, vI x3), (4, vI x4), (5, vI (x5 + (1 : Int32)))]) dX12_comesTo_172 4 rfl rfl (Nat.le_of_ble_eq_true rfl) [1, 2, 3, 4, 0] rfl ?_
            refine ea_goto (pc := 175) (tgt := 6) dX12_comesTo_175 rfl ?_
            exact ((ih 6 (x1 : Int32) 0 (x3 : Int32) (x4 : Int32) ((x5 + (1 : Int32)) : Int32) (ea_wi h (b0 + 37) (Int32.toNatClampNeg (x4 - (1 : Int32))) ((1 : Int32) - (ea_i h (b0 + 37) (Int32.toNatClampNeg (x4 - (1 : Int32)))))) _ _ E hs10).2 rfl)
        · have E := (if_pos c16).symm.trans E
          refine ea_aload_n (pc := 92) dX12_comesTo_92 rfl 0 rfl ?_
          refine ea_getR (pc := 93) dX12_comesTo_93 ec_12 (k := 42) (Nat.le_of_ble_eq_true rfl) rfl (Or.inl ew_1387) (hs.1 0 (by decide)).1 (hs.1 0 (by decide)).2.1 (hs.2 0 42 rfl) ?_
          refine ea_iload (pc := 96) dX12_comesTo_96 3 rfl ?_
          refine ea_iconst (pc := 98) dX12_comesTo_98 (v := 1) rfl ?_
          refine ea_isub (pc := 99) dX12_comesTo_99 ?_
          refine ea_dup2 (pc := 100) dX12_comesTo_100 rfl rfl ?_
          obtain ⟨z12, E⟩ := gd_some E
          refine ea_iald (pc := 101) dX12_comesTo_101 (hs.1 37 (by decide)).1 (hs.1 37 (by decide)).2.1 (ea_vpl (hs.1 37 (by decide)).2.2 z12) ?_
          refine ea_iload (pc := 102) dX12_comesTo_102 6 rfl ?_
          obtain ⟨z13, E⟩ := gd_some E
          refine ea_idiv (pc := 104) dX12_comesTo_104 z13 ?_
          obtain ⟨z14, E⟩ := gd_some E
          refine ea_iast (pc := 105) dX12_comesTo_105 (hs.1 37 (by decide)).1 (hs.1 37 (by decide)).2.1 (ea_vpl (hs.1 37 (by decide)).2.2 z14) ?_
          have hs15 : ShM b0 (ea_wi h (b0 + 37) (Int32.toNatClampNeg (x4 - (1 : Int32))) ((ea_i h (b0 + 37) (Int32.toNatClampNeg (x4 - (1 : Int32)))) / (ea_i h (b0 + 32) (Int32.toNatClampNeg ((((1220 : Int32) * x1) + ((2 : Int32) * x5)) + (1 : Int32)))))) := ShM_wi hs
          refine ea_goto (pc := 106) (tgt := 172) dX12_comesTo_106 rfl ?_
          refine ea_iinc (pc := 172) (v := 1) (lv' := [(0, vR (some (b0 + 0))), (1, vI x1), (3, vI x3), (4, vI x4), (5, vI (x5 + (1 : Int32)))]) dX12_comesTo_172 4 rfl rfl (Nat.le_of_ble_eq_true rfl) [1, 2, 3, 4, 0] rfl ?_
          refine ea_goto (pc := 175) (tgt := 6) dX12_comesTo_175 rfl ?_
          exact ((ih 6 (x1 : Int32) 0 (x3 : Int32) (x4 : Int32) ((x5 + (1 : Int32)) : Int32) (ea_wi h (b0 + 37) (Int32.toNatClampNeg (x4 - (1 : Int32))) ((ea_i h (b0 + 37) (Int32.toNatClampNeg (x4 - (1 : Int32)))) / (ea_i h (b0 + 32) (Int32.toNatClampNeg ((((1220 : Int32) * x1) + ((2 : Int32) * x5)) + (1 : Int32)))))) _ _ E hs15).2 rfl)
      · have E := (if_neg c23).symm.trans E
        refine ea_aload_n (pc := 55) dX12_comesTo_55 rfl 0 rfl ?_
        refine ea_getR (pc := 56) dX12_comesTo_56 ec_12 (k := 42) (Nat.le_of_ble_eq_true rfl) rfl (Or.inl ew_1387) (hs.1 0 (by decide)).1 (hs.1 0 (by decide)).2.1 (hs.2 0 42 rfl) ?_
        refine ea_iload (pc := 59) dX12_comesTo_59 3 rfl ?_
        refine ea_iload (pc := 61) dX12_comesTo_61 5 rfl ?_
        refine ea_if_ne (pc := 63) (tgt := 71) dX12_comesTo_63 rfl (fun c22 => ?_) (fun c22 => ?_)
        · have E := (if_neg c22).symm.trans E
          refine ea_aload_n (pc := 71) dX12_comesTo_71 rfl 0 rfl ?_
          refine ea_getR (pc := 72) dX12_comesTo_72 ec_12 (k := 91) (Nat.le_of_ble_eq_true rfl) rfl (Or.inl ew_1436) (hs.1 0 (by decide)).1 (hs.1 0 (by decide)).2.1 (hs.2 0 91 rfl) ?_
          refine ea_iload (pc := 75) dX12_comesTo_75 5 rfl ?_
          obtain ⟨z17, E⟩ := gd_some E
          refine ea_iald (pc := 77) dX12_comesTo_77 (hs.1 65 (by decide)).1 (hs.1 65 (by decide)).2.1 (ea_vpl (hs.1 65 (by decide)).2.2 z17) ?_
          obtain ⟨z18, E⟩ := gd_some E
          refine ea_iast (pc := 78) dX12_comesTo_78 (hs.1 37 (by decide)).1 (hs.1 37 (by decide)).2.1 (ea_vpl (hs.1 37 (by decide)).2.2 z18) ?_
          have hs19 : ShM b0 (ea_wi h (b0 + 37) (Int32.toNatClampNeg x4) (ea_i h (b0 + 65) (Int32.toNatClampNeg (ea_i h (b0 + 32) (Int32.toNatClampNeg (((1220 : Int32) * x1) + ((2 : Int32) * x5))))))) := ShM_wi hs
          refine ea_iinc (pc := 79) (v := 1) (lv' := [(0, vR (some (b0 + 0))), (1, vI x1), (3, vI x3), (4, vI (x4 + (1 : Int32))), (5, vI x5)]) dX12_comesTo_79 3 rfl rfl (Nat.le_of_ble_eq_true rfl) [1, 2, 3, 0, 4] rfl ?_
          refine ea_goto (pc := 82) (tgt := 172) dX12_comesTo_82 rfl ?_
          refine ea_iinc (pc := 172) (v := 1) (lv' := [(0, vR (some (b0 + 0))), (1, vI x1), (3, vI x3), (4, vI (x4 + (1 : Int32))), (5, vI (x5 + (1 : Int32)))]) dX12_comesTo_172 4 rfl rfl (Nat.le_of_ble_eq_true rfl) [1, 2, 3, 4, 0] rfl ?_
          refine ea_goto (pc := 175) (tgt := 6) dX12_comesTo_175 rfl ?_
          exact ((ih 6 (x1 : Int32) 0 (x3 : Int32) ((x4 + (1 : Int32)) : Int32) ((x5 + (1 : Int32)) : Int32) (ea_wi h (b0 + 37) (Int32.toNatClampNeg x4) (ea_i h (b0 + 65) (Int32.toNatClampNeg (ea_i h (b0 + 32) (Int32.toNatClampNeg (((1220 : Int32) * x1) + ((2 : Int32) * x5))))))) _ _ E hs19).2 rfl)
        · have E := (if_pos c22).symm.trans E
          refine ea_iload (pc := 66) dX12_comesTo_66 6 rfl ?_
          refine ea_goto (pc := 68) (tgt := 78) dX12_comesTo_68 rfl ?_
          obtain ⟨z20, E⟩ := gd_some E
          refine ea_iast (pc := 78) dX12_comesTo_78 (hs.1 37 (by decide)).1 (hs.1 37 (by decide)).2.1 (ea_vpl (hs.1 37 (by decide)).2.2 z20) ?_
          have hs21 : ShM b0 (ea_wi h (b0 + 37) (Int32.toNatClampNeg x4) (ea_i h (b0 + 32) (Int32.toNatClampNeg ((((1220 : Int32) * x1) + ((2 : Int32) * x5)) + (1 : Int32))))) := ShM_wi hs
          refine ea_iinc (pc := 79) (v := 1) (lv' := [(0, vR (some (b0 + 0))), (1, vI x1), (3, vI x3), (4, vI (x4 + (1 : Int32))), (5, vI x5)]) dX12_comesTo_79 3 rfl rfl (Nat.le_of_ble_eq_true rfl) [1, 2, 3, 0, 4] rfl ?_
          refine ea_goto (pc := 82) (tgt := 172) dX12_comesTo_82 rfl ?_
          refine ea_iinc (pc := 172) (v := 1) (lv' := [(0, vR (some (b0 + 0))), (1, vI x1), (3, vI x3), (4, vI (x4 + (1 : Int32))), (5, vI (x5 + (1 : Int32)))]) dX12_comesTo_172 4 rfl rfl (Nat.le_of_ble_eq_true rfl) [1, 2, 3, 4, 0] rfl ?_
          refine ea_goto (pc := 175) (tgt := 6) dX12_comesTo_175 rfl ?_
          exact ((ih 6 (x1 : Int32) 0 (x3 : Int32) ((x4 + (1 : Int32)) : Int32) ((x5 + (1 : Int32)) : Int32) (ea_wi h (b0 + 37) (Int32.toNatClampNeg x4) (ea_i h (b0 + 32) (Int32.toNatClampNeg ((((1220 : Int32) * x1) + ((2 : Int32) * x5)) + (1 : Int32))))) _ _ E hs21).2 rfl)
noncomputable def qX12_comesTo (b0 : Nat) (x1 : Int32) (x2 : Int32) (x3 : Int32) (h : ea_H) : Option (Int32 × ea_H) := gX12_comesTo b0 1000000000 0 x1 x2 x3 0 0 h
def okX12_comesTo (b0 : Nat) (x1 : Int32) (x2 : Int32) (x3 : Int32) (h : ea_H) : Prop := ∃ x, qX12_comesTo b0 x1 x2 x3 h = some x
noncomputable def vX12_comesTo (b0 : Nat) (x1 : Int32) (x2 : Int32) (x3 : Int32) (h : ea_H) : Int32 := ((qX12_comesTo b0 x1 x2 x3 h).getD (0, h)).1
noncomputable def wX12_comesTo (b0 : Nat) (x1 : Int32) (x2 : Int32) (x3 : Int32) (h : ea_H) : ea_H := ((qX12_comesTo b0 x1 x2 x3 h).getD (0, h)).2
theorem sX12_comesTo {d : Nat} {b0 : Nat} {x1 : Int32} {x2 : Int32} {x3 : Int32} {h : ea_H} (hd : 2 ≤ d) (hs : ShM b0 h) (K : okX12_comesTo b0 x1 x2 x3 h) : ea_Met mX12_comesTo d [vR (some (b0 + 0)), vI x1, vI x2, vI x3] h (some (vI (vX12_comesTo b0 x1 x2 x3 h))) (wX12_comesTo b0 x1 x2 x3 h) := by
  obtain ⟨⟨x, y⟩, K⟩ := K
  unfold wX12_comesTo vX12_comesTo
  rw [K]
  unfold qX12_comesTo at K
  exact ea_enter rfl (Nat.le_of_ble_eq_true rfl) ((tX12_comesTo hd 1000000000 0 x1 x2 x3 0 0 h x y K hs).1 rfl)
theorem zX12_comesTo {b0 : Nat} : ∀ (f lbl : Nat) (x1 : Int32) (x2 : Int32) (x3 : Int32) (x4 : Int32) (x5 : Int32) (h : ea_H) (r : Int32) (h' : ea_H), gX12_comesTo b0 f lbl x1 x2 x3 x4 x5 h = some (r, h') → ShM b0 h → ShM b0 h' := by
  intro f
  induction f with
  | zero => intro lbl x1 x2 x3 x4 x5 h r h' E; cases E
  | succ f ih =>
    intro lbl x1 x2 x3 x4 x5 h r h' E hs
    unfold gX12_comesTo at E
    by_cases el0 : lbl = 0
    · have E := (if_pos el0).symm.trans E
      exact ih 6 (x1 : Int32) 0 (x3 : Int32) (0 : Int32) (x2 : Int32) h _ _ E hs
    have E := (if_neg el0).symm.trans E
    by_cases el1 : lbl = 6
    · have E := (if_pos el1).symm.trans E
      by_cases c24 : x3 ≤ x5
      · have E := (if_pos c24).symm.trans E
        cases E
        exact hs
      have E := (if_neg c24).symm.trans E
      obtain ⟨z1, E⟩ := gd_some E
      obtain ⟨z2, E⟩ := gd_some E
      by_cases c23 : (8 : Int32) ≤ (ea_i h (b0 + 32) (Int32.toNatClampNeg (((1220 : Int32) * x1) + ((2 : Int32) * x5))))
      · have E := (if_pos c23).symm.trans E
        by_cases c16 : (ea_i h (b0 + 32) (Int32.toNatClampNeg (((1220 : Int32) * x1) + ((2 : Int32) * x5)))) = (11 : Int32)
        · have E := (if_pos c16).symm.trans E
          obtain ⟨z12, E⟩ := gd_some E
          obtain ⟨z13, E⟩ := gd_some E
          obtain ⟨z14, E⟩ := gd_some E
          exact ih 6 (x1 : Int32) 0 (x3 : Int32) (x4 : Int32) ((x5 + (1 : Int32)) : Int32) (ea_wi h (b0 + 37) (Int32.toNatClampNeg (x4 - (1 : Int32))) ((ea_i h (b0 + 37) (Int32.toNatClampNeg (x4 - (1 : Int32)))) / (ea_i h (b0 + 32) (Int32.toNatClampNeg ((((1220 : Int32) * x1) + ((2 : Int32) * x5)) + (1 : Int32)))))) _ _ E (ShM_wi hs)
        have E := (if_neg c16).symm.trans E
        by_cases c11 : (ea_i h (b0 + 32) (Int32.toNatClampNeg (((1220 : Int32) * x1) + ((2 : Int32) * x5)))) = (15 : Int32)
        · have E := (if_pos c11).symm.trans E
          obtain ⟨z8, E⟩ := gd_some E
          obtain ⟨z9, E⟩ := gd_some E
          exact ih 6 (x1 : Int32) 0 (x3 : Int32) (x4 : Int32) ((x5 + (1 : Int32)) : Int32) (ea_wi h (b0 + 37) (Int32.toNatClampNeg (x4 - (1 : Int32))) ((1 : Int32) - (ea_i h (b0 + 37) (Int32.toNatClampNeg (x4 - (1 : Int32)))))) _ _ E (ShM_wi hs)
        have E := (if_neg c11).symm.trans E
        obtain ⟨z3, E⟩ := gd_some E
        obtain ⟨z4, E⟩ := gd_some E
        obtain ⟨z6, E⟩ := gd_some E
        exact ih 6 (x1 : Int32) 0 (x3 : Int32) ((x4 + ((-1) : Int32)) : Int32) ((x5 + (1 : Int32)) : Int32) (ea_wi h (b0 + 37) (Int32.toNatClampNeg ((x4 + ((-1) : Int32)) - (1 : Int32))) (vX12_both ((ea_i h (b0 + 32) (Int32.toNatClampNeg (((1220 : Int32) * x1) + ((2 : Int32) * x5)))) : Int32) ((ea_i h (b0 + 37) (Int32.toNatClampNeg ((x4 + ((-1) : Int32)) - (1 : Int32)))) : Int32) ((ea_i h (b0 + 37) (Int32.toNatClampNeg (x4 + ((-1) : Int32)))) : Int32) h)) _ _ E (ShM_wi hs)
      have E := (if_neg c23).symm.trans E
      by_cases c22 : (ea_i h (b0 + 32) (Int32.toNatClampNeg (((1220 : Int32) * x1) + ((2 : Int32) * x5)))) = (0 : Int32)
      · have E := (if_pos c22).symm.trans E
        obtain ⟨z20, E⟩ := gd_some E
        exact ih 6 (x1 : Int32) 0 (x3 : Int32) ((x4 + (1 : Int32)) : Int32) ((x5 + (1 : Int32)) : Int32) (ea_wi h (b0 + 37) (Int32.toNatClampNeg x4) (ea_i h (b0 + 32) (Int32.toNatClampNeg ((((1220 : Int32) * x1) + ((2 : Int32) * x5)) + (1 : Int32))))) _ _ E (ShM_wi hs)
      have E := (if_neg c22).symm.trans E
      obtain ⟨z17, E⟩ := gd_some E
      obtain ⟨z18, E⟩ := gd_some E
      exact ih 6 (x1 : Int32) 0 (x3 : Int32) ((x4 + (1 : Int32)) : Int32) ((x5 + (1 : Int32)) : Int32) (ea_wi h (b0 + 37) (Int32.toNatClampNeg x4) (ea_i h (b0 + 65) (Int32.toNatClampNeg (ea_i h (b0 + 32) (Int32.toNatClampNeg (((1220 : Int32) * x1) + ((2 : Int32) * x5))))))) _ _ E (ShM_wi hs)
    have E := (if_neg el1).symm.trans E
    cases E
theorem shX12_comesTo {b0 : Nat} {x1 : Int32} {x2 : Int32} {x3 : Int32} {h : ea_H} (hs : ShM b0 h) : ShM b0 (wX12_comesTo b0 x1 x2 x3 h) := by
  unfold wX12_comesTo
  cases K : qX12_comesTo b0 x1 x2 x3 h with
  | none => exact hs
  | some x => obtain ⟨x, y⟩ := x; unfold qX12_comesTo at K; exact zX12_comesTo _ _ _ _ _ _ _ _ _ _ K hs
noncomputable def vX12_isFree (b0 : Nat) (x1 : Int32) (x2 : Int32) (h : ea_H) : Int32 := (if (ea_i h (b0 + 38) (Int32.toNatClampNeg x1)) = (2 : Int32) then (if (ea_i h (b0 + 25) (Int32.toNatClampNeg x2)) < (ea_i h (b0 + 46) (Int32.toNatClampNeg x1)) then (0 : Int32) else (1 : Int32)) else (0 : Int32))
def okX12_isFree (b0 : Nat) (x1 : Int32) (x2 : Int32) (h : ea_H) : Prop := vp_in x1 120 ∧ (((ea_i h (b0 + 38) (Int32.toNatClampNeg x1)) = (2 : Int32) → vp_in x1 120 ∧ (vp_in x2 6)) ∧ (¬ (ea_i h (b0 + 38) (Int32.toNatClampNeg x1)) = (2 : Int32) → True))
theorem bo_vX12_isFree (b0 : Nat) (x1 : Int32) (x2 : Int32) (h : ea_H) : vX12_isFree b0 x1 x2 h = 0 ∨ vX12_isFree b0 x1 x2 h = 1 := (ea_itB (ea_itB (Or.inl rfl) (Or.inr rfl)) (Or.inl rfl))
theorem sX12_isFree {d : Nat} {b0 : Nat} {x1 : Int32} {x2 : Int32} {h : ea_H} (hd : 1 ≤ d) (hs : ShM b0 h) (K : okX12_isFree b0 x1 x2 h) : ea_Met mX12_isFree d [vR (some (b0 + 0)), vI x1, vI x2] h (some (vI (vX12_isFree b0 x1 x2 h))) h := by
  obtain ⟨X, EX⟩ : ∃ z, z = vX12_isFree b0 x1 x2 h := ⟨_, rfl⟩
  rw [← EX]
  unfold vX12_isFree at EX
  unfold okX12_isFree at K
  refine ea_enter rfl (Nat.le_of_ble_eq_true rfl) ?_
  refine ea_aload_n (pc := 0) dX12_isFree_0 rfl 0 rfl ?_
  refine ea_getR (pc := 1) dX12_isFree_1 ec_12 (k := 64) (Nat.le_of_ble_eq_true rfl) rfl (Or.inl ew_1409) (hs.1 0 (by decide)).1 (hs.1 0 (by decide)).2.1 (hs.2 0 64 rfl) ?_
  refine ea_iload_n (pc := 4) dX12_isFree_4 rfl 1 rfl ?_
  obtain ⟨z1, K⟩ := K
  refine ea_iald (pc := 5) dX12_isFree_5 (hs.1 38 (by decide)).1 (hs.1 38 (by decide)).2.1 (ea_vpl (hs.1 38 (by decide)).2.2 z1) ?_
  refine ea_iconst (pc := 6) dX12_isFree_6 (v := 2) rfl ?_
  refine ea_icmp_ne (pc := 7) (tgt := 29) dX12_isFree_7 rfl (fun c5 => ?_) (fun c5 => ?_)
  · have EX := EX.trans (if_neg c5)
    refine ea_iconst (pc := 29) dX12_isFree_29 (v := 0) rfl ?_
    subst EX
    exact ea_ireturn (pc := 30) dX12_isFree_30 rfl (ea_bn (Or.inl rfl))
  · have EX := EX.trans (if_pos c5)
    have K := K.1 c5
    refine ea_aload_n (pc := 10) dX12_isFree_10 rfl 0 rfl ?_
    refine ea_getR (pc := 11) dX12_isFree_11 ec_12 (k := 72) (Nat.le_of_ble_eq_true rfl) rfl (Or.inl ew_1417) (hs.1 0 (by decide)).1 (hs.1 0 (by decide)).2.1 (hs.2 0 72 rfl) ?_
    refine ea_iload_n (pc := 14) dX12_isFree_14 rfl 1 rfl ?_
    obtain ⟨z2, K⟩ := K
    refine ea_iald (pc := 15) dX12_isFree_15 (hs.1 46 (by decide)).1 (hs.1 46 (by decide)).2.1 (ea_vpl (hs.1 46 (by decide)).2.2 z2) ?_
    refine ea_aload_n (pc := 16) dX12_isFree_16 rfl 0 rfl ?_
    refine ea_getR (pc := 17) dX12_isFree_17 ec_12 (k := 30) (Nat.le_of_ble_eq_true rfl) rfl (Or.inl ew_1375) (hs.1 0 (by decide)).1 (hs.1 0 (by decide)).2.1 (hs.2 0 30 rfl) ?_
    refine ea_iload_n (pc := 20) dX12_isFree_20 rfl 2 rfl ?_
    have z3 := K
    refine ea_iald (pc := 21) dX12_isFree_21 (hs.1 25 (by decide)).1 (hs.1 25 (by decide)).2.1 (ea_vpl (hs.1 25 (by decide)).2.2 z3) ?_
    refine ea_icmp_gt (pc := 22) (tgt := 29) dX12_isFree_22 rfl (fun c4 => ?_) (fun c4 => ?_)
    · have EX := EX.trans (if_pos c4)
      refine ea_iconst (pc := 29) dX12_isFree_29 (v := 0) rfl ?_
      subst EX
      exact ea_ireturn (pc := 30) dX12_isFree_30 rfl (ea_bn (Or.inl rfl))
    · have EX := EX.trans (if_neg c4)
      refine ea_iconst (pc := 25) dX12_isFree_25 (v := 1) rfl ?_
      refine ea_goto (pc := 26) (tgt := 30) dX12_isFree_26 rfl ?_
      subst EX
      exact ea_ireturn (pc := 30) dX12_isFree_30 rfl (ea_bn (Or.inr rfl))
noncomputable def gX12_lineOf (b0 : Nat) : Nat → Nat → Int32 → Int32 → Int32 → ea_H → Option (Int32 × ea_H)
  | 0, _, _, _, _, _ => none
  | f + 1, lbl, x1, x2, x3, h =>
    if lbl = 0 then (gd ((okX12_gathers b0 (x1 : Int32) h)) (gX12_lineOf b0 f 7 0 (x2 : Int32) (0 : Int32) (wX12_gathers b0 (x1 : Int32) h))) else
    if lbl = 7 then (gd (vp_in x2 6) (if (ea_i h (b0 + 29) (Int32.toNatClampNeg x2)) ≤ x3 then (some (((-1) : Int32), h)) else (gd (vp_in (((24 : Int32) * x2) + x3) 144) (gd (vp_in ((((25 : Int32) * x2) + x3) + (1 : Int32)) 150) (if (ea_i h (b0 + 31) (Int32.toNatClampNeg (((24 : Int32) * x2) + x3))) = (ea_i h (b0 + 30) (Int32.toNatClampNeg ((((25 : Int32) * x2) + x3) + (1 : Int32)))) then (some (x3, h)) else (gd ((okX12_comesTo b0 (x2 : Int32) ((ea_i h (b0 + 31) (Int32.toNatClampNeg (((24 : Int32) * x2) + x3))) : Int32) ((ea_i h (b0 + 30) (Int32.toNatClampNeg ((((25 : Int32) * x2) + x3) + (1 : Int32)))) : Int32) h)) (if (vX12_comesTo b0 (x2 : Int32) ((ea_i h (b0 + 31) (Int32.toNatClampNeg (((24 : Int32) * x2) + x3))) : Int32) ((ea_i h (b0 + 30) (Int32.toNatClampNeg ((((25 : Int32) * x2) + x3) + (1 : Int32)))) : Int32) h) = (1 : Int32) then (some (x3, (wX12_comesTo b0 (x2 : Int32) ((ea_i h (b0 + 31) (Int32.toNatClampNeg (((24 : Int32) * x2) + x3))) : Int32) ((ea_i h (b0 + 30) (Int32.toNatClampNeg ((((25 : Int32) * x2) + x3) + (1 : Int32)))) : Int32) h))) else (gX12_lineOf b0 f 7 0 (x2 : Int32) ((x3 + (1 : Int32)) : Int32) (wX12_comesTo b0 (x2 : Int32) ((ea_i h (b0 + 31) (Int32.toNatClampNeg (((24 : Int32) * x2) + x3))) : Int32) ((ea_i h (b0 + 30) (Int32.toNatClampNeg ((((25 : Int32) * x2) + x3) + (1 : Int32)))) : Int32) h))))))))) else none
theorem tX12_lineOf {d : Nat} {b0 : Nat} {h0 : ea_H} (hd : 3 ≤ d) : ∀ (f lbl : Nat) (x1 : Int32) (x2 : Int32) (x3 : Int32) (h : ea_H) (r : Int32) (h' : ea_H), gX12_lineOf b0 f lbl x1 x2 x3 h = some (r, h') → ShM b0 h → (lbl = 0 → ea_W mX12_lineOf d h0 (some (vI r)) h' 0 [(0, vR (some (b0 + 0))), (1, vI x1), (2, vI x2)] [] h) ∧ (lbl = 7 → ea_W mX12_lineOf d h0 (some (vI r)) h' 7 [(0, vR (some (b0 + 0))), (2, vI x2), (3, vI x3)] [] h) := by
  intro f
  induction f with
  | zero => intro lbl x1 x2 x3 h r h' E; cases E
  | succ f ih =>
    intro lbl x1 x2 x3 h r h' E hs
    unfold gX12_lineOf at E
    refine ⟨?_, ?_⟩
    · intro el
      subst el
      have E := (if_pos rfl).symm.trans E
      refine ea_aload_n (pc := 0) dX12_lineOf_0 rfl 0 rfl ?_
      refine ea_iload_n (pc := 1) dX12_lineOf_1 rfl 1 rfl ?_
      obtain ⟨z1, E⟩ := gd_some E
      refine ea_callV (pc := 2) (d' := d - 1) (As := [vI x1]) (st := []) dX12_lineOf_2 kX12_gathers (sX12_gathers (d := d - 1) (by omega) hs z1) (by omega) rfl (Nat.le_of_ble_eq_true rfl) ew_1999 ew_2001 ew_86 (ci := 12) rfl (by decide) (hs.1 0 (by decide)).1 (hs.1 0 (by decide)).2.1 ?_
      have hs2 : ShM b0 (wX12_gathers b0 (x1 : Int32) h) := shX12_gathers hs
      refine ea_iconst (pc := 5) dX12_lineOf_5 (v := 0) rfl ?_
      refine ea_istore_n (pc := 6) (lv' := [(0, vR (some (b0 + 0))), (2, vI x2), (3, vI 0)]) dX12_lineOf_6 rfl (Nat.le_of_ble_eq_true rfl) [1, 3, 0] rfl ?_
      exact ((ih 7 0 (x2 : Int32) (0 : Int32) (wX12_gathers b0 (x1 : Int32) h) _ _ E hs2).2 rfl)
    intro el
    subst el
    have E := (if_neg (by decide)).symm.trans E
    have E := (if_pos rfl).symm.trans E
    refine ea_iload_n (pc := 7) dX12_lineOf_7 rfl 2 rfl ?_
    refine ea_aload_n (pc := 8) dX12_lineOf_8 rfl 0 rfl ?_
    refine ea_getR (pc := 9) dX12_lineOf_9 ec_12 (k := 34) (Nat.le_of_ble_eq_true rfl) rfl (Or.inl ew_1379) (hs.1 0 (by decide)).1 (hs.1 0 (by decide)).2.1 (hs.2 0 34 rfl) ?_
    refine ea_iload_n (pc := 12) dX12_lineOf_12 rfl 1 rfl ?_
    obtain ⟨z3, E⟩ := gd_some E
    refine ea_iald (pc := 13) dX12_lineOf_13 (hs.1 29 (by decide)).1 (hs.1 29 (by decide)).2.1 (ea_vpl (hs.1 29 (by decide)).2.2 z3) ?_
    refine ea_icmp_ge (pc := 14) (tgt := 73) dX12_lineOf_14 rfl (fun c10 => ?_) (fun c10 => ?_)
    · have E := (if_pos c10).symm.trans E
      refine ea_iconst (pc := 73) dX12_lineOf_73 (v := (-1)) rfl ?_
      cases E
      exact ea_ireturn (pc := 74) dX12_lineOf_74 rfl rfl
    · have E := (if_neg c10).symm.trans E
      refine ea_aload_n (pc := 17) dX12_lineOf_17 rfl 0 rfl ?_
      refine ea_getR (pc := 18) dX12_lineOf_18 ec_12 (k := 36) (Nat.le_of_ble_eq_true rfl) rfl (Or.inl ew_1381) (hs.1 0 (by decide)).1 (hs.1 0 (by decide)).2.1 (hs.2 0 36 rfl) ?_
      refine ea_bipush (pc := 21) dX12_lineOf_21 (v := 24) rfl ?_
      refine ea_iload_n (pc := 23) dX12_lineOf_23 rfl 1 rfl ?_
      refine ea_imul (pc := 24) dX12_lineOf_24 ?_
      refine ea_iload_n (pc := 25) dX12_lineOf_25 rfl 2 rfl ?_
      refine ea_iadd (pc := 26) dX12_lineOf_26 ?_
      obtain ⟨z4, E⟩ := gd_some E
      refine ea_iald (pc := 27) dX12_lineOf_27 (hs.1 31 (by decide)).1 (hs.1 31 (by decide)).2.1 (ea_vpl (hs.1 31 (by decide)).2.2 z4) ?_
      refine ea_istore (pc := 28) (lv' := [(0, vR (some (b0 + 0))), (2, vI x2), (3, vI x3), (4, vI (ea_i h (b0 + 31) (Int32.toNatClampNeg (((24 : Int32) * x2) + x3))))]) dX12_lineOf_28 (Nat.le_of_ble_eq_true rfl) [1, 2, 3, 0] rfl ?_
      refine ea_aload_n (pc := 30) dX12_lineOf_30 rfl 0 rfl ?_
      refine ea_getR (pc := 31) dX12_lineOf_31 ec_12 (k := 35) (Nat.le_of_ble_eq_true rfl) rfl (Or.inl ew_1380) (hs.1 0 (by decide)).1 (hs.1 0 (by decide)).2.1 (hs.2 0 35 rfl) ?_
      refine ea_bipush (pc := 34) dX12_lineOf_34 (v := 25) rfl ?_
      refine ea_iload_n (pc := 36) dX12_lineOf_36 rfl 1 rfl ?_
      refine ea_imul (pc := 37) dX12_lineOf_37 ?_
      refine ea_iload_n (pc := 38) dX12_lineOf_38 rfl 2 rfl ?_
      refine ea_iadd (pc := 39) dX12_lineOf_39 ?_
      refine ea_iconst (pc := 40) dX12_lineOf_40 (v := 1) rfl ?_
      refine ea_iadd (pc := 41) dX12_lineOf_41 ?_
      obtain ⟨z5, E⟩ := gd_some E
      refine ea_iald (pc := 42) dX12_lineOf_42 (hs.1 30 (by decide)).1 (hs.1 30 (by decide)).2.1 (ea_vpl (hs.1 30 (by decide)).2.2 z5) ?_
      refine ea_istore (pc := 43) (lv' := [(0, vR (some (b0 + 0))), (2, vI x2), (3, vI x3), (4, vI (ea_i h (b0 + 31) (Int32.toNatClampNeg (((24 : Int32) * x2) + x3)))), (5, vI (ea_i h (b0 + 30) (Int32.toNatClampNeg ((((25 : Int32) * x2) + x3) + (1 : Int32)))))]) dX12_lineOf_43 (Nat.le_of_ble_eq_true rfl) [1, 2, 3, 4, 0] rfl ?_
      refine ea_iload (pc := 45) dX12_lineOf_45 3 rfl ?_
      refine ea_iload (pc := 47) dX12_lineOf_47 4 rfl ?_
      refine ea_icmp_eq (pc := 49) (tgt := 65) dX12_lineOf_49 rfl (fun c9 => ?_) (fun c9 => ?_)
      · have E := (if_pos c9).symm.trans E
        refine ea_iload_n (pc := 65) dX12_lineOf_65 rfl 2 rfl ?_
        cases E
        exact ea_ireturn (pc := 66) dX12_lineOf_66 rfl rfl
      · have E := (if_neg c9).symm.trans E
        refine ea_aload_n (pc := 52) dX12_lineOf_52 rfl 0 rfl ?_
        refine ea_iload_n (pc := 53) dX12_lineOf_53 rfl 1 rfl ?_
        refine ea_iload (pc := 54) dX12_lineOf_54 3 rfl ?_
        refine ea_iload (pc := 56) dX12_lineOf_56 4 rfl ?_
        obtain ⟨z6, E⟩ := gd_some E
        refine ea_callV (pc := 58) (d' := d - 1) (As := [vI x2, vI (ea_i h (b0 + 31) (Int32.toNatClampNeg (((24 : Int32) * x2) + x3))), vI (ea_i h (b0 + 30) (Int32.toNatClampNeg ((((25 : Int32) * x2) + x3) + (1 : Int32))))]) (st := []) dX12_lineOf_58 kX12_comesTo (sX12_comesTo (d := d - 1) (by omega) hs z6) (by omega) rfl (Nat.le_of_ble_eq_true rfl) ew_2003 ew_2005 ew_87 (ci := 12) rfl (by decide) (hs.1 0 (by decide)).1 (hs.1 0 (by decide)).2.1 ?_
        have hs7 : ShM b0 (wX12_comesTo b0 (x2 : Int32) ((ea_i h (b0 + 31) (Int32.toNatClampNeg (((24 : Int32) * x2) + x3))) : Int32) ((ea_i h (b0 + 30) (Int32.toNatClampNeg ((((25 : Int32) * x2) + x3) + (1 : Int32)))) : Int32) h) := shX12_comesTo hs
        refine ea_iconst (pc := 61) dX12_lineOf_61 (v := 1) rfl ?_
        refine ea_icmp_ne (pc := 62) (tgt := 67) dX12_lineOf_62 rfl (fun c8 => ?_) (fun c8 => ?_)
        · have E := (if_neg c8).symm.trans E
          refine ea_iinc (pc := 67) (v := 1) (lv' := [(0, vR (some (b0 + 0))), (2, vI x2), (3, vI (x3 + (1 : Int32)))]) dX12_lineOf_67 2 rfl rfl (Nat.le_of_ble_eq_true rfl) [1, 2, 0] rfl ?_
          refine ea_goto (pc := 70) (tgt := 7) dX12_lineOf_70 rfl ?_
          exact ((ih 7 0 (x2 : Int32) ((x3 + (1 : Int32)) : Int32) (wX12_comesTo b0 (x2 : Int32) ((ea_i h (b0 + 31) (Int32.toNatClampNeg (((24 : Int32) * x2) + x3))) : Int32) ((ea_i h (b0 + 30) (Int32.toNatClampNeg ((((25 : Int32) * x2) + x3) + (1 : Int32)))) : Int32) h) _ _ E hs7).2 rfl)
        · have E := (if_pos c8).symm.trans E
          refine ea_iload_n (pc := 65) dX12_lineOf_65 rfl 2 rfl ?_
          cases E
          exact ea_ireturn (pc := 66) dX12_lineOf_66 rfl rfl
noncomputable def qX12_lineOf (b0 : Nat) (x1 : Int32) (x2 : Int32) (h : ea_H) : Option (Int32 × ea_H) := gX12_lineOf b0 1000000000 0 x1 x2 0 h
def okX12_lineOf (b0 : Nat) (x1 : Int32) (x2 : Int32) (h : ea_H) : Prop := ∃ x, qX12_lineOf b0 x1 x2 h = some x
noncomputable def vX12_lineOf (b0 : Nat) (x1 : Int32) (x2 : Int32) (h : ea_H) : Int32 := ((qX12_lineOf b0 x1 x2 h).getD (0, h)).1
noncomputable def wX12_lineOf (b0 : Nat) (x1 : Int32) (x2 : Int32) (h : ea_H) : ea_H := ((qX12_lineOf b0 x1 x2 h).getD (0, h)).2
theorem sX12_lineOf {d : Nat} {b0 : Nat} {x1 : Int32} {x2 : Int32} {h : ea_H} (hd : 3 ≤ d) (hs : ShM b0 h) (K : okX12_lineOf b0 x1 x2 h) : ea_Met mX12_lineOf d [vR (some (b0 + 0)), vI x1, vI x2] h (some (vI (vX12_lineOf b0 x1 x2 h))) (wX12_lineOf b0 x1 x2 h) := by
  obtain ⟨⟨x, y⟩, K⟩ := K
  unfold wX12_lineOf vX12_lineOf
  rw [K]
  unfold qX12_lineOf at K
  exact ea_enter rfl (Nat.le_of_ble_eq_true rfl) ((tX12_lineOf hd 1000000000 0 x1 x2 0 h x y K hs).1 rfl)
theorem zX12_lineOf {b0 : Nat} : ∀ (f lbl : Nat) (x1 : Int32) (x2 : Int32) (x3 : Int32) (h : ea_H) (r : Int32) (h' : ea_H), gX12_lineOf b0 f lbl x1 x2 x3 h = some (r, h') → ShM b0 h → ShM b0 h' := by
  intro f
  induction f with
  | zero => intro lbl x1 x2 x3 h r h' E; cases E
  | succ f ih =>
    intro lbl x1 x2 x3 h r h' E hs
    unfold gX12_lineOf at E
    by_cases el0 : lbl = 0
    · have E := (if_pos el0).symm.trans E
      obtain ⟨z1, E⟩ := gd_some E
      exact ih 7 0 (x2 : Int32) (0 : Int32) (wX12_gathers b0 (x1 : Int32) h) _ _ E (shX12_gathers hs)
    have E := (if_neg el0).symm.trans E
    by_cases el1 : lbl = 7
    · have E := (if_pos el1).symm.trans E
      obtain ⟨z3, E⟩ := gd_some E
      by_cases c10 : (ea_i h (b0 + 29) (Int32.toNatClampNeg x2)) ≤ x3
      · have E := (if_pos c10).symm.trans E
        cases E
        exact hs
      have E := (if_neg c10).symm.trans E
      obtain ⟨z4, E⟩ := gd_some E
      obtain ⟨z5, E⟩ := gd_some E
      by_cases c9 : (ea_i h (b0 + 31) (Int32.toNatClampNeg (((24 : Int32) * x2) + x3))) = (ea_i h (b0 + 30) (Int32.toNatClampNeg ((((25 : Int32) * x2) + x3) + (1 : Int32))))
      · have E := (if_pos c9).symm.trans E
        cases E
        exact hs
      have E := (if_neg c9).symm.trans E
      obtain ⟨z6, E⟩ := gd_some E
      by_cases c8 : (vX12_comesTo b0 (x2 : Int32) ((ea_i h (b0 + 31) (Int32.toNatClampNeg (((24 : Int32) * x2) + x3))) : Int32) ((ea_i h (b0 + 30) (Int32.toNatClampNeg ((((25 : Int32) * x2) + x3) + (1 : Int32)))) : Int32) h) = (1 : Int32)
      · have E := (if_pos c8).symm.trans E
        cases E
        exact (shX12_comesTo hs)
      have E := (if_neg c8).symm.trans E
      exact ih 7 0 (x2 : Int32) ((x3 + (1 : Int32)) : Int32) (wX12_comesTo b0 (x2 : Int32) ((ea_i h (b0 + 31) (Int32.toNatClampNeg (((24 : Int32) * x2) + x3))) : Int32) ((ea_i h (b0 + 30) (Int32.toNatClampNeg ((((25 : Int32) * x2) + x3) + (1 : Int32)))) : Int32) h) _ _ E (shX12_comesTo hs)
    have E := (if_neg el1).symm.trans E
    cases E
theorem shX12_lineOf {b0 : Nat} {x1 : Int32} {x2 : Int32} {h : ea_H} (hs : ShM b0 h) : ShM b0 (wX12_lineOf b0 x1 x2 h) := by
  unfold wX12_lineOf
  cases K : qX12_lineOf b0 x1 x2 h with
  | none => exact hs
  | some x => obtain ⟨x, y⟩ := x; unfold qX12_lineOf at K; exact zX12_lineOf _ _ _ _ _ _ _ _ K hs
noncomputable def vX12_chargeBy (b0 : Nat) (x1 : Int32) (x2 : Int32) (h : ea_H) : Int32 := (if (vX12_isFree b0 (x1 : Int32) (x2 : Int32) h) = (0 : Int32) then (if (vX12_lineOf b0 (x1 : Int32) (x2 : Int32) h) = ((-1) : Int32) then (if (0 : Int32) ≤ (0 : Int32) then (if (0 : Int32) ≤ (99999 : Int32) then (if ((ea_i (wX12_lineOf b0 (x1 : Int32) (x2 : Int32) h) (b0 + 44) (Int32.toNatClampNeg x1)) - (ea_i (wX12_lineOf b0 (x1 : Int32) (x2 : Int32) h) (b0 + 44) (Int32.toNatClampNeg x1)) / (1440 : Int32) * (1440 : Int32)) ≤ (ea_i (wX12_lineOf b0 (x1 : Int32) (x2 : Int32) h) (b0 + 24) (Int32.toNatClampNeg x2)) then (if (ea_i (wX12_lineOf b0 (x1 : Int32) (x2 : Int32) h) (b0 + 38) (Int32.toNatClampNeg x1)) = (3 : Int32) then (if (ea_i (wX12_lineOf b0 (x1 : Int32) (x2 : Int32) h) (b0 + 38) (Int32.toNatClampNeg x1)) = (4 : Int32) then (((0 : Int32) + (ea_i (wX12_lineOf b0 (x1 : Int32) (x2 : Int32) h) (b0 + 26) (Int32.toNatClampNeg x2))) + (ea_i (wX12_lineOf b0 (x1 : Int32) (x2 : Int32) h) (b0 + 27) (Int32.toNatClampNeg x2))) else ((0 : Int32) + (ea_i (wX12_lineOf b0 (x1 : Int32) (x2 : Int32) h) (b0 + 26) (Int32.toNatClampNeg x2)))) else (if (ea_i (wX12_lineOf b0 (x1 : Int32) (x2 : Int32) h) (b0 + 38) (Int32.toNatClampNeg x1)) = (4 : Int32) then ((0 : Int32) + (ea_i (wX12_lineOf b0 (x1 : Int32) (x2 : Int32) h) (b0 + 27) (Int32.toNatClampNeg x2))) else (0 : Int32))) else (if (ea_i (wX12_lineOf b0 (x1 : Int32) (x2 : Int32) h) (b0 + 38) (Int32.toNatClampNeg x1)) = (3 : Int32) then (if (ea_i (wX12_lineOf b0 (x1 : Int32) (x2 : Int32) h) (b0 + 38) (Int32.toNatClampNeg x1)) = (4 : Int32) then ((((0 : Int32) + (ea_i (wX12_lineOf b0 (x1 : Int32) (x2 : Int32) h) (b0 + 23) (Int32.toNatClampNeg x2))) + (ea_i (wX12_lineOf b0 (x1 : Int32) (x2 : Int32) h) (b0 + 26) (Int32.toNatClampNeg x2))) + (ea_i (wX12_lineOf b0 (x1 : Int32) (x2 : Int32) h) (b0 + 27) (Int32.toNatClampNeg x2))) else (((0 : Int32) + (ea_i (wX12_lineOf b0 (x1 : Int32) (x2 : Int32) h) (b0 + 23) (Int32.toNatClampNeg x2))) + (ea_i (wX12_lineOf b0 (x1 : Int32) (x2 : Int32) h) (b0 + 26) (Int32.toNatClampNeg x2)))) else (if (ea_i (wX12_lineOf b0 (x1 : Int32) (x2 : Int32) h) (b0 + 38) (Int32.toNatClampNeg x1)) = (4 : Int32) then (((0 : Int32) + (ea_i (wX12_lineOf b0 (x1 : Int32) (x2 : Int32) h) (b0 + 23) (Int32.toNatClampNeg x2))) + (ea_i (wX12_lineOf b0 (x1 : Int32) (x2 : Int32) h) (b0 + 27) (Int32.toNatClampNeg x2))) else ((0 : Int32) + (ea_i (wX12_lineOf b0 (x1 : Int32) (x2 : Int32) h) (b0 + 23) (Int32.toNatClampNeg x2)))))) else (if ((ea_i (wX12_lineOf b0 (x1 : Int32) (x2 : Int32) h) (b0 + 44) (Int32.toNatClampNeg x1)) - (ea_i (wX12_lineOf b0 (x1 : Int32) (x2 : Int32) h) (b0 + 44) (Int32.toNatClampNeg x1)) / (1440 : Int32) * (1440 : Int32)) ≤ (ea_i (wX12_lineOf b0 (x1 : Int32) (x2 : Int32) h) (b0 + 24) (Int32.toNatClampNeg x2)) then (if (ea_i (wX12_lineOf b0 (x1 : Int32) (x2 : Int32) h) (b0 + 38) (Int32.toNatClampNeg x1)) = (3 : Int32) then (if (ea_i (wX12_lineOf b0 (x1 : Int32) (x2 : Int32) h) (b0 + 38) (Int32.toNatClampNeg x1)) = (4 : Int32) then (((99999 : Int32) + (ea_i (wX12_lineOf b0 (x1 : Int32) (x2 : Int32) h) (b0 + 26) (Int32.toNatClampNeg x2))) + (ea_i (wX12_lineOf b0 (x1 : Int32) (x2 : Int32) h) (b0 + 27) (Int32.toNatClampNeg x2))) else ((99999 : Int32) + (ea_i (wX12_lineOf b0 (x1 : Int32) (x2 : Int32) h) (b0 + 26) (Int32.toNatClampNeg x2)))) else (if (ea_i (wX12_lineOf b0 (x1 : Int32) (x2 : Int32) h) (b0 + 38) (Int32.toNatClampNeg x1)) = (4 : Int32) then ((99999 : Int32) + (ea_i (wX12_lineOf b0 (x1 : Int32) (x2 : Int32) h) (b0 + 27) (Int32.toNatClampNeg x2))) else (99999 : Int32))) else (if (ea_i (wX12_lineOf b0 (x1 : Int32) (x2 : Int32) h) (b0 + 38) (Int32.toNatClampNeg x1)) = (3 : Int32) then (if (ea_i (wX12_lineOf b0 (x1 : Int32) (x2 : Int32) h) (b0 + 38) (Int32.toNatClampNeg x1)) = (4 : Int32) then ((((99999 : Int32) + (ea_i (wX12_lineOf b0 (x1 : Int32) (x2 : Int32) h) (b0 + 23) (Int32.toNatClampNeg x2))) + (ea_i (wX12_lineOf b0 (x1 : Int32) (x2 : Int32) h) (b0 + 26) (Int32.toNatClampNeg x2))) + (ea_i (wX12_lineOf b0 (x1 : Int32) (x2 : Int32) h) (b0 + 27) (Int32.toNatClampNeg x2))) else (((99999 : Int32) + (ea_i (wX12_lineOf b0 (x1 : Int32) (x2 : Int32) h) (b0 + 23) (Int32.toNatClampNeg x2))) + (ea_i (wX12_lineOf b0 (x1 : Int32) (x2 : Int32) h) (b0 + 26) (Int32.toNatClampNeg x2)))) else (if (ea_i (wX12_lineOf b0 (x1 : Int32) (x2 : Int32) h) (b0 + 38) (Int32.toNatClampNeg x1)) = (4 : Int32) then (((99999 : Int32) + (ea_i (wX12_lineOf b0 (x1 : Int32) (x2 : Int32) h) (b0 + 23) (Int32.toNatClampNeg x2))) + (ea_i (wX12_lineOf b0 (x1 : Int32) (x2 : Int32) h) (b0 + 27) (Int32.toNatClampNeg x2))) else ((99999 : Int32) + (ea_i (wX12_lineOf b0 (x1 : Int32) (x2 : Int32) h) (b0 + 23) (Int32.toNatClampNeg x2))))))) else (if ((ea_i (wX12_lineOf b0 (x1 : Int32) (x2 : Int32) h) (b0 + 44) (Int32.toNatClampNeg x1)) - (ea_i (wX12_lineOf b0 (x1 : Int32) (x2 : Int32) h) (b0 + 44) (Int32.toNatClampNeg x1)) / (1440 : Int32) * (1440 : Int32)) ≤ (ea_i (wX12_lineOf b0 (x1 : Int32) (x2 : Int32) h) (b0 + 24) (Int32.toNatClampNeg x2)) then (if (ea_i (wX12_lineOf b0 (x1 : Int32) (x2 : Int32) h) (b0 + 38) (Int32.toNatClampNeg x1)) = (3 : Int32) then (if (ea_i (wX12_lineOf b0 (x1 : Int32) (x2 : Int32) h) (b0 + 38) (Int32.toNatClampNeg x1)) = (4 : Int32) then (((0 : Int32) + (ea_i (wX12_lineOf b0 (x1 : Int32) (x2 : Int32) h) (b0 + 26) (Int32.toNatClampNeg x2))) + (ea_i (wX12_lineOf b0 (x1 : Int32) (x2 : Int32) h) (b0 + 27) (Int32.toNatClampNeg x2))) else ((0 : Int32) + (ea_i (wX12_lineOf b0 (x1 : Int32) (x2 : Int32) h) (b0 + 26) (Int32.toNatClampNeg x2)))) else (if (ea_i (wX12_lineOf b0 (x1 : Int32) (x2 : Int32) h) (b0 + 38) (Int32.toNatClampNeg x1)) = (4 : Int32) then ((0 : Int32) + (ea_i (wX12_lineOf b0 (x1 : Int32) (x2 : Int32) h) (b0 + 27) (Int32.toNatClampNeg x2))) else (0 : Int32))) else (if (ea_i (wX12_lineOf b0 (x1 : Int32) (x2 : Int32) h) (b0 + 38) (Int32.toNatClampNeg x1)) = (3 : Int32) then (if (ea_i (wX12_lineOf b0 (x1 : Int32) (x2 : Int32) h) (b0 + 38) (Int32.toNatClampNeg x1)) = (4 : Int32) then ((((0 : Int32) + (ea_i (wX12_lineOf b0 (x1 : Int32) (x2 : Int32) h) (b0 + 23) (Int32.toNatClampNeg x2))) + (ea_i (wX12_lineOf b0 (x1 : Int32) (x2 : Int32) h) (b0 + 26) (Int32.toNatClampNeg x2))) + (ea_i (wX12_lineOf b0 (x1 : Int32) (x2 : Int32) h) (b0 + 27) (Int32.toNatClampNeg x2))) else (((0 : Int32) + (ea_i (wX12_lineOf b0 (x1 : Int32) (x2 : Int32) h) (b0 + 23) (Int32.toNatClampNeg x2))) + (ea_i (wX12_lineOf b0 (x1 : Int32) (x2 : Int32) h) (b0 + 26) (Int32.toNatClampNeg x2)))) else (if (ea_i (wX12_lineOf b0 (x1 : Int32) (x2 : Int32) h) (b0 + 38) (Int32.toNatClampNeg x1)) = (4 : Int32) then (((0 : Int32) + (ea_i (wX12_lineOf b0 (x1 : Int32) (x2 : Int32) h) (b0 + 23) (Int32.toNatClampNeg x2))) + (ea_i (wX12_lineOf b0 (x1 : Int32) (x2 : Int32) h) (b0 + 27) (Int32.toNatClampNeg x2))) else ((0 : Int32) + (ea_i (wX12_lineOf b0 (x1 : Int32) (x2 : Int32) h) (b0 + 23) (Int32.toNatClampNeg x2))))))) else (if (0 : Int32) ≤ (vX12_comesTo b0 (x2 : Int32) ((ea_i (wX12_lineOf b0 (x1 : Int32) (x2 : Int32) h) (b0 + 30) (Int32.toNatClampNeg (((25 : Int32) * x2) + (vX12_lineOf b0 (x1 : Int32) (x2 : Int32) h)))) : Int32) ((ea_i (wX12_lineOf b0 (x1 : Int32) (x2 : Int32) h) (b0 + 31) (Int32.toNatClampNeg (((24 : Int32) * x2) + (vX12_lineOf b0 (x1 : Int32) (x2 : Int32) h)))) : Int32) (wX12_lineOf b0 (x1 : Int32) (x2 : Int32) h)) then (if (vX12_comesTo b0 (x2 : Int32) ((ea_i (wX12_lineOf b0 (x1 : Int32) (x2 : Int32) h) (b0 + 30) (Int32.toNatClampNeg (((25 : Int32) * x2) + (vX12_lineOf b0 (x1 : Int32) (x2 : Int32) h)))) : Int32) ((ea_i (wX12_lineOf b0 (x1 : Int32) (x2 : Int32) h) (b0 + 31) (Int32.toNatClampNeg (((24 : Int32) * x2) + (vX12_lineOf b0 (x1 : Int32) (x2 : Int32) h)))) : Int32) (wX12_lineOf b0 (x1 : Int32) (x2 : Int32) h)) ≤ (99999 : Int32) then (if ((ea_i (wX12_comesTo b0 (x2 : Int32) ((ea_i (wX12_lineOf b0 (x1 : Int32) (x2 : Int32) h) (b0 + 30) (Int32.toNatClampNeg (((25 : Int32) * x2) + (vX12_lineOf b0 (x1 : Int32) (x2 : Int32) h)))) : Int32) ((ea_i (wX12_lineOf b0 (x1 : Int32) (x2 : Int32) h) (b0 + 31) (Int32.toNatClampNeg (((24 : Int32) * x2) + (vX12_lineOf b0 (x1 : Int32) (x2 : Int32) h)))) : Int32) (wX12_lineOf b0 (x1 : Int32) (x2 : Int32) h)) (b0 + 44) (Int32.toNatClampNeg x1)) - (ea_i (wX12_comesTo b0 (x2 : Int32) ((ea_i (wX12_lineOf b0 (x1 : Int32) (x2 : Int32) h) (b0 + 30) (Int32.toNatClampNeg (((25 : Int32) * x2) + (vX12_lineOf b0 (x1 : Int32) (x2 : Int32) h)))) : Int32) ((ea_i (wX12_lineOf b0 (x1 : Int32) (x2 : Int32) h) (b0 + 31) (Int32.toNatClampNeg (((24 : Int32) * x2) + (vX12_lineOf b0 (x1 : Int32) (x2 : Int32) h)))) : Int32) (wX12_lineOf b0 (x1 : Int32) (x2 : Int32) h)) (b0 + 44) (Int32.toNatClampNeg x1)) / (1440 : Int32) * (1440 : Int32)) ≤ (ea_i (wX12_comesTo b0 (x2 : Int32) ((ea_i (wX12_lineOf b0 (x1 : Int32) (x2 : Int32) h) (b0 + 30) (Int32.toNatClampNeg (((25 : Int32) * x2) + (vX12_lineOf b0 (x1 : Int32) (x2 : Int32) h)))) : Int32) ((ea_i (wX12_lineOf b0 (x1 : Int32) (x2 : Int32) h) (b0 + 31) (Int32.toNatClampNeg (((24 : Int32) * x2) + (vX12_lineOf b0 (x1 : Int32) (x2 : Int32) h)))) : Int32) (wX12_lineOf b0 (x1 : Int32) (x2 : Int32) h)) (b0 + 24) (Int32.toNatClampNeg x2)) then (if (ea_i (wX12_comesTo b0 (x2 : Int32) ((ea_i (wX12_lineOf b0 (x1 : Int32) (x2 : Int32) h) (b0 + 30) (Int32.toNatClampNeg (((25 : Int32) * x2) + (vX12_lineOf b0 (x1 : Int32) (x2 : Int32) h)))) : Int32) ((ea_i (wX12_lineOf b0 (x1 : Int32) (x2 : Int32) h) (b0 + 31) (Int32.toNatClampNeg (((24 : Int32) * x2) + (vX12_lineOf b0 (x1 : Int32) (x2 : Int32) h)))) : Int32) (wX12_lineOf b0 (x1 : Int32) (x2 : Int32) h)) (b0 + 38) (Int32.toNatClampNeg x1)) = (3 : Int32) then (if (ea_i (wX12_comesTo b0 (x2 : Int32) ((ea_i (wX12_lineOf b0 (x1 : Int32) (x2 : Int32) h) (b0 + 30) (Int32.toNatClampNeg (((25 : Int32) * x2) + (vX12_lineOf b0 (x1 : Int32) (x2 : Int32) h)))) : Int32) ((ea_i (wX12_lineOf b0 (x1 : Int32) (x2 : Int32) h) (b0 + 31) (Int32.toNatClampNeg (((24 : Int32) * x2) + (vX12_lineOf b0 (x1 : Int32) (x2 : Int32) h)))) : Int32) (wX12_lineOf b0 (x1 : Int32) (x2 : Int32) h)) (b0 + 38) (Int32.toNatClampNeg x1)) = (4 : Int32) then (((vX12_comesTo b0 (x2 : Int32) ((ea_i (wX12_lineOf b0 (x1 : Int32) (x2 : Int32) h) (b0 + 30) (Int32.toNatClampNeg (((25 : Int32) * x2) + (vX12_lineOf b0 (x1 : Int32) (x2 : Int32) h)))) : Int32) ((ea_i (wX12_lineOf b0 (x1 : Int32) (x2 : Int32) h) (b0 + 31) (Int32.toNatClampNeg (((24 : Int32) * x2) + (vX12_lineOf b0 (x1 : Int32) (x2 : Int32) h)))) : Int32) (wX12_lineOf b0 (x1 : Int32) (x2 : Int32) h)) + (ea_i (wX12_comesTo b0 (x2 : Int32) ((ea_i (wX12_lineOf b0 (x1 : Int32) (x2 : Int32) h) (b0 + 30) (Int32.toNatClampNeg (((25 : Int32) * x2) + (vX12_lineOf b0 (x1 : Int32) (x2 : Int32) h)))) : Int32) ((ea_i (wX12_lineOf b0 (x1 : Int32) (x2 : Int32) h) (b0 + 31) (Int32.toNatClampNeg (((24 : Int32) * x2) + (vX12_lineOf b0 (x1 : Int32) (x2 : Int32) h)))) : Int32) (wX12_lineOf b0 (x1 : Int32) (x2 : Int32) h)) (b0 + 26) (Int32.toNatClampNeg x2))) + (ea_i (wX12_comesTo b0 (x2 : Int32) ((ea_i (wX12_lineOf b0 (x1 : Int32) (x2 : Int32) h) (b0 + 30) (Int32.toNatClampNeg (((25 : Int32) * x2) + (vX12_lineOf b0 (x1 : Int32) (x2 : Int32) h)))) : Int32) ((ea_i (wX12_lineOf b0 (x1 : Int32) (x2 : Int32) h) (b0 + 31) (Int32.toNatClampNeg (((24 : Int32) * x2) + (vX12_lineOf b0 (x1 : Int32) (x2 : Int32) h)))) : Int32) (wX12_lineOf b0 (x1 : Int32) (x2 : Int32) h)) (b0 + 27) (Int32.toNatClampNeg x2))) else ((vX12_comesTo b0 (x2 : Int32) ((ea_i (wX12_lineOf b0 (x1 : Int32) (x2 : Int32) h) (b0 + 30) (Int32.toNatClampNeg (((25 : Int32) * x2) + (vX12_lineOf b0 (x1 : Int32) (x2 : Int32) h)))) : Int32) ((ea_i (wX12_lineOf b0 (x1 : Int32) (x2 : Int32) h) (b0 + 31) (Int32.toNatClampNeg (((24 : Int32) * x2) + (vX12_lineOf b0 (x1 : Int32) (x2 : Int32) h)))) : Int32) (wX12_lineOf b0 (x1 : Int32) (x2 : Int32) h)) + (ea_i (wX12_comesTo b0 (x2 : Int32) ((ea_i (wX12_lineOf b0 (x1 : Int32) (x2 : Int32) h) (b0 + 30) (Int32.toNatClampNeg (((25 : Int32) * x2) + (vX12_lineOf b0 (x1 : Int32) (x2 : Int32) h)))) : Int32) ((ea_i (wX12_lineOf b0 (x1 : Int32) (x2 : Int32) h) (b0 + 31) (Int32.toNatClampNeg (((24 : Int32) * x2) + (vX12_lineOf b0 (x1 : Int32) (x2 : Int32) h)))) : Int32) (wX12_lineOf b0 (x1 : Int32) (x2 : Int32) h)) (b0 + 26) (Int32.toNatClampNeg x2)))) else (if (ea_i (wX12_comesTo b0 (x2 : Int32) ((ea_i (wX12_lineOf b0 (x1 : Int32) (x2 : Int32) h) (b0 + 30) (Int32.toNatClampNeg (((25 : Int32) * x2) + (vX12_lineOf b0 (x1 : Int32) (x2 : Int32) h)))) : Int32) ((ea_i (wX12_lineOf b0 (x1 : Int32) (x2 : Int32) h) (b0 + 31) (Int32.toNatClampNeg (((24 : Int32) * x2) + (vX12_lineOf b0 (x1 : Int32) (x2 : Int32) h)))) : Int32) (wX12_lineOf b0 (x1 : Int32) (x2 : Int32) h)) (b0 + 38) (Int32.toNatClampNeg x1)) = (4 : Int32) then ((vX12_comesTo b0 (x2 : Int32) ((ea_i (wX12_lineOf b0 (x1 : Int32) (x2 : Int32) h) (b0 + 30) (Int32.toNatClampNeg (((25 : Int32) * x2) + (vX12_lineOf b0 (x1 : Int32) (x2 : Int32) h)))) : Int32) ((ea_i (wX12_lineOf b0 (x1 : Int32) (x2 : Int32) h) (b0 + 31) (Int32.toNatClampNeg (((24 : Int32) * x2) + (vX12_lineOf b0 (x1 : Int32) (x2 : Int32) h)))) : Int32) (wX12_lineOf b0 (x1 : Int32) (x2 : Int32) h)) + (ea_i (wX12_comesTo b0 (x2 : Int32) ((ea_i (wX12_lineOf b0 (x1 : Int32) (x2 : Int32) h) (b0 + 30) (Int32.toNatClampNeg (((25 : Int32) * x2) + (vX12_lineOf b0 (x1 : Int32) (x2 : Int32) h)))) : Int32) ((ea_i (wX12_lineOf b0 (x1 : Int32) (x2 : Int32) h) (b0 + 31) (Int32.toNatClampNeg (((24 : Int32) * x2) + (vX12_lineOf b0 (x1 : Int32) (x2 : Int32) h)))) : Int32) (wX12_lineOf b0 (x1 : Int32) (x2 : Int32) h)) (b0 + 27) (Int32.toNatClampNeg x2))) else (vX12_comesTo b0 (x2 : Int32) ((ea_i (wX12_lineOf b0 (x1 : Int32) (x2 : Int32) h) (b0 + 30) (Int32.toNatClampNeg (((25 : Int32) * x2) + (vX12_lineOf b0 (x1 : Int32) (x2 : Int32) h)))) : Int32) ((ea_i (wX12_lineOf b0 (x1 : Int32) (x2 : Int32) h) (b0 + 31) (Int32.toNatClampNeg (((24 : Int32) * x2) + (vX12_lineOf b0 (x1 : Int32) (x2 : Int32) h)))) : Int32) (wX12_lineOf b0 (x1 : Int32) (x2 : Int32) h)))) else (if (ea_i (wX12_comesTo b0 (x2 : Int32) ((ea_i (wX12_lineOf b0 (x1 : Int32) (x2 : Int32) h) (b0 + 30) (Int32.toNatClampNeg (((25 : Int32) * x2) + (vX12_lineOf b0 (x1 : Int32) (x2 : Int32) h)))) : Int32) ((ea_i (wX12_lineOf b0 (x1 : Int32) (x2 : Int32) h) (b0 + 31) (Int32.toNatClampNeg (((24 : Int32) * x2) + (vX12_lineOf b0 (x1 : Int32) (x2 : Int32) h)))) : Int32) (wX12_lineOf b0 (x1 : Int32) (x2 : Int32) h)) (b0 + 38) (Int32.toNatClampNeg x1)) = (3 : Int32) then (if (ea_i (wX12_comesTo b0 (x2 : Int32) ((ea_i (wX12_lineOf b0 (x1 : Int32) (x2 : Int32) h) (b0 + 30) (Int32.toNatClampNeg (((25 : Int32) * x2) + (vX12_lineOf b0 (x1 : Int32) (x2 : Int32) h)))) : Int32) ((ea_i (wX12_lineOf b0 (x1 : Int32) (x2 : Int32) h) (b0 + 31) (Int32.toNatClampNeg (((24 : Int32) * x2) + (vX12_lineOf b0 (x1 : Int32) (x2 : Int32) h)))) : Int32) (wX12_lineOf b0 (x1 : Int32) (x2 : Int32) h)) (b0 + 38) (Int32.toNatClampNeg x1)) = (4 : Int32) then ((((vX12_comesTo b0 (x2 : Int32) ((ea_i (wX12_lineOf b0 (x1 : Int32) (x2 : Int32) h) (b0 + 30) (Int32.toNatClampNeg (((25 : Int32) * x2) + (vX12_lineOf b0 (x1 : Int32) (x2 : Int32) h)))) : Int32) ((ea_i (wX12_lineOf b0 (x1 : Int32) (x2 : Int32) h) (b0 + 31) (Int32.toNatClampNeg (((24 : Int32) * x2) + (vX12_lineOf b0 (x1 : Int32) (x2 : Int32) h)))) : Int32) (wX12_lineOf b0 (x1 : Int32) (x2 : Int32) h)) + (ea_i (wX12_comesTo b0 (x2 : Int32) ((ea_i (wX12_lineOf b0 (x1 : Int32) (x2 : Int32) h) (b0 + 30) (Int32.toNatClampNeg (((25 : Int32) * x2) + (vX12_lineOf b0 (x1 : Int32) (x2 : Int32) h)))) : Int32) ((ea_i (wX12_lineOf b0 (x1 : Int32) (x2 : Int32) h) (b0 + 31) (Int32.toNatClampNeg (((24 : Int32) * x2) + (vX12_lineOf b0 (x1 : Int32) (x2 : Int32) h)))) : Int32) (wX12_lineOf b0 (x1 : Int32) (x2 : Int32) h)) (b0 + 23) (Int32.toNatClampNeg x2))) + (ea_i (wX12_comesTo b0 (x2 : Int32) ((ea_i (wX12_lineOf b0 (x1 : Int32) (x2 : Int32) h) (b0 + 30) (Int32.toNatClampNeg (((25 : Int32) * x2) + (vX12_lineOf b0 (x1 : Int32) (x2 : Int32) h)))) : Int32) ((ea_i (wX12_lineOf b0 (x1 : Int32) (x2 : Int32) h) (b0 + 31) (Int32.toNatClampNeg (((24 : Int32) * x2) + (vX12_lineOf b0 (x1 : Int32) (x2 : Int32) h)))) : Int32) (wX12_lineOf b0 (x1 : Int32) (x2 : Int32) h)) (b0 + 26) (Int32.toNatClampNeg x2))) + (ea_i (wX12_comesTo b0 (x2 : Int32) ((ea_i (wX12_lineOf b0 (x1 : Int32) (x2 : Int32) h) (b0 + 30) (Int32.toNatClampNeg (((25 : Int32) * x2) + (vX12_lineOf b0 (x1 : Int32) (x2 : Int32) h)))) : Int32) ((ea_i (wX12_lineOf b0 (x1 : Int32) (x2 : Int32) h) (b0 + 31) (Int32.toNatClampNeg (((24 : Int32) * x2) + (vX12_lineOf b0 (x1 : Int32) (x2 : Int32) h)))) : Int32) (wX12_lineOf b0 (x1 : Int32) (x2 : Int32) h)) (b0 + 27) (Int32.toNatClampNeg x2))) else (((vX12_comesTo b0 (x2 : Int32) ((ea_i (wX12_lineOf b0 (x1 : Int32) (x2 : Int32) h) (b0 + 30) (Int32.toNatClampNeg (((25 : Int32) * x2) + (vX12_lineOf b0 (x1 : Int32) (x2 : Int32) h)))) : Int32) ((ea_i (wX12_lineOf b0 (x1 : Int32) (x2 : Int32) h) (b0 + 31) (Int32.toNatClampNeg (((24 : Int32) * x2) + (vX12_lineOf b0 (x1 : Int32) (x2 : Int32) h)))) : Int32) (wX12_lineOf b0 (x1 : Int32) (x2 : Int32) h)) + (ea_i (wX12_comesTo b0 (x2 : Int32) ((ea_i (wX12_lineOf b0 (x1 : Int32) (x2 : Int32) h) (b0 + 30) (Int32.toNatClampNeg (((25 : Int32) * x2) + (vX12_lineOf b0 (x1 : Int32) (x2 : Int32) h)))) : Int32) ((ea_i (wX12_lineOf b0 (x1 : Int32) (x2 : Int32) h) (b0 + 31) (Int32.toNatClampNeg (((24 : Int32) * x2) + (vX12_lineOf b0 (x1 : Int32) (x2 : Int32) h)))) : Int32) (wX12_lineOf b0 (x1 : Int32) (x2 : Int32) h)) (b0 + 23) (Int32.toNatClampNeg x2))) + (ea_i (wX12_comesTo b0 (x2 : Int32) ((ea_i (wX12_lineOf b0 (x1 : Int32) (x2 : Int32) h) (b0 + 30) (Int32.toNatClampNeg (((25 : Int32) * x2) + (vX12_lineOf b0 (x1 : Int32) (x2 : Int32) h)))) : Int32) ((ea_i (wX12_lineOf b0 (x1 : Int32) (x2 : Int32) h) (b0 + 31) (Int32.toNatClampNeg (((24 : Int32) * x2) + (vX12_lineOf b0 (x1 : Int32) (x2 : Int32) h)))) : Int32) (wX12_lineOf b0 (x1 : Int32) (x2 : Int32) h)) (b0 + 26) (Int32.toNatClampNeg x2)))) else (if (ea_i (wX12_comesTo b0 (x2 : Int32) ((ea_i (wX12_lineOf b0 (x1 : Int32) (x2 : Int32) h) (b0 + 30) (Int32.toNatClampNeg (((25 : Int32) * x2) + (vX12_lineOf b0 (x1 : Int32) (x2 : Int32) h)))) : Int32) ((ea_i (wX12_lineOf b0 (x1 : Int32) (x2 : Int32) h) (b0 + 31) (Int32.toNatClampNeg (((24 : Int32) * x2) + (vX12_lineOf b0 (x1 : Int32) (x2 : Int32) h)))) : Int32) (wX12_lineOf b0 (x1 : Int32) (x2 : Int32) h)) (b0 + 38) (Int32.toNatClampNeg x1)) = (4 : Int32) then (((vX12_comesTo b0 (x2 : Int32) ((ea_i (wX12_lineOf b0 (x1 : Int32) (x2 : Int32) h) (b0 + 30) (Int32.toNatClampNeg (((25 : Int32) * x2) + (vX12_lineOf b0 (x1 : Int32) (x2 : Int32) h)))) : Int32) ((ea_i (wX12_lineOf b0 (x1 : Int32) (x2 : Int32) h) (b0 + 31) (Int32.toNatClampNeg (((24 : Int32) * x2) + (vX12_lineOf b0 (x1 : Int32) (x2 : Int32) h)))) : Int32) (wX12_lineOf b0 (x1 : Int32) (x2 : Int32) h)) + (ea_i (wX12_comesTo b0 (x2 : Int32) ((ea_i (wX12_lineOf b0 (x1 : Int32) (x2 : Int32) h) (b0 + 30) (Int32.toNatClampNeg (((25 : Int32) * x2) + (vX12_lineOf b0 (x1 : Int32) (x2 : Int32) h)))) : Int32) ((ea_i (wX12_lineOf b0 (x1 : Int32) (x2 : Int32) h) (b0 + 31) (Int32.toNatClampNeg (((24 : Int32) * x2) + (vX12_lineOf b0 (x1 : Int32) (x2 : Int32) h)))) : Int32) (wX12_lineOf b0 (x1 : Int32) (x2 : Int32) h)) (b0 + 23) (Int32.toNatClampNeg x2))) + (ea_i (wX12_comesTo b0 (x2 : Int32) ((ea_i (wX12_lineOf b0 (x1 : Int32) (x2 : Int32) h) (b0 + 30) (Int32.toNatClampNeg (((25 : Int32) * x2) + (vX12_lineOf b0 (x1 : Int32) (x2 : Int32) h)))) : Int32) ((ea_i (wX12_lineOf b0 (x1 : Int32) (x2 : Int32) h) (b0 + 31) (Int32.toNatClampNeg (((24 : Int32) * x2) + (vX12_lineOf b0 (x1 : Int32) (x2 : Int32) h)))) : Int32) (wX12_lineOf b0 (x1 : Int32) (x2 : Int32) h)) (b0 + 27) (Int32.toNatClampNeg x2))) else ((vX12_comesTo b0 (x2 : Int32) ((ea_i (wX12_lineOf b0 (x1 : Int32) (x2 : Int32) h) (b0 + 30) (Int32.toNatClampNeg (((25 : Int32) * x2) + (vX12_lineOf b0 (x1 : Int32) (x2 : Int32) h)))) : Int32) ((ea_i (wX12_lineOf b0 (x1 : Int32) (x2 : Int32) h) (b0 + 31) (Int32.toNatClampNeg (((24 : Int32) * x2) + (vX12_lineOf b0 (x1 : Int32) (x2 : Int32) h)))) : Int32) (wX12_lineOf b0 (x1 : Int32) (x2 : Int32) h)) + (ea_i (wX12_comesTo b0 (x2 : Int32) ((ea_i (wX12_lineOf b0 (x1 : Int32) (x2 : Int32) h) (b0 + 30) (Int32.toNatClampNeg (((25 : Int32) * x2) + (vX12_lineOf b0 (x1 : Int32) (x2 : Int32) h)))) : Int32) ((ea_i (wX12_lineOf b0 (x1 : Int32) (x2 : Int32) h) (b0 + 31) (Int32.toNatClampNeg (((24 : Int32) * x2) + (vX12_lineOf b0 (x1 : Int32) (x2 : Int32) h)))) : Int32) (wX12_lineOf b0 (x1 : Int32) (x2 : Int32) h)) (b0 + 23) (Int32.toNatClampNeg x2)))))) else (if ((ea_i (wX12_comesTo b0 (x2 : Int32) ((ea_i (wX12_lineOf b0 (x1 : Int32) (x2 : Int32) h) (b0 + 30) (Int32.toNatClampNeg (((25 : Int32) * x2) + (vX12_lineOf b0 (x1 : Int32) (x2 : Int32) h)))) : Int32) ((ea_i (wX12_lineOf b0 (x1 : Int32) (x2 : Int32) h) (b0 + 31) (Int32.toNatClampNeg (((24 : Int32) * x2) + (vX12_lineOf b0 (x1 : Int32) (x2 : Int32) h)))) : Int32) (wX12_lineOf b0 (x1 : Int32) (x2 : Int32) h)) (b0 + 44) (Int32.toNatClampNeg x1)) - (ea_i (wX12_comesTo b0 (x2 : Int32) ((ea_i (wX12_lineOf b0 (x1 : Int32) (x2 : Int32) h) (b0 + 30) (Int32.toNatClampNeg (((25 : Int32) * x2) + (vX12_lineOf b0 (x1 : Int32) (x2 : Int32) h)))) : Int32) ((ea_i (wX12_lineOf b0 (x1 : Int32) (x2 : Int32) h) (b0 + 31) (Int32.toNatClampNeg (((24 : Int32) * x2) + (vX12_lineOf b0 (x1 : Int32) (x2 : Int32) h)))) : Int32) (wX12_lineOf b0 (x1 : Int32) (x2 : Int32) h)) (b0 + 44) (Int32.toNatClampNeg x1)) / (1440 : Int32) * (1440 : Int32)) ≤ (ea_i (wX12_comesTo b0 (x2 : Int32) ((ea_i (wX12_lineOf b0 (x1 : Int32) (x2 : Int32) h) (b0 + 30) (Int32.toNatClampNeg (((25 : Int32) * x2) + (vX12_lineOf b0 (x1 : Int32) (x2 : Int32) h)))) : Int32) ((ea_i (wX12_lineOf b0 (x1 : Int32) (x2 : Int32) h) (b0 + 31) (Int32.toNatClampNeg (((24 : Int32) * x2) + (vX12_lineOf b0 (x1 : Int32) (x2 : Int32) h)))) : Int32) (wX12_lineOf b0 (x1 : Int32) (x2 : Int32) h)) (b0 + 24) (Int32.toNatClampNeg x2)) then (if (ea_i (wX12_comesTo b0 (x2 : Int32) ((ea_i (wX12_lineOf b0 (x1 : Int32) (x2 : Int32) h) (b0 + 30) (Int32.toNatClampNeg (((25 : Int32) * x2) + (vX12_lineOf b0 (x1 : Int32) (x2 : Int32) h)))) : Int32) ((ea_i (wX12_lineOf b0 (x1 : Int32) (x2 : Int32) h) (b0 + 31) (Int32.toNatClampNeg (((24 : Int32) * x2) + (vX12_lineOf b0 (x1 : Int32) (x2 : Int32) h)))) : Int32) (wX12_lineOf b0 (x1 : Int32) (x2 : Int32) h)) (b0 + 38) (Int32.toNatClampNeg x1)) = (3 : Int32) then (if (ea_i (wX12_comesTo b0 (x2 : Int32) ((ea_i (wX12_lineOf b0 (x1 : Int32) (x2 : Int32) h) (b0 + 30) (Int32.toNatClampNeg (((25 : Int32) * x2) + (vX12_lineOf b0 (x1 : Int32) (x2 : Int32) h)))) : Int32) ((ea_i (wX12_lineOf b0 (x1 : Int32) (x2 : Int32) h) (b0 + 31) (Int32.toNatClampNeg (((24 : Int32) * x2) + (vX12_lineOf b0 (x1 : Int32) (x2 : Int32) h)))) : Int32) (wX12_lineOf b0 (x1 : Int32) (x2 : Int32) h)) (b0 + 38) (Int32.toNatClampNeg x1)) = (4 : Int32) then (((99999 : Int32) + (ea_i (wX12_comesTo b0 (x2 : Int32) ((ea_i (wX12_lineOf b0 (x1 : Int32) (x2 : Int32) h) (b0 + 30) (Int32.toNatClampNeg (((25 : Int32) * x2) + (vX12_lineOf b0 (x1 : Int32) (x2 : Int32) h)))) : Int32) ((ea_i (wX12_lineOf b0 (x1 : Int32) (x2 : Int32) h) (b0 + 31) (Int32.toNatClampNeg (((24 : Int32) * x2) + (vX12_lineOf b0 (x1 : Int32) (x2 : Int32) h)))) : Int32) (wX12_lineOf b0 (x1 : Int32) (x2 : Int32) h)) (b0 + 26) (Int32.toNatClampNeg x2))) + (ea_i (wX12_comesTo b0 (x2 : Int32) ((ea_i (wX12_lineOf b0 (x1 : Int32) (x2 : Int32) h) (b0 + 30) (Int32.toNatClampNeg (((25 : Int32) * x2) + (vX12_lineOf b0 (x1 : Int32) (x2 : Int32) h)))) : Int32) ((ea_i (wX12_lineOf b0 (x1 : Int32) (x2 : Int32) h) (b0 + 31) (Int32.toNatClampNeg (((24 : Int32) * x2) + (vX12_lineOf b0 (x1 : Int32) (x2 : Int32) h)))) : Int32) (wX12_lineOf b0 (x1 : Int32) (x2 : Int32) h)) (b0 + 27) (Int32.toNatClampNeg x2))) else ((99999 : Int32) + (ea_i (wX12_comesTo b0 (x2 : Int32) ((ea_i (wX12_lineOf b0 (x1 : Int32) (x2 : Int32) h) (b0 + 30) (Int32.toNatClampNeg (((25 : Int32) * x2) + (vX12_lineOf b0 (x1 : Int32) (x2 : Int32) h)))) : Int32) ((ea_i (wX12_lineOf b0 (x1 : Int32) (x2 : Int32) h) (b0 + 31) (Int32.toNatClampNeg (((24 : Int32) * x2) + (vX12_lineOf b0 (x1 : Int32) (x2 : Int32) h)))) : Int32) (wX12_lineOf b0 (x1 : Int32) (x2 : Int32) h)) (b0 + 26) (Int32.toNatClampNeg x2)))) else (if (ea_i (wX12_comesTo b0 (x2 : Int32) ((ea_i (wX12_lineOf b0 (x1 : Int32) (x2 : Int32) h) (b0 + 30) (Int32.toNatClampNeg (((25 : Int32) * x2) + (vX12_lineOf b0 (x1 : Int32) (x2 : Int32) h)))) : Int32) ((ea_i (wX12_lineOf b0 (x1 : Int32) (x2 : Int32) h) (b0 + 31) (Int32.toNatClampNeg (((24 : Int32) * x2) + (vX12_lineOf b0 (x1 : Int32) (x2 : Int32) h)))) : Int32) (wX12_lineOf b0 (x1 : Int32) (x2 : Int32) h)) (b0 + 38) (Int32.toNatClampNeg x1)) = (4 : Int32) then ((99999 : Int32) + (ea_i (wX12_comesTo b0 (x2 : Int32) ((ea_i (wX12_lineOf b0 (x1 : Int32) (x2 : Int32) h) (b0 + 30) (Int32.toNatClampNeg (((25 : Int32) * x2) + (vX12_lineOf b0 (x1 : Int32) (x2 : Int32) h)))) : Int32) ((ea_i (wX12_lineOf b0 (x1 : Int32) (x2 : Int32) h) (b0 + 31) (Int32.toNatClampNeg (((24 : Int32) * x2) + (vX12_lineOf b0 (x1 : Int32) (x2 : Int32) h)))) : Int32) (wX12_lineOf b0 (x1 : Int32) (x2 : Int32) h)) (b0 + 27) (Int32.toNatClampNeg x2))) else (99999 : Int32))) else (if (ea_i (wX12_comesTo b0 (x2 : Int32) ((ea_i (wX12_lineOf b0 (x1 : Int32) (x2 : Int32) h) (b0 + 30) (Int32.toNatClampNeg (((25 : Int32) * x2) + (vX12_lineOf b0 (x1 : Int32) (x2 : Int32) h)))) : Int32) ((ea_i (wX12_lineOf b0 (x1 : Int32) (x2 : Int32) h) (b0 + 31) (Int32.toNatClampNeg (((24 : Int32) * x2) + (vX12_lineOf b0 (x1 : Int32) (x2 : Int32) h)))) : Int32) (wX12_lineOf b0 (x1 : Int32) (x2 : Int32) h)) (b0 + 38) (Int32.toNatClampNeg x1)) = (3 : Int32) then (if (ea_i (wX12_comesTo b0 (x2 : Int32) ((ea_i (wX12_lineOf b0 (x1 : Int32) (x2 : Int32) h) (b0 + 30) (Int32.toNatClampNeg (((25 : Int32) * x2) + (vX12_lineOf b0 (x1 : Int32) (x2 : Int32) h)))) : Int32) ((ea_i (wX12_lineOf b0 (x1 : Int32) (x2 : Int32) h) (b0 + 31) (Int32.toNatClampNeg (((24 : Int32) * x2) + (vX12_lineOf b0 (x1 : Int32) (x2 : Int32) h)))) : Int32) (wX12_lineOf b0 (x1 : Int32) (x2 : Int32) h)) (b0 + 38) (Int32.toNatClampNeg x1)) = (4 : Int32) then ((((99999 : Int32) + (ea_i (wX12_comesTo b0 (x2 : Int32) ((ea_i (wX12_lineOf b0 (x1 : Int32) (x2 : Int32) h) (b0 + 30) (Int32.toNatClampNeg (((25 : Int32) * x2) + (vX12_lineOf b0 (x1 : Int32) (x2 : Int32) h)))) : Int32) ((ea_i (wX12_lineOf b0 (x1 : Int32) (x2 : Int32) h) (b0 + 31) (Int32.toNatClampNeg (((24 : Int32) * x2) + (vX12_lineOf b0 (x1 : Int32) (x2 : Int32) h)))) : Int32) (wX12_lineOf b0 (x1 : Int32) (x2 : Int32) h)) (b0 + 23) (Int32.toNatClampNeg x2))) + (ea_i (wX12_comesTo b0 (x2 : Int32) ((ea_i (wX12_lineOf b0 (x1 : Int32) (x2 : Int32) h) (b0 + 30) (Int32.toNatClampNeg (((25 : Int32) * x2) + (vX12_lineOf b0 (x1 : Int32) (x2 : Int32) h)))) : Int32) ((ea_i (wX12_lineOf b0 (x1 : Int32) (x2 : Int32) h) (b0 + 31) (Int32.toNatClampNeg (((24 : Int32) * x2) + (vX12_lineOf b0 (x1 : Int32) (x2 : Int32) h)))) : Int32) (wX12_lineOf b0 (x1 : Int32) (x2 : Int32) h)) (b0 + 26) (Int32.toNatClampNeg x2))) + (ea_i (wX12_comesTo b0 (x2 : Int32) ((ea_i (wX12_lineOf b0 (x1 : Int32) (x2 : Int32) h) (b0 + 30) (Int32.toNatClampNeg (((25 : Int32) * x2) + (vX12_lineOf b0 (x1 : Int32) (x2 : Int32) h)))) : Int32) ((ea_i (wX12_lineOf b0 (x1 : Int32) (x2 : Int32) h) (b0 + 31) (Int32.toNatClampNeg (((24 : Int32) * x2) + (vX12_lineOf b0 (x1 : Int32) (x2 : Int32) h)))) : Int32) (wX12_lineOf b0 (x1 : Int32) (x2 : Int32) h)) (b0 + 27) (Int32.toNatClampNeg x2))) else (((99999 : Int32) + (ea_i (wX12_comesTo b0 (x2 : Int32) ((ea_i (wX12_lineOf b0 (x1 : Int32) (x2 : Int32) h) (b0 + 30) (Int32.toNatClampNeg (((25 : Int32) * x2) + (vX12_lineOf b0 (x1 : Int32) (x2 : Int32) h)))) : Int32) ((ea_i (wX12_lineOf b0 (x1 : Int32) (x2 : Int32) h) (b0 + 31) (Int32.toNatClampNeg (((24 : Int32) * x2) + (vX12_lineOf b0 (x1 : Int32) (x2 : Int32) h)))) : Int32) (wX12_lineOf b0 (x1 : Int32) (x2 : Int32) h)) (b0 + 23) (Int32.toNatClampNeg x2))) + (ea_i (wX12_comesTo b0 (x2 : Int32) ((ea_i (wX12_lineOf b0 (x1 : Int32) (x2 : Int32) h) (b0 + 30) (Int32.toNatClampNeg (((25 : Int32) * x2) + (vX12_lineOf b0 (x1 : Int32) (x2 : Int32) h)))) : Int32) ((ea_i (wX12_lineOf b0 (x1 : Int32) (x2 : Int32) h) (b0 + 31) (Int32.toNatClampNeg (((24 : Int32) * x2) + (vX12_lineOf b0 (x1 : Int32) (x2 : Int32) h)))) : Int32) (wX12_lineOf b0 (x1 : Int32) (x2 : Int32) h)) (b0 + 26) (Int32.toNatClampNeg x2)))) else (if (ea_i (wX12_comesTo b0 (x2 : Int32) ((ea_i (wX12_lineOf b0 (x1 : Int32) (x2 : Int32) h) (b0 + 30) (Int32.toNatClampNeg (((25 : Int32) * x2) + (vX12_lineOf b0 (x1 : Int32) (x2 : Int32) h)))) : Int32) ((ea_i (wX12_lineOf b0 (x1 : Int32) (x2 : Int32) h) (b0 + 31) (Int32.toNatClampNeg (((24 : Int32) * x2) + (vX12_lineOf b0 (x1 : Int32) (x2 : Int32) h)))) : Int32) (wX12_lineOf b0 (x1 : Int32) (x2 : Int32) h)) (b0 + 38) (Int32.toNatClampNeg x1)) = (4 : Int32) then (((99999 : Int32) + (ea_i (wX12_comesTo b0 (x2 : Int32) ((ea_i (wX12_lineOf b0 (x1 : Int32) (x2 : Int32) h) (b0 + 30) (Int32.toNatClampNeg (((25 : Int32) * x2) + (vX12_lineOf b0 (x1 : Int32) (x2 : Int32) h)))) : Int32) ((ea_i (wX12_lineOf b0 (x1 : Int32) (x2 : Int32) h) (b0 + 31) (Int32.toNatClampNeg (((24 : Int32) * x2) + (vX12_lineOf b0 (x1 : Int32) (x2 : Int32) h)))) : Int32) (wX12_lineOf b0 (x1 : Int32) (x2 : Int32) h)) (b0 + 23) (Int32.toNatClampNeg x2))) + (ea_i (wX12_comesTo b0 (x2 : Int32) ((ea_i (wX12_lineOf b0 (x1 : Int32) (x2 : Int32) h) (b0 + 30) (Int32.toNatClampNeg (((25 : Int32) * x2) + (vX12_lineOf b0 (x1 : Int32) (x2 : Int32) h)))) : Int32) ((ea_i (wX12_lineOf b0 (x1 : Int32) (x2 : Int32) h) (b0 + 31) (Int32.toNatClampNeg (((24 : Int32) * x2) + (vX12_lineOf b0 (x1 : Int32) (x2 : Int32) h)))) : Int32) (wX12_lineOf b0 (x1 : Int32) (x2 : Int32) h)) (b0 + 27) (Int32.toNatClampNeg x2))) else ((99999 : Int32) + (ea_i (wX12_comesTo b0 (x2 : Int32) ((ea_i (wX12_lineOf b0 (x1 : Int32) (x2 : Int32) h) (b0 + 30) (Int32.toNatClampNeg (((25 : Int32) * x2) + (vX12_lineOf b0 (x1 : Int32) (x2 : Int32) h)))) : Int32) ((ea_i (wX12_lineOf b0 (x1 : Int32) (x2 : Int32) h) (b0 + 31) (Int32.toNatClampNeg (((24 : Int32) * x2) + (vX12_lineOf b0 (x1 : Int32) (x2 : Int32) h)))) : Int32) (wX12_lineOf b0 (x1 : Int32) (x2 : Int32) h)) (b0 + 23) (Int32.toNatClampNeg x2))))))) else (if ((ea_i (wX12_comesTo b0 (x2 : Int32) ((ea_i (wX12_lineOf b0 (x1 : Int32) (x2 : Int32) h) (b0 + 30) (Int32.toNatClampNeg (((25 : Int32) * x2) + (vX12_lineOf b0 (x1 : Int32) (x2 : Int32) h)))) : Int32) ((ea_i (wX12_lineOf b0 (x1 : Int32) (x2 : Int32) h) (b0 + 31) (Int32.toNatClampNeg (((24 : Int32) * x2) + (vX12_lineOf b0 (x1 : Int32) (x2 : Int32) h)))) : Int32) (wX12_lineOf b0 (x1 : Int32) (x2 : Int32) h)) (b0 + 44) (Int32.toNatClampNeg x1)) - (ea_i (wX12_comesTo b0 (x2 : Int32) ((ea_i (wX12_lineOf b0 (x1 : Int32) (x2 : Int32) h) (b0 + 30) (Int32.toNatClampNeg (((25 : Int32) * x2) + (vX12_lineOf b0 (x1 : Int32) (x2 : Int32) h)))) : Int32) ((ea_i (wX12_lineOf b0 (x1 : Int32) (x2 : Int32) h) (b0 + 31) (Int32.toNatClampNeg (((24 : Int32) * x2) + (vX12_lineOf b0 (x1 : Int32) (x2 : Int32) h)))) : Int32) (wX12_lineOf b0 (x1 : Int32) (x2 : Int32) h)) (b0 + 44) (Int32.toNatClampNeg x1)) / (1440 : Int32) * (1440 : Int32)) ≤ (ea_i (wX12_comesTo b0 (x2 : Int32) ((ea_i (wX12_lineOf b0 (x1 : Int32) (x2 : Int32) h) (b0 + 30) (Int32.toNatClampNeg (((25 : Int32) * x2) + (vX12_lineOf b0 (x1 : Int32) (x2 : Int32) h)))) : Int32) ((ea_i (wX12_lineOf b0 (x1 : Int32) (x2 : Int32) h) (b0 + 31) (Int32.toNatClampNeg (((24 : Int32) * x2) + (vX12_lineOf b0 (x1 : Int32) (x2 : Int32) h)))) : Int32) (wX12_lineOf b0 (x1 : Int32) (x2 : Int32) h)) (b0 + 24) (Int32.toNatClampNeg x2)) then (if (ea_i (wX12_comesTo b0 (x2 : Int32) ((ea_i (wX12_lineOf b0 (x1 : Int32) (x2 : Int32) h) (b0 + 30) (Int32.toNatClampNeg (((25 : Int32) * x2) + (vX12_lineOf b0 (x1 : Int32) (x2 : Int32) h)))) : Int32) ((ea_i (wX12_lineOf b0 (x1 : Int32) (x2 : Int32) h) (b0 + 31) (Int32.toNatClampNeg (((24 : Int32) * x2) + (vX12_lineOf b0 (x1 : Int32) (x2 : Int32) h)))) : Int32) (wX12_lineOf b0 (x1 : Int32) (x2 : Int32) h)) (b0 + 38) (Int32.toNatClampNeg x1)) = (3 : Int32) then (if (ea_i (wX12_comesTo b0 (x2 : Int32) ((ea_i (wX12_lineOf b0 (x1 : Int32) (x2 : Int32) h) (b0 + 30) (Int32.toNatClampNeg (((25 : Int32) * x2) + (vX12_lineOf b0 (x1 : Int32) (x2 : Int32) h)))) : Int32) ((ea_i (wX12_lineOf b0 (x1 : Int32) (x2 : Int32) h) (b0 + 31) (Int32.toNatClampNeg (((24 : Int32) * x2) + (vX12_lineOf b0 (x1 : Int32) (x2 : Int32) h)))) : Int32) (wX12_lineOf b0 (x1 : Int32) (x2 : Int32) h)) (b0 + 38) (Int32.toNatClampNeg x1)) = (4 : Int32) then (((0 : Int32) + (ea_i (wX12_comesTo b0 (x2 : Int32) ((ea_i (wX12_lineOf b0 (x1 : Int32) (x2 : Int32) h) (b0 + 30) (Int32.toNatClampNeg (((25 : Int32) * x2) + (vX12_lineOf b0 (x1 : Int32) (x2 : Int32) h)))) : Int32) ((ea_i (wX12_lineOf b0 (x1 : Int32) (x2 : Int32) h) (b0 + 31) (Int32.toNatClampNeg (((24 : Int32) * x2) + (vX12_lineOf b0 (x1 : Int32) (x2 : Int32) h)))) : Int32) (wX12_lineOf b0 (x1 : Int32) (x2 : Int32) h)) (b0 + 26) (Int32.toNatClampNeg x2))) + (ea_i (wX12_comesTo b0 (x2 : Int32) ((ea_i (wX12_lineOf b0 (x1 : Int32) (x2 : Int32) h) (b0 + 30) (Int32.toNatClampNeg (((25 : Int32) * x2) + (vX12_lineOf b0 (x1 : Int32) (x2 : Int32) h)))) : Int32) ((ea_i (wX12_lineOf b0 (x1 : Int32) (x2 : Int32) h) (b0 + 31) (Int32.toNatClampNeg (((24 : Int32) * x2) + (vX12_lineOf b0 (x1 : Int32) (x2 : Int32) h)))) : Int32) (wX12_lineOf b0 (x1 : Int32) (x2 : Int32) h)) (b0 + 27) (Int32.toNatClampNeg x2))) else ((0 : Int32) + (ea_i (wX12_comesTo b0 (x2 : Int32) ((ea_i (wX12_lineOf b0 (x1 : Int32) (x2 : Int32) h) (b0 + 30) (Int32.toNatClampNeg (((25 : Int32) * x2) + (vX12_lineOf b0 (x1 : Int32) (x2 : Int32) h)))) : Int32) ((ea_i (wX12_lineOf b0 (x1 : Int32) (x2 : Int32) h) (b0 + 31) (Int32.toNatClampNeg (((24 : Int32) * x2) + (vX12_lineOf b0 (x1 : Int32) (x2 : Int32) h)))) : Int32) (wX12_lineOf b0 (x1 : Int32) (x2 : Int32) h)) (b0 + 26) (Int32.toNatClampNeg x2)))) else (if (ea_i (wX12_comesTo b0 (x2 : Int32) ((ea_i (wX12_lineOf b0 (x1 : Int32) (x2 : Int32) h) (b0 + 30) (Int32.toNatClampNeg (((25 : Int32) * x2) + (vX12_lineOf b0 (x1 : Int32) (x2 : Int32) h)))) : Int32) ((ea_i (wX12_lineOf b0 (x1 : Int32) (x2 : Int32) h) (b0 + 31) (Int32.toNatClampNeg (((24 : Int32) * x2) + (vX12_lineOf b0 (x1 : Int32) (x2 : Int32) h)))) : Int32) (wX12_lineOf b0 (x1 : Int32) (x2 : Int32) h)) (b0 + 38) (Int32.toNatClampNeg x1)) = (4 : Int32) then ((0 : Int32) + (ea_i (wX12_comesTo b0 (x2 : Int32) ((ea_i (wX12_lineOf b0 (x1 : Int32) (x2 : Int32) h) (b0 + 30) (Int32.toNatClampNeg (((25 : Int32) * x2) + (vX12_lineOf b0 (x1 : Int32) (x2 : Int32) h)))) : Int32) ((ea_i (wX12_lineOf b0 (x1 : Int32) (x2 : Int32) h) (b0 + 31) (Int32.toNatClampNeg (((24 : Int32) * x2) + (vX12_lineOf b0 (x1 : Int32) (x2 : Int32) h)))) : Int32) (wX12_lineOf b0 (x1 : Int32) (x2 : Int32) h)) (b0 + 27) (Int32.toNatClampNeg x2))) else (0 : Int32))) else (if (ea_i (wX12_comesTo b0 (x2 : Int32) ((ea_i (wX12_lineOf b0 (x1 : Int32) (x2 : Int32) h) (b0 + 30) (Int32.toNatClampNeg (((25 : Int32) * x2) + (vX12_lineOf b0 (x1 : Int32) (x2 : Int32) h)))) : Int32) ((ea_i (wX12_lineOf b0 (x1 : Int32) (x2 : Int32) h) (b0 + 31) (Int32.toNatClampNeg (((24 : Int32) * x2) + (vX12_lineOf b0 (x1 : Int32) (x2 : Int32) h)))) : Int32) (wX12_lineOf b0 (x1 : Int32) (x2 : Int32) h)) (b0 + 38) (Int32.toNatClampNeg x1)) = (3 : Int32) then (if (ea_i (wX12_comesTo b0 (x2 : Int32) ((ea_i (wX12_lineOf b0 (x1 : Int32) (x2 : Int32) h) (b0 + 30) (Int32.toNatClampNeg (((25 : Int32) * x2) + (vX12_lineOf b0 (x1 : Int32) (x2 : Int32) h)))) : Int32) ((ea_i (wX12_lineOf b0 (x1 : Int32) (x2 : Int32) h) (b0 + 31) (Int32.toNatClampNeg (((24 : Int32) * x2) + (vX12_lineOf b0 (x1 : Int32) (x2 : Int32) h)))) : Int32) (wX12_lineOf b0 (x1 : Int32) (x2 : Int32) h)) (b0 + 38) (Int32.toNatClampNeg x1)) = (4 : Int32) then ((((0 : Int32) + (ea_i (wX12_comesTo b0 (x2 : Int32) ((ea_i (wX12_lineOf b0 (x1 : Int32) (x2 : Int32) h) (b0 + 30) (Int32.toNatClampNeg (((25 : Int32) * x2) + (vX12_lineOf b0 (x1 : Int32) (x2 : Int32) h)))) : Int32) ((ea_i (wX12_lineOf b0 (x1 : Int32) (x2 : Int32) h) (b0 + 31) (Int32.toNatClampNeg (((24 : Int32) * x2) + (vX12_lineOf b0 (x1 : Int32) (x2 : Int32) h)))) : Int32) (wX12_lineOf b0 (x1 : Int32) (x2 : Int32) h)) (b0 + 23) (Int32.toNatClampNeg x2))) + (ea_i (wX12_comesTo b0 (x2 : Int32) ((ea_i (wX12_lineOf b0 (x1 : Int32) (x2 : Int32) h) (b0 + 30) (Int32.toNatClampNeg (((25 : Int32) * x2) + (vX12_lineOf b0 (x1 : Int32) (x2 : Int32) h)))) : Int32) ((ea_i (wX12_lineOf b0 (x1 : Int32) (x2 : Int32) h) (b0 + 31) (Int32.toNatClampNeg (((24 : Int32) * x2) + (vX12_lineOf b0 (x1 : Int32) (x2 : Int32) h)))) : Int32) (wX12_lineOf b0 (x1 : Int32) (x2 : Int32) h)) (b0 + 26) (Int32.toNatClampNeg x2))) + (ea_i (wX12_comesTo b0 (x2 : Int32) ((ea_i (wX12_lineOf b0 (x1 : Int32) (x2 : Int32) h) (b0 + 30) (Int32.toNatClampNeg (((25 : Int32) * x2) + (vX12_lineOf b0 (x1 : Int32) (x2 : Int32) h)))) : Int32) ((ea_i (wX12_lineOf b0 (x1 : Int32) (x2 : Int32) h) (b0 + 31) (Int32.toNatClampNeg (((24 : Int32) * x2) + (vX12_lineOf b0 (x1 : Int32) (x2 : Int32) h)))) : Int32) (wX12_lineOf b0 (x1 : Int32) (x2 : Int32) h)) (b0 + 27) (Int32.toNatClampNeg x2))) else (((0 : Int32) + (ea_i (wX12_comesTo b0 (x2 : Int32) ((ea_i (wX12_lineOf b0 (x1 : Int32) (x2 : Int32) h) (b0 + 30) (Int32.toNatClampNeg (((25 : Int32) * x2) + (vX12_lineOf b0 (x1 : Int32) (x2 : Int32) h)))) : Int32) ((ea_i (wX12_lineOf b0 (x1 : Int32) (x2 : Int32) h) (b0 + 31) (Int32.toNatClampNeg (((24 : Int32) * x2) + (vX12_lineOf b0 (x1 : Int32) (x2 : Int32) h)))) : Int32) (wX12_lineOf b0 (x1 : Int32) (x2 : Int32) h)) (b0 + 23) (Int32.toNatClampNeg x2))) + (ea_i (wX12_comesTo b0 (x2 : Int32) ((ea_i (wX12_lineOf b0 (x1 : Int32) (x2 : Int32) h) (b0 + 30) (Int32.toNatClampNeg (((25 : Int32) * x2) + (vX12_lineOf b0 (x1 : Int32) (x2 : Int32) h)))) : Int32) ((ea_i (wX12_lineOf b0 (x1 : Int32) (x2 : Int32) h) (b0 + 31) (Int32.toNatClampNeg (((24 : Int32) * x2) + (vX12_lineOf b0 (x1 : Int32) (x2 : Int32) h)))) : Int32) (wX12_lineOf b0 (x1 : Int32) (x2 : Int32) h)) (b0 + 26) (Int32.toNatClampNeg x2)))) else (if (ea_i (wX12_comesTo b0 (x2 : Int32) ((ea_i (wX12_lineOf b0 (x1 : Int32) (x2 : Int32) h) (b0 + 30) (Int32.toNatClampNeg (((25 : Int32) * x2) + (vX12_lineOf b0 (x1 : Int32) (x2 : Int32) h)))) : Int32) ((ea_i (wX12_lineOf b0 (x1 : Int32) (x2 : Int32) h) (b0 + 31) (Int32.toNatClampNeg (((24 : Int32) * x2) + (vX12_lineOf b0 (x1 : Int32) (x2 : Int32) h)))) : Int32) (wX12_lineOf b0 (x1 : Int32) (x2 : Int32) h)) (b0 + 38) (Int32.toNatClampNeg x1)) = (4 : Int32) then (((0 : Int32) + (ea_i (wX12_comesTo b0 (x2 : Int32) ((ea_i (wX12_lineOf b0 (x1 : Int32) (x2 : Int32) h) (b0 + 30) (Int32.toNatClampNeg (((25 : Int32) * x2) + (vX12_lineOf b0 (x1 : Int32) (x2 : Int32) h)))) : Int32) ((ea_i (wX12_lineOf b0 (x1 : Int32) (x2 : Int32) h) (b0 + 31) (Int32.toNatClampNeg (((24 : Int32) * x2) + (vX12_lineOf b0 (x1 : Int32) (x2 : Int32) h)))) : Int32) (wX12_lineOf b0 (x1 : Int32) (x2 : Int32) h)) (b0 + 23) (Int32.toNatClampNeg x2))) + (ea_i (wX12_comesTo b0 (x2 : Int32) ((ea_i (wX12_lineOf b0 (x1 : Int32) (x2 : Int32) h) (b0 + 30) (Int32.toNatClampNeg (((25 : Int32) * x2) + (vX12_lineOf b0 (x1 : Int32) (x2 : Int32) h)))) : Int32) ((ea_i (wX12_lineOf b0 (x1 : Int32) (x2 : Int32) h) (b0 + 31) (Int32.toNatClampNeg (((24 : Int32) * x2) + (vX12_lineOf b0 (x1 : Int32) (x2 : Int32) h)))) : Int32) (wX12_lineOf b0 (x1 : Int32) (x2 : Int32) h)) (b0 + 27) (Int32.toNatClampNeg x2))) else ((0 : Int32) + (ea_i (wX12_comesTo b0 (x2 : Int32) ((ea_i (wX12_lineOf b0 (x1 : Int32) (x2 : Int32) h) (b0 + 30) (Int32.toNatClampNeg (((25 : Int32) * x2) + (vX12_lineOf b0 (x1 : Int32) (x2 : Int32) h)))) : Int32) ((ea_i (wX12_lineOf b0 (x1 : Int32) (x2 : Int32) h) (b0 + 31) (Int32.toNatClampNeg (((24 : Int32) * x2) + (vX12_lineOf b0 (x1 : Int32) (x2 : Int32) h)))) : Int32) (wX12_lineOf b0 (x1 : Int32) (x2 : Int32) h)) (b0 + 23) (Int32.toNatClampNeg x2)))))))) else (0 : Int32))
noncomputable def wX12_chargeBy (b0 : Nat) (x1 : Int32) (x2 : Int32) (h : ea_H) : ea_H := (if (vX12_isFree b0 (x1 : Int32) (x2 : Int32) h) = (0 : Int32) then (if (vX12_lineOf b0 (x1 : Int32) (x2 : Int32) h) = ((-1) : Int32) then (wX12_lineOf b0 (x1 : Int32) (x2 : Int32) h) else (wX12_comesTo b0 (x2 : Int32) ((ea_i (wX12_lineOf b0 (x1 : Int32) (x2 : Int32) h) (b0 + 30) (Int32.toNatClampNeg (((25 : Int32) * x2) + (vX12_lineOf b0 (x1 : Int32) (x2 : Int32) h)))) : Int32) ((ea_i (wX12_lineOf b0 (x1 : Int32) (x2 : Int32) h) (b0 + 31) (Int32.toNatClampNeg (((24 : Int32) * x2) + (vX12_lineOf b0 (x1 : Int32) (x2 : Int32) h)))) : Int32) (wX12_lineOf b0 (x1 : Int32) (x2 : Int32) h))) else h)
def okX12_chargeBy (b0 : Nat) (x1 : Int32) (x2 : Int32) (h : ea_H) : Prop := (okX12_isFree b0 (x1 : Int32) (x2 : Int32) h) ∧ (((vX12_isFree b0 (x1 : Int32) (x2 : Int32) h) = (0 : Int32) → (okX12_lineOf b0 (x1 : Int32) (x2 : Int32) h) ∧ (((vX12_lineOf b0 (x1 : Int32) (x2 : Int32) h) = ((-1) : Int32) → ((0 : Int32) ≤ (0 : Int32) → ((0 : Int32) ≤ (99999 : Int32) → vp_in x1 120 ∧ (vp_in x2 6 ∧ ((((ea_i (wX12_lineOf b0 (x1 : Int32) (x2 : Int32) h) (b0 + 44) (Int32.toNatClampNeg x1)) - (ea_i (wX12_lineOf b0 (x1 : Int32) (x2 : Int32) h) (b0 + 44) (Int32.toNatClampNeg x1)) / (1440 : Int32) * (1440 : Int32)) ≤ (ea_i (wX12_lineOf b0 (x1 : Int32) (x2 : Int32) h) (b0 + 24) (Int32.toNatClampNeg x2)) → vp_in x1 120 ∧ (((ea_i (wX12_lineOf b0 (x1 : Int32) (x2 : Int32) h) (b0 + 38) (Int32.toNatClampNeg x1)) = (3 : Int32) → vp_in x2 6 ∧ (vp_in x1 120 ∧ (((ea_i (wX12_lineOf b0 (x1 : Int32) (x2 : Int32) h) (b0 + 38) (Int32.toNatClampNeg x1)) = (4 : Int32) → vp_in x2 6) ∧ (¬ (ea_i (wX12_lineOf b0 (x1 : Int32) (x2 : Int32) h) (b0 + 38) (Int32.toNatClampNeg x1)) = (4 : Int32) → True)))) ∧ (¬ (ea_i (wX12_lineOf b0 (x1 : Int32) (x2 : Int32) h) (b0 + 38) (Int32.toNatClampNeg x1)) = (3 : Int32) → vp_in x1 120 ∧ (((ea_i (wX12_lineOf b0 (x1 : Int32) (x2 : Int32) h) (b0 + 38) (Int32.toNatClampNeg x1)) = (4 : Int32) → vp_in x2 6) ∧ (¬ (ea_i (wX12_lineOf b0 (x1 : Int32) (x2 : Int32) h) (b0 + 38) (Int32.toNatClampNeg x1)) = (4 : Int32) → True))))) ∧ (¬ ((ea_i (wX12_lineOf b0 (x1 : Int32) (x2 : Int32) h) (b0 + 44) (Int32.toNatClampNeg x1)) - (ea_i (wX12_lineOf b0 (x1 : Int32) (x2 : Int32) h) (b0 + 44) (Int32.toNatClampNeg x1)) / (1440 : Int32) * (1440 : Int32)) ≤ (ea_i (wX12_lineOf b0 (x1 : Int32) (x2 : Int32) h) (b0 + 24) (Int32.toNatClampNeg x2)) → vp_in x2 6 ∧ (vp_in x1 120 ∧ (((ea_i (wX12_lineOf b0 (x1 : Int32) (x2 : Int32) h) (b0 + 38) (Int32.toNatClampNeg x1)) = (3 : Int32) → vp_in x2 6 ∧ (vp_in x1 120 ∧ (((ea_i (wX12_lineOf b0 (x1 : Int32) (x2 : Int32) h) (b0 + 38) (Int32.toNatClampNeg x1)) = (4 : Int32) → vp_in x2 6) ∧ (¬ (ea_i (wX12_lineOf b0 (x1 : Int32) (x2 : Int32) h) (b0 + 38) (Int32.toNatClampNeg x1)) = (4 : Int32) → True)))) ∧ (¬ (ea_i (wX12_lineOf b0 (x1 : Int32) (x2 : Int32) h) (b0 + 38) (Int32.toNatClampNeg x1)) = (3 : Int32) → vp_in x1 120 ∧ (((ea_i (wX12_lineOf b0 (x1 : Int32) (x2 : Int32) h) (b0 + 38) (Int32.toNatClampNeg x1)) = (4 : Int32) → vp_in x2 6) ∧ (¬ (ea_i (wX12_lineOf b0 (x1 : Int32) (x2 : Int32) h) (b0 + 38) (Int32.toNatClampNeg x1)) = (4 : Int32) → True))))))))) ∧ (¬ (0 : Int32) ≤ (99999 : Int32) → vp_in x1 120 ∧ (vp_in x2 6 ∧ ((((ea_i (wX12_lineOf b0 (x1 : Int32) (x2 : Int32) h) (b0 + 44) (Int32.toNatClampNeg x1)) - (ea_i (wX12_lineOf b0 (x1 : Int32) (x2 : Int32) h) (b0 + 44) (Int32.toNatClampNeg x1)) / (1440 : Int32) * (1440 : Int32)) ≤ (ea_i (wX12_lineOf b0 (x1 : Int32) (x2 : Int32) h) (b0 + 24) (Int32.toNatClampNeg x2)) → vp_in x1 120 ∧ (((ea_i (wX12_lineOf b0 (x1 : Int32) (x2 : Int32) h) (b0 + 38) (Int32.toNatClampNeg x1)) = (3 : Int32) → vp_in x2 6 ∧ (vp_in x1 120 ∧ (((ea_i (wX12_lineOf b0 (x1 : Int32) (x2 : Int32) h) (b0 + 38) (Int32.toNatClampNeg x1)) = (4 : Int32) → vp_in x2 6) ∧ (¬ (ea_i (wX12_lineOf b0 (x1 : Int32) (x2 : Int32) h) (b0 + 38) (Int32.toNatClampNeg x1)) = (4 : Int32) → True)))) ∧ (¬ (ea_i (wX12_lineOf b0 (x1 : Int32) (x2 : Int32) h) (b0 + 38) (Int32.toNatClampNeg x1)) = (3 : Int32) → vp_in x1 120 ∧ (((ea_i (wX12_lineOf b0 (x1 : Int32) (x2 : Int32) h) (b0 + 38) (Int32.toNatClampNeg x1)) = (4 : Int32) → vp_in x2 6) ∧ (¬ (ea_i (wX12_lineOf b0 (x1 : Int32) (x2 : Int32) h) (b0 + 38) (Int32.toNatClampNeg x1)) = (4 : Int32) → True))))) ∧ (¬ ((ea_i (wX12_lineOf b0 (x1 : Int32) (x2 : Int32) h) (b0 + 44) (Int32.toNatClampNeg x1)) - (ea_i (wX12_lineOf b0 (x1 : Int32) (x2 : Int32) h) (b0 + 44) (Int32.toNatClampNeg x1)) / (1440 : Int32) * (1440 : Int32)) ≤ (ea_i (wX12_lineOf b0 (x1 : Int32) (x2 : Int32) h) (b0 + 24) (Int32.toNatClampNeg x2)) → vp_in x2 6 ∧ (vp_in x1 120 ∧ (((ea_i (wX12_lineOf b0 (x1 : Int32) (x2 : Int32) h) (b0 + 38) (Int32.toNatClampNeg x1)) = (3 : Int32) → vp_in x2 6 ∧ (vp_in x1 120 ∧ (((ea_i (wX12_lineOf b0 (x1 : Int32) (x2 : Int32) h) (b0 + 38) (Int32.toNatClampNeg x1)) = (4 : Int32) → vp_in x2 6) ∧ (¬ (ea_i (wX12_lineOf b0 (x1 : Int32) (x2 : Int32) h) (b0 + 38) (Int32.toNatClampNeg x1)) = (4 : Int32) → True)))) ∧ (¬ (ea_i (wX12_lineOf b0 (x1 : Int32) (x2 : Int32) h) (b0 + 38) (Int32.toNatClampNeg x1)) = (3 : Int32) → vp_in x1 120 ∧ (((ea_i (wX12_lineOf b0 (x1 : Int32) (x2 : Int32) h) (b0 + 38) (Int32.toNatClampNeg x1)) = (4 : Int32) → vp_in x2 6) ∧ (¬ (ea_i (wX12_lineOf b0 (x1 : Int32) (x2 : Int32) h) (b0 + 38) (Int32.toNatClampNeg x1)) = (4 : Int32) → True)))))))))) ∧ (¬ (0 : Int32) ≤ (0 : Int32) → vp_in x1 120 ∧ (vp_in x2 6 ∧ ((((ea_i (wX12_lineOf b0 (x1 : Int32) (x2 : Int32) h) (b0 + 44) (Int32.toNatClampNeg x1)) - (ea_i (wX12_lineOf b0 (x1 : Int32) (x2 : Int32) h) (b0 + 44) (Int32.toNatClampNeg x1)) / (1440 : Int32) * (1440 : Int32)) ≤ (ea_i (wX12_lineOf b0 (x1 : Int32) (x2 : Int32) h) (b0 + 24) (Int32.toNatClampNeg x2)) → vp_in x1 120 ∧ (((ea_i (wX12_lineOf b0 (x1 : Int32) (x2 : Int32) h) (b0 + 38) (Int32.toNatClampNeg x1)) = (3 : Int32) → vp_in x2 6 ∧ (vp_in x1 120 ∧ (((ea_i (wX12_lineOf b0 (x1 : Int32) (x2 : Int32) h) (b0 + 38) (Int32.toNatClampNeg x1)) = (4 : Int32) → vp_in x2 6) ∧ (¬ (ea_i (wX12_lineOf b0 (x1 : Int32) (x2 : Int32) h) (b0 + 38) (Int32.toNatClampNeg x1)) = (4 : Int32) → True)))) ∧ (¬ (ea_i (wX12_lineOf b0 (x1 : Int32) (x2 : Int32) h) (b0 + 38) (Int32.toNatClampNeg x1)) = (3 : Int32) → vp_in x1 120 ∧ (((ea_i (wX12_lineOf b0 (x1 : Int32) (x2 : Int32) h) (b0 + 38) (Int32.toNatClampNeg x1)) = (4 : Int32) → vp_in x2 6) ∧ (¬ (ea_i (wX12_lineOf b0 (x1 : Int32) (x2 : Int32) h) (b0 + 38) (Int32.toNatClampNeg x1)) = (4 : Int32) → True))))) ∧ (¬ ((ea_i (wX12_lineOf b0 (x1 : Int32) (x2 : Int32) h) (b0 + 44) (Int32.toNatClampNeg x1)) - (ea_i (wX12_lineOf b0 (x1 : Int32) (x2 : Int32) h) (b0 + 44) (Int32.toNatClampNeg x1)) / (1440 : Int32) * (1440 : Int32)) ≤ (ea_i (wX12_lineOf b0 (x1 : Int32) (x2 : Int32) h) (b0 + 24) (Int32.toNatClampNeg x2)) → vp_in x2 6 ∧ (vp_in x1 120 ∧ (((ea_i (wX12_lineOf b0 (x1 : Int32) (x2 : Int32) h) (b0 + 38) (Int32.toNatClampNeg x1)) = (3 : Int32) → vp_in x2 6 ∧ (vp_in x1 120 ∧ (((ea_i (wX12_lineOf b0 (x1 : Int32) (x2 : Int32) h) (b0 + 38) (Int32.toNatClampNeg x1)) = (4 : Int32) → vp_in x2 6) ∧ (¬ (ea_i (wX12_lineOf b0 (x1 : Int32) (x2 : Int32) h) (b0 + 38) (Int32.toNatClampNeg x1)) = (4 : Int32) → True)))) ∧ (¬ (ea_i (wX12_lineOf b0 (x1 : Int32) (x2 : Int32) h) (b0 + 38) (Int32.toNatClampNeg x1)) = (3 : Int32) → vp_in x1 120 ∧ (((ea_i (wX12_lineOf b0 (x1 : Int32) (x2 : Int32) h) (b0 + 38) (Int32.toNatClampNeg x1)) = (4 : Int32) → vp_in x2 6) ∧ (¬ (ea_i (wX12_lineOf b0 (x1 : Int32) (x2 : Int32) h) (b0 + 38) (Int32.toNatClampNeg x1)) = (4 : Int32) → True)))))))))) ∧ (¬ (vX12_lineOf b0 (x1 : Int32) (x2 : Int32) h) = ((-1) : Int32) → vp_in (((25 : Int32) * x2) + (vX12_lineOf b0 (x1 : Int32) (x2 : Int32) h)) 150 ∧ (vp_in (((24 : Int32) * x2) + (vX12_lineOf b0 (x1 : Int32) (x2 : Int32) h)) 144 ∧ ((okX12_comesTo b0 (x2 : Int32) ((ea_i (wX12_lineOf b0 (x1 : Int32) (x2 : Int32) h) (b0 + 30) (Int32.toNatClampNeg (((25 : Int32) * x2) + (vX12_lineOf b0 (x1 : Int32) (x2 : Int32) h)))) : Int32) ((ea_i (wX12_lineOf b0 (x1 : Int32) (x2 : Int32) h) (b0 + 31) (Int32.toNatClampNeg (((24 : Int32) * x2) + (vX12_lineOf b0 (x1 : Int32) (x2 : Int32) h)))) : Int32) (wX12_lineOf b0 (x1 : Int32) (x2 : Int32) h)) ∧ (((0 : Int32) ≤ (vX12_comesTo b0 (x2 : Int32) ((ea_i (wX12_lineOf b0 (x1 : Int32) (x2 : Int32) h) (b0 + 30) (Int32.toNatClampNeg (((25 : Int32) * x2) + (vX12_lineOf b0 (x1 : Int32) (x2 : Int32) h)))) : Int32) ((ea_i (wX12_lineOf b0 (x1 : Int32) (x2 : Int32) h) (b0 + 31) (Int32.toNatClampNeg (((24 : Int32) * x2) + (vX12_lineOf b0 (x1 : Int32) (x2 : Int32) h)))) : Int32) (wX12_lineOf b0 (x1 : Int32) (x2 : Int32) h)) → ((vX12_comesTo b0 (x2 : Int32) ((ea_i (wX12_lineOf b0 (x1 : Int32) (x2 : Int32) h) (b0 + 30) (Int32.toNatClampNeg (((25 : Int32) * x2) + (vX12_lineOf b0 (x1 : Int32) (x2 : Int32) h)))) : Int32) ((ea_i (wX12_lineOf b0 (x1 : Int32) (x2 : Int32) h) (b0 + 31) (Int32.toNatClampNeg (((24 : Int32) * x2) + (vX12_lineOf b0 (x1 : Int32) (x2 : Int32) h)))) : Int32) (wX12_lineOf b0 (x1 : Int32) (x2 : Int32) h)) ≤ (99999 : Int32) → vp_in x1 120 ∧ (vp_in x2 6 ∧ ((((ea_i (wX12_comesTo b0 (x2 : Int32) ((ea_i (wX12_lineOf b0 (x1 : Int32) (x2 : Int32) h) (b0 + 30) (Int32.toNatClampNeg (((25 : Int32) * x2) + (vX12_lineOf b0 (x1 : Int32) (x2 : Int32) h)))) : Int32) ((ea_i (wX12_lineOf b0 (x1 : Int32) (x2 : Int32) h) (b0 + 31) (Int32.toNatClampNeg (((24 : Int32) * x2) + (vX12_lineOf b0 (x1 : Int32) (x2 : Int32) h)))) : Int32) (wX12_lineOf b0 (x1 : Int32) (x2 : Int32) h)) (b0 + 44) (Int32.toNatClampNeg x1)) - (ea_i (wX12_comesTo b0 (x2 : Int32) ((ea_i (wX12_lineOf b0 (x1 : Int32) (x2 : Int32) h) (b0 + 30) (Int32.toNatClampNeg (((25 : Int32) * x2) + (vX12_lineOf b0 (x1 : Int32) (x2 : Int32) h)))) : Int32) ((ea_i (wX12_lineOf b0 (x1 : Int32) (x2 : Int32) h) (b0 + 31) (Int32.toNatClampNeg (((24 : Int32) * x2) + (vX12_lineOf b0 (x1 : Int32) (x2 : Int32) h)))) : Int32) (wX12_lineOf b0 (x1 : Int32) (x2 : Int32) h)) (b0 + 44) (Int32.toNatClampNeg x1)) / (1440 : Int32) * (1440 : Int32)) ≤ (ea_i (wX12_comesTo b0 (x2 : Int32) ((ea_i (wX12_lineOf b0 (x1 : Int32) (x2 : Int32) h) (b0 + 30) (Int32.toNatClampNeg (((25 : Int32) * x2) + (vX12_lineOf b0 (x1 : Int32) (x2 : Int32) h)))) : Int32) ((ea_i (wX12_lineOf b0 (x1 : Int32) (x2 : Int32) h) (b0 + 31) (Int32.toNatClampNeg (((24 : Int32) * x2) + (vX12_lineOf b0 (x1 : Int32) (x2 : Int32) h)))) : Int32) (wX12_lineOf b0 (x1 : Int32) (x2 : Int32) h)) (b0 + 24) (Int32.toNatClampNeg x2)) → vp_in x1 120 ∧ (((ea_i (wX12_comesTo b0 (x2 : Int32) ((ea_i (wX12_lineOf b0 (x1 : Int32) (x2 : Int32) h) (b0 + 30) (Int32.toNatClampNeg (((25 : Int32) * x2) + (vX12_lineOf b0 (x1 : Int32) (x2 : Int32) h)))) : Int32) ((ea_i (wX12_lineOf b0 (x1 : Int32) (x2 : Int32) h) (b0 + 31) (Int32.toNatClampNeg (((24 : Int32) * x2) + (vX12_lineOf b0 (x1 : Int32) (x2 : Int32) h)))) : Int32) (wX12_lineOf b0 (x1 : Int32) (x2 : Int32) h)) (b0 + 38) (Int32.toNatClampNeg x1)) = (3 : Int32) → vp_in x2 6 ∧ (vp_in x1 120 ∧ (((ea_i (wX12_comesTo b0 (x2 : Int32) ((ea_i (wX12_lineOf b0 (x1 : Int32) (x2 : Int32) h) (b0 + 30) (Int32.toNatClampNeg (((25 : Int32) * x2) + (vX12_lineOf b0 (x1 : Int32) (x2 : Int32) h)))) : Int32) ((ea_i (wX12_lineOf b0 (x1 : Int32) (x2 : Int32) h) (b0 + 31) (Int32.toNatClampNeg (((24 : Int32) * x2) + (vX12_lineOf b0 (x1 : Int32) (x2 : Int32) h)))) : Int32) (wX12_lineOf b0 (x1 : Int32) (x2 : Int32) h)) (b0 + 38) (Int32.toNatClampNeg x1)) = (4 : Int32) → vp_in x2 6) ∧ (¬ (ea_i (wX12_comesTo b0 (x2 : Int32) ((ea_i (wX12_lineOf b0 (x1 : Int32) (x2 : Int32) h) (b0 + 30) (Int32.toNatClampNeg (((25 : Int32) * x2) + (vX12_lineOf b0 (x1 : Int32) (x2 : Int32) h)))) : Int32) ((ea_i (wX12_lineOf b0 (x1 : Int32) (x2 : Int32) h) (b0 + 31) (Int32.toNatClampNeg (((24 : Int32) * x2) + (vX12_lineOf b0 (x1 : Int32) (x2 : Int32) h)))) : Int32) (wX12_lineOf b0 (x1 : Int32) (x2 : Int32) h)) (b0 + 38) (Int32.toNatClampNeg x1)) = (4 : Int32) → True)))) ∧ (¬ (ea_i (wX12_comesTo b0 (x2 : Int32) ((ea_i (wX12_lineOf b0 (x1 : Int32) (x2 : Int32) h) (b0 + 30) (Int32.toNatClampNeg (((25 : Int32) * x2) + (vX12_lineOf b0 (x1 : Int32) (x2 : Int32) h)))) : Int32) ((ea_i (wX12_lineOf b0 (x1 : Int32) (x2 : Int32) h) (b0 + 31) (Int32.toNatClampNeg (((24 : Int32) * x2) + (vX12_lineOf b0 (x1 : Int32) (x2 : Int32) h)))) : Int32) (wX12_lineOf b0 (x1 : Int32) (x2 : Int32) h)) (b0 + 38) (Int32.toNatClampNeg x1)) = (3 : Int32) → vp_in x1 120 ∧ (((ea_i (wX12_comesTo b0 (x2 : Int32) ((ea_i (wX12_lineOf b0 (x1 : Int32) (x2 : Int32) h) (b0 + 30) (Int32.toNatClampNeg (((25 : Int32) * x2) + (vX12_lineOf b0 (x1 : Int32) (x2 : Int32) h)))) : Int32) ((ea_i (wX12_lineOf b0 (x1 : Int32) (x2 : Int32) h) (b0 + 31) (Int32.toNatClampNeg (((24 : Int32) * x2) + (vX12_lineOf b0 (x1 : Int32) (x2 : Int32) h)))) : Int32) (wX12_lineOf b0 (x1 : Int32) (x2 : Int32) h)) (b0 + 38) (Int32.toNatClampNeg x1)) = (4 : Int32) → vp_in x2 6) ∧ (¬ (ea_i (wX12_comesTo b0 (x2 : Int32) ((ea_i (wX12_lineOf b0 (x1 : Int32) (x2 : Int32) h) (b0 + 30) (Int32.toNatClampNeg (((25 : Int32) * x2) + (vX12_lineOf b0 (x1 : Int32) (x2 : Int32) h)))) : Int32) ((ea_i (wX12_lineOf b0 (x1 : Int32) (x2 : Int32) h) (b0 + 31) (Int32.toNatClampNeg (((24 : Int32) * x2) + (vX12_lineOf b0 (x1 : Int32) (x2 : Int32) h)))) : Int32) (wX12_lineOf b0 (x1 : Int32) (x2 : Int32) h)) (b0 + 38) (Int32.toNatClampNeg x1)) = (4 : Int32) → True))))) ∧ (¬ ((ea_i (wX12_comesTo b0 (x2 : Int32) ((ea_i (wX12_lineOf b0 (x1 : Int32) (x2 : Int32) h) (b0 + 30) (Int32.toNatClampNeg (((25 : Int32) * x2) + (vX12_lineOf b0 (x1 : Int32) (x2 : Int32) h)))) : Int32) ((ea_i (wX12_lineOf b0 (x1 : Int32) (x2 : Int32) h) (b0 + 31) (Int32.toNatClampNeg (((24 : Int32) * x2) + (vX12_lineOf b0 (x1 : Int32) (x2 : Int32) h)))) : Int32) (wX12_lineOf b0 (x1 : Int32) (x2 : Int32) h)) (b0 + 44) (Int32.toNatClampNeg x1)) - (ea_i (wX12_comesTo b0 (x2 : Int32) ((ea_i (wX12_lineOf b0 (x1 : Int32) (x2 : Int32) h) (b0 + 30) (Int32.toNatClampNeg (((25 : Int32) * x2) + (vX12_lineOf b0 (x1 : Int32) (x2 : Int32) h)))) : Int32) ((ea_i (wX12_lineOf b0 (x1 : Int32) (x2 : Int32) h) (b0 + 31) (Int32.toNatClampNeg (((24 : Int32) * x2) + (vX12_lineOf b0 (x1 : Int32) (x2 : Int32) h)))) : Int32) (wX12_lineOf b0 (x1 : Int32) (x2 : Int32) h)) (b0 + 44) (Int32.toNatClampNeg x1)) / (1440 : Int32) * (1440 : Int32)) ≤ (ea_i (wX12_comesTo b0 (x2 : Int32) ((ea_i (wX12_lineOf b0 (x1 : Int32) (x2 : Int32) h) (b0 + 30) (Int32.toNatClampNeg (((25 : Int32) * x2) + (vX12_lineOf b0 (x1 : Int32) (x2 : Int32) h)))) : Int32) ((ea_i (wX12_lineOf b0 (x1 : Int32) (x2 : Int32) h) (b0 + 31) (Int32.toNatClampNeg (((24 : Int32) * x2) + (vX12_lineOf b0 (x1 : Int32) (x2 : Int32) h)))) : Int32) (wX12_lineOf b0 (x1 : Int32) (x2 : Int32) h)) (b0 + 24) (Int32.toNatClampNeg x2)) → vp_in x2 6 ∧ (vp_in x1 120 ∧ (((ea_i (wX12_comesTo b0 (x2 : Int32) ((ea_i (wX12_lineOf b0 (x1 : Int32) (x2 : Int32) h) (b0 + 30) (Int32.toNatClampNeg (((25 : Int32) * x2) + (vX12_lineOf b0 (x1 : Int32) (x2 : Int32) h)))) : Int32) ((ea_i (wX12_lineOf b0 (x1 : Int32) (x2 : Int32) h) (b0 + 31) (Int32.toNatClampNeg (((24 : Int32) * x2) + (vX12_lineOf b0 (x1 : Int32) (x2 : Int32) h)))) : Int32) (wX12_lineOf b0 (x1 : Int32) (x2 : Int32) h)) (b0 + 38) (Int32.toNatClampNeg x1)) = (3 : Int32) → vp_in x2 6 ∧ (vp_in x1 120 ∧ (((ea_i (wX12_comesTo b0 (x2 : Int32) ((ea_i (wX12_lineOf b0 (x1 : Int32) (x2 : Int32) h) (b0 + 30) (Int32.toNatClampNeg (((25 : Int32) * x2) + (vX12_lineOf b0 (x1 : Int32) (x2 : Int32) h)))) : Int32) ((ea_i (wX12_lineOf b0 (x1 : Int32) (x2 : Int32) h) (b0 + 31) (Int32.toNatClampNeg (((24 : Int32) * x2) + (vX12_lineOf b0 (x1 : Int32) (x2 : Int32) h)))) : Int32) (wX12_lineOf b0 (x1 : Int32) (x2 : Int32) h)) (b0 + 38) (Int32.toNatClampNeg x1)) = (4 : Int32) → vp_in x2 6) ∧ (¬ (ea_i (wX12_comesTo b0 (x2 : Int32) ((ea_i (wX12_lineOf b0 (x1 : Int32) (x2 : Int32) h) (b0 + 30) (Int32.toNatClampNeg (((25 : Int32) * x2) + (vX12_lineOf b0 (x1 : Int32) (x2 : Int32) h)))) : Int32) ((ea_i (wX12_lineOf b0 (x1 : Int32) (x2 : Int32) h) (b0 + 31) (Int32.toNatClampNeg (((24 : Int32) * x2) + (vX12_lineOf b0 (x1 : Int32) (x2 : Int32) h)))) : Int32) (wX12_lineOf b0 (x1 : Int32) (x2 : Int32) h)) (b0 + 38) (Int32.toNatClampNeg x1)) = (4 : Int32) → True)))) ∧ (¬ (ea_i (wX12_comesTo b0 (x2 : Int32) ((ea_i (wX12_lineOf b0 (x1 : Int32) (x2 : Int32) h) (b0 + 30) (Int32.toNatClampNeg (((25 : Int32) * x2) + (vX12_lineOf b0 (x1 : Int32) (x2 : Int32) h)))) : Int32) ((ea_i (wX12_lineOf b0 (x1 : Int32) (x2 : Int32) h) (b0 + 31) (Int32.toNatClampNeg (((24 : Int32) * x2) + (vX12_lineOf b0 (x1 : Int32) (x2 : Int32) h)))) : Int32) (wX12_lineOf b0 (x1 : Int32) (x2 : Int32) h)) (b0 + 38) (Int32.toNatClampNeg x1)) = (3 : Int32) → vp_in x1 120 ∧ (((ea_i (wX12_comesTo b0 (x2 : Int32) ((ea_i (wX12_lineOf b0 (x1 : Int32) (x2 : Int32) h) (b0 + 30) (Int32.toNatClampNeg (((25 : Int32) * x2) + (vX12_lineOf b0 (x1 : Int32) (x2 : Int32) h)))) : Int32) ((ea_i (wX12_lineOf b0 (x1 : Int32) (x2 : Int32) h) (b0 + 31) (Int32.toNatClampNeg (((24 : Int32) * x2) + (vX12_lineOf b0 (x1 : Int32) (x2 : Int32) h)))) : Int32) (wX12_lineOf b0 (x1 : Int32) (x2 : Int32) h)) (b0 + 38) (Int32.toNatClampNeg x1)) = (4 : Int32) → vp_in x2 6) ∧ (¬ (ea_i (wX12_comesTo b0 (x2 : Int32) ((ea_i (wX12_lineOf b0 (x1 : Int32) (x2 : Int32) h) (b0 + 30) (Int32.toNatClampNeg (((25 : Int32) * x2) + (vX12_lineOf b0 (x1 : Int32) (x2 : Int32) h)))) : Int32) ((ea_i (wX12_lineOf b0 (x1 : Int32) (x2 : Int32) h) (b0 + 31) (Int32.toNatClampNeg (((24 : Int32) * x2) + (vX12_lineOf b0 (x1 : Int32) (x2 : Int32) h)))) : Int32) (wX12_lineOf b0 (x1 : Int32) (x2 : Int32) h)) (b0 + 38) (Int32.toNatClampNeg x1)) = (4 : Int32) → True))))))))) ∧ (¬ (vX12_comesTo b0 (x2 : Int32) ((ea_i (wX12_lineOf b0 (x1 : Int32) (x2 : Int32) h) (b0 + 30) (Int32.toNatClampNeg (((25 : Int32) * x2) + (vX12_lineOf b0 (x1 : Int32) (x2 : Int32) h)))) : Int32) ((ea_i (wX12_lineOf b0 (x1 : Int32) (x2 : Int32) h) (b0 + 31) (Int32.toNatClampNeg (((24 : Int32) * x2) + (vX12_lineOf b0 (x1 : Int32) (x2 : Int32) h)))) : Int32) (wX12_lineOf b0 (x1 : Int32) (x2 : Int32) h)) ≤ (99999 : Int32) → vp_in x1 120 ∧ (vp_in x2 6 ∧ ((((ea_i (wX12_comesTo b0 (x2 : Int32) ((ea_i (wX12_lineOf b0 (x1 : Int32) (x2 : Int32) h) (b0 + 30) (Int32.toNatClampNeg (((25 : Int32) * x2) + (vX12_lineOf b0 (x1 : Int32) (x2 : Int32) h)))) : Int32) ((ea_i (wX12_lineOf b0 (x1 : Int32) (x2 : Int32) h) (b0 + 31) (Int32.toNatClampNeg (((24 : Int32) * x2) + (vX12_lineOf b0 (x1 : Int32) (x2 : Int32) h)))) : Int32) (wX12_lineOf b0 (x1 : Int32) (x2 : Int32) h)) (b0 + 44) (Int32.toNatClampNeg x1)) - (ea_i (wX12_comesTo b0 (x2 : Int32) ((ea_i (wX12_lineOf b0 (x1 : Int32) (x2 : Int32) h) (b0 + 30) (Int32.toNatClampNeg (((25 : Int32) * x2) + (vX12_lineOf b0 (x1 : Int32) (x2 : Int32) h)))) : Int32) ((ea_i (wX12_lineOf b0 (x1 : Int32) (x2 : Int32) h) (b0 + 31) (Int32.toNatClampNeg (((24 : Int32) * x2) + (vX12_lineOf b0 (x1 : Int32) (x2 : Int32) h)))) : Int32) (wX12_lineOf b0 (x1 : Int32) (x2 : Int32) h)) (b0 + 44) (Int32.toNatClampNeg x1)) / (1440 : Int32) * (1440 : Int32)) ≤ (ea_i (wX12_comesTo b0 (x2 : Int32) ((ea_i (wX12_lineOf b0 (x1 : Int32) (x2 : Int32) h) (b0 + 30) (Int32.toNatClampNeg (((25 : Int32) * x2) + (vX12_lineOf b0 (x1 : Int32) (x2 : Int32) h)))) : Int32) ((ea_i (wX12_lineOf b0 (x1 : Int32) (x2 : Int32) h) (b0 + 31) (Int32.toNatClampNeg (((24 : Int32) * x2) + (vX12_lineOf b0 (x1 : Int32) (x2 : Int32) h)))) : Int32) (wX12_lineOf b0 (x1 : Int32) (x2 : Int32) h)) (b0 + 24) (Int32.toNatClampNeg x2)) → vp_in x1 120 ∧ (((ea_i (wX12_comesTo b0 (x2 : Int32) ((ea_i (wX12_lineOf b0 (x1 : Int32) (x2 : Int32) h) (b0 + 30) (Int32.toNatClampNeg (((25 : Int32) * x2) + (vX12_lineOf b0 (x1 : Int32) (x2 : Int32) h)))) : Int32) ((ea_i (wX12_lineOf b0 (x1 : Int32) (x2 : Int32) h) (b0 + 31) (Int32.toNatClampNeg (((24 : Int32) * x2) + (vX12_lineOf b0 (x1 : Int32) (x2 : Int32) h)))) : Int32) (wX12_lineOf b0 (x1 : Int32) (x2 : Int32) h)) (b0 + 38) (Int32.toNatClampNeg x1)) = (3 : Int32) → vp_in x2 6 ∧ (vp_in x1 120 ∧ (((ea_i (wX12_comesTo b0 (x2 : Int32) ((ea_i (wX12_lineOf b0 (x1 : Int32) (x2 : Int32) h) (b0 + 30) (Int32.toNatClampNeg (((25 : Int32) * x2) + (vX12_lineOf b0 (x1 : Int32) (x2 : Int32) h)))) : Int32) ((ea_i (wX12_lineOf b0 (x1 : Int32) (x2 : Int32) h) (b0 + 31) (Int32.toNatClampNeg (((24 : Int32) * x2) + (vX12_lineOf b0 (x1 : Int32) (x2 : Int32) h)))) : Int32) (wX12_lineOf b0 (x1 : Int32) (x2 : Int32) h)) (b0 + 38) (Int32.toNatClampNeg x1)) = (4 : Int32) → vp_in x2 6) ∧ (¬ (ea_i (wX12_comesTo b0 (x2 : Int32) ((ea_i (wX12_lineOf b0 (x1 : Int32) (x2 : Int32) h) (b0 + 30) (Int32.toNatClampNeg (((25 : Int32) * x2) + (vX12_lineOf b0 (x1 : Int32) (x2 : Int32) h)))) : Int32) ((ea_i (wX12_lineOf b0 (x1 : Int32) (x2 : Int32) h) (b0 + 31) (Int32.toNatClampNeg (((24 : Int32) * x2) + (vX12_lineOf b0 (x1 : Int32) (x2 : Int32) h)))) : Int32) (wX12_lineOf b0 (x1 : Int32) (x2 : Int32) h)) (b0 + 38) (Int32.toNatClampNeg x1)) = (4 : Int32) → True)))) ∧ (¬ (ea_i (wX12_comesTo b0 (x2 : Int32) ((ea_i (wX12_lineOf b0 (x1 : Int32) (x2 : Int32) h) (b0 + 30) (Int32.toNatClampNeg (((25 : Int32) * x2) + (vX12_lineOf b0 (x1 : Int32) (x2 : Int32) h)))) : Int32) ((ea_i (wX12_lineOf b0 (x1 : Int32) (x2 : Int32) h) (b0 + 31) (Int32.toNatClampNeg (((24 : Int32) * x2) + (vX12_lineOf b0 (x1 : Int32) (x2 : Int32) h)))) : Int32) (wX12_lineOf b0 (x1 : Int32) (x2 : Int32) h)) (b0 + 38) (Int32.toNatClampNeg x1)) = (3 : Int32) → vp_in x1 120 ∧ (((ea_i (wX12_comesTo b0 (x2 : Int32) ((ea_i (wX12_lineOf b0 (x1 : Int32) (x2 : Int32) h) (b0 + 30) (Int32.toNatClampNeg (((25 : Int32) * x2) + (vX12_lineOf b0 (x1 : Int32) (x2 : Int32) h)))) : Int32) ((ea_i (wX12_lineOf b0 (x1 : Int32) (x2 : Int32) h) (b0 + 31) (Int32.toNatClampNeg (((24 : Int32) * x2) + (vX12_lineOf b0 (x1 : Int32) (x2 : Int32) h)))) : Int32) (wX12_lineOf b0 (x1 : Int32) (x2 : Int32) h)) (b0 + 38) (Int32.toNatClampNeg x1)) = (4 : Int32) → vp_in x2 6) ∧ (¬ (ea_i (wX12_comesTo b0 (x2 : Int32) ((ea_i (wX12_lineOf b0 (x1 : Int32) (x2 : Int32) h) (b0 + 30) (Int32.toNatClampNeg (((25 : Int32) * x2) + (vX12_lineOf b0 (x1 : Int32) (x2 : Int32) h)))) : Int32) ((ea_i (wX12_lineOf b0 (x1 : Int32) (x2 : Int32) h) (b0 + 31) (Int32.toNatClampNeg (((24 : Int32) * x2) + (vX12_lineOf b0 (x1 : Int32) (x2 : Int32) h)))) : Int32) (wX12_lineOf b0 (x1 : Int32) (x2 : Int32) h)) (b0 + 38) (Int32.toNatClampNeg x1)) = (4 : Int32) → True))))) ∧ (¬ ((ea_i (wX12_comesTo b0 (x2 : Int32) ((ea_i (wX12_lineOf b0 (x1 : Int32) (x2 : Int32) h) (b0 + 30) (Int32.toNatClampNeg (((25 : Int32) * x2) + (vX12_lineOf b0 (x1 : Int32) (x2 : Int32) h)))) : Int32) ((ea_i (wX12_lineOf b0 (x1 : Int32) (x2 : Int32) h) (b0 + 31) (Int32.toNatClampNeg (((24 : Int32) * x2) + (vX12_lineOf b0 (x1 : Int32) (x2 : Int32) h)))) : Int32) (wX12_lineOf b0 (x1 : Int32) (x2 : Int32) h)) (b0 + 44) (Int32.toNatClampNeg x1)) - (ea_i (wX12_comesTo b0 (x2 : Int32) ((ea_i (wX12_lineOf b0 (x1 : Int32) (x2 : Int32) h) (b0 + 30) (Int32.toNatClampNeg (((25 : Int32) * x2) + (vX12_lineOf b0 (x1 : Int32) (x2 : Int32) h)))) : Int32) ((ea_i (wX12_lineOf b0 (x1 : Int32) (x2 : Int32) h) (b0 + 31) (Int32.toNatClampNeg (((24 : Int32) * x2) + (vX12_lineOf b0 (x1 : Int32) (x2 : Int32) h)))) : Int32) (wX12_lineOf b0 (x1 : Int32) (x2 : Int32) h)) (b0 + 44) (Int32.toNatClampNeg x1)) / (1440 : Int32) * (1440 : Int32)) ≤ (ea_i (wX12_comesTo b0 (x2 : Int32) ((ea_i (wX12_lineOf b0 (x1 : Int32) (x2 : Int32) h) (b0 + 30) (Int32.toNatClampNeg (((25 : Int32) * x2) + (vX12_lineOf b0 (x1 : Int32) (x2 : Int32) h)))) : Int32) ((ea_i (wX12_lineOf b0 (x1 : Int32) (x2 : Int32) h) (b0 + 31) (Int32.toNatClampNeg (((24 : Int32) * x2) + (vX12_lineOf b0 (x1 : Int32) (x2 : Int32) h)))) : Int32) (wX12_lineOf b0 (x1 : Int32) (x2 : Int32) h)) (b0 + 24) (Int32.toNatClampNeg x2)) → vp_in x2 6 ∧ (vp_in x1 120 ∧ (((ea_i (wX12_comesTo b0 (x2 : Int32) ((ea_i (wX12_lineOf b0 (x1 : Int32) (x2 : Int32) h) (b0 + 30) (Int32.toNatClampNeg (((25 : Int32) * x2) + (vX12_lineOf b0 (x1 : Int32) (x2 : Int32) h)))) : Int32) ((ea_i (wX12_lineOf b0 (x1 : Int32) (x2 : Int32) h) (b0 + 31) (Int32.toNatClampNeg (((24 : Int32) * x2) + (vX12_lineOf b0 (x1 : Int32) (x2 : Int32) h)))) : Int32) (wX12_lineOf b0 (x1 : Int32) (x2 : Int32) h)) (b0 + 38) (Int32.toNatClampNeg x1)) = (3 : Int32) → vp_in x2 6 ∧ (vp_in x1 120 ∧ (((ea_i (wX12_comesTo b0 (x2 : Int32) ((ea_i (wX12_lineOf b0 (x1 : Int32) (x2 : Int32) h) (b0 + 30) (Int32.toNatClampNeg (((25 : Int32) * x2) + (vX12_lineOf b0 (x1 : Int32) (x2 : Int32) h)))) : Int32) ((ea_i (wX12_lineOf b0 (x1 : Int32) (x2 : Int32) h) (b0 + 31) (Int32.toNatClampNeg (((24 : Int32) * x2) + (vX12_lineOf b0 (x1 : Int32) (x2 : Int32) h)))) : Int32) (wX12_lineOf b0 (x1 : Int32) (x2 : Int32) h)) (b0 + 38) (Int32.toNatClampNeg x1)) = (4 : Int32) → vp_in x2 6) ∧ (¬ (ea_i (wX12_comesTo b0 (x2 : Int32) ((ea_i (wX12_lineOf b0 (x1 : Int32) (x2 : Int32) h) (b0 + 30) (Int32.toNatClampNeg (((25 : Int32) * x2) + (vX12_lineOf b0 (x1 : Int32) (x2 : Int32) h)))) : Int32) ((ea_i (wX12_lineOf b0 (x1 : Int32) (x2 : Int32) h) (b0 + 31) (Int32.toNatClampNeg (((24 : Int32) * x2) + (vX12_lineOf b0 (x1 : Int32) (x2 : Int32) h)))) : Int32) (wX12_lineOf b0 (x1 : Int32) (x2 : Int32) h)) (b0 + 38) (Int32.toNatClampNeg x1)) = (4 : Int32) → True)))) ∧ (¬ (ea_i (wX12_comesTo b0 (x2 : Int32) ((ea_i (wX12_lineOf b0 (x1 : Int32) (x2 : Int32) h) (b0 + 30) (Int32.toNatClampNeg (((25 : Int32) * x2) + (vX12_lineOf b0 (x1 : Int32) (x2 : Int32) h)))) : Int32) ((ea_i (wX12_lineOf b0 (x1 : Int32) (x2 : Int32) h) (b0 + 31) (Int32.toNatClampNeg (((24 : Int32) * x2) + (vX12_lineOf b0 (x1 : Int32) (x2 : Int32) h)))) : Int32) (wX12_lineOf b0 (x1 : Int32) (x2 : Int32) h)) (b0 + 38) (Int32.toNatClampNeg x1)) = (3 : Int32) → vp_in x1 120 ∧ (((ea_i (wX12_comesTo b0 (x2 : Int32) ((ea_i (wX12_lineOf b0 (x1 : Int32) (x2 : Int32) h) (b0 + 30) (Int32.toNatClampNeg (((25 : Int32) * x2) + (vX12_lineOf b0 (x1 : Int32) (x2 : Int32) h)))) : Int32) ((ea_i (wX12_lineOf b0 (x1 : Int32) (x2 : Int32) h) (b0 + 31) (Int32.toNatClampNeg (((24 : Int32) * x2) + (vX12_lineOf b0 (x1 : Int32) (x2 : Int32) h)))) : Int32) (wX12_lineOf b0 (x1 : Int32) (x2 : Int32) h)) (b0 + 38) (Int32.toNatClampNeg x1)) = (4 : Int32) → vp_in x2 6) ∧ (¬ (ea_i (wX12_comesTo b0 (x2 : Int32) ((ea_i (wX12_lineOf b0 (x1 : Int32) (x2 : Int32) h) (b0 + 30) (Int32.toNatClampNeg (((25 : Int32) * x2) + (vX12_lineOf b0 (x1 : Int32) (x2 : Int32) h)))) : Int32) ((ea_i (wX12_lineOf b0 (x1 : Int32) (x2 : Int32) h) (b0 + 31) (Int32.toNatClampNeg (((24 : Int32) * x2) + (vX12_lineOf b0 (x1 : Int32) (x2 : Int32) h)))) : Int32) (wX12_lineOf b0 (x1 : Int32) (x2 : Int32) h)) (b0 + 38) (Int32.toNatClampNeg x1)) = (4 : Int32) → True)))))))))) ∧ (¬ (0 : Int32) ≤ (vX12_comesTo b0 (x2 : Int32) ((ea_i (wX12_lineOf b0 (x1 : Int32) (x2 : Int32) h) (b0 + 30) (Int32.toNatClampNeg (((25 : Int32) * x2) + (vX12_lineOf b0 (x1 : Int32) (x2 : Int32) h)))) : Int32) ((ea_i (wX12_lineOf b0 (x1 : Int32) (x2 : Int32) h) (b0 + 31) (Int32.toNatClampNeg (((24 : Int32) * x2) + (vX12_lineOf b0 (x1 : Int32) (x2 : Int32) h)))) : Int32) (wX12_lineOf b0 (x1 : Int32) (x2 : Int32) h)) → vp_in x1 120 ∧ (vp_in x2 6 ∧ ((((ea_i (wX12_comesTo b0 (x2 : Int32) ((ea_i (wX12_lineOf b0 (x1 : Int32) (x2 : Int32) h) (b0 + 30) (Int32.toNatClampNeg (((25 : Int32) * x2) + (vX12_lineOf b0 (x1 : Int32) (x2 : Int32) h)))) : Int32) ((ea_i (wX12_lineOf b0 (x1 : Int32) (x2 : Int32) h) (b0 + 31) (Int32.toNatClampNeg (((24 : Int32) * x2) + (vX12_lineOf b0 (x1 : Int32) (x2 : Int32) h)))) : Int32) (wX12_lineOf b0 (x1 : Int32) (x2 : Int32) h)) (b0 + 44) (Int32.toNatClampNeg x1)) - (ea_i (wX12_comesTo b0 (x2 : Int32) ((ea_i (wX12_lineOf b0 (x1 : Int32) (x2 : Int32) h) (b0 + 30) (Int32.toNatClampNeg (((25 : Int32) * x2) + (vX12_lineOf b0 (x1 : Int32) (x2 : Int32) h)))) : Int32) ((ea_i (wX12_lineOf b0 (x1 : Int32) (x2 : Int32) h) (b0 + 31) (Int32.toNatClampNeg (((24 : Int32) * x2) + (vX12_lineOf b0 (x1 : Int32) (x2 : Int32) h)))) : Int32) (wX12_lineOf b0 (x1 : Int32) (x2 : Int32) h)) (b0 + 44) (Int32.toNatClampNeg x1)) / (1440 : Int32) * (1440 : Int32)) ≤ (ea_i (wX12_comesTo b0 (x2 : Int32) ((ea_i (wX12_lineOf b0 (x1 : Int32) (x2 : Int32) h) (b0 + 30) (Int32.toNatClampNeg (((25 : Int32) * x2) + (vX12_lineOf b0 (x1 : Int32) (x2 : Int32) h)))) : Int32) ((ea_i (wX12_lineOf b0 (x1 : Int32) (x2 : Int32) h) (b0 + 31) (Int32.toNatClampNeg (((24 : Int32) * x2) + (vX12_lineOf b0 (x1 : Int32) (x2 : Int32) h)))) : Int32) (wX12_lineOf b0 (x1 : Int32) (x2 : Int32) h)) (b0 + 24) (Int32.toNatClampNeg x2)) → vp_in x1 120 ∧ (((ea_i (wX12_comesTo b0 (x2 : Int32) ((ea_i (wX12_lineOf b0 (x1 : Int32) (x2 : Int32) h) (b0 + 30) (Int32.toNatClampNeg (((25 : Int32) * x2) + (vX12_lineOf b0 (x1 : Int32) (x2 : Int32) h)))) : Int32) ((ea_i (wX12_lineOf b0 (x1 : Int32) (x2 : Int32) h) (b0 + 31) (Int32.toNatClampNeg (((24 : Int32) * x2) + (vX12_lineOf b0 (x1 : Int32) (x2 : Int32) h)))) : Int32) (wX12_lineOf b0 (x1 : Int32) (x2 : Int32) h)) (b0 + 38) (Int32.toNatClampNeg x1)) = (3 : Int32) → vp_in x2 6 ∧ (vp_in x1 120 ∧ (((ea_i (wX12_comesTo b0 (x2 : Int32) ((ea_i (wX12_lineOf b0 (x1 : Int32) (x2 : Int32) h) (b0 + 30) (Int32.toNatClampNeg (((25 : Int32) * x2) + (vX12_lineOf b0 (x1 : Int32) (x2 : Int32) h)))) : Int32) ((ea_i (wX12_lineOf b0 (x1 : Int32) (x2 : Int32) h) (b0 + 31) (Int32.toNatClampNeg (((24 : Int32) * x2) + (vX12_lineOf b0 (x1 : Int32) (x2 : Int32) h)))) : Int32) (wX12_lineOf b0 (x1 : Int32) (x2 : Int32) h)) (b0 + 38) (Int32.toNatClampNeg x1)) = (4 : Int32) → vp_in x2 6) ∧ (¬ (ea_i (wX12_comesTo b0 (x2 : Int32) ((ea_i (wX12_lineOf b0 (x1 : Int32) (x2 : Int32) h) (b0 + 30) (Int32.toNatClampNeg (((25 : Int32) * x2) + (vX12_lineOf b0 (x1 : Int32) (x2 : Int32) h)))) : Int32) ((ea_i (wX12_lineOf b0 (x1 : Int32) (x2 : Int32) h) (b0 + 31) (Int32.toNatClampNeg (((24 : Int32) * x2) + (vX12_lineOf b0 (x1 : Int32) (x2 : Int32) h)))) : Int32) (wX12_lineOf b0 (x1 : Int32) (x2 : Int32) h)) (b0 + 38) (Int32.toNatClampNeg x1)) = (4 : Int32) → True)))) ∧ (¬ (ea_i (wX12_comesTo b0 (x2 : Int32) ((ea_i (wX12_lineOf b0 (x1 : Int32) (x2 : Int32) h) (b0 + 30) (Int32.toNatClampNeg (((25 : Int32) * x2) + (vX12_lineOf b0 (x1 : Int32) (x2 : Int32) h)))) : Int32) ((ea_i (wX12_lineOf b0 (x1 : Int32) (x2 : Int32) h) (b0 + 31) (Int32.toNatClampNeg (((24 : Int32) * x2) + (vX12_lineOf b0 (x1 : Int32) (x2 : Int32) h)))) : Int32) (wX12_lineOf b0 (x1 : Int32) (x2 : Int32) h)) (b0 + 38) (Int32.toNatClampNeg x1)) = (3 : Int32) → vp_in x1 120 ∧ (((ea_i (wX12_comesTo b0 (x2 : Int32) ((ea_i (wX12_lineOf b0 (x1 : Int32) (x2 : Int32) h) (b0 + 30) (Int32.toNatClampNeg (((25 : Int32) * x2) + (vX12_lineOf b0 (x1 : Int32) (x2 : Int32) h)))) : Int32) ((ea_i (wX12_lineOf b0 (x1 : Int32) (x2 : Int32) h) (b0 + 31) (Int32.toNatClampNeg (((24 : Int32) * x2) + (vX12_lineOf b0 (x1 : Int32) (x2 : Int32) h)))) : Int32) (wX12_lineOf b0 (x1 : Int32) (x2 : Int32) h)) (b0 + 38) (Int32.toNatClampNeg x1)) = (4 : Int32) → vp_in x2 6) ∧ (¬ (ea_i (wX12_comesTo b0 (x2 : Int32) ((ea_i (wX12_lineOf b0 (x1 : Int32) (x2 : Int32) h) (b0 + 30) (Int32.toNatClampNeg (((25 : Int32) * x2) + (vX12_lineOf b0 (x1 : Int32) (x2 : Int32) h)))) : Int32) ((ea_i (wX12_lineOf b0 (x1 : Int32) (x2 : Int32) h) (b0 + 31) (Int32.toNatClampNeg (((24 : Int32) * x2) + (vX12_lineOf b0 (x1 : Int32) (x2 : Int32) h)))) : Int32) (wX12_lineOf b0 (x1 : Int32) (x2 : Int32) h)) (b0 + 38) (Int32.toNatClampNeg x1)) = (4 : Int32) → True))))) ∧ (¬ ((ea_i (wX12_comesTo b0 (x2 : Int32) ((ea_i (wX12_lineOf b0 (x1 : Int32) (x2 : Int32) h) (b0 + 30) (Int32.toNatClampNeg (((25 : Int32) * x2) + (vX12_lineOf b0 (x1 : Int32) (x2 : Int32) h)))) : Int32) ((ea_i (wX12_lineOf b0 (x1 : Int32) (x2 : Int32) h) (b0 + 31) (Int32.toNatClampNeg (((24 : Int32) * x2) + (vX12_lineOf b0 (x1 : Int32) (x2 : Int32) h)))) : Int32) (wX12_lineOf b0 (x1 : Int32) (x2 : Int32) h)) (b0 + 44) (Int32.toNatClampNeg x1)) - (ea_i (wX12_comesTo b0 (x2 : Int32) ((ea_i (wX12_lineOf b0 (x1 : Int32) (x2 : Int32) h) (b0 + 30) (Int32.toNatClampNeg (((25 : Int32) * x2) + (vX12_lineOf b0 (x1 : Int32) (x2 : Int32) h)))) : Int32) ((ea_i (wX12_lineOf b0 (x1 : Int32) (x2 : Int32) h) (b0 + 31) (Int32.toNatClampNeg (((24 : Int32) * x2) + (vX12_lineOf b0 (x1 : Int32) (x2 : Int32) h)))) : Int32) (wX12_lineOf b0 (x1 : Int32) (x2 : Int32) h)) (b0 + 44) (Int32.toNatClampNeg x1)) / (1440 : Int32) * (1440 : Int32)) ≤ (ea_i (wX12_comesTo b0 (x2 : Int32) ((ea_i (wX12_lineOf b0 (x1 : Int32) (x2 : Int32) h) (b0 + 30) (Int32.toNatClampNeg (((25 : Int32) * x2) + (vX12_lineOf b0 (x1 : Int32) (x2 : Int32) h)))) : Int32) ((ea_i (wX12_lineOf b0 (x1 : Int32) (x2 : Int32) h) (b0 + 31) (Int32.toNatClampNeg (((24 : Int32) * x2) + (vX12_lineOf b0 (x1 : Int32) (x2 : Int32) h)))) : Int32) (wX12_lineOf b0 (x1 : Int32) (x2 : Int32) h)) (b0 + 24) (Int32.toNatClampNeg x2)) → vp_in x2 6 ∧ (vp_in x1 120 ∧ (((ea_i (wX12_comesTo b0 (x2 : Int32) ((ea_i (wX12_lineOf b0 (x1 : Int32) (x2 : Int32) h) (b0 + 30) (Int32.toNatClampNeg (((25 : Int32) * x2) + (vX12_lineOf b0 (x1 : Int32) (x2 : Int32) h)))) : Int32) ((ea_i (wX12_lineOf b0 (x1 : Int32) (x2 : Int32) h) (b0 + 31) (Int32.toNatClampNeg (((24 : Int32) * x2) + (vX12_lineOf b0 (x1 : Int32) (x2 : Int32) h)))) : Int32) (wX12_lineOf b0 (x1 : Int32) (x2 : Int32) h)) (b0 + 38) (Int32.toNatClampNeg x1)) = (3 : Int32) → vp_in x2 6 ∧ (vp_in x1 120 ∧ (((ea_i (wX12_comesTo b0 (x2 : Int32) ((ea_i (wX12_lineOf b0 (x1 : Int32) (x2 : Int32) h) (b0 + 30) (Int32.toNatClampNeg (((25 : Int32) * x2) + (vX12_lineOf b0 (x1 : Int32) (x2 : Int32) h)))) : Int32) ((ea_i (wX12_lineOf b0 (x1 : Int32) (x2 : Int32) h) (b0 + 31) (Int32.toNatClampNeg (((24 : Int32) * x2) + (vX12_lineOf b0 (x1 : Int32) (x2 : Int32) h)))) : Int32) (wX12_lineOf b0 (x1 : Int32) (x2 : Int32) h)) (b0 + 38) (Int32.toNatClampNeg x1)) = (4 : Int32) → vp_in x2 6) ∧ (¬ (ea_i (wX12_comesTo b0 (x2 : Int32) ((ea_i (wX12_lineOf b0 (x1 : Int32) (x2 : Int32) h) (b0 + 30) (Int32.toNatClampNeg (((25 : Int32) * x2) + (vX12_lineOf b0 (x1 : Int32) (x2 : Int32) h)))) : Int32) ((ea_i (wX12_lineOf b0 (x1 : Int32) (x2 : Int32) h) (b0 + 31) (Int32.toNatClampNeg (((24 : Int32) * x2) + (vX12_lineOf b0 (x1 : Int32) (x2 : Int32) h)))) : Int32) (wX12_lineOf b0 (x1 : Int32) (x2 : Int32) h)) (b0 + 38) (Int32.toNatClampNeg x1)) = (4 : Int32) → True)))) ∧ (¬ (ea_i (wX12_comesTo b0 (x2 : Int32) ((ea_i (wX12_lineOf b0 (x1 : Int32) (x2 : Int32) h) (b0 + 30) (Int32.toNatClampNeg (((25 : Int32) * x2) + (vX12_lineOf b0 (x1 : Int32) (x2 : Int32) h)))) : Int32) ((ea_i (wX12_lineOf b0 (x1 : Int32) (x2 : Int32) h) (b0 + 31) (Int32.toNatClampNeg (((24 : Int32) * x2) + (vX12_lineOf b0 (x1 : Int32) (x2 : Int32) h)))) : Int32) (wX12_lineOf b0 (x1 : Int32) (x2 : Int32) h)) (b0 + 38) (Int32.toNatClampNeg x1)) = (3 : Int32) → vp_in x1 120 ∧ (((ea_i (wX12_comesTo b0 (x2 : Int32) ((ea_i (wX12_lineOf b0 (x1 : Int32) (x2 : Int32) h) (b0 + 30) (Int32.toNatClampNeg (((25 : Int32) * x2) + (vX12_lineOf b0 (x1 : Int32) (x2 : Int32) h)))) : Int32) ((ea_i (wX12_lineOf b0 (x1 : Int32) (x2 : Int32) h) (b0 + 31) (Int32.toNatClampNeg (((24 : Int32) * x2) + (vX12_lineOf b0 (x1 : Int32) (x2 : Int32) h)))) : Int32) (wX12_lineOf b0 (x1 : Int32) (x2 : Int32) h)) (b0 + 38) (Int32.toNatClampNeg x1)) = (4 : Int32) → vp_in x2 6) ∧ (¬ (ea_i (wX12_comesTo b0 (x2 : Int32) ((ea_i (wX12_lineOf b0 (x1 : Int32) (x2 : Int32) h) (b0 + 30) (Int32.toNatClampNeg (((25 : Int32) * x2) + (vX12_lineOf b0 (x1 : Int32) (x2 : Int32) h)))) : Int32) ((ea_i (wX12_lineOf b0 (x1 : Int32) (x2 : Int32) h) (b0 + 31) (Int32.toNatClampNeg (((24 : Int32) * x2) + (vX12_lineOf b0 (x1 : Int32) (x2 : Int32) h)))) : Int32) (wX12_lineOf b0 (x1 : Int32) (x2 : Int32) h)) (b0 + 38) (Int32.toNatClampNeg x1)) = (4 : Int32) → True))))))))))))))) ∧ (¬ (vX12_isFree b0 (x1 : Int32) (x2 : Int32) h) = (0 : Int32) → True))
theorem shX12_chargeBy {b0 : Nat} {x1 : Int32} {x2 : Int32} {h : ea_H} (hs : ShM b0 h) : ShM b0 (wX12_chargeBy b0 x1 x2 h) := (ShM_it (ShM_it (shX12_lineOf hs) (shX12_comesTo (shX12_lineOf hs))) hs)
theorem sX12_chargeBy {d : Nat} {b0 : Nat} {x1 : Int32} {x2 : Int32} {h : ea_H} (hd : 4 ≤ d) (hs : ShM b0 h) (K : okX12_chargeBy b0 x1 x2 h) : ea_Met mX12_chargeBy d [vR (some (b0 + 0)), vI x1, vI x2] h (some (vI (vX12_chargeBy b0 x1 x2 h))) (wX12_chargeBy b0 x1 x2 h) := by
  obtain ⟨X, EX⟩ : ∃ z, z = vX12_chargeBy b0 x1 x2 h := ⟨_, rfl⟩
  rw [← EX]
  unfold vX12_chargeBy at EX
  obtain ⟨Y, EY⟩ : ∃ z, z = wX12_chargeBy b0 x1 x2 h := ⟨_, rfl⟩
  rw [← EY]
  unfold wX12_chargeBy at EY
  unfold okX12_chargeBy at K
  refine ea_enter rfl (Nat.le_of_ble_eq_true rfl) ?_
  refine ea_aload_n (pc := 0) dX12_chargeBy_0 rfl 0 rfl ?_
  refine ea_iload_n (pc := 1) dX12_chargeBy_1 rfl 1 rfl ?_
  refine ea_iload_n (pc := 2) dX12_chargeBy_2 rfl 2 rfl ?_
  obtain ⟨z1, K⟩ := K
  refine ea_callV (pc := 3) (d' := d - 1) (As := [vI x1, vI x2]) (st := []) dX12_chargeBy_3 kX12_isFree (sX12_isFree (d := d - 1) (by omega) hs z1) (by omega) rfl (Nat.le_of_ble_eq_true rfl) ew_1987 ew_1989 ew_83 (ci := 12) rfl (by decide) (hs.1 0 (by decide)).1 (hs.1 0 (by decide)).2.1 ?_
  refine ea_if_eq (pc := 6) (tgt := 11) dX12_chargeBy_6 rfl (fun c145 => ?_) (fun c145 => ?_)
  · have EX := EX.trans (if_pos c145)
    have EY := EY.trans (if_pos c145)
    have K := K.1 c145
    refine ea_aload_n (pc := 11) dX12_chargeBy_11 rfl 0 rfl ?_
    refine ea_iload_n (pc := 12) dX12_chargeBy_12 rfl 1 rfl ?_
    refine ea_iload_n (pc := 13) dX12_chargeBy_13 rfl 2 rfl ?_
    obtain ⟨z2, K⟩ := K
    refine ea_callV (pc := 14) (d' := d - 1) (As := [vI x1, vI x2]) (st := []) dX12_chargeBy_14 kX12_lineOf (sX12_lineOf (d := d - 1) (by omega) hs z2) (by omega) rfl (Nat.le_of_ble_eq_true rfl) ew_1995 ew_1997 ew_85 (ci := 12) rfl (by decide) (hs.1 0 (by decide)).1 (hs.1 0 (by decide)).2.1 ?_
    have hs3 : ShM b0 (wX12_lineOf b0 (x1 : Int32) (x2 : Int32) h) := shX12_lineOf hs
    refine ea_istore_n (pc := 17) (lv' := [(0, vR (some (b0 + 0))), (1, vI x1), (2, vI x2), (3, vI (vX12_lineOf b0 (x1 : Int32) (x2 : Int32) h))]) dX12_chargeBy_17 rfl (Nat.le_of_ble_eq_true rfl) [1, 2, 3, 0] rfl ?_
    refine ea_iload_n (pc := 18) dX12_chargeBy_18 rfl 3 rfl ?_
    refine ea_iconst (pc := 19) dX12_chargeBy_19 (v := (-1)) rfl ?_
    refine ea_icmp_ne (pc := 20) (tgt := 27) dX12_chargeBy_20 rfl (fun c144 => ?_) (fun c144 => ?_)
    · have EX := EX.trans (if_neg c144)
      have EY := EY.trans (if_neg c144)
      have K := K.2 c144
      refine ea_aload_n (pc := 27) dX12_chargeBy_27 rfl 0 rfl ?_
      refine ea_iload_n (pc := 28) dX12_chargeBy_28 rfl 2 rfl ?_
      refine ea_aload_n (pc := 29) dX12_chargeBy_29 rfl 0 rfl ?_
      refine ea_getR (pc := 30) dX12_chargeBy_30 ec_12 (k := 35) (Nat.le_of_ble_eq_true rfl) rfl (Or.inl ew_1380) (hs3.1 0 (by decide)).1 (hs3.1 0 (by decide)).2.1 (hs3.2 0 35 rfl) ?_
      refine ea_bipush (pc := 33) dX12_chargeBy_33 (v := 25) rfl ?_
      refine ea_iload_n (pc := 35) dX12_chargeBy_35 rfl 2 rfl ?_
      refine ea_imul (pc := 36) dX12_chargeBy_36 ?_
      refine ea_iload_n (pc := 37) dX12_chargeBy_37 rfl 3 rfl ?_
      refine ea_iadd (pc := 38) dX12_chargeBy_38 ?_
      obtain ⟨z4, K⟩ := K
      refine ea_iald (pc := 39) dX12_chargeBy_39 (hs3.1 30 (by decide)).1 (hs3.1 30 (by decide)).2.1 (ea_vpl (hs3.1 30 (by decide)).2.2 z4) ?_
      refine ea_aload_n (pc := 40) dX12_chargeBy_40 rfl 0 rfl ?_
      refine ea_getR (pc := 41) dX12_chargeBy_41 ec_12 (k := 36) (Nat.le_of_ble_eq_true rfl) rfl (Or.inl ew_1381) (hs3.1 0 (by decide)).1 (hs3.1 0 (by decide)).2.1 (hs3.2 0 36 rfl) ?_
      refine ea_bipush (pc := 44) dX12_chargeBy_44 (v := 24) rfl ?_
      refine ea_iload_n (pc := 46) dX12_chargeBy_46 rfl 2 rfl ?_
      refine ea_imul (pc := 47) dX12_chargeBy_47 ?_
      refine ea_iload_n (pc := 48) dX12_chargeBy_48 rfl 3 rfl ?_
      refine ea_iadd (pc := 49) dX12_chargeBy_49 ?_
      obtain ⟨z5, K⟩ := K
      refine ea_iald (pc := 50) dX12_chargeBy_50 (hs3.1 31 (by decide)).1 (hs3.1 31 (by decide)).2.1 (ea_vpl (hs3.1 31 (by decide)).2.2 z5) ?_
      obtain ⟨z6, K⟩ := K
      refine ea_callV (pc := 51) (d' := d - 1) (As := [vI x2, vI (ea_i (wX12_lineOf b0 (x1 : Int32) (x2 : Int32) h) (b0 + 30) (Int32.toNatClampNeg (((25 : Int32) * x2) + (vX12_lineOf b0 (x1 : Int32) (x2 : Int32) h)))), vI (ea_i (wX12_lineOf b0 (x1 : Int32) (x2 : Int32) h) (b0 + 31) (Int32.toNatClampNeg (((24 : Int32) * x2) + (vX12_lineOf b0 (x1 : Int32) (x2 : Int32) h))))]) (st := []) dX12_chargeBy_51 kX12_comesTo (sX12_comesTo (d := d - 1) (by omega) hs3 z6) (by omega) rfl (Nat.le_of_ble_eq_true rfl) ew_2003 ew_2005 ew_87 (ci := 12) rfl (by decide) (hs3.1 0 (by decide)).1 (hs3.1 0 (by decide)).2.1 ?_
      have hs7 : ShM b0 (wX12_comesTo b0 (x2 : Int32) ((ea_i (wX12_lineOf b0 (x1 : Int32) (x2 : Int32) h) (b0 + 30) (Int32.toNatClampNeg (((25 : Int32) * x2) + (vX12_lineOf b0 (x1 : Int32) (x2 : Int32) h)))) : Int32) ((ea_i (wX12_lineOf b0 (x1 : Int32) (x2 : Int32) h) (b0 + 31) (Int32.toNatClampNeg (((24 : Int32) * x2) + (vX12_lineOf b0 (x1 : Int32) (x2 : Int32) h)))) : Int32) (wX12_lineOf b0 (x1 : Int32) (x2 : Int32) h)) := shX12_comesTo hs3
      refine ea_istore (pc := 54) (lv' := [(0, vR (some (b0 + 0))), (1, vI x1), (2, vI x2), (4, vI (vX12_comesTo b0 (x2 : Int32) ((ea_i (wX12_lineOf b0 (x1 : Int32) (x2 : Int32) h) (b0 + 30) (Int32.toNatClampNeg (((25 : Int32) * x2) + (vX12_lineOf b0 (x1 : Int32) (x2 : Int32) h)))) : Int32) ((ea_i (wX12_lineOf b0 (x1 : Int32) (x2 : Int32) h) (b0 + 31) (Int32.toNatClampNeg (((24 : Int32) * x2) + (vX12_lineOf b0 (x1 : Int32) (x2 : Int32) h)))) : Int32) (wX12_lineOf b0 (x1 : Int32) (x2 : Int32) h)))]) dX12_chargeBy_54 (Nat.le_of_ble_eq_true rfl) [1, 2, 3, 0] rfl ?_
      refine ea_iload (pc := 56) dX12_chargeBy_56 3 rfl ?_
      refine ea_if_ge (pc := 58) (tgt := 65) dX12_chargeBy_58 rfl (fun c75 => ?_) (fun c75 => ?_)
      · have EX := EX.trans (if_pos c75)
        have K := K.1 c75
        refine ea_iload (pc := 65) dX12_chargeBy_65 3 rfl ?_
        refine ea_ldcw (pc := 67) dX12_chargeBy_67 ew_2010 ?_
        refine ea_icmp_le (pc := 70) (tgt := 79) dX12_chargeBy_70 rfl (fun c52 => ?_) (fun c52 => ?_)
        · have EX := EX.trans (if_pos c52)
          have K := K.1 c52
          refine ea_iload (pc := 79) dX12_chargeBy_79 3 rfl ?_
          refine ea_istore (pc := 81) (lv' := [(0, vR (some (b0 + 0))), (1, vI x1), (2, vI x2), (4, vI (vX12_comesTo b0 (x2 : Int32) ((ea_i (wX12_lineOf b0 (x1 : Int32) (x2 : Int32) h) (b0 + 30) (Int32.toNatClampNeg (((25 : Int32) * x2) + (vX12_lineOf b0 (x1 : Int32) (x2 : Int32) h)))) : Int32) ((ea_i (wX12_lineOf b0 (x1 : Int32) (x2 : Int32) h) (b0 + 31) (Int32.toNatClampNeg (((24 : Int32) * x2) + (vX12_lineOf b0 (x1 : Int32) (x2 : Int32) h)))) : Int32) (wX12_lineOf b0 (x1 : Int32) (x2 : Int32) h)))]) dX12_chargeBy_81 (Nat.le_of_ble_eq_true rfl) [1, 2, 3, 0] rfl ?_
          refine ea_aload_n (pc := 83) dX12_chargeBy_83 rfl 0 rfl ?_
          refine ea_getR (pc := 84) dX12_chargeBy_84 ec_12 (k := 70) (Nat.le_of_ble_eq_true rfl) rfl (Or.inl ew_1415) (hs7.1 0 (by decide)).1 (hs7.1 0 (by decide)).2.1 (hs7.2 0 70 rfl) ?_
          refine ea_iload_n (pc := 87) dX12_chargeBy_87 rfl 1 rfl ?_
          obtain ⟨z8, K⟩ := K
          refine ea_iald (pc := 88) dX12_chargeBy_88 (hs7.1 44 (by decide)).1 (hs7.1 44 (by decide)).2.1 (ea_vpl (hs7.1 44 (by decide)).2.2 z8) ?_
          refine ea_sipush (pc := 89) dX12_chargeBy_89 (v := 1440) rfl ?_
          refine ea_irem (pc := 92) dX12_chargeBy_92 (by decide) ?_
          refine ea_aload_n (pc := 93) dX12_chargeBy_93 rfl 0 rfl ?_
          refine ea_getR (pc := 94) dX12_chargeBy_94 ec_12 (k := 29) (Nat.le_of_ble_eq_true rfl) rfl (Or.inl ew_1374) (hs7.1 0 (by decide)).1 (hs7.1 0 (by decide)).2.1 (hs7.2 0 29 rfl) ?_
          refine ea_iload_n (pc := 97) dX12_chargeBy_97 rfl 2 rfl ?_
          obtain ⟨z9, K⟩ := K
          refine ea_iald (pc := 98) dX12_chargeBy_98 (hs7.1 24 (by decide)).1 (hs7.1 24 (by decide)).2.1 (ea_vpl (hs7.1 24 (by decide)).2.2 z9) ?_
          refine ea_icmp_le (pc := 99) (tgt := 113) dX12_chargeBy_99 rfl (fun c29 => ?_) (fun c29 => ?_)
          · have EX := EX.trans (if_pos c29)
            have K := K.1 c29
            refine ea_aload_n (pc := 113) dX12_chargeBy_113 rfl 0 rfl ?_
            refine ea_getR (pc := 114) dX12_chargeBy_114 ec_12 (k := 64) (Nat.le_of_ble_eq_true rfl) rfl (Or.inl ew_1409) (hs7.1 0 (by decide)).1 (hs7.1 0 (by decide)).2.1 (hs7.2 0 64 rfl) ?_
            refine ea_iload_n (pc := 117) dX12_chargeBy_117 rfl 1 rfl ?_
            obtain ⟨z10, K⟩ := K
            refine ea_iald (pc := 118) dX12_chargeBy_118 (hs7.1 38 (by decide)).1 (hs7.1 38 (by decide)).2.1 (ea_vpl (hs7.1 38 (by decide)).2.2 z10) ?_
            refine ea_iconst (pc := 119) dX12_chargeBy_119 (v := 3) rfl ?_
            refine ea_icmp_ne (pc := 120) (tgt := 134) dX12_chargeBy_120 rfl (fun c18 => ?_) (fun c18 => ?_)
            · have EX := EX.trans (if_neg c18)
              have K := K.2 c18
              refine ea_aload_n (pc := 134) dX12_chargeBy_134 rfl 0 rfl ?_
              refine ea_getR (pc := 135) dX12_chargeBy_135 ec_12 (k := 64) (Nat.le_of_ble_eq_true rfl) rfl (Or.inl ew_1409) (hs7.1 0 (by decide)).1 (hs7.1 0 (by decide)).2.1 (hs7.2 0 64 rfl) ?_
              refine ea_iload_n (pc := 138) dX12_chargeBy_138 rfl 1 rfl ?_
              obtain ⟨z11, K⟩ := K
              refine ea_iald (pc := 139) dX12_chargeBy_139 (hs7.1 38 (by decide)).1 (hs7.1 38 (by decide)).2.1 (ea_vpl (hs7.1 38 (by decide)).2.2 z11) ?_
              refine ea_iconst (pc := 140) dX12_chargeBy_140 (v := 4) rfl ?_
              refine ea_icmp_ne (pc := 141) (tgt := 155) dX12_chargeBy_141 rfl (fun c13 => ?_) (fun c13 => ?_)
              · have EX := EX.trans (if_neg c13)
                refine ea_iload (pc := 155) dX12_chargeBy_155 3 rfl ?_
                subst EX
                subst EY
                exact ea_ireturn (pc := 157) dX12_chargeBy_157 rfl rfl
              · have EX := EX.trans (if_pos c13)
                have K := K.1 c13
                refine ea_iload (pc := 144) dX12_chargeBy_144 3 rfl ?_
                refine ea_aload_n (pc := 146) dX12_chargeBy_146 rfl 0 rfl ?_
                refine ea_getR (pc := 147) dX12_chargeBy_147 ec_12 (k := 32) (Nat.le_of_ble_eq_true rfl) rfl (Or.inl ew_1377) (hs7.1 0 (by decide)).1 (hs7.1 0 (by decide)).2.1 (hs7.2 0 32 rfl) ?_
                refine ea_iload_n (pc := 150) dX12_chargeBy_150 rfl 2 rfl ?_
                have z12 := K
                refine ea_iald (pc := 151) dX12_chargeBy_151 (hs7.1 27 (by decide)).1 (hs7.1 27 (by decide)).2.1 (ea_vpl (hs7.1 27 (by decide)).2.2 z12) ?_
                refine ea_iadd (pc := 152) dX12_chargeBy_152 ?_
                refine ea_istore (pc := 153) (lv' := [(4, vI ((vX12_comesTo b0 (x2 : Int32) ((ea_i (wX12_lineOf b0 (x1 : Int32) (x2 : Int32) h) (b0 + 30) (Int32.toNatClampNeg (((25 : Int32) * x2) + (vX12_lineOf b0 (x1 : Int32) (x2 : Int32) h)))) : Int32) ((ea_i (wX12_lineOf b0 (x1 : Int32) (x2 : Int32) h) (b0 + 31) (Int32.toNatClampNeg (((24 : Int32) * x2) + (vX12_lineOf b0 (x1 : Int32) (x2 : Int32) h)))) : Int32) (wX12_lineOf b0 (x1 : Int32) (x2 : Int32) h)) + (ea_i (wX12_comesTo b0 (x2 : Int32) ((ea_i (wX12_lineOf b0 (x1 : Int32) (x2 : Int32) h) (b0 + 30) (Int32.toNatClampNeg (((25 : Int32) * x2) + (vX12_lineOf b0 (x1 : Int32) (x2 : Int32) h)))) : Int32) ((ea_i (wX12_lineOf b0 (x1 : Int32) (x2 : Int32) h) (b0 + 31) (Int32.toNatClampNeg (((24 : Int32) * x2) + (vX12_lineOf b0 (x1 : Int32) (x2 : Int32) h)))) : Int32) (wX12_lineOf b0 (x1 : Int32) (x2 : Int32) h)) (b0 + 27) (Int32.toNatClampNeg x2))))]) dX12_chargeBy_153 (Nat.le_of_ble_eq_true rfl) [0] rfl ?_
                refine ea_iload (pc := 155) dX12_chargeBy_155 0 rfl ?_
                subst EX
                subst EY
                exact ea_ireturn (pc := 157) dX12_chargeBy_157 rfl rfl
            · have EX := EX.trans (if_pos c18)
              have K := K.1 c18
              refine ea_iload (pc := 123) dX12_chargeBy_123 3 rfl ?_
              refine ea_aload_n (pc := 125) dX12_chargeBy_125 rfl 0 rfl ?_
              refine ea_getR (pc := 126) dX12_chargeBy_126 ec_12 (k := 31) (Nat.le_of_ble_eq_true rfl) rfl (Or.inl ew_1376) (hs7.1 0 (by decide)).1 (hs7.1 0 (by decide)).2.1 (hs7.2 0 31 rfl) ?_
              refine ea_iload_n (pc := 129) dX12_chargeBy_129 rfl 2 rfl ?_
              obtain ⟨z14, K⟩ := K
              refine ea_iald (pc := 130) dX12_chargeBy_130 (hs7.1 26 (by decide)).1 (hs7.1 26 (by decide)).2.1 (ea_vpl (hs7.1 26 (by decide)).2.2 z14) ?_
              refine ea_iadd (pc := 131) dX12_chargeBy_131 ?_
              refine ea_istore (pc := 132) (lv' := [(0, vR (some (b0 + 0))), (1, vI x1), (2, vI x2), (4, vI ((vX12_comesTo b0 (x2 : Int32) ((ea_i (wX12_lineOf b0 (x1 : Int32) (x2 : Int32) h) (b0 + 30) (Int32.toNatClampNeg (((25 : Int32) * x2) + (vX12_lineOf b0 (x1 : Int32) (x2 : Int32) h)))) : Int32) ((ea_i (wX12_lineOf b0 (x1 : Int32) (x2 : Int32) h) (b0 + 31) (Int32.toNatClampNeg (((24 : Int32) * x2) + (vX12_lineOf b0 (x1 : Int32) (x2 : Int32) h)))) : Int32) (wX12_lineOf b0 (x1 : Int32) (x2 : Int32) h)) + (ea_i (wX12_comesTo b0 (x2 : Int32) ((ea_i (wX12_lineOf b0 (x1 : Int32) (x2 : Int32) h) (b0 + 30) (Int32.toNatClampNeg (((25 : Int32) * x2) + (vX12_lineOf b0 (x1 : Int32) (x2 : Int32) h)))) : Int32) ((ea_i (wX12_lineOf b0 (x1 : Int32) (x2 : Int32) h) (b0 + 31) (Int32.toNatClampNeg (((24 : Int32) * x2) + (vX12_lineOf b0 (x1 : Int32) (x2 : Int32) h)))) : Int32) (wX12_lineOf b0 (x1 : Int32) (x2 : Int32) h)) (b0 + 26) (Int32.toNatClampNeg x2))))]) dX12_chargeBy_132 (Nat.le_of_ble_eq_true rfl) [1, 2, 3, 0] rfl ?_
              refine ea_aload_n (pc := 134) dX12_chargeBy_134 rfl 0 rfl ?_
              refine ea_getR (pc := 135) dX12_chargeBy_135 ec_12 (k := 64) (Nat.le_of_ble_eq_true rfl) rfl (Or.inl ew_1409) (hs7.1 0 (by decide)).1 (hs7.1 0 (by decide)).2.1 (hs7.2 0 64 rfl) ?_
              refine ea_iload_n (pc := 138) dX12_chargeBy_138 rfl 1 rfl ?_
              obtain ⟨z15, K⟩ := K
              refine ea_iald (pc := 139) dX12_chargeBy_139 (hs7.1 38 (by decide)).1 (hs7.1 38 (by decide)).2.1 (ea_vpl (hs7.1 38 (by decide)).2.2 z15) ?_
              refine ea_iconst (pc := 140) dX12_chargeBy_140 (v := 4) rfl ?_
              refine ea_icmp_ne (pc := 141) (tgt := 155) dX12_chargeBy_141 rfl (fun c17 => ?_) (fun c17 => ?_)
              · have EX := EX.trans (if_neg c17)
                refine ea_iload (pc := 155) dX12_chargeBy_155 3 rfl ?_
                subst EX
                subst EY
                exact ea_ireturn (pc := 157) dX12_chargeBy_157 rfl rfl
              · have EX := EX.trans (if_pos c17)
                have K := K.1 c17
                refine ea_iload (pc := 144) dX12_chargeBy_144 3 rfl ?_
                refine ea_aload_n (pc := 146) dX12_chargeBy_146 rfl 0 rfl ?_
                refine ea_getR (pc := 147) dX12_chargeBy_147 ec_12 (k := 32) (Nat.le_of_ble_eq_true rfl) rfl (Or.inl ew_1377) (hs7.1 0 (by decide)).1 (hs7.1 0 (by decide)).2.1 (hs7.2 0 32 rfl) ?_
                refine ea_iload_n (pc := 150) dX12_chargeBy_150 rfl 2 rfl ?_
                have z16 := K
                refine ea_iald (pc := 151) dX12_chargeBy_151 (hs7.1 27 (by decide)).1 (hs7.1 27 (by decide)).2.1 (ea_vpl (hs7.1 27 (by decide)).2.2 z16) ?_
                refine ea_iadd (pc := 152) dX12_chargeBy_152 ?_
                refine ea_istore (pc := 153) (lv' := [(4, vI (((vX12_comesTo b0 (x2 : Int32) ((ea_i (wX12_lineOf b0 (x1 : Int32) (x2 : Int32) h) (b0 + 30) (Int32.toNatClampNeg (((25 : Int32) * x2) + (vX12_lineOf b0 (x1 : Int32) (x2 : Int32) h)))) : Int32) ((ea_i (wX12_lineOf b0 (x1 : Int32) (x2 : Int32) h) (b0 + 31) (Int32.toNatClampNeg (((24 : Int32) * x2) + (vX12_lineOf b0 (x1 : Int32) (x2 : Int32) h)))) : Int32) (wX12_lineOf b0 (x1 : Int32) (x2 : Int32) h)) + (ea_i (wX12_comesTo b0 (x2 : Int32) ((ea_i (wX12_lineOf b0 (x1 : Int32) (x2 : Int32) h) (b0 + 30) (Int32.toNatClampNeg (((25 : Int32) * x2) + (vX12_lineOf b0 (x1 : Int32) (x2 : Int32) h)))) : Int32) ((ea_i (wX12_lineOf b0 (x1 : Int32) (x2 : Int32) h) (b0 + 31) (Int32.toNatClampNeg (((24 : Int32) * x2) + (vX12_lineOf b0 (x1 : Int32) (x2 : Int32) h)))) : Int32) (wX12_lineOf b0 (x1 : Int32) (x2 : Int32) h)) (b0 + 26) (Int32.toNatClampNeg x2))) + (ea_i (wX12_comesTo b0 (x2 : Int32) ((ea_i (wX12_lineOf b0 (x1 : Int32) (x2 : Int32) h) (b0 + 30) (Int32.toNatClampNeg (((25 : Int32) * x2) + (vX12_lineOf b0 (x1 : Int32) (x2 : Int32) h)))) : Int32) ((ea_i (wX12_lineOf b0 (x1 : Int32) (x2 : Int32) h) (b0 + 31) (Int32.toNatClampNeg (((24 : Int32) * x2) + (vX12_lineOf b0 (x1 : Int32) (x2 : Int32) h)))) : Int32) (wX12_lineOf b0 (x1 : Int32) (x2 : Int32) h)) (b0 + 27) (Int32.toNatClampNeg x2))))]) dX12_chargeBy_153 (Nat.le_of_ble_eq_true rfl) [0] rfl ?_
                refine ea_iload (pc := 155) dX12_chargeBy_155 0 rfl ?_
                subst EX
                subst EY
                exact ea_ireturn (pc := 157) dX12_chargeBy_157 rfl rfl
          · have EX := EX.trans (if_neg c29)
            have K := K.2 c29
            refine ea_iload (pc := 102) dX12_chargeBy_102 3 rfl ?_
            refine ea_aload_n (pc := 104) dX12_chargeBy_104 rfl 0 rfl ?_
            refine ea_getR (pc := 105) dX12_chargeBy_105 ec_12 (k := 28) (Nat.le_of_ble_eq_true rfl) rfl (Or.inl ew_1373) (hs7.1 0 (by decide)).1 (hs7.1 0 (by decide)).2.1 (hs7.2 0 28 rfl) ?_
            refine ea_iload_n (pc := 108) dX12_chargeBy_108 rfl 2 rfl ?_
            obtain ⟨z19, K⟩ := K
            refine ea_iald (pc := 109) dX12_chargeBy_109 (hs7.1 23 (by decide)).1 (hs7.1 23 (by decide)).2.1 (ea_vpl (hs7.1 23 (by decide)).2.2 z19) ?_
            refine ea_iadd (pc := 110) dX12_chargeBy_110 ?_
            refine ea_istore (pc := 111) (lv' := [(0, vR (some (b0 + 0))), (1, vI x1), (2, vI x2), (4, vI ((vX12_comesTo b0 (x2 : Int32) ((ea_i (wX12_lineOf b0 (x1 : Int32) (x2 : Int32) h) (b0 + 30) (Int32.toNatClampNeg (((25 : Int32) * x2) + (vX12_lineOf b0 (x1 : Int32) (x2 : Int32) h)))) : Int32) ((ea_i (wX12_lineOf b0 (x1 : Int32) (x2 : Int32) h) (b0 + 31) (Int32.toNatClampNeg (((24 : Int32) * x2) + (vX12_lineOf b0 (x1 : Int32) (x2 : Int32) h)))) : Int32) (wX12_lineOf b0 (x1 : Int32) (x2 : Int32) h)) + (ea_i (wX12_comesTo b0 (x2 : Int32) ((ea_i (wX12_lineOf b0 (x1 : Int32) (x2 : Int32) h) (b0 + 30) (Int32.toNatClampNeg (((25 : Int32) * x2) + (vX12_lineOf b0 (x1 : Int32) (x2 : Int32) h)))) : Int32) ((ea_i (wX12_lineOf b0 (x1 : Int32) (x2 : Int32) h) (b0 + 31) (Int32.toNatClampNeg (((24 : Int32) * x2) + (vX12_lineOf b0 (x1 : Int32) (x2 : Int32) h)))) : Int32) (wX12_lineOf b0 (x1 : Int32) (x2 : Int32) h)) (b0 + 23) (Int32.toNatClampNeg x2))))]) dX12_chargeBy_111 (Nat.le_of_ble_eq_true rfl) [1, 2, 3, 0] rfl ?_
            refine ea_aload_n (pc := 113) dX12_chargeBy_113 rfl 0 rfl ?_
            refine ea_getR (pc := 114) dX12_chargeBy_114 ec_12 (k := 64) (Nat.le_of_ble_eq_true rfl) rfl (Or.inl ew_1409) (hs7.1 0 (by decide)).1 (hs7.1 0 (by decide)).2.1 (hs7.2 0 64 rfl) ?_
            refine ea_iload_n (pc := 117) dX12_chargeBy_117 rfl 1 rfl ?_
            obtain ⟨z20, K⟩ := K
            refine ea_iald (pc := 118) dX12_chargeBy_118 (hs7.1 38 (by decide)).1 (hs7.1 38 (by decide)).2.1 (ea_vpl (hs7.1 38 (by decide)).2.2 z20) ?_
            refine ea_iconst (pc := 119) dX12_chargeBy_119 (v := 3) rfl ?_
            refine ea_icmp_ne (pc := 120) (tgt := 134) dX12_chargeBy_120 rfl (fun c28 => ?_) (fun c28 => ?_)
            · have EX := EX.trans (if_neg c28)
              have K := K.2 c28
              refine ea_aload_n (pc := 134) dX12_chargeBy_134 rfl 0 rfl ?_
              refine ea_getR (pc := 135) dX12_chargeBy_135 ec_12 (k := 64) (Nat.le_of_ble_eq_true rfl) rfl (Or.inl ew_1409) (hs7.1 0 (by decide)).1 (hs7.1 0 (by decide)).2.1 (hs7.2 0 64 rfl) ?_
              refine ea_iload_n (pc := 138) dX12_chargeBy_138 rfl 1 rfl ?_
              obtain ⟨z21, K⟩ := K
              refine ea_iald (pc := 139) dX12_chargeBy_139 (hs7.1 38 (by decide)).1 (hs7.1 38 (by decide)).2.1 (ea_vpl (hs7.1 38 (by decide)).2.2 z21) ?_
              refine ea_iconst (pc := 140) dX12_chargeBy_140 (v := 4) rfl ?_
              refine ea_icmp_ne (pc := 141) (tgt := 155) dX12_chargeBy_141 rfl (fun c23 => ?_) (fun c23 => ?_)
              · have EX := EX.trans (if_neg c23)
                refine ea_iload (pc := 155) dX12_chargeBy_155 3 rfl ?_
                subst EX
                subst EY
                exact ea_ireturn (pc := 157) dX12_chargeBy_157 rfl rfl
              · have EX := EX.trans (if_pos c23)
                have K := K.1 c23
                refine ea_iload (pc := 144) dX12_chargeBy_144 3 rfl ?_
                refine ea_aload_n (pc := 146) dX12_chargeBy_146 rfl 0 rfl ?_
                refine ea_getR (pc := 147) dX12_chargeBy_147 ec_12 (k := 32) (Nat.le_of_ble_eq_true rfl) rfl (Or.inl ew_1377) (hs7.1 0 (by decide)).1 (hs7.1 0 (by decide)).2.1 (hs7.2 0 32 rfl) ?_
                refine ea_iload_n (pc := 150) dX12_chargeBy_150 rfl 2 rfl ?_
                have z22 := K
                refine ea_iald (pc := 151) dX12_chargeBy_151 (hs7.1 27 (by decide)).1 (hs7.1 27 (by decide)).2.1 (ea_vpl (hs7.1 27 (by decide)).2.2 z22) ?_
                refine ea_iadd (pc := 152) dX12_chargeBy_152 ?_
                refine ea_istore (pc := 153) (lv' := [(4, vI (((vX12_comesTo b0 (x2 : Int32) ((ea_i (wX12_lineOf b0 (x1 : Int32) (x2 : Int32) h) (b0 + 30) (Int32.toNatClampNeg (((25 : Int32) * x2) + (vX12_lineOf b0 (x1 : Int32) (x2 : Int32) h)))) : Int32) ((ea_i (wX12_lineOf b0 (x1 : Int32) (x2 : Int32) h) (b0 + 31) (Int32.toNatClampNeg (((24 : Int32) * x2) + (vX12_lineOf b0 (x1 : Int32) (x2 : Int32) h)))) : Int32) (wX12_lineOf b0 (x1 : Int32) (x2 : Int32) h)) + (ea_i (wX12_comesTo b0 (x2 : Int32) ((ea_i (wX12_lineOf b0 (x1 : Int32) (x2 : Int32) h) (b0 + 30) (Int32.toNatClampNeg (((25 : Int32) * x2) + (vX12_lineOf b0 (x1 : Int32) (x2 : Int32) h)))) : Int32) ((ea_i (wX12_lineOf b0 (x1 : Int32) (x2 : Int32) h) (b0 + 31) (Int32.toNatClampNeg (((24 : Int32) * x2) + (vX12_lineOf b0 (x1 : Int32) (x2 : Int32) h)))) : Int32) (wX12_lineOf b0 (x1 : Int32) (x2 : Int32) h)) (b0 + 23) (Int32.toNatClampNeg x2))) + (ea_i (wX12_comesTo b0 (x2 : Int32) ((ea_i (wX12_lineOf b0 (x1 : Int32) (x2 : Int32) h) (b0 + 30) (Int32.toNatClampNeg (((25 : Int32) * x2) + (vX12_lineOf b0 (x1 : Int32) (x2 : Int32) h)))) : Int32) ((ea_i (wX12_lineOf b0 (x1 : Int32) (x2 : Int32) h) (b0 + 31) (Int32.toNatClampNeg (((24 : Int32) * x2) + (vX12_lineOf b0 (x1 : Int32) (x2 : Int32) h)))) : Int32) (wX12_lineOf b0 (x1 : Int32) (x2 : Int32) h)) (b0 + 27) (Int32.toNatClampNeg x2))))]) dX12_chargeBy_153 (Nat.le_of_ble_eq_true rfl) [0] rfl ?_
                refine ea_iload (pc := 155) dX12_chargeBy_155 0 rfl ?_
                subst EX
                subst EY
                exact ea_ireturn (pc := 157) dX12_chargeBy_157 rfl rfl
            · have EX := EX.trans (if_pos c28)
              have K := K.1 c28
              refine ea_iload (pc := 123) dX12_chargeBy_123 3 rfl ?_
              refine ea_aload_n (pc := 125) dX12_chargeBy_125 rfl 0 rfl ?_
              refine ea_getR (pc := 126) dX12_chargeBy_126 ec_12 (k := 31) (Nat.le_of_ble_eq_true rfl) rfl (Or.inl ew_1376) (hs7.1 0 (by decide)).1 (hs7.1 0 (by decide)).2.1 (hs7.2 0 31 rfl) ?_
              refine ea_iload_n (pc := 129) dX12_chargeBy_129 rfl 2 rfl ?_
              obtain ⟨z24, K⟩ := K
              refine ea_iald (pc := 130) dX12_chargeBy_130 (hs7.1 26 (by decide)).1 (hs7.1 26 (by decide)).2.1 (ea_vpl (hs7.1 26 (by decide)).2.2 z24) ?_
              refine ea_iadd (pc := 131) dX12_chargeBy_131 ?_
              refine ea_istore (pc := 132) (lv' := [(0, vR (some (b0 + 0))), (1, vI x1), (2, vI x2), (4, vI (((vX12_comesTo b0 (x2 : Int32) ((ea_i (wX12_lineOf b0 (x1 : Int32) (x2 : Int32) h) (b0 + 30) (Int32.toNatClampNeg (((25 : Int32) * x2) + (vX12_lineOf b0 (x1 : Int32) (x2 : Int32) h)))) : Int32) ((ea_i (wX12_lineOf b0 (x1 : Int32) (x2 : Int32) h) (b0 + 31) (Int32.toNatClampNeg (((24 : Int32) * x2) + (vX12_lineOf b0 (x1 : Int32) (x2 : Int32) h)))) : Int32) (wX12_lineOf b0 (x1 : Int32) (x2 : Int32) h)) + (ea_i (wX12_comesTo b0 (x2 : Int32) ((ea_i (wX12_lineOf b0 (x1 : Int32) (x2 : Int32) h) (b0 + 30) (Int32.toNatClampNeg (((25 : Int32) * x2) + (vX12_lineOf b0 (x1 : Int32) (x2 : Int32) h)))) : Int32) ((ea_i (wX12_lineOf b0 (x1 : Int32) (x2 : Int32) h) (b0 + 31) (Int32.toNatClampNeg (((24 : Int32) * x2) + (vX12_lineOf b0 (x1 : Int32) (x2 : Int32) h)))) : Int32) (wX12_lineOf b0 (x1 : Int32) (x2 : Int32) h)) (b0 + 23) (Int32.toNatClampNeg x2))) + (ea_i (wX12_comesTo b0 (x2 : Int32) ((ea_i (wX12_lineOf b0 (x1 : Int32) (x2 : Int32) h) (b0 + 30) (Int32.toNatClampNeg (((25 : Int32) * x2) + (vX12_lineOf b0 (x1 : Int32) (x2 : Int32) h)))) : Int32) ((ea_i (wX12_lineOf b0 (x1 : Int32) (x2 : Int32) h) (b0 + 31) (Int32.toNatClampNeg (((24 : Int32) * x2) + (vX12_lineOf b0 (x1 : Int32) (x2 : Int32) h)))) : Int32) (wX12_lineOf b0 (x1 : Int32) (x2 : Int32) h)) (b0 + 26) (Int32.toNatClampNeg x2))))]) dX12_chargeBy_132 (Nat.le_of_ble_eq_true rfl) [1, 2, 3, 0] rfl ?_
              refine ea_aload_n (pc := 134) dX12_chargeBy_134 rfl 0 rfl ?_
              refine ea_getR (pc := 135) dX12_chargeBy_135 ec_12 (k := 64) (Nat.le_of_ble_eq_true rfl) rfl (Or.inl ew_1409) (hs7.1 0 (by decide)).1 (hs7.1 0 (by decide)).2.1 (hs7.2 0 64 rfl) ?_
              refine ea_iload_n (pc := 138) dX12_chargeBy_138 rfl 1 rfl ?_
              obtain ⟨z25, K⟩ := K
              refine ea_iald (pc := 139) dX12_chargeBy_139 (hs7.1 38 (by decide)).1 (hs7.1 38 (by decide)).2.1 (ea_vpl (hs7.1 38 (by decide)).2.2 z25) ?_
              refine ea_iconst (pc := 140) dX12_chargeBy_140 (v := 4) rfl ?_
              refine ea_icmp_ne (pc := 141) (tgt := 155) dX12_chargeBy_141 rfl (fun c27 => ?_) (fun c27 => ?_)
              · have EX := EX.trans (if_neg c27)
                refine ea_iload (pc := 155) dX12_chargeBy_155 3 rfl ?_
                subst EX
                subst EY
                exact ea_ireturn (pc := 157) dX12_chargeBy_157 rfl rfl
              · have EX := EX.trans (if_pos c27)
                have K := K.1 c27
                refine ea_iload (pc := 144) dX12_chargeBy_144 3 rfl ?_
                refine ea_aload_n (pc := 146) dX12_chargeBy_146 rfl 0 rfl ?_
                refine ea_getR (pc := 147) dX12_chargeBy_147 ec_12 (k := 32) (Nat.le_of_ble_eq_true rfl) rfl (Or.inl ew_1377) (hs7.1 0 (by decide)).1 (hs7.1 0 (by decide)).2.1 (hs7.2 0 32 rfl) ?_
                refine ea_iload_n (pc := 150) dX12_chargeBy_150 rfl 2 rfl ?_
                have z26 := K
                refine ea_iald (pc := 151) dX12_chargeBy_151 (hs7.1 27 (by decide)).1 (hs7.1 27 (by decide)).2.1 (ea_vpl (hs7.1 27 (by decide)).2.2 z26) ?_
                refine ea_iadd (pc := 152) dX12_chargeBy_152 ?_
                refine ea_istore (pc := 153) (lv' := [(4, vI ((((vX12_comesTo b0 (x2 : Int32) ((ea_i (wX12_lineOf b0 (x1 : Int32) (x2 : Int32) h) (b0 + 30) (Int32.toNatClampNeg (((25 : Int32) * x2) + (vX12_lineOf b0 (x1 : Int32) (x2 : Int32) h)))) : Int32) ((ea_i (wX12_lineOf b0 (x1 : Int32) (x2 : Int32) h) (b0 + 31) (Int32.toNatClampNeg (((24 : Int32) * x2) + (vX12_lineOf b0 (x1 : Int32) (x2 : Int32) h)))) : Int32) (wX12_lineOf b0 (x1 : Int32) (x2 : Int32) h)) + (ea_i (wX12_comesTo b0 (x2 : Int32) ((ea_i (wX12_lineOf b0 (x1 : Int32) (x2 : Int32) h) (b0 + 30) (Int32.toNatClampNeg (((25 : Int32) * x2) + (vX12_lineOf b0 (x1 : Int32) (x2 : Int32) h)))) : Int32) ((ea_i (wX12_lineOf b0 (x1 : Int32) (x2 : Int32) h) (b0 + 31) (Int32.toNatClampNeg (((24 : Int32) * x2) + (vX12_lineOf b0 (x1 : Int32) (x2 : Int32) h)))) : Int32) (wX12_lineOf b0 (x1 : Int32) (x2 : Int32) h)) (b0 + 23) (Int32.toNatClampNeg x2))) + (ea_i (wX12_comesTo b0 (x2 : Int32) ((ea_i (wX12_lineOf b0 (x1 : Int32) (x2 : Int32) h) (b0 + 30) (Int32.toNatClampNeg (((25 : Int32) * x2) + (vX12_lineOf b0 (x1 : Int32) (x2 : Int32) h)))) : Int32) ((ea_i (wX12_lineOf b0 (x1 : Int32) (x2 : Int32) h) (b0 + 31) (Int32.toNatClampNeg (((24 : Int32) * x2) + (vX12_lineOf b0 (x1 : Int32) (x2 : Int32) h)))) : Int32) (wX12_lineOf b0 (x1 : Int32) (x2 : Int32) h)) (b0 + 26) (Int32.toNatClampNeg x2))) + (ea_i (wX12_comesTo b0 (x2 : Int32) ((ea_i (wX12_lineOf b0 (x1 : Int32) (x2 : Int32) h) (b0 + 30) (Int32.toNatClampNeg (((25 : Int32) * x2) + (vX12_lineOf b0 (x1 : Int32) (x2 : Int32) h)))) : Int32) ((ea_i (wX12_lineOf b0 (x1 : Int32) (x2 : Int32) h) (b0 + 31) (Int32.toNatClampNeg (((24 : Int32) * x2) + (vX12_lineOf b0 (x1 : Int32) (x2 : Int32) h)))) : Int32) (wX12_lineOf b0 (x1 : Int32) (x2 : Int32) h)) (b0 + 27) (Int32.toNatClampNeg x2))))]) dX12_chargeBy_153 (Nat.le_of_ble_eq_true rfl) [0] rfl ?_
                refine ea_iload (pc := 155) dX12_chargeBy_155 0 rfl ?_
                subst EX
                subst EY
                exact ea_ireturn (pc := 157) dX12_chargeBy_157 rfl rfl
        · have EX := EX.trans (if_neg c52)
          have K := K.2 c52
          refine ea_ldcw (pc := 73) dX12_chargeBy_73 ew_2010 ?_
          refine ea_goto (pc := 76) (tgt := 81) dX12_chargeBy_76 rfl ?_
          refine ea_istore (pc := 81) (lv' := [(0, vR (some (b0 + 0))), (1, vI x1), (2, vI x2), (4, vI 99999)]) dX12_chargeBy_81 (Nat.le_of_ble_eq_true rfl) [1, 2, 3, 0] rfl ?_
          refine ea_aload_n (pc := 83) dX12_chargeBy_83 rfl 0 rfl ?_
          refine ea_getR (pc := 84) dX12_chargeBy_84 ec_12 (k := 70) (Nat.le_of_ble_eq_true rfl) rfl (Or.inl ew_1415) (hs7.1 0 (by decide)).1 (hs7.1 0 (by decide)).2.1 (hs7.2 0 70 rfl) ?_
          refine ea_iload_n (pc := 87) dX12_chargeBy_87 rfl 1 rfl ?_
          obtain ⟨z30, K⟩ := K
          refine ea_iald (pc := 88) dX12_chargeBy_88 (hs7.1 44 (by decide)).1 (hs7.1 44 (by decide)).2.1 (ea_vpl (hs7.1 44 (by decide)).2.2 z30) ?_
          refine ea_sipush (pc := 89) dX12_chargeBy_89 (v := 1440) rfl ?_
          refine ea_irem (pc := 92) dX12_chargeBy_92 (by decide) ?_
          refine ea_aload_n (pc := 93) dX12_chargeBy_93 rfl 0 rfl ?_
          refine ea_getR (pc := 94) dX12_chargeBy_94 ec_12 (k := 29) (Nat.le_of_ble_eq_true rfl) rfl (Or.inl ew_1374) (hs7.1 0 (by decide)).1 (hs7.1 0 (by decide)).2.1 (hs7.2 0 29 rfl) ?_
          refine ea_iload_n (pc := 97) dX12_chargeBy_97 rfl 2 rfl ?_
          obtain ⟨z31, K⟩ := K
          refine ea_iald (pc := 98) dX12_chargeBy_98 (hs7.1 24 (by decide)).1 (hs7.1 24 (by decide)).2.1 (ea_vpl (hs7.1 24 (by decide)).2.2 z31) ?_
          refine ea_icmp_le (pc := 99) (tgt := 113) dX12_chargeBy_99 rfl (fun c51 => ?_) (fun c51 => ?_)
          · have EX := EX.trans (if_pos c51)
            have K := K.1 c51
            refine ea_aload_n (pc := 113) dX12_chargeBy_113 rfl 0 rfl ?_
            refine ea_getR (pc := 114) dX12_chargeBy_114 ec_12 (k := 64) (Nat.le_of_ble_eq_true rfl) rfl (Or.inl ew_1409) (hs7.1 0 (by decide)).1 (hs7.1 0 (by decide)).2.1 (hs7.2 0 64 rfl) ?_
            refine ea_iload_n (pc := 117) dX12_chargeBy_117 rfl 1 rfl ?_
            obtain ⟨z32, K⟩ := K
            refine ea_iald (pc := 118) dX12_chargeBy_118 (hs7.1 38 (by decide)).1 (hs7.1 38 (by decide)).2.1 (ea_vpl (hs7.1 38 (by decide)).2.2 z32) ?_
            refine ea_iconst (pc := 119) dX12_chargeBy_119 (v := 3) rfl ?_
            refine ea_icmp_ne (pc := 120) (tgt := 134) dX12_chargeBy_120 rfl (fun c40 => ?_) (fun c40 => ?_)
            · have EX := EX.trans (if_neg c40)
              have K := K.2 c40
              refine ea_aload_n (pc := 134) dX12_chargeBy_134 rfl 0 rfl ?_
              refine ea_getR (pc := 135) dX12_chargeBy_135 ec_12 (k := 64) (Nat.le_of_ble_eq_true rfl) rfl (Or.inl ew_1409) (hs7.1 0 (by decide)).1 (hs7.1 0 (by decide)).2.1 (hs7.2 0 64 rfl) ?_
              refine ea_iload_n (pc := 138) dX12_chargeBy_138 rfl 1 rfl ?_
              obtain ⟨z33, K⟩ := K
              refine ea_iald (pc := 139) dX12_chargeBy_139 (hs7.1 38 (by decide)).1 (hs7.1 38 (by decide)).2.1 (ea_vpl (hs7.1 38 (by decide)).2.2 z33) ?_
              refine ea_iconst (pc := 140) dX12_chargeBy_140 (v := 4) rfl ?_
              refine ea_icmp_ne (pc := 141) (tgt := 155) dX12_chargeBy_141 rfl (fun c35 => ?_) (fun c35 => ?_)
              · have EX := EX.trans (if_neg c35)
                refine ea_iload (pc := 155) dX12_chargeBy_155 3 rfl ?_
                subst EX
                subst EY
                exact ea_ireturn (pc := 157) dX12_chargeBy_157 rfl rfl
              · have EX := EX.trans (if_pos c35)
                have K := K.1 c35
                refine ea_iload (pc := 144) dX12_chargeBy_144 3 rfl ?_
                refine ea_aload_n (pc := 146) dX12_chargeBy_146 rfl 0 rfl ?_
                refine ea_getR (pc := 147) dX12_chargeBy_147 ec_12 (k := 32) (Nat.le_of_ble_eq_true rfl) rfl (Or.inl ew_1377) (hs7.1 0 (by decide)).1 (hs7.1 0 (by decide)).2.1 (hs7.2 0 32 rfl) ?_
                refine ea_iload_n (pc := 150) dX12_chargeBy_150 rfl 2 rfl ?_
                have z34 := K
                refine ea_iald (pc := 151) dX12_chargeBy_151 (hs7.1 27 (by decide)).1 (hs7.1 27 (by decide)).2.1 (ea_vpl (hs7.1 27 (by decide)).2.2 z34) ?_
                refine ea_iadd (pc := 152) dX12_chargeBy_152 ?_
                refine ea_istore (pc := 153) (lv' := [(4, vI ((99999 : Int32) + (ea_i (wX12_comesTo b0 (x2 : Int32) ((ea_i (wX12_lineOf b0 (x1 : Int32) (x2 : Int32) h) (b0 + 30) (Int32.toNatClampNeg (((25 : Int32) * x2) + (vX12_lineOf b0 (x1 : Int32) (x2 : Int32) h)))) : Int32) ((ea_i (wX12_lineOf b0 (x1 : Int32) (x2 : Int32) h) (b0 + 31) (Int32.toNatClampNeg (((24 : Int32) * x2) + (vX12_lineOf b0 (x1 : Int32) (x2 : Int32) h)))) : Int32) (wX12_lineOf b0 (x1 : Int32) (x2 : Int32) h)) (b0 + 27) (Int32.toNatClampNeg x2))))]) dX12_chargeBy_153 (Nat.le_of_ble_eq_true rfl) [0] rfl ?_
                refine ea_iload (pc := 155) dX12_chargeBy_155 0 rfl ?_
                subst EX
                subst EY
                exact ea_ireturn (pc := 157) dX12_chargeBy_157 rfl rfl
            · have EX := EX.trans (if_pos c40)
              have K := K.1 c40
              refine ea_iload (pc := 123) dX12_chargeBy_123 3 rfl ?_
              refine ea_aload_n (pc := 125) dX12_chargeBy_125 rfl 0 rfl ?_
              refine ea_getR (pc := 126) dX12_chargeBy_126 ec_12 (k := 31) (Nat.le_of_ble_eq_true rfl) rfl (Or.inl ew_1376) (hs7.1 0 (by decide)).1 (hs7.1 0 (by decide)).2.1 (hs7.2 0 31 rfl) ?_
              refine ea_iload_n (pc := 129) dX12_chargeBy_129 rfl 2 rfl ?_
              obtain ⟨z36, K⟩ := K
              refine ea_iald (pc := 130) dX12_chargeBy_130 (hs7.1 26 (by decide)).1 (hs7.1 26 (by decide)).2.1 (ea_vpl (hs7.1 26 (by decide)).2.2 z36) ?_
              refine ea_iadd (pc := 131) dX12_chargeBy_131 ?_
              refine ea_istore (pc := 132) (lv' := [(0, vR (some (b0 + 0))), (1, vI x1), (2, vI x2), (4, vI ((99999 : Int32) + (ea_i (wX12_comesTo b0 (x2 : Int32) ((ea_i (wX12_lineOf b0 (x1 : Int32) (x2 : Int32) h) (b0 + 30) (Int32.toNatClampNeg (((25 : Int32) * x2) + (vX12_lineOf b0 (x1 : Int32) (x2 : Int32) h)))) : Int32) ((ea_i (wX12_lineOf b0 (x1 : Int32) (x2 : Int32) h) (b0 + 31) (Int32.toNatClampNeg (((24 : Int32) * x2) + (vX12_lineOf b0 (x1 : Int32) (x2 : Int32) h)))) : Int32) (wX12_lineOf b0 (x1 : Int32) (x2 : Int32) h)) (b0 + 26) (Int32.toNatClampNeg x2))))]) dX12_chargeBy_132 (Nat.le_of_ble_eq_true rfl) [1, 2, 3, 0] rfl ?_
              refine ea_aload_n (pc := 134) dX12_chargeBy_134 rfl 0 rfl ?_
              refine ea_getR (pc := 135) dX12_chargeBy_135 ec_12 (k := 64) (Nat.le_of_ble_eq_true rfl) rfl (Or.inl ew_1409) (hs7.1 0 (by decide)).1 (hs7.1 0 (by decide)).2.1 (hs7.2 0 64 rfl) ?_
              refine ea_iload_n (pc := 138) dX12_chargeBy_138 rfl 1 rfl ?_
              obtain ⟨z37, K⟩ := K
              refine ea_iald (pc := 139) dX12_chargeBy_139 (hs7.1 38 (by decide)).1 (hs7.1 38 (by decide)).2.1 (ea_vpl (hs7.1 38 (by decide)).2.2 z37) ?_
              refine ea_iconst (pc := 140) dX12_chargeBy_140 (v := 4) rfl ?_
              refine ea_icmp_ne (pc := 141) (tgt := 155) dX12_chargeBy_141 rfl (fun c39 => ?_) (fun c39 => ?_)
              · have EX := EX.trans (if_neg c39)
                refine ea_iload (pc := 155) dX12_chargeBy_155 3 rfl ?_
                subst EX
                subst EY
                exact ea_ireturn (pc := 157) dX12_chargeBy_157 rfl rfl
              · have EX := EX.trans (if_pos c39)
                have K := K.1 c39
                refine ea_iload (pc := 144) dX12_chargeBy_144 3 rfl ?_
                refine ea_aload_n (pc := 146) dX12_chargeBy_146 rfl 0 rfl ?_
                refine ea_getR (pc := 147) dX12_chargeBy_147 ec_12 (k := 32) (Nat.le_of_ble_eq_true rfl) rfl (Or.inl ew_1377) (hs7.1 0 (by decide)).1 (hs7.1 0 (by decide)).2.1 (hs7.2 0 32 rfl) ?_
                refine ea_iload_n (pc := 150) dX12_chargeBy_150 rfl 2 rfl ?_
                have z38 := K
                refine ea_iald (pc := 151) dX12_chargeBy_151 (hs7.1 27 (by decide)).1 (hs7.1 27 (by decide)).2.1 (ea_vpl (hs7.1 27 (by decide)).2.2 z38) ?_
                refine ea_iadd (pc := 152) dX12_chargeBy_152 ?_
                refine ea_istore (pc := 153) (lv' := [(4, vI (((99999 : Int32) + (ea_i (wX12_comesTo b0 (x2 : Int32) ((ea_i (wX12_lineOf b0 (x1 : Int32) (x2 : Int32) h) (b0 + 30) (Int32.toNatClampNeg (((25 : Int32) * x2) + (vX12_lineOf b0 (x1 : Int32) (x2 : Int32) h)))) : Int32) ((ea_i (wX12_lineOf b0 (x1 : Int32) (x2 : Int32) h) (b0 + 31) (Int32.toNatClampNeg (((24 : Int32) * x2) + (vX12_lineOf b0 (x1 : Int32) (x2 : Int32) h)))) : Int32) (wX12_lineOf b0 (x1 : Int32) (x2 : Int32) h)) (b0 + 26) (Int32.toNatClampNeg x2))) + (ea_i (wX12_comesTo b0 (x2 : Int32) ((ea_i (wX12_lineOf b0 (x1 : Int32) (x2 : Int32) h) (b0 + 30) (Int32.toNatClampNeg (((25 : Int32) * x2) + (vX12_lineOf b0 (x1 : Int32) (x2 : Int32) h)))) : Int32) ((ea_i (wX12_lineOf b0 (x1 : Int32) (x2 : Int32) h) (b0 + 31) (Int32.toNatClampNeg (((24 : Int32) * x2) + (vX12_lineOf b0 (x1 : Int32) (x2 : Int32) h)))) : Int32) (wX12_lineOf b0 (x1 : Int32) (x2 : Int32) h)) (b0 + 27) (Int32.toNatClampNeg x2))))]) dX12_chargeBy_153 (Nat.le_of_ble_eq_true rfl) [0] rfl ?_
                refine ea_iload (pc := 155) dX12_chargeBy_155 0 rfl ?_
                subst EX
                subst EY
                exact ea_ireturn (pc := 157) dX12_chargeBy_157 rfl rfl
          · have EX := EX.trans (if_neg c51)
            have K := K.2 c51
            refine ea_iload (pc := 102) dX12_chargeBy_102 3 rfl ?_
            refine ea_aload_n (pc := 104) dX12_chargeBy_104 rfl 0 rfl ?_
            refine ea_getR (pc := 105) dX12_chargeBy_105 ec_12 (k := 28) (Nat.le_of_ble_eq_true rfl) rfl (Or.inl ew_1373) (hs7.1 0 (by decide)).1 (hs7.1 0 (by decide)).2.1 (hs7.2 0 28 rfl) ?_
            refine ea_iload_n (pc := 108) dX12_chargeBy_108 rfl 2 rfl ?_
            obtain ⟨z41, K⟩ := K
            refine ea_iald (pc := 109) dX12_chargeBy_109 (hs7.1 23 (by decide)).1 (hs7.1 23 (by decide)).2.1 (ea_vpl (hs7.1 23 (by decide)).2.2 z41) ?_
            refine ea_iadd (pc := 110) dX12_chargeBy_110 ?_
            refine ea_istore (pc := 111) (lv' := [(0, vR (some (b0 + 0))), (1, vI x1), (2, vI x2), (4, vI ((99999 : Int32) + (ea_i (wX12_comesTo b0 (x2 : Int32) ((ea_i (wX12_lineOf b0 (x1 : Int32) (x2 : Int32) h) (b0 + 30) (Int32.toNatClampNeg (((25 : Int32) * x2) + (vX12_lineOf b0 (x1 : Int32) (x2 : Int32) h)))) : Int32) ((ea_i (wX12_lineOf b0 (x1 : Int32) (x2 : Int32) h) (b0 + 31) (Int32.toNatClampNeg (((24 : Int32) * x2) + (vX12_lineOf b0 (x1 : Int32) (x2 : Int32) h)))) : Int32) (wX12_lineOf b0 (x1 : Int32) (x2 : Int32) h)) (b0 + 23) (Int32.toNatClampNeg x2))))]) dX12_chargeBy_111 (Nat.le_of_ble_eq_true rfl) [1, 2, 3, 0] rfl ?_
            refine ea_aload_n (pc := 113) dX12_chargeBy_113 rfl 0 rfl ?_
            refine ea_getR (pc := 114) dX12_chargeBy_114 ec_12 (k := 64) (Nat.le_of_ble_eq_true rfl) rfl (Or.inl ew_1409) (hs7.1 0 (by decide)).1 (hs7.1 0 (by decide)).2.1 (hs7.2 0 64 rfl) ?_
            refine ea_iload_n (pc := 117) dX12_chargeBy_117 rfl 1 rfl ?_
            obtain ⟨z42, K⟩ := K
            refine ea_iald (pc := 118) dX12_chargeBy_118 (hs7.1 38 (by decide)).1 (hs7.1 38 (by decide)).2.1 (ea_vpl (hs7.1 38 (by decide)).2.2 z42) ?_
            refine ea_iconst (pc := 119) dX12_chargeBy_119 (v := 3) rfl ?_
            refine ea_icmp_ne (pc := 120) (tgt := 134) dX12_chargeBy_120 rfl (fun c50 => ?_) (fun c50 => ?_)
            · have EX := EX.trans (if_neg c50)
              have K := K.2 c50
              refine ea_aload_n (pc := 134) dX12_chargeBy_134 rfl 0 rfl ?_
              refine ea_getR (pc := 135) dX12_chargeBy_135 ec_12 (k := 64) (Nat.le_of_ble_eq_true rfl) rfl (Or.inl ew_1409) (hs7.1 0 (by decide)).1 (hs7.1 0 (by decide)).2.1 (hs7.2 0 64 rfl) ?_
              refine ea_iload_n (pc := 138) dX12_chargeBy_138 rfl 1 rfl ?_
              obtain ⟨z43, K⟩ := K
              refine ea_iald (pc := 139) dX12_chargeBy_139 (hs7.1 38 (by decide)).1 (hs7.1 38 (by decide)).2.1 (ea_vpl (hs7.1 38 (by decide)).2.2 z43) ?_
              refine ea_iconst (pc := 140) dX12_chargeBy_140 (v := 4) rfl ?_
              refine ea_icmp_ne (pc := 141) (tgt := 155) dX12_chargeBy_141 rfl (fun c45 => ?_) (fun c45 => ?_)
              · have EX := EX.trans (if_neg c45)
                refine ea_iload (pc := 155) dX12_chargeBy_155 3 rfl ?_
                subst EX
                subst EY
                exact ea_ireturn (pc := 157) dX12_chargeBy_157 rfl rfl
              · have EX := EX.trans (if_pos c45)
                have K := K.1 c45
                refine ea_iload (pc := 144) dX12_chargeBy_144 3 rfl ?_
                refine ea_aload_n (pc := 146) dX12_chargeBy_146 rfl 0 rfl ?_
                refine ea_getR (pc := 147) dX12_chargeBy_147 ec_12 (k := 32) (Nat.le_of_ble_eq_true rfl) rfl (Or.inl ew_1377) (hs7.1 0 (by decide)).1 (hs7.1 0 (by decide)).2.1 (hs7.2 0 32 rfl) ?_
                refine ea_iload_n (pc := 150) dX12_chargeBy_150 rfl 2 rfl ?_
                have z44 := K
                refine ea_iald (pc := 151) dX12_chargeBy_151 (hs7.1 27 (by decide)).1 (hs7.1 27 (by decide)).2.1 (ea_vpl (hs7.1 27 (by decide)).2.2 z44) ?_
                refine ea_iadd (pc := 152) dX12_chargeBy_152 ?_
                refine ea_istore (pc := 153) (lv' := [(4, vI (((99999 : Int32) + (ea_i (wX12_comesTo b0 (x2 : Int32) ((ea_i (wX12_lineOf b0 (x1 : Int32) (x2 : Int32) h) (b0 + 30) (Int32.toNatClampNeg (((25 : Int32) * x2) + (vX12_lineOf b0 (x1 : Int32) (x2 : Int32) h)))) : Int32) ((ea_i (wX12_lineOf b0 (x1 : Int32) (x2 : Int32) h) (b0 + 31) (Int32.toNatClampNeg (((24 : Int32) * x2) + (vX12_lineOf b0 (x1 : Int32) (x2 : Int32) h)))) : Int32) (wX12_lineOf b0 (x1 : Int32) (x2 : Int32) h)) (b0 + 23) (Int32.toNatClampNeg x2))) + (ea_i (wX12_comesTo b0 (x2 : Int32) ((ea_i (wX12_lineOf b0 (x1 : Int32) (x2 : Int32) h) (b0 + 30) (Int32.toNatClampNeg (((25 : Int32) * x2) + (vX12_lineOf b0 (x1 : Int32) (x2 : Int32) h)))) : Int32) ((ea_i (wX12_lineOf b0 (x1 : Int32) (x2 : Int32) h) (b0 + 31) (Int32.toNatClampNeg (((24 : Int32) * x2) + (vX12_lineOf b0 (x1 : Int32) (x2 : Int32) h)))) : Int32) (wX12_lineOf b0 (x1 : Int32) (x2 : Int32) h)) (b0 + 27) (Int32.toNatClampNeg x2))))]) dX12_chargeBy_153 (Nat.le_of_ble_eq_true rfl) [0] rfl ?_
                refine ea_iload (pc := 155) dX12_chargeBy_155 0 rfl ?_
                subst EX
                subst EY
                exact ea_ireturn (pc := 157) dX12_chargeBy_157 rfl rfl
            · have EX := EX.trans (if_pos c50)
              have K := K.1 c50
              refine ea_iload (pc := 123) dX12_chargeBy_123 3 rfl ?_
              refine ea_aload_n (pc := 125) dX12_chargeBy_125 rfl 0 rfl ?_
              refine ea_getR (pc := 126) dX12_chargeBy_126 ec_12 (k := 31) (Nat.le_of_ble_eq_true rfl) rfl (Or.inl ew_1376) (hs7.1 0 (by decide)).1 (hs7.1 0 (by decide)).2.1 (hs7.2 0 31 rfl) ?_
              refine ea_iload_n (pc := 129) dX12_chargeBy_129 rfl 2 rfl ?_
              obtain ⟨z46, K⟩ := K
              refine ea_iald (pc := 130) dX12_chargeBy_130 (hs7.1 26 (by decide)).1 (hs7.1 26 (by decide)).2.1 (ea_vpl (hs7.1 26 (by decide)).2.2 z46) ?_
              refine ea_iadd (pc := 131) dX12_chargeBy_131 ?_
              refine ea_istore (pc := 132) (lv' := [(0, vR (some (b0 + 0))), (1, vI x1), (2, vI x2), (4, vI (((99999 : Int32) + (ea_i (wX12_comesTo b0 (x2 : Int32) ((ea_i (wX12_lineOf b0 (x1 : Int32) (x2 : Int32) h) (b0 + 30) (Int32.toNatClampNeg (((25 : Int32) * x2) + (vX12_lineOf b0 (x1 : Int32) (x2 : Int32) h)))) : Int32) ((ea_i (wX12_lineOf b0 (x1 : Int32) (x2 : Int32) h) (b0 + 31) (Int32.toNatClampNeg (((24 : Int32) * x2) + (vX12_lineOf b0 (x1 : Int32) (x2 : Int32) h)))) : Int32) (wX12_lineOf b0 (x1 : Int32) (x2 : Int32) h)) (b0 + 23) (Int32.toNatClampNeg x2))) + (ea_i (wX12_comesTo b0 (x2 : Int32) ((ea_i (wX12_lineOf b0 (x1 : Int32) (x2 : Int32) h) (b0 + 30) (Int32.toNatClampNeg (((25 : Int32) * x2) + (vX12_lineOf b0 (x1 : Int32) (x2 : Int32) h)))) : Int32) ((ea_i (wX12_lineOf b0 (x1 : Int32) (x2 : Int32) h) (b0 + 31) (Int32.toNatClampNeg (((24 : Int32) * x2) + (vX12_lineOf b0 (x1 : Int32) (x2 : Int32) h)))) : Int32) (wX12_lineOf b0 (x1 : Int32) (x2 : Int32) h)) (b0 + 26) (Int32.toNatClampNeg x2))))]) dX12_chargeBy_132 (Nat.le_of_ble_eq_true rfl) [1, 2, 3, 0] rfl ?_
              refine ea_aload_n (pc := 134) dX12_chargeBy_134 rfl 0 rfl ?_
              refine ea_getR (pc := 135) dX12_chargeBy_135 ec_12 (k := 64) (Nat.le_of_ble_eq_true rfl) rfl (Or.inl ew_1409) (hs7.1 0 (by decide)).1 (hs7.1 0 (by decide)).2.1 (hs7.2 0 64 rfl) ?_
              refine ea_iload_n (pc := 138) dX12_chargeBy_138 rfl 1 rfl ?_
              obtain ⟨z47, K⟩ := K
              refine ea_iald (pc := 139) dX12_chargeBy_139 (hs7.1 38 (by decide)).1 (hs7.1 38 (by decide)).2.1 (ea_vpl (hs7.1 38 (by decide)).2.2 z47) ?_
              refine ea_iconst (pc := 140) dX12_chargeBy_140 (v := 4) rfl ?_
              refine ea_icmp_ne (pc := 141) (tgt := 155) dX12_chargeBy_141 rfl (fun c49 => ?_) (fun c49 => ?_)
              · have EX := EX.trans (if_neg c49)
                refine ea_iload (pc := 155) dX12_chargeBy_155 3 rfl ?_
                subst EX
                subst EY
                exact ea_ireturn (pc := 157) dX12_chargeBy_157 rfl rfl
              · have EX := EX.trans (if_pos c49)
                have K := K.1 c49
                refine ea_iload (pc := 144) dX12_chargeBy_144 3 rfl ?_
                refine ea_aload_n (pc := 146) dX12_chargeBy_146 rfl 0 rfl ?_
                refine ea_getR (pc := 147) dX12_chargeBy_147 ec_12 (k := 32) (Nat.le_of_ble_eq_true rfl) rfl (Or.inl ew_1377) (hs7.1 0 (by decide)).1 (hs7.1 0 (by decide)).2.1 (hs7.2 0 32 rfl) ?_
                refine ea_iload_n (pc := 150) dX12_chargeBy_150 rfl 2 rfl ?_
                have z48 := K
                refine ea_iald (pc := 151) dX12_chargeBy_151 (hs7.1 27 (by decide)).1 (hs7.1 27 (by decide)).2.1 (ea_vpl (hs7.1 27 (by decide)).2.2 z48) ?_
                refine ea_iadd (pc := 152) dX12_chargeBy_152 ?_
                refine ea_istore (pc := 153) (lv' := [(4, vI ((((99999 : Int32) + (ea_i (wX12_comesTo b0 (x2 : Int32) ((ea_i (wX12_lineOf b0 (x1 : Int32) (x2 : Int32) h) (b0 + 30) (Int32.toNatClampNeg (((25 : Int32) * x2) + (vX12_lineOf b0 (x1 : Int32) (x2 : Int32) h)))) : Int32) ((ea_i (wX12_lineOf b0 (x1 : Int32) (x2 : Int32) h) (b0 + 31) (Int32.toNatClampNeg (((24 : Int32) * x2) + (vX12_lineOf b0 (x1 : Int32) (x2 : Int32) h)))) : Int32) (wX12_lineOf b0 (x1 : Int32) (x2 : Int32) h)) (b0 + 23) (Int32.toNatClampNeg x2))) + (ea_i (wX12_comesTo b0 (x2 : Int32) ((ea_i (wX12_lineOf b0 (x1 : Int32) (x2 : Int32) h) (b0 + 30) (Int32.toNatClampNeg (((25 : Int32) * x2) + (vX12_lineOf b0 (x1 : Int32) (x2 : Int32) h)))) : Int32) ((ea_i (wX12_lineOf b0 (x1 : Int32) (x2 : Int32) h) (b0 + 31) (Int32.toNatClampNeg (((24 : Int32) * x2) + (vX12_lineOf b0 (x1 : Int32) (x2 : Int32) h)))) : Int32) (wX12_lineOf b0 (x1 : Int32) (x2 : Int32) h)) (b0 + 26) (Int32.toNatClampNeg x2))) + (ea_i (wX12_comesTo b0 (x2 : Int32) ((ea_i (wX12_lineOf b0 (x1 : Int32) (x2 : Int32) h) (b0 + 30) (Int32.toNatClampNeg (((25 : Int32) * x2) + (vX12_lineOf b0 (x1 : Int32) (x2 : Int32) h)))) : Int32) ((ea_i (wX12_lineOf b0 (x1 : Int32) (x2 : Int32) h) (b0 + 31) (Int32.toNatClampNeg (((24 : Int32) * x2) + (vX12_lineOf b0 (x1 : Int32) (x2 : Int32) h)))) : Int32) (wX12_lineOf b0 (x1 : Int32) (x2 : Int32) h)) (b0 + 27) (Int32.toNatClampNeg x2))))]) dX12_chargeBy_153 (Nat.le_of_ble_eq_true rfl) [0] rfl ?_
                refine ea_iload (pc := 155) dX12_chargeBy_155 0 rfl ?_
                subst EX
                subst EY
                exact ea_ireturn (pc := 157) dX12_chargeBy_157 rfl rfl
      · have EX := EX.trans (if_neg c75)
        have K := K.2 c75
        refine ea_iconst (pc := 61) dX12_chargeBy_61 (v := 0) rfl ?_
        refine ea_goto (pc := 62) (tgt := 81) dX12_chargeBy_62 rfl ?_
        refine ea_istore (pc := 81) (lv' := [(0, vR (some (b0 + 0))), (1, vI x1), (2, vI x2), (4, vI 0)]) dX12_chargeBy_81 (Nat.le_of_ble_eq_true rfl) [1, 2, 3, 0] rfl ?_
        refine ea_aload_n (pc := 83) dX12_chargeBy_83 rfl 0 rfl ?_
        refine ea_getR (pc := 84) dX12_chargeBy_84 ec_12 (k := 70) (Nat.le_of_ble_eq_true rfl) rfl (Or.inl ew_1415) (hs7.1 0 (by decide)).1 (hs7.1 0 (by decide)).2.1 (hs7.2 0 70 rfl) ?_
        refine ea_iload_n (pc := 87) dX12_chargeBy_87 rfl 1 rfl ?_
        obtain ⟨z53, K⟩ := K
        refine ea_iald (pc := 88) dX12_chargeBy_88 (hs7.1 44 (by decide)).1 (hs7.1 44 (by decide)).2.1 (ea_vpl (hs7.1 44 (by decide)).2.2 z53) ?_
        refine ea_sipush (pc := 89) dX12_chargeBy_89 (v := 1440) rfl ?_
        refine ea_irem (pc := 92) dX12_chargeBy_92 (by decide) ?_
        refine ea_aload_n (pc := 93) dX12_chargeBy_93 rfl 0 rfl ?_
        refine ea_getR (pc := 94) dX12_chargeBy_94 ec_12 (k := 29) (Nat.le_of_ble_eq_true rfl) rfl (Or.inl ew_1374) (hs7.1 0 (by decide)).1 (hs7.1 0 (by decide)).2.1 (hs7.2 0 29 rfl) ?_
        refine ea_iload_n (pc := 97) dX12_chargeBy_97 rfl 2 rfl ?_
        obtain ⟨z54, K⟩ := K
        refine ea_iald (pc := 98) dX12_chargeBy_98 (hs7.1 24 (by decide)).1 (hs7.1 24 (by decide)).2.1 (ea_vpl (hs7.1 24 (by decide)).2.2 z54) ?_
        refine ea_icmp_le (pc := 99) (tgt := 113) dX12_chargeBy_99 rfl (fun c74 => ?_) (fun c74 => ?_)
        · have EX := EX.trans (if_pos c74)
          have K := K.1 c74
          refine ea_aload_n (pc := 113) dX12_chargeBy_113 rfl 0 rfl ?_
          refine ea_getR (pc := 114) dX12_chargeBy_114 ec_12 (k := 64) (Nat.le_of_ble_eq_true rfl) rfl (Or.inl ew_1409) (hs7.1 0 (by decide)).1 (hs7.1 0 (by decide)).2.1 (hs7.2 0 64 rfl) ?_
          refine ea_iload_n (pc := 117) dX12_chargeBy_117 rfl 1 rfl ?_
          obtain ⟨z55, K⟩ := K
          refine ea_iald (pc := 118) dX12_chargeBy_118 (hs7.1 38 (by decide)).1 (hs7.1 38 (by decide)).2.1 (ea_vpl (hs7.1 38 (by decide)).2.2 z55) ?_
          refine ea_iconst (pc := 119) dX12_chargeBy_119 (v := 3) rfl ?_
          refine ea_icmp_ne (pc := 120) (tgt := 134) dX12_chargeBy_120 rfl (fun c63 => ?_) (fun c63 => ?_)
          · have EX := EX.trans (if_neg c63)
            have K := K.2 c63
            refine ea_aload_n (pc := 134) dX12_chargeBy_134 rfl 0 rfl ?_
            refine ea_getR (pc := 135) dX12_chargeBy_135 ec_12 (k := 64) (Nat.le_of_ble_eq_true rfl) rfl (Or.inl ew_1409) (hs7.1 0 (by decide)).1 (hs7.1 0 (by decide)).2.1 (hs7.2 0 64 rfl) ?_
            refine ea_iload_n (pc := 138) dX12_chargeBy_138 rfl 1 rfl ?_
            obtain ⟨z56, K⟩ := K
            refine ea_iald (pc := 139) dX12_chargeBy_139 (hs7.1 38 (by decide)).1 (hs7.1 38 (by decide)).2.1 (ea_vpl (hs7.1 38 (by decide)).2.2 z56) ?_
            refine ea_iconst (pc := 140) dX12_chargeBy_140 (v := 4) rfl ?_
            refine ea_icmp_ne (pc := 141) (tgt := 155) dX12_chargeBy_141 rfl (fun c58 => ?_) (fun c58 => ?_)
            · have EX := EX.trans (if_neg c58)
              refine ea_iload (pc := 155) dX12_chargeBy_155 3 rfl ?_
              subst EX
              subst EY
              exact ea_ireturn (pc := 157) dX12_chargeBy_157 rfl rfl
            · have EX := EX.trans (if_pos c58)
              have K := K.1 c58
              refine ea_iload (pc := 144) dX12_chargeBy_144 3 rfl ?_
              refine ea_aload_n (pc := 146) dX12_chargeBy_146 rfl 0 rfl ?_
              refine ea_getR (pc := 147) dX12_chargeBy_147 ec_12 (k := 32) (Nat.le_of_ble_eq_true rfl) rfl (Or.inl ew_1377) (hs7.1 0 (by decide)).1 (hs7.1 0 (by decide)).2.1 (hs7.2 0 32 rfl) ?_
              refine ea_iload_n (pc := 150) dX12_chargeBy_150 rfl 2 rfl ?_
              have z57 := K
              refine ea_iald (pc := 151) dX12_chargeBy_151 (hs7.1 27 (by decide)).1 (hs7.1 27 (by decide)).2.1 (ea_vpl (hs7.1 27 (by decide)).2.2 z57) ?_
              refine ea_iadd (pc := 152) dX12_chargeBy_152 ?_
              refine ea_istore (pc := 153) (lv' := [(4, vI ((0 : Int32) + (ea_i (wX12_comesTo b0 (x2 : Int32) ((ea_i (wX12_lineOf b0 (x1 : Int32) (x2 : Int32) h) (b0 + 30) (Int32.toNatClampNeg (((25 : Int32) * x2) + (vX12_lineOf b0 (x1 : Int32) (x2 : Int32) h)))) : Int32) ((ea_i (wX12_lineOf b0 (x1 : Int32) (x2 : Int32) h) (b0 + 31) (Int32.toNatClampNeg (((24 : Int32) * x2) + (vX12_lineOf b0 (x1 : Int32) (x2 : Int32) h)))) : Int32) (wX12_lineOf b0 (x1 : Int32) (x2 : Int32) h)) (b0 + 27) (Int32.toNatClampNeg x2))))]) dX12_chargeBy_153 (Nat.le_of_ble_eq_true rfl) [0] rfl ?_
              refine ea_iload (pc := 155) dX12_chargeBy_155 0 rfl ?_
              subst EX
              subst EY
              exact ea_ireturn (pc := 157) dX12_chargeBy_157 rfl rfl
          · have EX := EX.trans (if_pos c63)
            have K := K.1 c63
            refine ea_iload (pc := 123) dX12_chargeBy_123 3 rfl ?_
            refine ea_aload_n (pc := 125) dX12_chargeBy_125 rfl 0 rfl ?_
            refine ea_getR (pc := 126) dX12_chargeBy_126 ec_12 (k := 31) (Nat.le_of_ble_eq_true rfl) rfl (Or.inl ew_1376) (hs7.1 0 (by decide)).1 (hs7.1 0 (by decide)).2.1 (hs7.2 0 31 rfl) ?_
            refine ea_iload_n (pc := 129) dX12_chargeBy_129 rfl 2 rfl ?_
            obtain ⟨z59, K⟩ := K
            refine ea_iald (pc := 130) dX12_chargeBy_130 (hs7.1 26 (by decide)).1 (hs7.1 26 (by decide)).2.1 (ea_vpl (hs7.1 26 (by decide)).2.2 z59) ?_
            refine ea_iadd (pc := 131) dX12_chargeBy_131 ?_
            refine ea_istore (pc := 132) (lv' := [(0, vR (some (b0 + 0))), (1, vI x1), (2, vI x2), (4, vI ((0 : Int32) + (ea_i (wX12_comesTo b0 (x2 : Int32) ((ea_i (wX12_lineOf b0 (x1 : Int32) (x2 : Int32) h) (b0 + 30) (Int32.toNatClampNeg (((25 : Int32) * x2) + (vX12_lineOf b0 (x1 : Int32) (x2 : Int32) h)))) : Int32) ((ea_i (wX12_lineOf b0 (x1 : Int32) (x2 : Int32) h) (b0 + 31) (Int32.toNatClampNeg (((24 : Int32) * x2) + (vX12_lineOf b0 (x1 : Int32) (x2 : Int32) h)))) : Int32) (wX12_lineOf b0 (x1 : Int32) (x2 : Int32) h)) (b0 + 26) (Int32.toNatClampNeg x2))))]) dX12_chargeBy_132 (Nat.le_of_ble_eq_true rfl) [1, 2, 3, 0] rfl ?_
            refine ea_aload_n (pc := 134) dX12_chargeBy_134 rfl 0 rfl ?_
            refine ea_getR (pc := 135) dX12_chargeBy_135 ec_12 (k := 64) (Nat.le_of_ble_eq_true rfl) rfl (Or.inl ew_1409) (hs7.1 0 (by decide)).1 (hs7.1 0 (by decide)).2.1 (hs7.2 0 64 rfl) ?_
            refine ea_iload_n (pc := 138) dX12_chargeBy_138 rfl 1 rfl ?_
            obtain ⟨z60, K⟩ := K
            refine ea_iald (pc := 139) dX12_chargeBy_139 (hs7.1 38 (by decide)).1 (hs7.1 38 (by decide)).2.1 (ea_vpl (hs7.1 38 (by decide)).2.2 z60) ?_
            refine ea_iconst (pc := 140) dX12_chargeBy_140 (v := 4) rfl ?_
            refine ea_icmp_ne (pc := 141) (tgt := 155) dX12_chargeBy_141 rfl (fun c62 => ?_) (fun c62 => ?_)
            · have EX := EX.trans (if_neg c62)
              refine ea_iload (pc := 155) dX12_chargeBy_155 3 rfl ?_
              subst EX
              subst EY
              exact ea_ireturn (pc := 157) dX12_chargeBy_157 rfl rfl
            · have EX := EX.trans (if_pos c62)
              have K := K.1 c62
              refine ea_iload (pc := 144) dX12_chargeBy_144 3 rfl ?_
              refine ea_aload_n (pc := 146) dX12_chargeBy_146 rfl 0 rfl ?_
              refine ea_getR (pc := 147) dX12_chargeBy_147 ec_12 (k := 32) (Nat.le_of_ble_eq_true rfl) rfl (Or.inl ew_1377) (hs7.1 0 (by decide)).1 (hs7.1 0 (by decide)).2.1 (hs7.2 0 32 rfl) ?_
              refine ea_iload_n (pc := 150) dX12_chargeBy_150 rfl 2 rfl ?_
              have z61 := K
              refine ea_iald (pc := 151) dX12_chargeBy_151 (hs7.1 27 (by decide)).1 (hs7.1 27 (by decide)).2.1 (ea_vpl (hs7.1 27 (by decide)).2.2 z61) ?_
              refine ea_iadd (pc := 152) dX12_chargeBy_152 ?_
              refine ea_istore (pc := 153) (lv' := [(4, vI (((0 : Int32) + (ea_i (wX12_comesTo b0 (x2 : Int32) ((ea_i (wX12_lineOf b0 (x1 : Int32) (x2 : Int32) h) (b0 + 30) (Int32.toNatClampNeg (((25 : Int32) * x2) + (vX12_lineOf b0 (x1 : Int32) (x2 : Int32) h)))) : Int32) ((ea_i (wX12_lineOf b0 (x1 : Int32) (x2 : Int32) h) (b0 + 31) (Int32.toNatClampNeg (((24 : Int32) * x2) + (vX12_lineOf b0 (x1 : Int32) (x2 : Int32) h)))) : Int32) (wX12_lineOf b0 (x1 : Int32) (x2 : Int32) h)) (b0 + 26) (Int32.toNatClampNeg x2))) + (ea_i (wX12_comesTo b0 (x2 : Int32) ((ea_i (wX12_lineOf b0 (x1 : Int32) (x2 : Int32) h) (b0 + 30) (Int32.toNatClampNeg (((25 : Int32) * x2) + (vX12_lineOf b0 (x1 : Int32) (x2 : Int32) h)))) : Int32) ((ea_i (wX12_lineOf b0 (x1 : Int32) (x2 : Int32) h) (b0 + 31) (Int32.toNatClampNeg (((24 : Int32) * x2) + (vX12_lineOf b0 (x1 : Int32) (x2 : Int32) h)))) : Int32) (wX12_lineOf b0 (x1 : Int32) (x2 : Int32) h)) (b0 + 27) (Int32.toNatClampNeg x2))))]) dX12_chargeBy_153 (Nat.le_of_ble_eq_true rfl) [0] rfl ?_
              refine ea_iload (pc := 155) dX12_chargeBy_155 0 rfl ?_
              subst EX
              subst EY
              exact ea_ireturn (pc := 157) dX12_chargeBy_157 rfl rfl
        · have EX := EX.trans (if_neg c74)
          have K := K.2 c74
          refine ea_iload (pc := 102) dX12_chargeBy_102 3 rfl ?_
          refine ea_aload_n (pc := 104) dX12_chargeBy_104 rfl 0 rfl ?_
          refine ea_getR (pc := 105) dX12_chargeBy_105 ec_12 (k := 28) (Nat.le_of_ble_eq_true rfl) rfl (Or.inl ew_1373) (hs7.1 0 (by decide)).1 (hs7.1 0 (by decide)).2.1 (hs7.2 0 28 rfl) ?_
          refine ea_iload_n (pc := 108) dX12_chargeBy_108 rfl 2 rfl ?_
          obtain ⟨z64, K⟩ := K
          refine ea_iald (pc := 109) dX12_chargeBy_109 (hs7.1 23 (by decide)).1 (hs7.1 23 (by decide)).2.1 (ea_vpl (hs7.1 23 (by decide)).2.2 z64) ?_
          refine ea_iadd (pc := 110) dX12_chargeBy_110 ?_
          refine ea_istore (pc := 111) (lv' := [(0, vR (some (b0 + 0))), (1, vI x1), (2, vI x2), (4, vI ((0 : Int32) + (ea_i (wX12_comesTo b0 (x2 : Int32) ((ea_i (wX12_lineOf b0 (x1 : Int32) (x2 : Int32) h) (b0 + 30) (Int32.toNatClampNeg (((25 : Int32) * x2) + (vX12_lineOf b0 (x1 : Int32) (x2 : Int32) h)))) : Int32) ((ea_i (wX12_lineOf b0 (x1 : Int32) (x2 : Int32) h) (b0 + 31) (Int32.toNatClampNeg (((24 : Int32) * x2) + (vX12_lineOf b0 (x1 : Int32) (x2 : Int32) h)))) : Int32) (wX12_lineOf b0 (x1 : Int32) (x2 : Int32) h)) (b0 + 23) (Int32.toNatClampNeg x2))))]) dX12_chargeBy_111 (Nat.le_of_ble_eq_true rfl) [1, 2, 3, 0] rfl ?_
          refine ea_aload_n (pc := 113) dX12_chargeBy_113 rfl 0 rfl ?_
          refine ea_getR (pc := 114) dX12_chargeBy_114 ec_12 (k := 64) (Nat.le_of_ble_eq_true rfl) rfl (Or.inl ew_1409) (hs7.1 0 (by decide)).1 (hs7.1 0 (by decide)).2.1 (hs7.2 0 64 rfl) ?_
          refine ea_iload_n (pc := 117) dX12_chargeBy_117 rfl 1 rfl ?_
          obtain ⟨z65, K⟩ := K
          refine ea_iald (pc := 118) dX12_chargeBy_118 (hs7.1 38 (by decide)).1 (hs7.1 38 (by decide)).2.1 (ea_vpl (hs7.1 38 (by decide)).2.2 z65) ?_
          refine ea_iconst (pc := 119) dX12_chargeBy_119 (v := 3) rfl ?_
          refine ea_icmp_ne (pc := 120) (tgt := 134) dX12_chargeBy_120 rfl (fun c73 => ?_) (fun c73 => ?_)
          · have EX := EX.trans (if_neg c73)
            have K := K.2 c73
            refine ea_aload_n (pc := 134) dX12_chargeBy_134 rfl 0 rfl ?_
            refine ea_getR (pc := 135) dX12_chargeBy_135 ec_12 (k := 64) (Nat.le_of_ble_eq_true rfl) rfl (Or.inl ew_1409) (hs7.1 0 (by decide)).1 (hs7.1 0 (by decide)).2.1 (hs7.2 0 64 rfl) ?_
            refine ea_iload_n (pc := 138) dX12_chargeBy_138 rfl 1 rfl ?_
            obtain ⟨z66, K⟩ := K
            refine ea_iald (pc := 139) dX12_chargeBy_139 (hs7.1 38 (by decide)).1 (hs7.1 38 (by decide)).2.1 (ea_vpl (hs7.1 38 (by decide)).2.2 z66) ?_
            refine ea_iconst (pc := 140) dX12_chargeBy_140 (v := 4) rfl ?_
            refine ea_icmp_ne (pc := 141) (tgt := 155) dX12_chargeBy_141 rfl (fun c68 => ?_) (fun c68 => ?_)
            · have EX := EX.trans (if_neg c68)
              refine ea_iload (pc := 155) dX12_chargeBy_155 3 rfl ?_
              subst EX
              subst EY
              exact ea_ireturn (pc := 157) dX12_chargeBy_157 rfl rfl
            · have EX := EX.trans (if_pos c68)
              have K := K.1 c68
              refine ea_iload (pc := 144) dX12_chargeBy_144 3 rfl ?_
              refine ea_aload_n (pc := 146) dX12_chargeBy_146 rfl 0 rfl ?_
              refine ea_getR (pc := 147) dX12_chargeBy_147 ec_12 (k := 32) (Nat.le_of_ble_eq_true rfl) rfl (Or.inl ew_1377) (hs7.1 0 (by decide)).1 (hs7.1 0 (by decide)).2.1 (hs7.2 0 32 rfl) ?_
              refine ea_iload_n (pc := 150) dX12_chargeBy_150 rfl 2 rfl ?_
              have z67 := K
              refine ea_iald (pc := 151) dX12_chargeBy_151 (hs7.1 27 (by decide)).1 (hs7.1 27 (by decide)).2.1 (ea_vpl (hs7.1 27 (by decide)).2.2 z67) ?_
              refine ea_iadd (pc := 152) dX12_chargeBy_152 ?_
              refine ea_istore (pc := 153) (lv' := [(4, vI (((0 : Int32) + (ea_i (wX12_comesTo b0 (x2 : Int32) ((ea_i (wX12_lineOf b0 (x1 : Int32) (x2 : Int32) h) (b0 + 30) (Int32.toNatClampNeg (((25 : Int32) * x2) + (vX12_lineOf b0 (x1 : Int32) (x2 : Int32) h)))) : Int32) ((ea_i (wX12_lineOf b0 (x1 : Int32) (x2 : Int32) h) (b0 + 31) (Int32.toNatClampNeg (((24 : Int32) * x2) + (vX12_lineOf b0 (x1 : Int32) (x2 : Int32) h)))) : Int32) (wX12_lineOf b0 (x1 : Int32) (x2 : Int32) h)) (b0 + 23) (Int32.toNatClampNeg x2))) + (ea_i (wX12_comesTo b0 (x2 : Int32) ((ea_i (wX12_lineOf b0 (x1 : Int32) (x2 : Int32) h) (b0 + 30) (Int32.toNatClampNeg (((25 : Int32) * x2) + (vX12_lineOf b0 (x1 : Int32) (x2 : Int32) h)))) : Int32) ((ea_i (wX12_lineOf b0 (x1 : Int32) (x2 : Int32) h) (b0 + 31) (Int32.toNatClampNeg (((24 : Int32) * x2) + (vX12_lineOf b0 (x1 : Int32) (x2 : Int32) h)))) : Int32) (wX12_lineOf b0 (x1 : Int32) (x2 : Int32) h)) (b0 + 27) (Int32.toNatClampNeg x2))))]) dX12_chargeBy_153 (Nat.le_of_ble_eq_true rfl) [0] rfl ?_
              refine ea_iload (pc := 155) dX12_chargeBy_155 0 rfl ?_
              subst EX
              subst EY
              exact ea_ireturn (pc := 157) dX12_chargeBy_157 rfl rfl
          · have EX := EX.trans (if_pos c73)
            have K := K.1 c73
            refine ea_iload (pc := 123) dX12_chargeBy_123 3 rfl ?_
            refine ea_aload_n (pc := 125) dX12_chargeBy_125 rfl 0 rfl ?_
            refine ea_getR (pc := 126) dX12_chargeBy_126 ec_12 (k := 31) (Nat.le_of_ble_eq_true rfl) rfl (Or.inl ew_1376) (hs7.1 0 (by decide)).1 (hs7.1 0 (by decide)).2.1 (hs7.2 0 31 rfl) ?_
            refine ea_iload_n (pc := 129) dX12_chargeBy_129 rfl 2 rfl ?_
            obtain ⟨z69, K⟩ := K
            refine ea_iald (pc := 130) dX12_chargeBy_130 (hs7.1 26 (by decide)).1 (hs7.1 26 (by decide)).2.1 (ea_vpl (hs7.1 26 (by decide)).2.2 z69) ?_
            refine ea_iadd (pc := 131) dX12_chargeBy_131 ?_
            refine ea_istore (pc := 132) (lv' := [(0, vR (some (b0 + 0))), (1, vI x1), (2, vI x2), (4, vI (((0 : Int32) + (ea_i (wX12_comesTo b0 (x2 : Int32) ((ea_i (wX12_lineOf b0 (x1 : Int32) (x2 : Int32) h) (b0 + 30) (Int32.toNatClampNeg (((25 : Int32) * x2) + (vX12_lineOf b0 (x1 : Int32) (x2 : Int32) h)))) : Int32) ((ea_i (wX12_lineOf b0 (x1 : Int32) (x2 : Int32) h) (b0 + 31) (Int32.toNatClampNeg (((24 : Int32) * x2) + (vX12_lineOf b0 (x1 : Int32) (x2 : Int32) h)))) : Int32) (wX12_lineOf b0 (x1 : Int32) (x2 : Int32) h)) (b0 + 23) (Int32.toNatClampNeg x2))) + (ea_i (wX12_comesTo b0 (x2 : Int32) ((ea_i (wX12_lineOf b0 (x1 : Int32) (x2 : Int32) h) (b0 + 30) (Int32.toNatClampNeg (((25 : Int32) * x2) + (vX12_lineOf b0 (x1 : Int32) (x2 : Int32) h)))) : Int32) ((ea_i (wX12_lineOf b0 (x1 : Int32) (x2 : Int32) h) (b0 + 31) (Int32.toNatClampNeg (((24 : Int32) * x2) + (vX12_lineOf b0 (x1 : Int32) (x2 : Int32) h)))) : Int32) (wX12_lineOf b0 (x1 : Int32) (x2 : Int32) h)) (b0 + 26) (Int32.toNatClampNeg x2))))]) dX12_chargeBy_132 (Nat.le_of_ble_eq_true rfl) [1, 2, 3, 0] rfl ?_
            refine ea_aload_n (pc := 134) dX12_chargeBy_134 rfl 0 rfl ?_
            refine ea_getR (pc := 135) dX12_chargeBy_135 ec_12 (k := 64) (Nat.le_of_ble_eq_true rfl) rfl (Or.inl ew_1409) (hs7.1 0 (by decide)).1 (hs7.1 0 (by decide)).2.1 (hs7.2 0 64 rfl) ?_
            refine ea_iload_n (pc := 138) dX12_chargeBy_138 rfl 1 rfl ?_
            obtain ⟨z70, K⟩ := K
            refine ea_iald (pc := 139) dX12_chargeBy_139 (hs7.1 38 (by decide)).1 (hs7.1 38 (by decide)).2.1 (ea_vpl (hs7.1 38 (by decide)).2.2 z70) ?_
            refine ea_iconst (pc := 140) dX12_chargeBy_140 (v := 4) rfl ?_
            refine ea_icmp_ne (pc := 141) (tgt := 155) dX12_chargeBy_141 rfl (fun c72 => ?_) (fun c72 => ?_)
            · have EX := EX.trans (if_neg c72)
              refine ea_iload (pc := 155) dX12_chargeBy_155 3 rfl ?_
              subst EX
              subst EY
              exact ea_ireturn (pc := 157) dX12_chargeBy_157 rfl rfl
            · have EX := EX.trans (if_pos c72)
              have K := K.1 c72
              refine ea_iload (pc := 144) dX12_chargeBy_144 3 rfl ?_
              refine ea_aload_n (pc := 146) dX12_chargeBy_146 rfl 0 rfl ?_
              refine ea_getR (pc := 147) dX12_chargeBy_147 ec_12 (k := 32) (Nat.le_of_ble_eq_true rfl) rfl (Or.inl ew_1377) (hs7.1 0 (by decide)).1 (hs7.1 0 (by decide)).2.1 (hs7.2 0 32 rfl) ?_
              refine ea_iload_n (pc := 150) dX12_chargeBy_150 rfl 2 rfl ?_
              have z71 := K
              refine ea_iald (pc := 151) dX12_chargeBy_151 (hs7.1 27 (by decide)).1 (hs7.1 27 (by decide)).2.1 (ea_vpl (hs7.1 27 (by decide)).2.2 z71) ?_
              refine ea_iadd (pc := 152) dX12_chargeBy_152 ?_
              refine ea_istore (pc := 153) (lv' := [(4, vI ((((0 : Int32) + (ea_i (wX12_comesTo b0 (x2 : Int32) ((ea_i (wX12_lineOf b0 (x1 : Int32) (x2 : Int32) h) (b0 + 30) (Int32.toNatClampNeg (((25 : Int32) * x2) + (vX12_lineOf b0 (x1 : Int32) (x2 : Int32) h)))) : Int32) ((ea_i (wX12_lineOf b0 (x1 : Int32) (x2 : Int32) h) (b0 + 31) (Int32.toNatClampNeg (((24 : Int32) * x2) + (vX12_lineOf b0 (x1 : Int32) (x2 : Int32) h)))) : Int32) (wX12_lineOf b0 (x1 : Int32) (x2 : Int32) h)) (b0 + 23) (Int32.toNatClampNeg x2))) + (ea_i (wX12_comesTo b0 (x2 : Int32) ((ea_i (wX12_lineOf b0 (x1 : Int32) (x2 : Int32) h) (b0 + 30) (Int32.toNatClampNeg (((25 : Int32) * x2) + (vX12_lineOf b0 (x1 : Int32) (x2 : Int32) h)))) : Int32) ((ea_i (wX12_lineOf b0 (x1 : Int32) (x2 : Int32) h) (b0 + 31) (Int32.toNatClampNeg (((24 : Int32) * x2) + (vX12_lineOf b0 (x1 : Int32) (x2 : Int32) h)))) : Int32) (wX12_lineOf b0 (x1 : Int32) (x2 : Int32) h)) (b0 + 26) (Int32.toNatClampNeg x2))) + (ea_i (wX12_comesTo b0 (x2 : Int32) ((ea_i (wX12_lineOf b0 (x1 : Int32) (x2 : Int32) h) (b0 + 30) (Int32.toNatClampNeg (((25 : Int32) * x2) + (vX12_lineOf b0 (x1 : Int32) (x2 : Int32) h)))) : Int32) ((ea_i (wX12_lineOf b0 (x1 : Int32) (x2 : Int32) h) (b0 + 31) (Int32.toNatClampNeg (((24 : Int32) * x2) + (vX12_lineOf b0 (x1 : Int32) (x2 : Int32) h)))) : Int32) (wX12_lineOf b0 (x1 : Int32) (x2 : Int32) h)) (b0 + 27) (Int32.toNatClampNeg x2))))]) dX12_chargeBy_153 (Nat.le_of_ble_eq_true rfl) [0] rfl ?_
              refine ea_iload (pc := 155) dX12_chargeBy_155 0 rfl ?_
              subst EX
              subst EY
              exact ea_ireturn (pc := 157) dX12_chargeBy_157 rfl rfl
    · have EX := EX.trans (if_pos c144)
      have EY := EY.trans (if_pos c144)
      have K := K.1 c144
      refine ea_iconst (pc := 23) dX12_chargeBy_23 (v := 0) rfl ?_
      refine ea_goto (pc := 24) (tgt := 54) dX12_chargeBy_24 rfl ?_
      refine ea_istore (pc := 54) (lv' := [(0, vR (some (b0 + 0))), (1, vI x1), (2, vI x2), (4, vI 0)]) dX12_chargeBy_54 (Nat.le_of_ble_eq_true rfl) [1, 2, 3, 0] rfl ?_
      refine ea_iload (pc := 56) dX12_chargeBy_56 3 rfl ?_
      refine ea_if_ge (pc := 58) (tgt := 65) dX12_chargeBy_58 rfl (fun c143 => ?_) (fun c143 => ?_)
      · have EX := EX.trans (if_pos c143)
        have K := K.1 c143
        refine ea_iload (pc := 65) dX12_chargeBy_65 3 rfl ?_
        refine ea_ldcw (pc := 67) dX12_chargeBy_67 ew_2010 ?_
        refine ea_icmp_le (pc := 70) (tgt := 79) dX12_chargeBy_70 rfl (fun c120 => ?_) (fun c120 => ?_)
        · have EX := EX.trans (if_pos c120)
          have K := K.1 c120
          refine ea_iload (pc := 79) dX12_chargeBy_79 3 rfl ?_
          refine ea_istore (pc := 81) (lv' := [(0, vR (some (b0 + 0))), (1, vI x1), (2, vI x2), (4, vI 0)]) dX12_chargeBy_81 (Nat.le_of_ble_eq_true rfl) [1, 2, 3, 0] rfl ?_
          refine ea_aload_n (pc := 83) dX12_chargeBy_83 rfl 0 rfl ?_
          refine ea_getR (pc := 84) dX12_chargeBy_84 ec_12 (k := 70) (Nat.le_of_ble_eq_true rfl) rfl (Or.inl ew_1415) (hs3.1 0 (by decide)).1 (hs3.1 0 (by decide)).2.1 (hs3.2 0 70 rfl) ?_
          refine ea_iload_n (pc := 87) dX12_chargeBy_87 rfl 1 rfl ?_
          obtain ⟨z76, K⟩ := K
          refine ea_iald (pc := 88) dX12_chargeBy_88 (hs3.1 44 (by decide)).1 (hs3.1 44 (by decide)).2.1 (ea_vpl (hs3.1 44 (by decide)).2.2 z76) ?_
          refine ea_sipush (pc := 89) dX12_chargeBy_89 (v := 1440) rfl ?_
          refine ea_irem (pc := 92) dX12_chargeBy_92 (by decide) ?_
          refine ea_aload_n (pc := 93) dX12_chargeBy_93 rfl 0 rfl ?_
          refine ea_getR (pc := 94) dX12_chargeBy_94 ec_12 (k := 29) (Nat.le_of_ble_eq_true rfl) rfl (Or.inl ew_1374) (hs3.1 0 (by decide)).1 (hs3.1 0 (by decide)).2.1 (hs3.2 0 29 rfl) ?_
          refine ea_iload_n (pc := 97) dX12_chargeBy_97 rfl 2 rfl ?_
          obtain ⟨z77, K⟩ := K
          refine ea_iald (pc := 98) dX12_chargeBy_98 (hs3.1 24 (by decide)).1 (hs3.1 24 (by decide)).2.1 (ea_vpl (hs3.1 24 (by decide)).2.2 z77) ?_
          refine ea_icmp_le (pc := 99) (tgt := 113) dX12_chargeBy_99 rfl (fun c97 => ?_) (fun c97 => ?_)
          · have EX := EX.trans (if_pos c97)
            have K := K.1 c97
            refine ea_aload_n (pc := 113) dX12_chargeBy_113 rfl 0 rfl ?_
            refine ea_getR (pc := 114) dX12_chargeBy_114 ec_12 (k := 64) (Nat.le_of_ble_eq_true rfl) rfl (Or.inl ew_1409) (hs3.1 0 (by decide)).1 (hs3.1 0 (by decide)).2.1 (hs3.2 0 64 rfl) ?_
            refine ea_iload_n (pc := 117) dX12_chargeBy_117 rfl 1 rfl ?_
            obtain ⟨z78, K⟩ := K
            refine ea_iald (pc := 118) dX12_chargeBy_118 (hs3.1 38 (by decide)).1 (hs3.1 38 (by decide)).2.1 (ea_vpl (hs3.1 38 (by decide)).2.2 z78) ?_
            refine ea_iconst (pc := 119) dX12_chargeBy_119 (v := 3) rfl ?_
            refine ea_icmp_ne (pc := 120) (tgt := 134) dX12_chargeBy_120 rfl (fun c86 => ?_) (fun c86 => ?_)
            · have EX := EX.trans (if_neg c86)
              have K := K.2 c86
              refine ea_aload_n (pc := 134) dX12_chargeBy_134 rfl 0 rfl ?_
              refine ea_getR (pc := 135) dX12_chargeBy_135 ec_12 (k := 64) (Nat.le_of_ble_eq_true rfl) rfl (Or.inl ew_1409) (hs3.1 0 (by decide)).1 (hs3.1 0 (by decide)).2.1 (hs3.2 0 64 rfl) ?_
              refine ea_iload_n (pc := 138) dX12_chargeBy_138 rfl 1 rfl ?_
              obtain ⟨z79, K⟩ := K
              refine ea_iald (pc := 139) dX12_chargeBy_139 (hs3.1 38 (by decide)).1 (hs3.1 38 (by decide)).2.1 (ea_vpl (hs3.1 38 (by decide)).2.2 z79) ?_
              refine ea_iconst (pc := 140) dX12_chargeBy_140 (v := 4) rfl ?_
              refine ea_icmp_ne (pc := 141) (tgt := 155) dX12_chargeBy_141 rfl (fun c81 => ?_) (fun c81 => ?_)
              · have EX := EX.trans (if_neg c81)
                refine ea_iload (pc := 155) dX12_chargeBy_155 3 rfl ?_
                subst EX
                subst EY
                exact ea_ireturn (pc := 157) dX12_chargeBy_157 rfl rfl
              · have EX := EX.trans (if_pos c81)
                have K := K.1 c81
                refine ea_iload (pc := 144) dX12_chargeBy_144 3 rfl ?_
                refine ea_aload_n (pc := 146) dX12_chargeBy_146 rfl 0 rfl ?_
                refine ea_getR (pc := 147) dX12_chargeBy_147 ec_12 (k := 32) (Nat.le_of_ble_eq_true rfl) rfl (Or.inl ew_1377) (hs3.1 0 (by decide)).1 (hs3.1 0 (by decide)).2.1 (hs3.2 0 32 rfl) ?_
                refine ea_iload_n (pc := 150) dX12_chargeBy_150 rfl 2 rfl ?_
                have z80 := K
                refine ea_iald (pc := 151) dX12_chargeBy_151 (hs3.1 27 (by decide)).1 (hs3.1 27 (by decide)).2.1 (ea_vpl (hs3.1 27 (by decide)).2.2 z80) ?_
                refine ea_iadd (pc := 152) dX12_chargeBy_152 ?_
                refine ea_istore (pc := 153) (lv' := [(4, vI ((0 : Int32) + (ea_i (wX12_lineOf b0 (x1 : Int32) (x2 : Int32) h) (b0 + 27) (Int32.toNatClampNeg x2))))]) dX12_chargeBy_153 (Nat.le_of_ble_eq_true rfl) [0] rfl ?_
                refine ea_iload (pc := 155) dX12_chargeBy_155 0 rfl ?_
                subst EX
                subst EY
                exact ea_ireturn (pc := 157) dX12_chargeBy_157 rfl rfl
            · have EX := EX.trans (if_pos c86)
              have K := K.1 c86
              refine ea_iload (pc := 123) dX12_chargeBy_123 3 rfl ?_
              refine ea_aload_n (pc := 125) dX12_chargeBy_125 rfl 0 rfl ?_
              refine ea_getR (pc := 126) dX12_chargeBy_126 ec_12 (k := 31) (Nat.le_of_ble_eq_true rfl) rfl (Or.inl ew_1376) (hs3.1 0 (by decide)).1 (hs3.1 0 (by decide)).2.1 (hs3.2 0 31 rfl) ?_
              refine ea_iload_n (pc := 129) dX12_chargeBy_129 rfl 2 rfl ?_
              obtain ⟨z82, K⟩ := K
              refine ea_iald (pc := 130) dX12_chargeBy_130 (hs3.1 26 (by decide)).1 (hs3.1 26 (by decide)).2.1 (ea_vpl (hs3.1 26 (by decide)).2.2 z82) ?_
              refine ea_iadd (pc := 131) dX12_chargeBy_131 ?_
              refine ea_istore (pc := 132) (lv' := [(0, vR (some (b0 + 0))), (1, vI x1), (2, vI x2), (4, vI ((0 : Int32) + (ea_i (wX12_lineOf b0 (x1 : Int32) (x2 : Int32) h) (b0 + 26) (Int32.toNatClampNeg x2))))]) dX12_chargeBy_132 (Nat.le_of_ble_eq_true rfl) [1, 2, 3, 0] rfl ?_
              refine ea_aload_n (pc := 134) dX12_chargeBy_134 rfl 0 rfl ?_
              refine ea_getR (pc := 135) dX12_chargeBy_135 ec_12 (k := 64) (Nat.le_of_ble_eq_true rfl) rfl (Or.inl ew_1409) (hs3.1 0 (by decide)).1 (hs3.1 0 (by decide)).2.1 (hs3.2 0 64 rfl) ?_
              refine ea_iload_n (pc := 138) dX12_chargeBy_138 rfl 1 rfl ?_
              obtain ⟨z83, K⟩ := K
              refine ea_iald (pc := 139) dX12_chargeBy_139 (hs3.1 38 (by decide)).1 (hs3.1 38 (by decide)).2.1 (ea_vpl (hs3.1 38 (by decide)).2.2 z83) ?_
              refine ea_iconst (pc := 140) dX12_chargeBy_140 (v := 4) rfl ?_
              refine ea_icmp_ne (pc := 141) (tgt := 155) dX12_chargeBy_141 rfl (fun c85 => ?_) (fun c85 => ?_)
              · have EX := EX.trans (if_neg c85)
                refine ea_iload (pc := 155) dX12_chargeBy_155 3 rfl ?_
                subst EX
                subst EY
                exact ea_ireturn (pc := 157) dX12_chargeBy_157 rfl rfl
              · have EX := EX.trans (if_pos c85)
                have K := K.1 c85
                refine ea_iload (pc := 144) dX12_chargeBy_144 3 rfl ?_
                refine ea_aload_n (pc := 146) dX12_chargeBy_146 rfl 0 rfl ?_
                refine ea_getR (pc := 147) dX12_chargeBy_147 ec_12 (k := 32) (Nat.le_of_ble_eq_true rfl) rfl (Or.inl ew_1377) (hs3.1 0 (by decide)).1 (hs3.1 0 (by decide)).2.1 (hs3.2 0 32 rfl) ?_
                refine ea_iload_n (pc := 150) dX12_chargeBy_150 rfl 2 rfl ?_
                have z84 := K
                refine ea_iald (pc := 151) dX12_chargeBy_151 (hs3.1 27 (by decide)).1 (hs3.1 27 (by decide)).2.1 (ea_vpl (hs3.1 27 (by decide)).2.2 z84) ?_
                refine ea_iadd (pc := 152) dX12_chargeBy_152 ?_
                refine ea_istore (pc := 153) (lv' := [(4, vI (((0 : Int32) + (ea_i (wX12_lineOf b0 (x1 : Int32) (x2 : Int32) h) (b0 + 26) (Int32.toNatClampNeg x2))) + (ea_i (wX12_lineOf b0 (x1 : Int32) (x2 : Int32) h) (b0 + 27) (Int32.toNatClampNeg x2))))]) dX12_chargeBy_153 (Nat.le_of_ble_eq_true rfl) [0] rfl ?_
                refine ea_iload (pc := 155) dX12_chargeBy_155 0 rfl ?_
                subst EX
                subst EY
                exact ea_ireturn (pc := 157) dX12_chargeBy_157 rfl rfl
          · have EX := EX.trans (if_neg c97)
            have K := K.2 c97
            refine ea_iload (pc := 102) dX12_chargeBy_102 3 rfl ?_
            refine ea_aload_n (pc := 104) dX12_chargeBy_104 rfl 0 rfl ?_
            refine ea_getR (pc := 105) dX12_chargeBy_105 ec_12 (k := 28) (Nat.le_of_ble_eq_true rfl) rfl (Or.inl ew_1373) (hs3.1 0 (by decide)).1 (hs3.1 0 (by decide)).2.1 (hs3.2 0 28 rfl) ?_
            refine ea_iload_n (pc := 108) dX12_chargeBy_108 rfl 2 rfl ?_
            obtain ⟨z87, K⟩ := K
            refine ea_iald (pc := 109) dX12_chargeBy_109 (hs3.1 23 (by decide)).1 (hs3.1 23 (by decide)).2.1 (ea_vpl (hs3.1 23 (by decide)).2.2 z87) ?_
            refine ea_iadd (pc := 110) dX12_chargeBy_110 ?_
            refine ea_istore (pc := 111) (lv' := [(0, vR (some (b0 + 0))), (1, vI x1), (2, vI x2), (4, vI ((0 : Int32) + (ea_i (wX12_lineOf b0 (x1 : Int32) (x2 : Int32) h) (b0 + 23) (Int32.toNatClampNeg x2))))]) dX12_chargeBy_111 (Nat.le_of_ble_eq_true rfl) [1, 2, 3, 0] rfl ?_
            refine ea_aload_n (pc := 113) dX12_chargeBy_113 rfl 0 rfl ?_
            refine ea_getR (pc := 114) dX12_chargeBy_114 ec_12 (k := 64) (Nat.le_of_ble_eq_true rfl) rfl (Or.inl ew_1409) (hs3.1 0 (by decide)).1 (hs3.1 0 (by decide)).2.1 (hs3.2 0 64 rfl) ?_
            refine ea_iload_n (pc := 117) dX12_chargeBy_117 rfl 1 rfl ?_
            obtain ⟨z88, K⟩ := K
            refine ea_iald (pc := 118) dX12_chargeBy_118 (hs3.1 38 (by decide)).1 (hs3.1 38 (by decide)).2.1 (ea_vpl (hs3.1 38 (by decide)).2.2 z88) ?_
            refine ea_iconst (pc := 119) dX12_chargeBy_119 (v := 3) rfl ?_
            refine ea_icmp_ne (pc := 120) (tgt := 134) dX12_chargeBy_120 rfl (fun c96 => ?_) (fun c96 => ?_)
            · have EX := EX.trans (if_neg c96)
              have K := K.2 c96
              refine ea_aload_n (pc := 134) dX12_chargeBy_134 rfl 0 rfl ?_
              refine ea_getR (pc := 135) dX12_chargeBy_135 ec_12 (k := 64) (Nat.le_of_ble_eq_true rfl) rfl (Or.inl ew_1409) (hs3.1 0 (by decide)).1 (hs3.1 0 (by decide)).2.1 (hs3.2 0 64 rfl) ?_
              refine ea_iload_n (pc := 138) dX12_chargeBy_138 rfl 1 rfl ?_
              obtain ⟨z89, K⟩ := K
              refine ea_iald (pc := 139) dX12_chargeBy_139 (hs3.1 38 (by decide)).1 (hs3.1 38 (by decide)).2.1 (ea_vpl (hs3.1 38 (by decide)).2.2 z89) ?_
              refine ea_iconst (pc := 140) dX12_chargeBy_140 (v := 4) rfl ?_
              refine ea_icmp_ne (pc := 141) (tgt := 155) dX12_chargeBy_141 rfl (fun c91 => ?_) (fun c91 => ?_)
              · have EX := EX.trans (if_neg c91)
                refine ea_iload (pc := 155) dX12_chargeBy_155 3 rfl ?_
                subst EX
                subst EY
                exact ea_ireturn (pc := 157) dX12_chargeBy_157 rfl rfl
              · have EX := EX.trans (if_pos c91)
                have K := K.1 c91
                refine ea_iload (pc := 144) dX12_chargeBy_144 3 rfl ?_
                refine ea_aload_n (pc := 146) dX12_chargeBy_146 rfl 0 rfl ?_
                refine ea_getR (pc := 147) dX12_chargeBy_147 ec_12 (k := 32) (Nat.le_of_ble_eq_true rfl) rfl (Or.inl ew_1377) (hs3.1 0 (by decide)).1 (hs3.1 0 (by decide)).2.1 (hs3.2 0 32 rfl) ?_
                refine ea_iload_n (pc := 150) dX12_chargeBy_150 rfl 2 rfl ?_
                have z90 := K
                refine ea_iald (pc := 151) dX12_chargeBy_151 (hs3.1 27 (by decide)).1 (hs3.1 27 (by decide)).2.1 (ea_vpl (hs3.1 27 (by decide)).2.2 z90) ?_
                refine ea_iadd (pc := 152) dX12_chargeBy_152 ?_
                refine ea_istore (pc := 153) (lv' := [(4, vI (((0 : Int32) + (ea_i (wX12_lineOf b0 (x1 : Int32) (x2 : Int32) h) (b0 + 23) (Int32.toNatClampNeg x2))) + (ea_i (wX12_lineOf b0 (x1 : Int32) (x2 : Int32) h) (b0 + 27) (Int32.toNatClampNeg x2))))]) dX12_chargeBy_153 (Nat.le_of_ble_eq_true rfl) [0] rfl ?_
                refine ea_iload (pc := 155) dX12_chargeBy_155 0 rfl ?_
                subst EX
                subst EY
                exact ea_ireturn (pc := 157) dX12_chargeBy_157 rfl rfl
            · have EX := EX.trans (if_pos c96)
              have K := K.1 c96
              refine ea_iload (pc := 123) dX12_chargeBy_123 3 rfl ?_
              refine ea_aload_n (pc := 125) dX12_chargeBy_125 rfl 0 rfl ?_
              refine ea_getR (pc := 126) dX12_chargeBy_126 ec_12 (k := 31) (Nat.le_of_ble_eq_true rfl) rfl (Or.inl ew_1376) (hs3.1 0 (by decide)).1 (hs3.1 0 (by decide)).2.1 (hs3.2 0 31 rfl) ?_
              refine ea_iload_n (pc := 129) dX12_chargeBy_129 rfl 2 rfl ?_
              obtain ⟨z92, K⟩ := K
              refine ea_iald (pc := 130) dX12_chargeBy_130 (hs3.1 26 (by decide)).1 (hs3.1 26 (by decide)).2.1 (ea_vpl (hs3.1 26 (by decide)).2.2 z92) ?_
              refine ea_iadd (pc := 131) dX12_chargeBy_131 ?_
              refine ea_istore (pc := 132) (lv' := [(0, vR (some (b0 + 0))), (1, vI x1), (2, vI x2), (4, vI (((0 : Int32) + (ea_i (wX12_lineOf b0 (x1 : Int32) (x2 : Int32) h) (b0 + 23) (Int32.toNatClampNeg x2))) + (ea_i (wX12_lineOf b0 (x1 : Int32) (x2 : Int32) h) (b0 + 26) (Int32.toNatClampNeg x2))))]) dX12_chargeBy_132 (Nat.le_of_ble_eq_true rfl) [1, 2, 3, 0] rfl ?_
              refine ea_aload_n (pc := 134) dX12_chargeBy_134 rfl 0 rfl ?_
              refine ea_getR (pc := 135) dX12_chargeBy_135 ec_12 (k := 64) (Nat.le_of_ble_eq_true rfl) rfl (Or.inl ew_1409) (hs3.1 0 (by decide)).1 (hs3.1 0 (by decide)).2.1 (hs3.2 0 64 rfl) ?_
              refine ea_iload_n (pc := 138) dX12_chargeBy_138 rfl 1 rfl ?_
              obtain ⟨z93, K⟩ := K
              refine ea_iald (pc := 139) dX12_chargeBy_139 (hs3.1 38 (by decide)).1 (hs3.1 38 (by decide)).2.1 (ea_vpl (hs3.1 38 (by decide)).2.2 z93) ?_
              refine ea_iconst (pc := 140) dX12_chargeBy_140 (v := 4) rfl ?_
              refine ea_icmp_ne (pc := 141) (tgt := 155) dX12_chargeBy_141 rfl (fun c95 => ?_) (fun c95 => ?_)
              · have EX := EX.trans (if_neg c95)
                refine ea_iload (pc := 155) dX12_chargeBy_155 3 rfl ?_
                subst EX
                subst EY
                exact ea_ireturn (pc := 157) dX12_chargeBy_157 rfl rfl
              · have EX := EX.trans (if_pos c95)
                have K := K.1 c95
                refine ea_iload (pc := 144) dX12_chargeBy_144 3 rfl ?_
                refine ea_aload_n (pc := 146) dX12_chargeBy_146 rfl 0 rfl ?_
                refine ea_getR (pc := 147) dX12_chargeBy_147 ec_12 (k := 32) (Nat.le_of_ble_eq_true rfl) rfl (Or.inl ew_1377) (hs3.1 0 (by decide)).1 (hs3.1 0 (by decide)).2.1 (hs3.2 0 32 rfl) ?_
                refine ea_iload_n (pc := 150) dX12_chargeBy_150 rfl 2 rfl ?_
                have z94 := K
                refine ea_iald (pc := 151) dX12_chargeBy_151 (hs3.1 27 (by decide)).1 (hs3.1 27 (by decide)).2.1 (ea_vpl (hs3.1 27 (by decide)).2.2 z94) ?_
                refine ea_iadd (pc := 152) dX12_chargeBy_152 ?_
                refine ea_istore (pc := 153) (lv' := [(4, vI ((((0 : Int32) + (ea_i (wX12_lineOf b0 (x1 : Int32) (x2 : Int32) h) (b0 + 23) (Int32.toNatClampNeg x2))) + (ea_i (wX12_lineOf b0 (x1 : Int32) (x2 : Int32) h) (b0 + 26) (Int32.toNatClampNeg x2))) + (ea_i (wX12_lineOf b0 (x1 : Int32) (x2 : Int32) h) (b0 + 27) (Int32.toNatClampNeg x2))))]) dX12_chargeBy_153 (Nat.le_of_ble_eq_true rfl) [0] rfl ?_
                refine ea_iload (pc := 155) dX12_chargeBy_155 0 rfl ?_
                subst EX
                subst EY
                exact ea_ireturn (pc := 157) dX12_chargeBy_157 rfl rfl
        · have EX := EX.trans (if_neg c120)
          have K := K.2 c120
          refine ea_ldcw (pc := 73) dX12_chargeBy_73 ew_2010 ?_
          refine ea_goto (pc := 76) (tgt := 81) dX12_chargeBy_76 rfl ?_
          refine ea_istore (pc := 81) (lv' := [(0, vR (some (b0 + 0))), (1, vI x1), (2, vI x2), (4, vI 99999)]) dX12_chargeBy_81 (Nat.le_of_ble_eq_true rfl) [1, 2, 3, 0] rfl ?_
          refine ea_aload_n (pc := 83) dX12_chargeBy_83 rfl 0 rfl ?_
          refine ea_getR (pc := 84) dX12_chargeBy_84 ec_12 (k := 70) (Nat.le_of_ble_eq_true rfl) rfl (Or.inl ew_1415) (hs3.1 0 (by decide)).1 (hs3.1 0 (by decide)).2.1 (hs3.2 0 70 rfl) ?_
          refine ea_iload_n (pc := 87) dX12_chargeBy_87 rfl 1 rfl ?_
          obtain ⟨z98, K⟩ := K
          refine ea_iald (pc := 88) dX12_chargeBy_88 (hs3.1 44 (by decide)).1 (hs3.1 44 (by decide)).2.1 (ea_vpl (hs3.1 44 (by decide)).2.2 z98) ?_
          refine ea_sipush (pc := 89) dX12_chargeBy_89 (v := 1440) rfl ?_
          refine ea_irem (pc := 92) dX12_chargeBy_92 (by decide) ?_
          refine ea_aload_n (pc := 93) dX12_chargeBy_93 rfl 0 rfl ?_
          refine ea_getR (pc := 94) dX12_chargeBy_94 ec_12 (k := 29) (Nat.le_of_ble_eq_true rfl) rfl (Or.inl ew_1374) (hs3.1 0 (by decide)).1 (hs3.1 0 (by decide)).2.1 (hs3.2 0 29 rfl) ?_
          refine ea_iload_n (pc := 97) dX12_chargeBy_97 rfl 2 rfl ?_
          obtain ⟨z99, K⟩ := K
          refine ea_iald (pc := 98) dX12_chargeBy_98 (hs3.1 24 (by decide)).1 (hs3.1 24 (by decide)).2.1 (ea_vpl (hs3.1 24 (by decide)).2.2 z99) ?_
          refine ea_icmp_le (pc := 99) (tgt := 113) dX12_chargeBy_99 rfl (fun c119 => ?_) (fun c119 => ?_)
          · have EX := EX.trans (if_pos c119)
            have K := K.1 c119
            refine ea_aload_n (pc := 113) dX12_chargeBy_113 rfl 0 rfl ?_
            refine ea_getR (pc := 114) dX12_chargeBy_114 ec_12 (k := 64) (Nat.le_of_ble_eq_true rfl) rfl (Or.inl ew_1409) (hs3.1 0 (by decide)).1 (hs3.1 0 (by decide)).2.1 (hs3.2 0 64 rfl) ?_
            refine ea_iload_n (pc := 117) dX12_chargeBy_117 rfl 1 rfl ?_
            obtain ⟨z100, K⟩ := K
            refine ea_iald (pc := 118) dX12_chargeBy_118 (hs3.1 38 (by decide)).1 (hs3.1 38 (by decide)).2.1 (ea_vpl (hs3.1 38 (by decide)).2.2 z100) ?_
            refine ea_iconst (pc := 119) dX12_chargeBy_119 (v := 3) rfl ?_
            refine ea_icmp_ne (pc := 120) (tgt := 134) dX12_chargeBy_120 rfl (fun c108 => ?_) (fun c108 => ?_)
            · have EX := EX.trans (if_neg c108)
              have K := K.2 c108
              refine ea_aload_n (pc := 134) dX12_chargeBy_134 rfl 0 rfl ?_
              refine ea_getR (pc := 135) dX12_chargeBy_135 ec_12 (k := 64) (Nat.le_of_ble_eq_true rfl) rfl (Or.inl ew_1409) (hs3.1 0 (by decide)).1 (hs3.1 0 (by decide)).2.1 (hs3.2 0 64 rfl) ?_
              refine ea_iload_n (pc := 138) dX12_chargeBy_138 rfl 1 rfl ?_
              obtain ⟨z101, K⟩ := K
              refine ea_iald (pc := 139) dX12_chargeBy_139 (hs3.1 38 (by decide)).1 (hs3.1 38 (by decide)).2.1 (ea_vpl (hs3.1 38 (by decide)).2.2 z101) ?_
              refine ea_iconst (pc := 140) dX12_chargeBy_140 (v := 4) rfl ?_
              refine ea_icmp_ne (pc := 141) (tgt := 155) dX12_chargeBy_141 rfl (fun c103 => ?_) (fun c103 => ?_)
              · have EX := EX.trans (if_neg c103)
                refine ea_iload (pc := 155) dX12_chargeBy_155 3 rfl ?_
                subst EX
                subst EY
                exact ea_ireturn (pc := 157) dX12_chargeBy_157 rfl rfl
              · have EX := EX.trans (if_pos c103)
                have K := K.1 c103
                refine ea_iload (pc := 144) dX12_chargeBy_144 3 rfl ?_
                refine ea_aload_n (pc := 146) dX12_chargeBy_146 rfl 0 rfl ?_
                refine ea_getR (pc := 147) dX12_chargeBy_147 ec_12 (k := 32) (Nat.le_of_ble_eq_true rfl) rfl (Or.inl ew_1377) (hs3.1 0 (by decide)).1 (hs3.1 0 (by decide)).2.1 (hs3.2 0 32 rfl) ?_
                refine ea_iload_n (pc := 150) dX12_chargeBy_150 rfl 2 rfl ?_
                have z102 := K
                refine ea_iald (pc := 151) dX12_chargeBy_151 (hs3.1 27 (by decide)).1 (hs3.1 27 (by decide)).2.1 (ea_vpl (hs3.1 27 (by decide)).2.2 z102) ?_
                refine ea_iadd (pc := 152) dX12_chargeBy_152 ?_
                refine ea_istore (pc := 153) (lv' := [(4, vI ((99999 : Int32) + (ea_i (wX12_lineOf b0 (x1 : Int32) (x2 : Int32) h) (b0 + 27) (Int32.toNatClampNeg x2))))]) dX12_chargeBy_153 (Nat.le_of_ble_eq_true rfl) [0] rfl ?_
                refine ea_iload (pc := 155) dX12_chargeBy_155 0 rfl ?_
                subst EX
                subst EY
                exact ea_ireturn (pc := 157) dX12_chargeBy_157 rfl rfl
            · have EX := EX.trans (if_pos c108)
              have K := K.1 c108
              refine ea_iload (pc := 123) dX12_chargeBy_123 3 rfl ?_
              refine ea_aload_n (pc := 125) dX12_chargeBy_125 rfl 0 rfl ?_
              refine ea_getR (pc := 126) dX12_chargeBy_126 ec_12 (k := 31) (Nat.le_of_ble_eq_true rfl) rfl (Or.inl ew_1376) (hs3.1 0 (by decide)).1 (hs3.1 0 (by decide)).2.1 (hs3.2 0 31 rfl) ?_
              refine ea_iload_n (pc := 129) dX12_chargeBy_129 rfl 2 rfl ?_
              obtain ⟨z104, K⟩ := K
              refine ea_iald (pc := 130) dX12_chargeBy_130 (hs3.1 26 (by decide)).1 (hs3.1 26 (by decide)).2.1 (ea_vpl (hs3.1 26 (by decide)).2.2 z104) ?_
              refine ea_iadd (pc := 131) dX12_chargeBy_131 ?_
              refine ea_istore (pc := 132) (lv' := [(0, vR (some (b0 + 0))), (1, vI x1), (2, vI x2), (4, vI ((99999 : Int32) + (ea_i (wX12_lineOf b0 (x1 : Int32) (x2 : Int32) h) (b0 + 26) (Int32.toNatClampNeg x2))))]) dX12_chargeBy_132 (Nat.le_of_ble_eq_true rfl) [1, 2, 3, 0] rfl ?_
              refine ea_aload_n (pc := 134) dX12_chargeBy_134 rfl 0 rfl ?_
              refine ea_getR (pc := 135) dX12_chargeBy_135 ec_12 (k := 64) (Nat.le_of_ble_eq_true rfl) rfl (Or.inl ew_1409) (hs3.1 0 (by decide)).1 (hs3.1 0 (by decide)).2.1 (hs3.2 0 64 rfl) ?_
              refine ea_iload_n (pc := 138) dX12_chargeBy_138 rfl 1 rfl ?_
              obtain ⟨z105, K⟩ := K
              refine ea_iald (pc := 139) dX12_chargeBy_139 (hs3.1 38 (by decide)).1 (hs3.1 38 (by decide)).2.1 (ea_vpl (hs3.1 38 (by decide)).2.2 z105) ?_
              refine ea_iconst (pc := 140) dX12_chargeBy_140 (v := 4) rfl ?_
              refine ea_icmp_ne (pc := 141) (tgt := 155) dX12_chargeBy_141 rfl (fun c107 => ?_) (fun c107 => ?_)
              · have EX := EX.trans (if_neg c107)
                refine ea_iload (pc := 155) dX12_chargeBy_155 3 rfl ?_
                subst EX
                subst EY
                exact ea_ireturn (pc := 157) dX12_chargeBy_157 rfl rfl
              · have EX := EX.trans (if_pos c107)
                have K := K.1 c107
                refine ea_iload (pc := 144) dX12_chargeBy_144 3 rfl ?_
                refine ea_aload_n (pc := 146) dX12_chargeBy_146 rfl 0 rfl ?_
                refine ea_getR (pc := 147) dX12_chargeBy_147 ec_12 (k := 32) (Nat.le_of_ble_eq_true rfl) rfl (Or.inl ew_1377) (hs3.1 0 (by decide)).1 (hs3.1 0 (by decide)).2.1 (hs3.2 0 32 rfl) ?_
                refine ea_iload_n (pc := 150) dX12_chargeBy_150 rfl 2 rfl ?_
                have z106 := K
                refine ea_iald (pc := 151) dX12_chargeBy_151 (hs3.1 27 (by decide)).1 (hs3.1 27 (by decide)).2.1 (ea_vpl (hs3.1 27 (by decide)).2.2 z106) ?_
                refine ea_iadd (pc := 152) dX12_chargeBy_152 ?_
                refine ea_istore (pc := 153) (lv' := [(4, vI (((99999 : Int32) + (ea_i (wX12_lineOf b0 (x1 : Int32) (x2 : Int32) h) (b0 + 26) (Int32.toNatClampNeg x2))) + (ea_i (wX12_lineOf b0 (x1 : Int32) (x2 : Int32) h) (b0 + 27) (Int32.toNatClampNeg x2))))]) dX12_chargeBy_153 (Nat.le_of_ble_eq_true rfl) [0] rfl ?_
                refine ea_iload (pc := 155) dX12_chargeBy_155 0 rfl ?_
                subst EX
                subst EY
                exact ea_ireturn (pc := 157) dX12_chargeBy_157 rfl rfl
          · have EX := EX.trans (if_neg c119)
            have K := K.2 c119
            refine ea_iload (pc := 102) dX12_chargeBy_102 3 rfl ?_
            refine ea_aload_n (pc := 104) dX12_chargeBy_104 rfl 0 rfl ?_
            refine ea_getR (pc := 105) dX12_chargeBy_105 ec_12 (k := 28) (Nat.le_of_ble_eq_true rfl) rfl (Or.inl ew_1373) (hs3.1 0 (by decide)).1 (hs3.1 0 (by decide)).2.1 (hs3.2 0 28 rfl) ?_
            refine ea_iload_n (pc := 108) dX12_chargeBy_108 rfl 2 rfl ?_
            obtain ⟨z109, K⟩ := K
            refine ea_iald (pc := 109) dX12_chargeBy_109 (hs3.1 23 (by decide)).1 (hs3.1 23 (by decide)).2.1 (ea_vpl (hs3.1 23 (by decide)).2.2 z109) ?_
            refine ea_iadd (pc := 110) dX12_chargeBy_110 ?_
            refine ea_istore (pc := 111) (lv' := [(0, vR (some (b0 + 0))), (1, vI x1), (2, vI x2), (4, vI ((99999 : Int32) + (ea_i (wX12_lineOf b0 (x1 : Int32) (x2 : Int32) h) (b0 + 23) (Int32.toNatClampNeg x2))))]) dX12_chargeBy_111 (Nat.le_of_ble_eq_true rfl) [1, 2, 3, 0] rfl ?_
            refine ea_aload_n (pc := 113) dX12_chargeBy_113 rfl 0 rfl ?_
            refine ea_getR (pc := 114) dX12_chargeBy_114 ec_12 (k := 64) (Nat.le_of_ble_eq_true rfl) rfl (Or.inl ew_1409) (hs3.1 0 (by decide)).1 (hs3.1 0 (by decide)).2.1 (hs3.2 0 64 rfl) ?_
            refine ea_iload_n (pc := 117) dX12_chargeBy_117 rfl 1 rfl ?_
            obtain ⟨z110, K⟩ := K
            refine ea_iald (pc := 118) dX12_chargeBy_118 (hs3.1 38 (by decide)).1 (hs3.1 38 (by decide)).2.1 (ea_vpl (hs3.1 38 (by decide)).2.2 z110) ?_
            refine ea_iconst (pc := 119) dX12_chargeBy_119 (v := 3) rfl ?_
            refine ea_icmp_ne (pc := 120) (tgt := 134) dX12_chargeBy_120 rfl (fun c118 => ?_) (fun c118 => ?_)
            · have EX := EX.trans (if_neg c118)
              have K := K.2 c118
              refine ea_aload_n (pc := 134) dX12_chargeBy_134 rfl 0 rfl ?_
              refine ea_getR (pc := 135) dX12_chargeBy_135 ec_12 (k := 64) (Nat.le_of_ble_eq_true rfl) rfl (Or.inl ew_1409) (hs3.1 0 (by decide)).1 (hs3.1 0 (by decide)).2.1 (hs3.2 0 64 rfl) ?_
              refine ea_iload_n (pc := 138) dX12_chargeBy_138 rfl 1 rfl ?_
              obtain ⟨z111, K⟩ := K
              refine ea_iald (pc := 139) dX12_chargeBy_139 (hs3.1 38 (by decide)).1 (hs3.1 38 (by decide)).2.1 (ea_vpl (hs3.1 38 (by decide)).2.2 z111) ?_
              refine ea_iconst (pc := 140) dX12_chargeBy_140 (v := 4) rfl ?_
              refine ea_icmp_ne (pc := 141) (tgt := 155) dX12_chargeBy_141 rfl (fun c113 => ?_) (fun c113 => ?_)
              · have EX := EX.trans (if_neg c113)
                refine ea_iload (pc := 155) dX12_chargeBy_155 3 rfl ?_
                subst EX
                subst EY
                exact ea_ireturn (pc := 157) dX12_chargeBy_157 rfl rfl
              · have EX := EX.trans (if_pos c113)
                have K := K.1 c113
                refine ea_iload (pc := 144) dX12_chargeBy_144 3 rfl ?_
                refine ea_aload_n (pc := 146) dX12_chargeBy_146 rfl 0 rfl ?_
                refine ea_getR (pc := 147) dX12_chargeBy_147 ec_12 (k := 32) (Nat.le_of_ble_eq_true rfl) rfl (Or.inl ew_1377) (hs3.1 0 (by decide)).1 (hs3.1 0 (by decide)).2.1 (hs3.2 0 32 rfl) ?_
                refine ea_iload_n (pc := 150) dX12_chargeBy_150 rfl 2 rfl ?_
                have z112 := K
                refine ea_iald (pc := 151) dX12_chargeBy_151 (hs3.1 27 (by decide)).1 (hs3.1 27 (by decide)).2.1 (ea_vpl (hs3.1 27 (by decide)).2.2 z112) ?_
                refine ea_iadd (pc := 152) dX12_chargeBy_152 ?_
                refine ea_istore (pc := 153) (lv' := [(4, vI (((99999 : Int32) + (ea_i (wX12_lineOf b0 (x1 : Int32) (x2 : Int32) h) (b0 + 23) (Int32.toNatClampNeg x2))) + (ea_i (wX12_lineOf b0 (x1 : Int32) (x2 : Int32) h) (b0 + 27) (Int32.toNatClampNeg x2))))]) dX12_chargeBy_153 (Nat.le_of_ble_eq_true rfl) [0] rfl ?_
                refine ea_iload (pc := 155) dX12_chargeBy_155 0 rfl ?_
                subst EX
                subst EY
                exact ea_ireturn (pc := 157) dX12_chargeBy_157 rfl rfl
            · have EX := EX.trans (if_pos c118)
              have K := K.1 c118
              refine ea_iload (pc := 123) dX12_chargeBy_123 3 rfl ?_
              refine ea_aload_n (pc := 125) dX12_chargeBy_125 rfl 0 rfl ?_
              refine ea_getR (pc := 126) dX12_chargeBy_126 ec_12 (k := 31) (Nat.le_of_ble_eq_true rfl) rfl (Or.inl ew_1376) (hs3.1 0 (by decide)).1 (hs3.1 0 (by decide)).2.1 (hs3.2 0 31 rfl) ?_
              refine ea_iload_n (pc := 129) dX12_chargeBy_129 rfl 2 rfl ?_
              obtain ⟨z114, K⟩ := K
              refine ea_iald (pc := 130) dX12_chargeBy_130 (hs3.1 26 (by decide)).1 (hs3.1 26 (by decide)).2.1 (ea_vpl (hs3.1 26 (by decide)).2.2 z114) ?_
              refine ea_iadd (pc := 131) dX12_chargeBy_131 ?_
              refine ea_istore (pc := 132) (lv' := [(0, vR (some (b0 + 0))), (1, vI x1), (2, vI x2), (4, vI (((99999 : Int32) + (ea_i (wX12_lineOf b0 (x1 : Int32) (x2 : Int32) h) (b0 + 23) (Int32.toNatClampNeg x2))) + (ea_i (wX12_lineOf b0 (x1 : Int32) (x2 : Int32) h) (b0 + 26) (Int32.toNatClampNeg x2))))]) dX12_chargeBy_132 (Nat.le_of_ble_eq_true rfl) [1, 2, 3, 0] rfl ?_
              refine ea_aload_n (pc := 134) dX12_chargeBy_134 rfl 0 rfl ?_
              refine ea_getR (pc := 135) dX12_chargeBy_135 ec_12 (k := 64) (Nat.le_of_ble_eq_true rfl) rfl (Or.inl ew_1409) (hs3.1 0 (by decide)).1 (hs3.1 0 (by decide)).2.1 (hs3.2 0 64 rfl) ?_
              refine ea_iload_n (pc := 138) dX12_chargeBy_138 rfl 1 rfl ?_
              obtain ⟨z115, K⟩ := K
              refine ea_iald (pc := 139) dX12_chargeBy_139 (hs3.1 38 (by decide)).1 (hs3.1 38 (by decide)).2.1 (ea_vpl (hs3.1 38 (by decide)).2.2 z115) ?_
              refine ea_iconst (pc := 140) dX12_chargeBy_140 (v := 4) rfl ?_
              refine ea_icmp_ne (pc := 141) (tgt := 155) dX12_chargeBy_141 rfl (fun c117 => ?_) (fun c117 => ?_)
              · have EX := EX.trans (if_neg c117)
                refine ea_iload (pc := 155) dX12_chargeBy_155 3 rfl ?_
                subst EX
                subst EY
                exact ea_ireturn (pc := 157) dX12_chargeBy_157 rfl rfl
              · have EX := EX.trans (if_pos c117)
                have K := K.1 c117
                refine ea_iload (pc := 144) dX12_chargeBy_144 3 rfl ?_
                refine ea_aload_n (pc := 146) dX12_chargeBy_146 rfl 0 rfl ?_
                refine ea_getR (pc := 147) dX12_chargeBy_147 ec_12 (k := 32) (Nat.le_of_ble_eq_true rfl) rfl (Or.inl ew_1377) (hs3.1 0 (by decide)).1 (hs3.1 0 (by decide)).2.1 (hs3.2 0 32 rfl) ?_
                refine ea_iload_n (pc := 150) dX12_chargeBy_150 rfl 2 rfl ?_
                have z116 := K
                refine ea_iald (pc := 151) dX12_chargeBy_151 (hs3.1 27 (by decide)).1 (hs3.1 27 (by decide)).2.1 (ea_vpl (hs3.1 27 (by decide)).2.2 z116) ?_
                refine ea_iadd (pc := 152) dX12_chargeBy_152 ?_
                refine ea_istore (pc := 153) (lv' := [(4, vI ((((99999 : Int32) + (ea_i (wX12_lineOf b0 (x1 : Int32) (x2 : Int32) h) (b0 + 23) (Int32.toNatClampNeg x2))) + (ea_i (wX12_lineOf b0 (x1 : Int32) (x2 : Int32) h) (b0 + 26) (Int32.toNatClampNeg x2))) + (ea_i (wX12_lineOf b0 (x1 : Int32) (x2 : Int32) h) (b0 + 27) (Int32.toNatClampNeg x2))))]) dX12_chargeBy_153 (Nat.le_of_ble_eq_true rfl) [0] rfl ?_
                refine ea_iload (pc := 155) dX12_chargeBy_155 0 rfl ?_
                subst EX
                subst EY
                exact ea_ireturn (pc := 157) dX12_chargeBy_157 rfl rfl
      · have EX := EX.trans (if_neg c143)
        have K := K.2 c143
        refine ea_iconst (pc := 61) dX12_chargeBy_61 (v := 0) rfl ?_
        refine ea_goto (pc := 62) (tgt := 81) dX12_chargeBy_62 rfl ?_
        refine ea_istore (pc := 81) (lv' := [(0, vR (some (b0 + 0))), (1, vI x1), (2, vI x2), (4, vI 0)]) dX12_chargeBy_81 (Nat.le_of_ble_eq_true rfl) [1, 2, 3, 0] rfl ?_
        refine ea_aload_n (pc := 83) dX12_chargeBy_83 rfl 0 rfl ?_
        refine ea_getR (pc := 84) dX12_chargeBy_84 ec_12 (k := 70) (Nat.le_of_ble_eq_true rfl) rfl (Or.inl ew_1415) (hs3.1 0 (by decide)).1 (hs3.1 0 (by decide)).2.1 (hs3.2 0 70 rfl) ?_
        refine ea_iload_n (pc := 87) dX12_chargeBy_87 rfl 1 rfl ?_
        obtain ⟨z121, K⟩ := K
        refine ea_iald (pc := 88) dX12_chargeBy_88 (hs3.1 44 (by decide)).1 (hs3.1 44 (by decide)).2.1 (ea_vpl (hs3.1 44 (by decide)).2.2 z121) ?_
        refine ea_sipush (pc := 89) dX12_chargeBy_89 (v := 1440) rfl ?_
        refine ea_irem (pc := 92) dX12_chargeBy_92 (by decide) ?_
        refine ea_aload_n (pc := 93) dX12_chargeBy_93 rfl 0 rfl ?_
        refine ea_getR (pc := 94) dX12_chargeBy_94 ec_12 (k := 29) (Nat.le_of_ble_eq_true rfl) rfl (Or.inl ew_1374) (hs3.1 0 (by decide)).1 (hs3.1 0 (by decide)).2.1 (hs3.2 0 29 rfl) ?_
        refine ea_iload_n (pc := 97) dX12_chargeBy_97 rfl 2 rfl ?_
        obtain ⟨z122, K⟩ := K
        refine ea_iald (pc := 98) dX12_chargeBy_98 (hs3.1 24 (by decide)).1 (hs3.1 24 (by decide)).2.1 (ea_vpl (hs3.1 24 (by decide)).2.2 z122) ?_
        refine ea_icmp_le (pc := 99) (tgt := 113) dX12_chargeBy_99 rfl (fun c142 => ?_) (fun c142 => ?_)
        · have EX := EX.trans (if_pos c142)
          have K := K.1 c142
          refine ea_aload_n (pc := 113) dX12_chargeBy_113 rfl 0 rfl ?_
          refine ea_getR (pc := 114) dX12_chargeBy_114 ec_12 (k := 64) (Nat.le_of_ble_eq_true rfl) rfl (Or.inl ew_1409) (hs3.1 0 (by decide)).1 (hs3.1 0 (by decide)).2.1 (hs3.2 0 64 rfl) ?_
          refine ea_iload_n (pc := 117) dX12_chargeBy_117 rfl 1 rfl ?_
          obtain ⟨z123, K⟩ := K
          refine ea_iald (pc := 118) dX12_chargeBy_118 (hs3.1 38 (by decide)).1 (hs3.1 38 (by decide)).2.1 (ea_vpl (hs3.1 38 (by decide)).2.2 z123) ?_
          refine ea_iconst (pc := 119) dX12_chargeBy_119 (v := 3) rfl ?_
          refine ea_icmp_ne (pc := 120) (tgt := 134) dX12_chargeBy_120 rfl (fun c131 => ?_) (fun c131 => ?_)
          · have EX := EX.trans (if_neg c131)
            have K := K.2 c131
            refine ea_aload_n (pc := 134) dX12_chargeBy_134 rfl 0 rfl ?_
            refine ea_getR (pc := 135) dX12_chargeBy_135 ec_12 (k := 64) (Nat.le_of_ble_eq_true rfl) rfl (Or.inl ew_1409) (hs3.1 0 (by decide)).1 (hs3.1 0 (by decide)).2.1 (hs3.2 0 64 rfl) ?_
            refine ea_iload_n (pc := 138) dX12_chargeBy_138 rfl 1 rfl ?_
            obtain ⟨z124, K⟩ := K
            refine ea_iald (pc := 139) dX12_chargeBy_139 (hs3.1 38 (by decide)).1 (hs3.1 38 (by decide)).2.1 (ea_vpl (hs3.1 38 (by decide)).2.2 z124) ?_
            refine ea_iconst (pc := 140) dX12_chargeBy_140 (v := 4) rfl ?_
            refine ea_icmp_ne (pc := 141) (tgt := 155) dX12_chargeBy_141 rfl (fun c126 => ?_) (fun c126 => ?_)
            · have EX := EX.trans (if_neg c126)
              refine ea_iload (pc := 155) dX12_chargeBy_155 3 rfl ?_
              subst EX
              subst EY
              exact ea_ireturn (pc := 157) dX12_chargeBy_157 rfl rfl
            · have EX := EX.trans (if_pos c126)
              have K := K.1 c126
              refine ea_iload (pc := 144) dX12_chargeBy_144 3 rfl ?_
              refine ea_aload_n (pc := 146) dX12_chargeBy_146 rfl 0 rfl ?_
              refine ea_getR (pc := 147) dX12_chargeBy_147 ec_12 (k := 32) (Nat.le_of_ble_eq_true rfl) rfl (Or.inl ew_1377) (hs3.1 0 (by decide)).1 (hs3.1 0 (by decide)).2.1 (hs3.2 0 32 rfl) ?_
              refine ea_iload_n (pc := 150) dX12_chargeBy_150 rfl 2 rfl ?_
              have z125 := K
              refine ea_iald (pc := 151) dX12_chargeBy_151 (hs3.1 27 (by decide)).1 (hs3.1 27 (by decide)).2.1 (ea_vpl (hs3.1 27 (by decide)).2.2 z125) ?_
              refine ea_iadd (pc := 152) dX12_chargeBy_152 ?_
              refine ea_istore (pc := 153) (lv' := [(4, vI ((0 : Int32) + (ea_i (wX12_lineOf b0 (x1 : Int32) (x2 : Int32) h) (b0 + 27) (Int32.toNatClampNeg x2))))]) dX12_chargeBy_153 (Nat.le_of_ble_eq_true rfl) [0] rfl ?_
              refine ea_iload (pc := 155) dX12_chargeBy_155 0 rfl ?_
              subst EX
              subst EY
              exact ea_ireturn (pc := 157) dX12_chargeBy_157 rfl rfl
          · have EX := EX.trans (if_pos c131)
            have K := K.1 c131
            refine ea_iload (pc := 123) dX12_chargeBy_123 3 rfl ?_
            refine ea_aload_n (pc := 125) dX12_chargeBy_125 rfl 0 rfl ?_
            refine ea_getR (pc := 126) dX12_chargeBy_126 ec_12 (k := 31) (Nat.le_of_ble_eq_true rfl) rfl (Or.inl ew_1376) (hs3.1 0 (by decide)).1 (hs3.1 0 (by decide)).2.1 (hs3.2 0 31 rfl) ?_
            refine ea_iload_n (pc := 129) dX12_chargeBy_129 rfl 2 rfl ?_
            obtain ⟨z127, K⟩ := K
            refine ea_iald (pc := 130) dX12_chargeBy_130 (hs3.1 26 (by decide)).1 (hs3.1 26 (by decide)).2.1 (ea_vpl (hs3.1 26 (by decide)).2.2 z127) ?_
            refine ea_iadd (pc := 131) dX12_chargeBy_131 ?_
            refine ea_istore (pc := 132) (lv' := [(0, vR (some (b0 + 0))), (1, vI x1), (2, vI x2), (4, vI ((0 : Int32) + (ea_i (wX12_lineOf b0 (x1 : Int32) (x2 : Int32) h) (b0 + 26) (Int32.toNatClampNeg x2))))]) dX12_chargeBy_132 (Nat.le_of_ble_eq_true rfl) [1, 2, 3, 0] rfl ?_
            refine ea_aload_n (pc := 134) dX12_chargeBy_134 rfl 0 rfl ?_
            refine ea_getR (pc := 135) dX12_chargeBy_135 ec_12 (k := 64) (Nat.le_of_ble_eq_true rfl) rfl (Or.inl ew_1409) (hs3.1 0 (by decide)).1 (hs3.1 0 (by decide)).2.1 (hs3.2 0 64 rfl) ?_
            refine ea_iload_n (pc := 138) dX12_chargeBy_138 rfl 1 rfl ?_
            obtain ⟨z128, K⟩ := K
            refine ea_iald (pc := 139) dX12_chargeBy_139 (hs3.1 38 (by decide)).1 (hs3.1 38 (by decide)).2.1 (ea_vpl (hs3.1 38 (by decide)).2.2 z128) ?_
            refine ea_iconst (pc := 140) dX12_chargeBy_140 (v := 4) rfl ?_
            refine ea_icmp_ne (pc := 141) (tgt := 155) dX12_chargeBy_141 rfl (fun c130 => ?_) (fun c130 => ?_)
            · have EX := EX.trans (if_neg c130)
              refine ea_iload (pc := 155) dX12_chargeBy_155 3 rfl ?_
              subst EX
              subst EY
              exact ea_ireturn (pc := 157) dX12_chargeBy_157 rfl rfl
            · have EX := EX.trans (if_pos c130)
              have K := K.1 c130
              refine ea_iload (pc := 144) dX12_chargeBy_144 3 rfl ?_
              refine ea_aload_n (pc := 146) dX12_chargeBy_146 rfl 0 rfl ?_
              refine ea_getR (pc := 147) dX12_chargeBy_147 ec_12 (k := 32) (Nat.le_of_ble_eq_true rfl) rfl (Or.inl ew_1377) (hs3.1 0 (by decide)).1 (hs3.1 0 (by decide)).2.1 (hs3.2 0 32 rfl) ?_
              refine ea_iload_n (pc := 150) dX12_chargeBy_150 rfl 2 rfl ?_
              have z129 := K
              refine ea_iald (pc := 151) dX12_chargeBy_151 (hs3.1 27 (by decide)).1 (hs3.1 27 (by decide)).2.1 (ea_vpl (hs3.1 27 (by decide)).2.2 z129) ?_
              refine ea_iadd (pc := 152) dX12_chargeBy_152 ?_
              refine ea_istore (pc := 153) (lv' := [(4, vI (((0 : Int32) + (ea_i (wX12_lineOf b0 (x1 : Int32) (x2 : Int32) h) (b0 + 26) (Int32.toNatClampNeg x2))) + (ea_i (wX12_lineOf b0 (x1 : Int32) (x2 : Int32) h) (b0 + 27) (Int32.toNatClampNeg x2))))]) dX12_chargeBy_153 (Nat.le_of_ble_eq_true rfl) [0] rfl ?_
              refine ea_iload (pc := 155) dX12_chargeBy_155 0 rfl ?_
              subst EX
              subst EY
              exact ea_ireturn (pc := 157) dX12_chargeBy_157 rfl rfl
        · have EX := EX.trans (if_neg c142)
          have K := K.2 c142
          refine ea_iload (pc := 102) dX12_chargeBy_102 3 rfl ?_
          refine ea_aload_n (pc := 104) dX12_chargeBy_104 rfl 0 rfl ?_
          refine ea_getR (pc := 105) dX12_chargeBy_105 ec_12 (k := 28) (Nat.le_of_ble_eq_true rfl) rfl (Or.inl ew_1373) (hs3.1 0 (by decide)).1 (hs3.1 0 (by decide)).2.1 (hs3.2 0 28 rfl) ?_
          refine ea_iload_n (pc := 108) dX12_chargeBy_108 rfl 2 rfl ?_
          obtain ⟨z132, K⟩ := K
          refine ea_iald (pc := 109) dX12_chargeBy_109 (hs3.1 23 (by decide)).1 (hs3.1 23 (by decide)).2.1 (ea_vpl (hs3.1 23 (by decide)).2.2 z132) ?_
          refine ea_iadd (pc := 110) dX12_chargeBy_110 ?_
          refine ea_istore (pc := 111) (lv' := [(0, vR (some (b0 + 0))), (1, vI x1), (2, vI x2), (4, vI ((0 : Int32) + (ea_i (wX12_lineOf b0 (x1 : Int32) (x2 : Int32) h) (b0 + 23) (Int32.toNatClampNeg x2))))]) dX12_chargeBy_111 (Nat.le_of_ble_eq_true rfl) [1, 2, 3, 0] rfl ?_
          refine ea_aload_n (pc := 113) dX12_chargeBy_113 rfl 0 rfl ?_
          refine ea_getR (pc := 114) dX12_chargeBy_114 ec_12 (k := 64) (Nat.le_of_ble_eq_true rfl) rfl (Or.inl ew_1409) (hs3.1 0 (by decide)).1 (hs3.1 0 (by decide)).2.1 (hs3.2 0 64 rfl) ?_
          refine ea_iload_n (pc := 117) dX12_chargeBy_117 rfl 1 rfl ?_
          obtain ⟨z133, K⟩ := K
          refine ea_iald (pc := 118) dX12_chargeBy_118 (hs3.1 38 (by decide)).1 (hs3.1 38 (by decide)).2.1 (ea_vpl (hs3.1 38 (by decide)).2.2 z133) ?_
          refine ea_iconst (pc := 119) dX12_chargeBy_119 (v := 3) rfl ?_
          refine ea_icmp_ne (pc := 120) (tgt := 134) dX12_chargeBy_120 rfl (fun c141 => ?_) (fun c141 => ?_)
          · have EX := EX.trans (if_neg c141)
            have K := K.2 c141
            refine ea_aload_n (pc := 134) dX12_chargeBy_134 rfl 0 rfl ?_
            refine ea_getR (pc := 135) dX12_chargeBy_135 ec_12 (k := 64) (Nat.le_of_ble_eq_true rfl) rfl (Or.inl ew_1409) (hs3.1 0 (by decide)).1 (hs3.1 0 (by decide)).2.1 (hs3.2 0 64 rfl) ?_
            refine ea_iload_n (pc := 138) dX12_chargeBy_138 rfl 1 rfl ?_
            obtain ⟨z134, K⟩ := K
            refine ea_iald (pc := 139) dX12_chargeBy_139 (hs3.1 38 (by decide)).1 (hs3.1 38 (by decide)).2.1 (ea_vpl (hs3.1 38 (by decide)).2.2 z134) ?_
            refine ea_iconst (pc := 140) dX12_chargeBy_140 (v := 4) rfl ?_
            refine ea_icmp_ne (pc := 141) (tgt := 155) dX12_chargeBy_141 rfl (fun c136 => ?_) (fun c136 => ?_)
            · have EX := EX.trans (if_neg c136)
              refine ea_iload (pc := 155) dX12_chargeBy_155 3 rfl ?_
              subst EX
              subst EY
              exact ea_ireturn (pc := 157) dX12_chargeBy_157 rfl rfl
            · have EX := EX.trans (if_pos c136)
              have K := K.1 c136
              refine ea_iload (pc := 144) dX12_chargeBy_144 3 rfl ?_
              refine ea_aload_n (pc := 146) dX12_chargeBy_146 rfl 0 rfl ?_
              refine ea_getR (pc := 147) dX12_chargeBy_147 ec_12 (k := 32) (Nat.le_of_ble_eq_true rfl) rfl (Or.inl ew_1377) (hs3.1 0 (by decide)).1 (hs3.1 0 (by decide)).2.1 (hs3.2 0 32 rfl) ?_
              refine ea_iload_n (pc := 150) dX12_chargeBy_150 rfl 2 rfl ?_
              have z135 := K
              refine ea_iald (pc := 151) dX12_chargeBy_151 (hs3.1 27 (by decide)).1 (hs3.1 27 (by decide)).2.1 (ea_vpl (hs3.1 27 (by decide)).2.2 z135) ?_
              refine ea_iadd (pc := 152) dX12_chargeBy_152 ?_
              refine ea_istore (pc := 153) (lv' := [(4, vI (((0 : Int32) + (ea_i (wX12_lineOf b0 (x1 : Int32) (x2 : Int32) h) (b0 + 23) (Int32.toNatClampNeg x2))) + (ea_i (wX12_lineOf b0 (x1 : Int32) (x2 : Int32) h) (b0 + 27) (Int32.toNatClampNeg x2))))]) dX12_chargeBy_153 (Nat.le_of_ble_eq_true rfl) [0] rfl ?_
              refine ea_iload (pc := 155) dX12_chargeBy_155 0 rfl ?_
              subst EX
              subst EY
              exact ea_ireturn (pc := 157) dX12_chargeBy_157 rfl rfl
          · have EX := EX.trans (if_pos c141)
            have K := K.1 c141
            refine ea_iload (pc := 123) dX12_chargeBy_123 3 rfl ?_
            refine ea_aload_n (pc := 125) dX12_chargeBy_125 rfl 0 rfl ?_
            refine ea_getR (pc := 126) dX12_chargeBy_126 ec_12 (k := 31) (Nat.le_of_ble_eq_true rfl) rfl (Or.inl ew_1376) (hs3.1 0 (by decide)).1 (hs3.1 0 (by decide)).2.1 (hs3.2 0 31 rfl) ?_
            refine ea_iload_n (pc := 129) dX12_chargeBy_129 rfl 2 rfl ?_
            obtain ⟨z137, K⟩ := K
            refine ea_iald (pc := 130) dX12_chargeBy_130 (hs3.1 26 (by decide)).1 (hs3.1 26 (by decide)).2.1 (ea_vpl (hs3.1 26 (by decide)).2.2 z137) ?_
            refine ea_iadd (pc := 131) dX12_chargeBy_131 ?_
            refine ea_istore (pc := 132) (lv' := [(0, vR (some (b0 + 0))), (1, vI x1), (2, vI x2), (4, vI (((0 : Int32) + (ea_i (wX12_lineOf b0 (x1 : Int32) (x2 : Int32) h) (b0 + 23) (Int32.toNatClampNeg x2))) + (ea_i (wX12_lineOf b0 (x1 : Int32) (x2 : Int32) h) (b0 + 26) (Int32.toNatClampNeg x2))))]) dX12_chargeBy_132 (Nat.le_of_ble_eq_true rfl) [1, 2, 3, 0] rfl ?_
            refine ea_aload_n (pc := 134) dX12_chargeBy_134 rfl 0 rfl ?_
            refine ea_getR (pc := 135) dX12_chargeBy_135 ec_12 (k := 64) (Nat.le_of_ble_eq_true rfl) rfl (Or.inl ew_1409) (hs3.1 0 (by decide)).1 (hs3.1 0 (by decide)).2.1 (hs3.2 0 64 rfl) ?_
            refine ea_iload_n (pc := 138) dX12_chargeBy_138 rfl 1 rfl ?_
            obtain ⟨z138, K⟩ := K
            refine ea_iald (pc := 139) dX12_chargeBy_139 (hs3.1 38 (by decide)).1 (hs3.1 38 (by decide)).2.1 (ea_vpl (hs3.1 38 (by decide)).2.2 z138) ?_
            refine ea_iconst (pc := 140) dX12_chargeBy_140 (v := 4) rfl ?_
            refine ea_icmp_ne (pc := 141) (tgt := 155) dX12_chargeBy_141 rfl (fun c140 => ?_) (fun c140 => ?_)
            · have EX := EX.trans (if_neg c140)
              refine ea_iload (pc := 155) dX12_chargeBy_155 3 rfl ?_
              subst EX
              subst EY
              exact ea_ireturn (pc := 157) dX12_chargeBy_157 rfl rfl
            · have EX := EX.trans (if_pos c140)
              have K := K.1 c140
              refine ea_iload (pc := 144) dX12_chargeBy_144 3 rfl ?_
              refine ea_aload_n (pc := 146) dX12_chargeBy_146 rfl 0 rfl ?_
              refine ea_getR (pc := 147) dX12_chargeBy_147 ec_12 (k := 32) (Nat.le_of_ble_eq_true rfl) rfl (Or.inl ew_1377) (hs3.1 0 (by decide)).1 (hs3.1 0 (by decide)).2.1 (hs3.2 0 32 rfl) ?_
              refine ea_iload_n (pc := 150) dX12_chargeBy_150 rfl 2 rfl ?_
              have z139 := K
              refine ea_iald (pc := 151) dX12_chargeBy_151 (hs3.1 27 (by decide)).1 (hs3.1 27 (by decide)).2.1 (ea_vpl (hs3.1 27 (by decide)).2.2 z139) ?_
              refine ea_iadd (pc := 152) dX12_chargeBy_152 ?_
              refine ea_istore (pc := 153) (lv' := [(4, vI ((((0 : Int32) + (ea_i (wX12_lineOf b0 (x1 : Int32) (x2 : Int32) h) (b0 + 23) (Int32.toNatClampNeg x2))) + (ea_i (wX12_lineOf b0 (x1 : Int32) (x2 : Int32) h) (b0 + 26) (Int32.toNatClampNeg x2))) + (ea_i (wX12_lineOf b0 (x1 : Int32) (x2 : Int32) h) (b0 + 27) (Int32.toNatClampNeg x2))))]) dX12_chargeBy_153 (Nat.le_of_ble_eq_true rfl) [0] rfl ?_
              refine ea_iload (pc := 155) dX12_chargeBy_155 0 rfl ?_
              subst EX
              subst EY
              exact ea_ireturn (pc := 157) dX12_chargeBy_157 rfl rfl
  · have EX := EX.trans (if_neg c145)
    have EY := EY.trans (if_neg c145)
    refine ea_iconst (pc := 9) dX12_chargeBy_9 (v := 0) rfl ?_
    subst EX
    subst EY
    exact ea_ireturn (pc := 10) dX12_chargeBy_10 rfl rfl
noncomputable def gX12_post (b0 : Nat) : Nat → Nat → Int32 → Int32 → Int32 → Int32 → Int32 → Int32 → Int32 → Int32 → Int32 → Int32 → ea_H → Option (Int32 × ea_H)
  | 0, _, _, _, _, _, _, _, _, _, _, _, _ => none
  | f + 1, lbl, sx0, sx1, x1, x2, x3, x4, x5, x6, x7, x8, h =>
    if lbl = 0 then (if (vX12_isIn (x1 : Int32) (0 : Int32) (4 : Int32) h) = (0 : Int32) then (some (((-1) : Int32), h)) else (if (vX12_isTown b0 (x2 : Int32) h) = (0 : Int32) then (some (((-1) : Int32), h)) else (if (vX12_isTown b0 (x3 : Int32) h) = (0 : Int32) then (some (((-1) : Int32), h)) else (if x2 = x3 then (some (((-1) : Int32), h)) else (if (vX12_isIn (x4 : Int32) (1 : Int32) (9 : Int32) h) = (0 : Int32) then (some (((-1) : Int32), h)) else (if (vX12_isIn (x5 : Int32) (0 : Int32) (99 : Int32) h) = (0 : Int32) then (some (((-1) : Int32), h)) else (if (vX12_isIn (x6 : Int32) (0 : Int32) (9 : Int32) h) = (0 : Int32) then (some (((-1) : Int32), h)) else (if (ea_i h (b0 + 0) 63) = (120 : Int32) then (some (((-1) : Int32), h)) else (gd (vp_in (ea_i h (b0 + 0) 63) 120) (gd (vp_in (ea_i h (b0 + 0) 63) 120) (gd (vp_in (ea_i h (b0 + 0) 63) 120) (gd (vp_in (ea_i h (b0 + 0) 63) 120) (gd (vp_in (ea_i h (b0 + 0) 63) 120) (gd (vp_in (ea_i h (b0 + 0) 63) 120) (gd (vp_in (ea_i h (b0 + 0) 63) 120) (gd ((okX12_milesOf b0 (x2 : Int32) (x3 : Int32) (0 : Int32) (ea_wi (ea_wi (ea_wi (ea_wi (ea_wi (ea_wi (ea_wi (ea_wi h (b0 + 0) 63 ((ea_i h (b0 + 0) 63) + (1 : Int32))) (b0 + 38) (Int32.toNatClampNeg (ea_i h (b0 + 0) 63)) x1) (b0 + 39) (Int32.toNatClampNeg (ea_i h (b0 + 0) 63)) x2) (b0 + 40) (Int32.toNatClampNeg (ea_i h (b0 + 0) 63)) x3) (b0 + 41) (Int32.toNatClampNeg (ea_i h (b0 + 0) 63)) x4) (b0 + 42) (Int32.toNatClampNeg (ea_i h (b0 + 0) 63)) x5) (b0 + 43) (Int32.toNatClampNeg (ea_i h (b0 + 0) 63)) x6) (b0 + 44) (Int32.toNatClampNeg (ea_i h (b0 + 0) 63)) (ea_i (ea_wi (ea_wi (ea_wi (ea_wi (ea_wi (ea_wi (ea_wi h (b0 + 0) 63 ((ea_i h (b0 + 0) 63) + (1 : Int32))) (b0 + 38) (Int32.toNatClampNeg (ea_i h (b0 + 0) 63)) x1) (b0 + 39) (Int32.toNatClampNeg (ea_i h (b0 + 0) 63)) x2) (b0 + 40) (Int32.toNatClampNeg (ea_i h (b0 + 0) 63)) x3) (b0 + 41) (Int32.toNatClampNeg (ea_i h (b0 + 0) 63)) x4) (b0 + 42) (Int32.toNatClampNeg (ea_i h (b0 + 0) 63)) x5) (b0 + 43) (Int32.toNatClampNeg (ea_i h (b0 + 0) 63)) x6) (b0 + 0) 0)))) (gd (vp_in (ea_i h (b0 + 0) 63) 120) (gd ((okX12_isCross b0 (x2 : Int32) (x3 : Int32) (ea_wi (wX12_milesOf b0 (x2 : Int32) (x3 : Int32) (0 : Int32) (ea_wi (ea_wi (ea_wi (ea_wi (ea_wi (ea_wi (ea_wi (ea_wi h (b0 + 0) 63 ((ea_i h (b0 + 0) 63) + (1 : Int32))) (b0 + 38) (Int32.toNatClampNeg (ea_i h (b0 + 0) 63)) x1) (b0 + 39) (Int32.toNatClampNeg (ea_i h (b0 + 0) 63)) x2) (b0 + 40) (Int32.toNatClampNeg (ea_i h (b0 + 0) 63)) x3) (b0 + 41) (Int32.toNatClampNeg (ea_i h (b0 + 0) 63)) x4) (b0 + 42) (Int32.toNatClampNeg (ea_i h (b0 + 0) 63)) x5) (b0 + 43) (Int32.toNatClampNeg (ea_i h (b0 + 0) 63)) x6) (b0 + 44) (Int32.toNatClampNeg (ea_i h (b0 + 0) 63)) (ea_i (ea_wi (ea_wi (ea_wi (ea_wi (ea_wi (ea_wi (ea_wi h (b0 + 0) 63 ((ea_i h (b0 + 0) 63) + (1 : Int32))) (b0 + 38) (Int32.toNatClampNeg (ea_i h (b0 + 0) 63)) x1) (b0 + 39) (Int32.toNatClampNeg (ea_i h (b0 + 0) 63)) x2) (b0 + 40) (Int32.toNatClampNeg (ea_i h (b0 + 0) 63)) x3) (b0 + 41) (Int32.toNatClampNeg (ea_i h (b0 + 0) 63)) x4) (b0 + 42) (Int32.toNatClampNeg (ea_i h (b0 + 0) 63)) x5) (b0 + 43) (Int32.toNatClampNeg (ea_i h (b0 + 0) 63)) x6) (b0 + 0) 0))) (b0 + 45) (Int32.toNatClampNeg (ea_i h (b0 + 0) 63)) (vX12_milesOf b0 (x2 : Int32) (x3 : Int32) (0 : Int32) (ea_wi (ea_wi (ea_wi (ea_wi (ea_wi (ea_wi (ea_wi (ea_wi h (b0 + 0) 63 ((ea_i h (b0 + 0) 63) + (1 : Int32))) (b0 + 38) (Int32.toNatClampNeg (ea_i h (b0 + 0) 63)) x1) (b0 + 39) (Int32.toNatClampNeg (ea_i h (b0 + 0) 63)) x2) (b0 + 40) (Int32.toNatClampNeg (ea_i h (b0 + 0) 63)) x3) (b0 + 41) (Int32.toNatClampNeg (ea_i h (b0 + 0) 63)) x4) (b0 + 42) (Int32.toNatClampNeg (ea_i h (b0 + 0) 63)) x5) (b0 + 43) (Int32.toNatClampNeg (ea_i h (b0 + 0) 63)) x6) (b0 + 44) (Int32.toNatClampNeg (ea_i h (b0 + 0) 63)) (ea_i (ea_wi (ea_wi (ea_wi (ea_wi (ea_wi (ea_wi (ea_wi h (b0 + 0) 63 ((ea_i h (b0 + 0) 63) + (1 : Int32))) (b0 + 38) (Int32.toNatClampNeg (ea_i h (b0 + 0) 63)) x1) (b0 + 39) (Int32.toNatClampNeg (ea_i h (b0 + 0) 63)) x2) (b0 + 40) (Int32.toNatClampNeg (ea_i h (b0 + 0) 63)) x3) (b0 + 41) (Int32.toNatClampNeg (ea_i h (b0 + 0) 63)) x4) (b0 + 42) (Int32.toNatClampNeg (ea_i h (b0 + 0) 63)) x5) (b0 + 43) (Int32.toNatClampNeg (ea_i h (b0 + 0) 63)) x6) (b0 + 0) 0)))))) (gd (vp_in (ea_i h (b0 + 0) 63) 120) (gd (((vX12_isCross b0 (x2 : Int32) (x3 : Int32) (ea_wi (wX12_milesOf b0 (x2 : Int32) (x3 : Int32) (0 : Int32) (ea_wi (ea_wi (ea_wi (ea_wi (ea_wi (ea_wi (ea_wi (ea_wi h (b0 + 0) 63 ((ea_i h (b0 + 0) 63) + (1 : Int32))) (b0 + 38) (Int32.toNatClampNeg (ea_i h (b0 + 0) 63)) x1) (b0 + 39) (Int32.toNatClampNeg (ea_i h (b0 + 0) 63)) x2) (b0 + 40) (Int32.toNatClampNeg (ea_i h (b0 + 0) 63)) x3) (b0 + 41) (Int32.toNatClampNeg (ea_i h (b0 + 0) 63)) x4) (b0 + 42) (Int32.toNatClampNeg (ea_i h (b0 + 0) 63)) x5) (b0 + 43) (Int32.toNatClampNeg (ea_i h (b0 + 0) 63)) x6) (b0 + 44) (Int32.toNatClampNeg (ea_i h (b0 + 0) 63)) (ea_i (ea_wi (ea_wi (ea_wi (ea_wi (ea_wi (ea_wi (ea_wi h (b0 + 0) 63 ((ea_i h (b0 + 0) 63) + (1 : Int32))) (b0 + 38) (Int32.toNatClampNeg (ea_i h (b0 + 0) 63)) x1) (b0 + 39) (Int32.toNatClampNeg (ea_i h (b0 + 0) 63)) x2) (b0 + 40) (Int32.toNatClampNeg (ea_i h (b0 + 0) 63)) x3) (b0 + 41) (Int32.toNatClampNeg (ea_i h (b0 + 0) 63)) x4) (b0 + 42) (Int32.toNatClampNeg (ea_i h (b0 + 0) 63)) x5) (b0 + 43) (Int32.toNatClampNeg (ea_i h (b0 + 0) 63)) x6) (b0 + 0) 0))) (b0 + 45) (Int32.toNatClampNeg (ea_i h (b0 + 0) 63)) (vX12_milesOf b0 (x2 : Int32) (x3 : Int32) (0 : Int32) (ea_wi (ea_wi (ea_wi (ea_wi (ea_wi (ea_wi (ea_wi (ea_wi h (b0 + 0) 63 ((ea_i h (b0 + 0) 63) + (1 : Int32))) (b0 + 38) (Int32.toNatClampNeg (ea_i h (b0 + 0) 63)) x1) (b0 + 39) (Int32.toNatClampNeg (ea_i h (b0 + 0) 63)) x2) (b0 + 40) (Int32.toNatClampNeg (ea_i h (b0 + 0) 63)) x3) (b0 + 41) (Int32.toNatClampNeg (ea_i h (b0 + 0) 63)) x4) (b0 + 42) (Int32.toNatClampNeg (ea_i h (b0 + 0) 63)) x5) (b0 + 43) (Int32.toNatClampNeg (ea_i h (b0 + 0) 63)) x6) (b0 + 44) (Int32.toNatClampNeg (ea_i h (b0 + 0) 63)) (ea_i (ea_wi (ea_wi (ea_wi (ea_wi (ea_wi (ea_wi (ea_wi h (b0 + 0) 63 ((ea_i h (b0 + 0) 63) + (1 : Int32))) (b0 + 38) (Int32.toNatClampNeg (ea_i h (b0 + 0) 63)) x1) (b0 + 39) (Int32.toNatClampNeg (ea_i h (b0 + 0) 63)) x2) (b0 + 40) (Int32.toNatClampNeg (ea_i h (b0 + 0) 63)) x3) (b0 + 41) (Int32.toNatClampNeg (ea_i h (b0 + 0) 63)) x4) (b0 + 42) (Int32.toNatClampNeg (ea_i h (b0 + 0) 63)) x5) (b0 + 43) (Int32.toNatClampNeg (ea_i h (b0 + 0) 63)) x6) (b0 + 0) 0))))) = 0 ∨ (vX12_isCross b0 (x2 : Int32) (x3 : Int32) (ea_wi (wX12_milesOf b0 (x2 : Int32) (x3 : Int32) (0 : Int32) (ea_wi (ea_wi (ea_wi (ea_wi (ea_wi (ea_wi (ea_wi (ea_wi h (b0 + 0) 63 ((ea_i h (b0 + 0) 63) + (1 : Int32))) (b0 + 38) (Int32.toNatClampNeg (ea_i h (b0 + 0) 63)) x1) (b0 + 39) (Int32.toNatClampNeg (ea_i h (b0 + 0) 63)) x2) (b0 + 40) (Int32.toNatClampNeg (ea_i h (b0 + 0) 63)) x3) (b0 + 41) (Int32.toNatClampNeg (ea_i h (b0 + 0) 63)) x4) (b0 + 42) (Int32.toNatClampNeg (ea_i h (b0 + 0) 63)) x5) (b0 + 43) (Int32.toNatClampNeg (ea_i h (b0 + 0) 63)) x6) (b0 + 44) (Int32.toNatClampNeg (ea_i h (b0 + 0) 63)) (ea_i (ea_wi (ea_wi (ea_wi (ea_wi (ea_wi (ea_wi (ea_wi h (b0 + 0) 63 ((ea_i h (b0 + 0) 63) + (1 : Int32))) (b0 + 38) (Int32.toNatClampNeg (ea_i h (b0 + 0) 63)) x1) (b0 + 39) (Int32.toNatClampNeg (ea_i h (b0 + 0) 63)) x2) (b0 + 40) (Int32.toNatClampNeg (ea_i h (b0 + 0) 63)) x3) (b0 + 41) (Int32.toNatClampNeg (ea_i h (b0 + 0) 63)) x4) (b0 + 42) (Int32.toNatClampNeg (ea_i h (b0 + 0) 63)) x5) (b0 + 43) (Int32.toNatClampNeg (ea_i h (b0 + 0) 63)) x6) (b0 + 0) 0))) (b0 + 45) (Int32.toNatClampNeg (ea_i h (b0 + 0) 63)) (vX12_milesOf b0 (x2 : Int32) (x3 : Int32) (0 : Int32) (ea_wi (ea_wi (ea_wi (ea_wi (ea_wi (ea_wi (ea_wi (ea_wi h (b0 + 0) 63 ((ea_i h (b0 + 0) 63) + (1 : Int32))) (b0 + 38) (Int32.toNatClampNeg (ea_i h (b0 + 0) 63)) x1) (b0 + 39) (Int32.toNatClampNeg (ea_i h (b0 + 0) 63)) x2) (b0 + 40) (Int32.toNatClampNeg (ea_i h (b0 + 0) 63)) x3) (b0 + 41) (Int32.toNatClampNeg (ea_i h (b0 + 0) 63)) x4) (b0 + 42) (Int32.toNatClampNeg (ea_i h (b0 + 0) 63)) x5) (b0 + 43) (Int32.toNatClampNeg (ea_i h (b0 + 0) 63)) x6) (b0 + 44) (Int32.toNatClampNeg (ea_i h (b0 + 0) 63)) (ea_i (ea_wi (ea_wi (ea_wi (ea_wi (ea_wi (ea_wi (ea_wi h (b0 + 0) 63 ((ea_i h (b0 + 0) 63) + (1 : Int32))) (b0 + 38) (Int32.toNatClampNeg (ea_i h (b0 + 0) 63)) x1) (b0 + 39) (Int32.toNatClampNeg (ea_i h (b0 + 0) 63)) x2) (b0 + 40) (Int32.toNatClampNeg (ea_i h (b0 + 0) 63)) x3) (b0 + 41) (Int32.toNatClampNeg (ea_i h (b0 + 0) 63)) x4) (b0 + 42) (Int32.toNatClampNeg (ea_i h (b0 + 0) 63)) x5) (b0 + 43) (Int32.toNatClampNeg (ea_i h (b0 + 0) 63)) x6) (b0 + 0) 0))))) = 1)) (gd (vp_in (ea_i h (b0 + 0) 63) 120) (gX12_post b0 f 190 0 0 0 (x2 : Int32) 0 0 0 (x6 : Int32) ((ea_i h (b0 + 0) 63) : Int32) (0 : Int32) (ea_wi (ea_wi (wX12_isCross b0 (x2 : Int32) (x3 : Int32) (ea_wi (wX12_milesOf b0 (x2 : Int32) (x3 : Int32) (0 : Int32) (ea_wi (ea_wi (ea_wi (ea_wi (ea_wi (ea_wi (ea_wi (ea_wi h (b0 + 0) 63 ((ea_i h (b0 + 0) 63) + (1 : Int32))) (b0 + 38) (Int32.toNatClampNeg (ea_i h (b0 + 0) 63)) x1) (b0 + 39) (Int32.toNatClampNeg (ea_i h (b0 + 0) 63)) x2) (b0 + 40) (Int32.toNatClampNeg (ea_i h (b0 + 0) 63)) x3) (b0 + 41) (Int32.toNatClampNeg (ea_i h (b0 + 0) 63)) x4) (b0 + 42) (Int32.toNatClampNeg (ea_i h (b0 + 0) 63)) x5) (b0 + 43) (Int32.toNatClampNeg (ea_i h (b0 + 0) 63)) x6) (b0 + 44) (Int32.toNatClampNeg (ea_i h (b0 + 0) 63)) (ea_i (ea_wi (ea_wi (ea_wi (ea_wi (ea_wi (ea_wi (ea_wi h (b0 + 0) 63 ((ea_i h (b0 + 0) 63) + (1 : Int32))) (b0 + 38) (Int32.toNatClampNeg (ea_i h (b0 + 0) 63)) x1) (b0 + 39) (Int32.toNatClampNeg (ea_i h (b0 + 0) 63)) x2) (b0 + 40) (Int32.toNatClampNeg (ea_i h (b0 + 0) 63)) x3) (b0 + 41) (Int32.toNatClampNeg (ea_i h (b0 + 0) 63)) x4) (b0 + 42) (Int32.toNatClampNeg (ea_i h (b0 + 0) 63)) x5) (b0 + 43) (Int32.toNatClampNeg (ea_i h (b0 + 0) 63)) x6) (b0 + 0) 0))) (b0 + 45) (Int32.toNatClampNeg (ea_i h (b0 + 0) 63)) (vX12_milesOf b0 (x2 : Int32) (x3 : Int32) (0 : Int32) (ea_wi (ea_wi (ea_wi (ea_wi (ea_wi (ea_wi (ea_wi (ea_wi h (b0 + 0) 63 ((ea_i h (b0 + 0) 63) + (1 : Int32))) (b0 + 38) (Int32.toNatClampNeg (ea_i h (b0 + 0) 63)) x1) (b0 + 39) (Int32.toNatClampNeg (ea_i h (b0 + 0) 63)) x2) (b0 + 40) (Int32.toNatClampNeg (ea_i h (b0 + 0) 63)) x3) (b0 + 41) (Int32.toNatClampNeg (ea_i h (b0 + 0) 63)) x4) (b0 + 42) (Int32.toNatClampNeg (ea_i h (b0 + 0) 63)) x5) (b0 + 43) (Int32.toNatClampNeg (ea_i h (b0 + 0) 63)) x6) (b0 + 44) (Int32.toNatClampNeg (ea_i h (b0 + 0) 63)) (ea_i (ea_wi (ea_wi (ea_wi (ea_wi (ea_wi (ea_wi (ea_wi h (b0 + 0) 63 ((ea_i h (b0 + 0) 63) + (1 : Int32))) (b0 + 38) (Int32.toNatClampNeg (ea_i h (b0 + 0) 63)) x1) (b0 + 39) (Int32.toNatClampNeg (ea_i h (b0 + 0) 63)) x2) (b0 + 40) (Int32.toNatClampNeg (ea_i h (b0 + 0) 63)) x3) (b0 + 41) (Int32.toNatClampNeg (ea_i h (b0 + 0) 63)) x4) (b0 + 42) (Int32.toNatClampNeg (ea_i h (b0 + 0) 63)) x5) (b0 + 43) (Int32.toNatClampNeg (ea_i h (b0 + 0) 63)) x6) (b0 + 0) 0))))) (b0 + 52) (Int32.toNatClampNeg (ea_i h (b0 + 0) 63)) (vX12_isCross b0 (x2 : Int32) (x3 : Int32) (ea_wi (wX12_milesOf b0 (x2 : Int32) (x3 : Int32) (0 : Int32) (ea_wi (ea_wi (ea_wi (ea_wi (ea_wi (ea_wi (ea_wi (ea_wi h (b0 + 0) 63 ((ea_i h (b0 + 0) 63) + (1 : Int32))) (b0 + 38) (Int32.toNatClampNeg (ea_i h (b0 + 0) 63)) x1) (b0 + 39) (Int32.toNatClampNeg (ea_i h (b0 + 0) 63)) x2) (b0 + 40) (Int32.toNatClampNeg (ea_i h (b0 + 0) 63)) x3) (b0 + 41) (Int32.toNatClampNeg (ea_i h (b0 + 0) 63)) x4) (b0 + 42) (Int32.toNatClampNeg (ea_i h (b0 + 0) 63)) x5) (b0 + 43) (Int32.toNatClampNeg (ea_i h (b0 + 0) 63)) x6) (b0 + 44) (Int32.toNatClampNeg (ea_i h (b0 + 0) 63)) (ea_i (ea_wi (ea_wi (ea_wi (ea_wi (ea_wi (ea_wi (ea_wi h (b0 + 0) 63 ((ea_i h (b0 + 0) 63) + (1 : Int32))) (b0 + 38) (Int32.toNatClampNeg (ea_i h (b0 + 0) 63)) x1) (b0 + 39) (Int32.toNatClampNeg (ea_i h (b0 + 0) 63)) x2) (b0 + 40) (Int32.toNatClampNeg (ea_i h (b0 + 0) 63)) x3) (b0 + 41) (Int32.toNatClampNeg (ea_i h (b0 + 0) 63)) x4) (b0 + 42) (Int32.toNatClampNeg (ea_i h (b0 + 0) 63)) x5) (b0 + 43) (Int32.toNatClampNeg (ea_i h (b0 + 0) 63)) x6) (b0 + 0) 0))) (b0 + 45) (Int32.toNatClampNeg (ea_i h (b0 + 0) 63)) (vX12_milesOf b0 (x2 : Int32) (x3 : Int32) (0 : Int32) (ea_wi (ea_wi (ea_wi (ea_wi (ea_wi (ea_wi (ea_wi (ea_wi h (b0 + 0) 63 ((ea_i h (b0 + 0) 63) + (1 : Int32))) (b0 + 38) (Int32.toNatClampNeg (ea_i h (b0 + 0) 63)) x1) (b0 + 39) (Int32.toNatClampNeg (ea_i h (b0 + 0) 63)) x2) (b0 + 40) (Int32.toNatClampNeg (ea_i h (b0 + 0) 63)) x3) (b0 + 41) (Int32.toNatClampNeg (ea_i h (b0 + 0) 63)) x4) (b0 + 42) (Int32.toNatClampNeg (ea_i h (b0 + 0) 63)) x5) (b0 + 43) (Int32.toNatClampNeg (ea_i h (b0 + 0) 63)) x6) (b0 + 44) (Int32.toNatClampNeg (ea_i h (b0 + 0) 63)) (ea_i (ea_wi (ea_wi (ea_wi (ea_wi (ea_wi (ea_wi (ea_wi h (b0 + 0) 63 ((ea_i h (b0 + 0) 63) + (1 : Int32))) (b0 + 38) (Int32.toNatClampNeg (ea_i h (b0 + 0) 63)) x1) (b0 + 39) (Int32.toNatClampNeg (ea_i h (b0 + 0) 63)) x2) (b0 + 40) (Int32.toNatClampNeg (ea_i h (b0 + 0) 63)) x3) (b0 + 41) (Int32.toNatClampNeg (ea_i h (b0 + 0) 63)) x4) (b0 + 42) (Int32.toNatClampNeg (ea_i h (b0 + 0) 63)) x5) (b0 + 43) (Int32.toNatClampNeg (ea_i h (b0 + 0) 63)) x6) (b0 + 0) 0)))))) (b0 + 46) (Int32.toNatClampNeg (ea_i h (b0 + 0) 63)) 0))))))))))))))))))))))) else
    if lbl = 190 then (if x7 < x8 then (gd ((okX12_actOn b0 (((ea_i h (b0 + 0) 0) / (1440 : Int32)) : Int32) h)) (gd (vp_in x7 120) (gd (vp_in x7 120) (if (ea_i (ea_wi (wX12_actOn b0 (((ea_i h (b0 + 0) 0) / (1440 : Int32)) : Int32) h) (b0 + 47) (Int32.toNatClampNeg x7) (vX12_actOn b0 (((ea_i h (b0 + 0) 0) / (1440 : Int32)) : Int32) h)) (b0 + 47) (Int32.toNatClampNeg x7)) = ((-1) : Int32) then (gX12_post b0 f 320 (0 : Int32) (x7 : Int32) 0 (x2 : Int32) 0 0 0 0 (x7 : Int32) 0 (ea_wi (wX12_actOn b0 (((ea_i h (b0 + 0) 0) / (1440 : Int32)) : Int32) h) (b0 + 47) (Int32.toNatClampNeg x7) (vX12_actOn b0 (((ea_i h (b0 + 0) 0) / (1440 : Int32)) : Int32) h))) else (gd (vp_in x7 120) (gd ((okX12_isFree b0 (x7 : Int32) ((ea_i (ea_wi (wX12_actOn b0 (((ea_i h (b0 + 0) 0) / (1440 : Int32)) : Int32) h) (b0 + 47) (Int32.toNatClampNeg x7) (vX12_actOn b0 (((ea_i h (b0 + 0) 0) / (1440 : Int32)) : Int32) h)) (b0 + 47) (Int32.toNatClampNeg x7)) : Int32) (ea_wi (wX12_actOn b0 (((ea_i h (b0 + 0) 0) / (1440 : Int32)) : Int32) h) (b0 + 47) (Int32.toNatClampNeg x7) (vX12_actOn b0 (((ea_i h (b0 + 0) 0) / (1440 : Int32)) : Int32) h)))) (if (vX12_isFree b0 (x7 : Int32) ((ea_i (ea_wi (wX12_actOn b0 (((ea_i h (b0 + 0) 0) / (1440 : Int32)) : Int32) h) (b0 + 47) (Int32.toNatClampNeg x7) (vX12_actOn b0 (((ea_i h (b0 + 0) 0) / (1440 : Int32)) : Int32) h)) (b0 + 47) (Int32.toNatClampNeg x7)) : Int32) (ea_wi (wX12_actOn b0 (((ea_i h (b0 + 0) 0) / (1440 : Int32)) : Int32) h) (b0 + 47) (Int32.toNatClampNeg x7) (vX12_actOn b0 (((ea_i h (b0 + 0) 0) / (1440 : Int32)) : Int32) h))) = (0 : Int32) then (gX12_post b0 f 320 (0 : Int32) (x7 : Int32) 0 (x2 : Int32) 0 0 0 0 (x7 : Int32) 0 (ea_wi (wX12_actOn b0 (((ea_i h (b0 + 0) 0) / (1440 : Int32)) : Int32) h) (b0 + 47) (Int32.toNatClampNeg x7) (vX12_actOn b0 (((ea_i h (b0 + 0) 0) / (1440 : Int32)) : Int32) h))) else (gX12_post b0 f 320 (1 : Int32) (x7 : Int32) 0 (x2 : Int32) 0 0 0 0 (x7 : Int32) 0 (ea_wi (wX12_actOn b0 (((ea_i h (b0 + 0) 0) / (1440 : Int32)) : Int32) h) (b0 + 47) (Int32.toNatClampNeg x7) (vX12_actOn b0 (((ea_i h (b0 + 0) 0) / (1440 : Int32)) : Int32) h)))))))))) else (gd (vp_in x7 120) (gd (vp_in x8 120) (if (ea_i h (b0 + 38) (Int32.toNatClampNeg x8)) = (2 : Int32) then (gd (vp_in x8 120) (if (ea_i h (b0 + 43) (Int32.toNatClampNeg x8)) = x6 then (gd (vp_in x8 120) (if ((ea_i h (b0 + 44) (Int32.toNatClampNeg x8)) / (1440 : Int32)) = ((ea_i h (b0 + 0) 0) / (1440 : Int32)) then (gd (vp_in x7 120) (gX12_post b0 f 190 0 0 0 (x2 : Int32) 0 0 0 (x6 : Int32) (x7 : Int32) ((x8 + (1 : Int32)) : Int32) (ea_wi h (b0 + 46) (Int32.toNatClampNeg x7) ((ea_i h (b0 + 46) (Int32.toNatClampNeg x7)) + (1 : Int32))))) else (gd (vp_in x7 120) (gX12_post b0 f 190 0 0 0 (x2 : Int32) 0 0 0 (x6 : Int32) (x7 : Int32) ((x8 + (1 : Int32)) : Int32) (ea_wi h (b0 + 46) (Int32.toNatClampNeg x7) ((ea_i h (b0 + 46) (Int32.toNatClampNeg x7)) + (0 : Int32))))))) else (gd (vp_in x7 120) (gX12_post b0 f 190 0 0 0 (x2 : Int32) 0 0 0 (x6 : Int32) (x7 : Int32) ((x8 + (1 : Int32)) : Int32) (ea_wi h (b0 + 46) (Int32.toNatClampNeg x7) ((ea_i h (b0 + 46) (Int32.toNatClampNeg x7)) + (0 : Int32))))))) else (gd (vp_in x7 120) (gX12_post b0 f 190 0 0 0 (x2 : Int32) 0 0 0 (x6 : Int32) (x7 : Int32) ((x8 + (1 : Int32)) : Int32) (ea_wi h (b0 + 46) (Int32.toNatClampNeg x7) ((ea_i h (b0 + 46) (Int32.toNatClampNeg x7)) + (0 : Int32))))))))) else
    if lbl = 320 then (gd (vp_in sx1 120) (gd ((sx0 = 0 ∨ sx0 = 1)) (gd (vp_in x7 120) (if (ea_i (ea_wi h (b0 + 53) (Int32.toNatClampNeg sx1) sx0) (b0 + 47) (Int32.toNatClampNeg x7)) = ((-1) : Int32) then (gX12_post b0 f 355 (0 : Int32) (x7 : Int32) 0 (x2 : Int32) 0 0 0 0 (x7 : Int32) 0 (ea_wi h (b0 + 53) (Int32.toNatClampNeg sx1) sx0)) else (gd (vp_in x7 120) (gd ((okX12_chargeBy b0 (x7 : Int32) ((ea_i (ea_wi h (b0 + 53) (Int32.toNatClampNeg sx1) sx0) (b0 + 47) (Int32.toNatClampNeg x7)) : Int32) (ea_wi h (b0 + 53) (Int32.toNatClampNeg sx1) sx0))) (gX12_post b0 f 355 ((vX12_chargeBy b0 (x7 : Int32) ((ea_i (ea_wi h (b0 + 53) (Int32.toNatClampNeg sx1) sx0) (b0 + 47) (Int32.toNatClampNeg x7)) : Int32) (ea_wi h (b0 + 53) (Int32.toNatClampNeg sx1) sx0)) : Int32) (x7 : Int32) 0 (x2 : Int32) 0 0 0 0 (x7 : Int32) 0 (wX12_chargeBy b0 (x7 : Int32) ((ea_i (ea_wi h (b0 + 53) (Int32.toNatClampNeg sx1) sx0) (b0 + 47) (Int32.toNatClampNeg x7)) : Int32) (ea_wi h (b0 + 53) (Int32.toNatClampNeg sx1) sx0))))))))) else
    if lbl = 355 then (gd (vp_in sx1 120) (gd (vp_in x7 120) (if (ea_i (ea_wi h (b0 + 48) (Int32.toNatClampNeg sx1) sx0) (b0 + 47) (Int32.toNatClampNeg x7)) = ((-1) : Int32) then (gX12_post b0 f 390 ((-1) : Int32) (x7 : Int32) 0 (x2 : Int32) 0 0 0 0 (x7 : Int32) 0 (ea_wi h (b0 + 48) (Int32.toNatClampNeg sx1) sx0)) else (gd (vp_in x7 120) (gd ((okX12_lineOf b0 (x7 : Int32) ((ea_i (ea_wi h (b0 + 48) (Int32.toNatClampNeg sx1) sx0) (b0 + 47) (Int32.toNatClampNeg x7)) : Int32) (ea_wi h (b0 + 48) (Int32.toNatClampNeg sx1) sx0))) (gX12_post b0 f 390 ((vX12_lineOf b0 (x7 : Int32) ((ea_i (ea_wi h (b0 + 48) (Int32.toNatClampNeg sx1) sx0) (b0 + 47) (Int32.toNatClampNeg x7)) : Int32) (ea_wi h (b0 + 48) (Int32.toNatClampNeg sx1) sx0)) : Int32) (x7 : Int32) 0 (x2 : Int32) 0 0 0 0 (x7 : Int32) 0 (wX12_lineOf b0 (x7 : Int32) ((ea_i (ea_wi h (b0 + 48) (Int32.toNatClampNeg sx1) sx0) (b0 + 47) (Int32.toNatClampNeg x7)) : Int32) (ea_wi h (b0 + 48) (Int32.toNatClampNeg sx1) sx0)))))))) else
    if lbl = 390 then (gd (vp_in sx1 120) (gd (vp_in x7 120) (gd ((okX12_turns b0 (x7 : Int32) ((ea_i (ea_wi (ea_wi h (b0 + 49) (Int32.toNatClampNeg sx1) sx0) (b0 + 57) (Int32.toNatClampNeg x7) (-1)) (b0 + 0) 0) : Int32) (0 : Int32) (x2 : Int32) (ea_wi (ea_wi h (b0 + 49) (Int32.toNatClampNeg sx1) sx0) (b0 + 57) (Int32.toNatClampNeg x7) (-1)))) (some (x7, (wX12_turns b0 (x7 : Int32) ((ea_i (ea_wi (ea_wi h (b0 + 49) (Int32.toNatClampNeg sx1) sx0) (b0 + 57) (Int32.toNatClampNeg x7) (-1)) (b0 + 0) 0) : Int32) (0 : Int32) (x2 : Int32) (ea_wi (ea_wi h (b0 + 49) (Int32.toNatClampNeg sx1) sx0) (b0 + 57) (Int32.toNatClampNeg x7) (-1)))))))) else none
theorem tX12_post {d : Nat} {b0 : Nat} {h0 : ea_H} (hd : 5 ≤ d) : ∀ (f lbl : Nat) (sx0 : Int32) (sx1 : Int32) (x1 : Int32) (x2 : Int32) (x3 : Int32) (x4 : Int32) (x5 : Int32) (x6 : Int32) (x7 : Int32) (x8 : Int32) (h : ea_H) (r : Int32) (h' : ea_H), gX12_post b0 f lbl sx0 sx1 x1 x2 x3 x4 x5 x6 x7 x8 h = some (r, h') → ShM b0 h → (lbl = 0 → ea_W mX12_post d h0 (some (vI r)) h' 0 [(0, vR (some (b0 + 0))), (1, vI x1), (2, vI x2), (3, vI x3), (4, vI x4), (5, vI x5), (6, vI x6)] [] h) ∧ (lbl = 190 → ea_W mX12_post d h0 (some (vI r)) h' 190 [(0, vR (some (b0 + 0))), (2, vI x2), (6, vI x6), (7, vI x7), (8, vI x8)] [] h) ∧ (lbl = 320 → ea_W mX12_post d h0 (some (vI r)) h' 320 [(0, vR (some (b0 + 0))), (2, vI x2), (7, vI x7)] [vI sx0, vI sx1, vR (some (b0 + 53))] h) ∧ (lbl = 355 → ea_W mX12_post d h0 (some (vI r)) h' 355 [(0, vR (some (b0 + 0))), (2, vI x2), (7, vI x7)] [vI sx0, vI sx1, vR (some (b0 + 48))] h) ∧ (lbl = 390 → ea_W mX12_post d h0 (some (vI r)) h' 390 [(0, vR (some (b0 + 0))), (2, vI x2), (7, vI x7)] [vI sx0, vI sx1, vR (some (b0 + 49))] h) := by
  intro f
  induction f with
  | zero => intro lbl sx0 sx1 x1 x2 x3 x4 x5 x6 x7 x8 h r h' E; cases E
  | succ f ih =>
    intro lbl sx0 sx1 x1 x2 x3 x4 x5 x6 x7 x8 h r h' E hs
    unfold gX12_post at E
    refine ⟨?_, ?_⟩
    · intro el
      subst el
      have E := (if_pos rfl).symm.trans E
      refine ea_iload_n (pc := 0) dX12_post_0 rfl 1 rfl ?_
      refine ea_iconst (pc := 1) dX12_post_1 (v := 0) rfl ?_
      refine ea_iconst (pc := 2) dX12_post_2 (v := 4) rfl ?_
      refine ea_callS (pc := 3) (d' := d - 1) (As := [vI x1, vI 0, vI 4]) (st := []) dX12_post_3 kX12_isIn (sX12_isIn (d := d - 1) (by omega)) (by omega) rfl (Nat.le_of_ble_eq_true rfl) ew_1712 ew_1713 ?_
      refine ea_if_eq (pc := 6) (tgt := 72) dX12_post_6 rfl (fun c40 => ?_) (fun c40 => ?_)
      · have E := (if_pos c40).symm.trans E
        refine ea_iconst (pc := 72) dX12_post_72 (v := (-1)) rfl ?_
        cases E
        exact ea_ireturn (pc := 73) dX12_post_73 rfl rfl
      · have E := (if_neg c40).symm.trans E
        refine ea_aload_n (pc := 9) dX12_post_9 rfl 0 rfl ?_
        refine ea_iload_n (pc := 10) dX12_post_10 rfl 2 rfl ?_
        refine ea_callV (pc := 11) (d' := d - 1) (As := [vI x2]) (st := []) dX12_post_11 kX12_isTown (sX12_isTown (d := d - 1) (by omega) hs) (by omega) rfl (Nat.le_of_ble_eq_true rfl) ew_1708 ew_1710 ew_47 (ci := 12) rfl (by decide) (hs.1 0 (by decide)).1 (hs.1 0 (by decide)).2.1 ?_
        refine ea_if_eq (pc := 14) (tgt := 72) dX12_post_14 rfl (fun c39 => ?_) (fun c39 => ?_)
        · have E := (if_pos c39).symm.trans E
          refine ea_iconst (pc := 72) dX12_post_72 (v := (-1)) rfl ?_
          cases E
          exact ea_ireturn (pc := 73) dX12_post_73 rfl rfl
        · have E := (if_neg c39).symm.trans E
          refine ea_aload_n (pc := 17) dX12_post_17 rfl 0 rfl ?_
          refine ea_iload_n (pc := 18) dX12_post_18 rfl 3 rfl ?_
          refine ea_callV (pc := 19) (d' := d - 1) (As := [vI x3]) (st := []) dX12_post_19 kX12_isTown (sX12_isTown (d := d - 1) (by omega) hs) (by omega) rfl (Nat.le_of_ble_eq_true rfl) ew_1708 ew_1710 ew_47 (ci := 12) rfl (by decide) (hs.1 0 (by decide)).1 (hs.1 0 (by decide)).2.1 ?_
          refine ea_if_eq (pc := 22) (tgt := 72) dX12_post_22 rfl (fun c38 => ?_) (fun c38 => ?_)
          · have E := (if_pos c38).symm.trans E
            refine ea_iconst (pc := 72) dX12_post_72 (v := (-1)) rfl ?_
            cases E
            exact ea_ireturn (pc := 73) dX12_post_73 rfl rfl
          · have E := (if_neg c38).symm.trans E
            refine ea_iload_n (pc := 25) dX12_post_25 rfl 2 rfl ?_
            refine ea_iload_n (pc := 26) dX12_post_26 rfl 3 rfl ?_
            refine ea_icmp_eq (pc := 27) (tgt := 72) dX12_post_27 rfl (fun c37 => ?_) (fun c37 => ?_)
            · have E := (if_pos c37).symm.trans E
              refine ea_iconst (pc := 72) dX12_post_72 (v := (-1)) rfl ?_
              cases E
              exact ea_ireturn (pc := 73) dX12_post_73 rfl rfl
            · have E := (if_neg c37).symm.trans E
              refine ea_iload (pc := 30) dX12_post_30 4 rfl ?_
              refine ea_iconst (pc := 32) dX12_post_32 (v := 1) rfl ?_
              refine ea_bipush (pc := 33) dX12_post_33 (v := 9) rfl ?_
              refine ea_callS (pc := 35) (d' := d - 1) (As := [vI x4, vI 1, vI 9]) (st := []) dX12_post_35 kX12_isIn (sX12_isIn (d := d - 1) (by omega)) (by omega) rfl (Nat.le_of_ble_eq_true rfl) ew_1712 ew_1713 ?_
              refine ea_if_eq (pc := 38) (tgt := 72) dX12_post_38 rfl (fun c36 => ?_) (fun c36 => ?_)
              · have E := (if_pos c36).symm.trans E
                refine ea_iconst (pc := 72) dX12_post_72 (v := (-1)) rfl ?_
                cases E
                exact ea_ireturn (pc := 73) dX12_post_73 rfl rfl
              · have E := (if_neg c36).symm.trans E
                refine ea_iload (pc := 41) dX12_post_41 5 rfl ?_
                refine ea_iconst (pc := 43) dX12_post_43 (v := 0) rfl ?_
                refine ea_bipush (pc := 44) dX12_post_44 (v := 99) rfl ?_
                refine ea_callS (pc := 46) (d' := d - 1) (As := [vI x5, vI 0, vI 99]) (st := []) dX12_post_46 kX12_isIn (sX12_isIn (d := d - 1) (by omega)) (by omega) rfl (Nat.le_of_ble_eq_true rfl) ew_1712 ew_1713 ?_
                refine ea_if_eq (pc := 49) (tgt := 72) dX12_post_49 rfl (fun c35 => ?_) (fun c35 => ?_)
                · have E := (if_pos c35).symm.trans E
                  refine ea_iconst (pc := 72) dX12_post_72 (v := (-1)) rfl ?_
                  cases E
                  exact ea_ireturn (pc := 73) dX12_post_73 rfl rfl
                · have E := (if_neg c35).symm.trans E
                  refine ea_iload (pc := 52) dX12_post_52 6 rfl ?_
                  refine ea_iconst (pc := 54) dX12_post_54 (v := 0) rfl ?_
                  refine ea_bipush (pc := 55) dX12_post_55 (v := 9) rfl ?_
                  refine ea_callS (pc := 57) (d' := d - 1) (As := [vI x6, vI 0, vI 9]) (st := []) dX12_post_57 kX12_isIn (sX12_isIn (d := d - 1) (by omega)) (by omega) rfl (Nat.le_of_ble_eq_true rfl) ew_1712 ew_1713 ?_
                  refine ea_if_eq (pc := 60) (tgt := 72) dX12_post_60 rfl (fun c34 => ?_) (fun c34 => ?_)
                  · have E := (if_pos c34).symm.trans E
                    refine ea_iconst (pc := 72) dX12_post_72 (v := (-1)) rfl ?_
                    cases E
                    exact ea_ireturn (pc := 73) dX12_post_73 rfl rfl
                  · have E := (if_neg c34).symm.trans E
                    refine ea_aload_n (pc := 63) dX12_post_63 rfl 0 rfl ?_
                    refine ea_getI (pc := 64) dX12_post_64 ec_12 (k := 63) (Nat.le_of_ble_eq_true rfl) rfl (Or.inl ew_1408) (hs.1 0 (by decide)).1 (hs.1 0 (by decide)).2.1 ?_
                    refine ea_bipush (pc := 67) dX12_post_67 (v := 120) rfl ?_
                    refine ea_icmp_ne (pc := 69) (tgt := 74) dX12_post_69 rfl (fun c33 => ?_) (fun c33 => ?_)
                    · have E := (if_neg c33).symm.trans E
                      refine ea_aload_n (pc := 74) dX12_post_74 rfl 0 rfl ?_
                      refine ea_getI (pc := 75) dX12_post_75 ec_12 (k := 63) (Nat.le_of_ble_eq_true rfl) rfl (Or.inl ew_1408) (hs.1 0 (by decide)).1 (hs.1 0 (by decide)).2.1 ?_
                      refine ea_istore (pc := 78) (lv' := [(0, vR (some (b0 + 0))), (1, vI x1), (2, vI x2), (3, vI x3), (4, vI x4), (5, vI x5), (6, vI x6), (7, vI (ea_i h (b0 + 0) 63))]) dX12_post_78 (Nat.le_of_ble_eq_true rfl) [1, 2, 3, 4, 5, 6, 7, 0] rfl ?_
                      refine ea_aload_n (pc := 80) dX12_post_80 rfl 0 rfl ?_
                      refine ea_dup (pc := 81) dX12_post_81 rfl ?_
                      refine ea_getI (pc := 82) dX12_post_82 ec_12 (k := 63) (Nat.le_of_ble_eq_true rfl) rfl (Or.inl ew_1408) (hs.1 0 (by decide)).1 (hs.1 0 (by decide)).2.1 ?_
                      refine ea_iconst (pc := 85) dX12_post_85 (v := 1) rfl ?_
                      refine ea_iadd (pc := 86) dX12_post_86 ?_
                      refine ea_putI (pc := 87) dX12_post_87 ec_12 (k := 63) (Nat.le_of_ble_eq_true rfl) rfl (Or.inl ⟨rfl, Or.inl ew_1408⟩) rfl rfl (hs.1 0 (by decide)).1 (hs.1 0 (by decide)).2.1 ?_
                      have hs7 : ShM b0 (ea_wi h (b0 + 0) 63 ((ea_i h (b0 + 0) 63) + (1 : Int32))) := ShM_wi hs
                      refine ea_aload_n (pc := 90) dX12_post_90 rfl 0 rfl ?_
                      refine ea_getR (pc := 91) dX12_post_91 ec_12 (k := 64) (Nat.le_of_ble_eq_true rfl) rfl (Or.inl ew_1409) (hs7.1 0 (by decide)).1 (hs7.1 0 (by decide)).2.1 (hs7.2 0 64 rfl) ?_
                      refine ea_iload (pc := 94) dX12_post_94 7 rfl ?_
                      refine ea_iload_n (pc := 96) dX12_post_96 rfl 1 rfl ?_
                      obtain ⟨z8, E⟩ := gd_some E
                      refine ea_iast (pc := 97) dX12_post_97 (hs7.1 38 (by decide)).1 (hs7.1 38 (by decide)).2.1 (ea_vpl (hs7.1 38 (by decide)).2.2 z8) ?_
                      have hs9 : ShM b0 (ea_wi (ea_wi h (b0 + 0) 63 ((ea_i h (b0 + 0) 63) + (1 : Int32))) (b0 + 38) (Int32.toNatClampNeg (ea_i h (b0 + 0) 63)) x1) := ShM_wi hs7
                      refine ea_aload_n (pc := 98) dX12_post_98 rfl 0 rfl ?_
                      refine ea_getR (pc := 99) dX12_post_99 ec_12 (k := 65) (Nat.le_of_ble_eq_true rfl) rfl (Or.inl ew_1410) (hs9.1 0 (by decide)).1 (hs9.1 0 (by decide)).2.1 (hs9.2 0 65 rfl) ?_
                      refine ea_iload (pc := 102) dX12_post_102 7 rfl ?_
                      refine ea_iload_n (pc := 104) dX12_post_104 rfl 2 rfl ?_
                      obtain ⟨z10, E⟩ := gd_some E
                      refine ea_iast (pc := 105) dX12_post_105 (hs9.1 39 (by decide)).1 (hs9.1 39 (by decide)).2.1 (ea_vpl (hs9.1 39 (by decide)).2.2 z10) ?_
                      have hs11 : ShM b0 (ea_wi (ea_wi (ea_wi h (b0 + 0) 63 ((ea_i h (b0 + 0) 63) + (1 : Int32))) (b0 + 38) (Int32.toNatClampNeg (ea_i h (b0 + 0) 63)) x1) (b0 + 39) (Int32.toNatClampNeg (ea_i h (b0 + 0) 63)) x2) := ShM_wi hs9
                      refine ea_aload_n (pc := 106) dX12_post_106 rfl 0 rfl ?_
                      refine ea_getR (pc := 107) dX12_post_107 ec_12 (k := 66) (Nat.le_of_ble_eq_true rfl) rfl (Or.inl ew_1411) (hs11.1 0 (by decide)).1 (hs11.1 0 (by decide)).2.1 (hs11.2 0 66 rfl) ?_
                      refine ea_iload (pc := 110) dX12_post_110 7 rfl ?_
                      refine ea_iload_n (pc := 112) dX12_post_112 rfl 3 rfl ?_
                      obtain ⟨z12, E⟩ := gd_some E
                      refine ea_iast (pc := 113) dX12_post_113 (hs11.1 40 (by decide)).1 (hs11.1 40 (by decide)).2.1 (ea_vpl (hs11.1 40 (by decide)).2.2 z12) ?_
                      have hs13 : ShM b0 (ea_wi (ea_wi (ea_wi (ea_wi h (b0 + 0) 63 ((ea_i h (b0 + 0) 63) + (1 : Int32))) (b0 + 38) (Int32.toNatClampNeg (ea_i h (b0 + 0) 63)) x1) (b0 + 39) (Int32.toNatClampNeg (ea_i h (b0 + 0) 63)) x2) (b0 + 40) (Int32.toNatClampNeg (ea_i h (b0 + 0) 63)) x3) := ShM_wi hs11
                      refine ea_aload_n (pc := 114) dX12_post_114 rfl 0 rfl ?_
                      refine ea_getR (pc := 115) dX12_post_115 ec_12 (k := 67) (Nat.le_of_ble_eq_true rfl) rfl (Or.inl ew_1412) (hs13.1 0 (by decide)).1 (hs13.1 0 (by decide)).2.1 (hs13.2 0 67 rfl) ?_
                      refine ea_iload (pc := 118) dX12_post_118 7 rfl ?_
                      refine ea_iload (pc := 120) dX12_post_120 4 rfl ?_
                      obtain ⟨z14, E⟩ := gd_some E
                      refine ea_iast (pc := 122) dX12_post_122 (hs13.1 41 (by decide)).1 (hs13.1 41 (by decide)).2.1 (ea_vpl (hs13.1 41 (by decide)).2.2 z14) ?_
                      have hs15 : ShM b0 (ea_wi (ea_wi (ea_wi (ea_wi (ea_wi h (b0 + 0) 63 ((ea_i h (b0 + 0) 63) + (1 : Int32))) (b0 + 38) (Int32.toNatClampNeg (ea_i h (b0 + 0) 63)) x1) (b0 + 39) (Int32.toNatClampNeg (ea_i h (b0 + 0) 63)) x2) (b0 + 40) (Int32.toNatClampNeg (ea_i h (b0 + 0) 63)) x3) (b0 + 41) (Int32.toNatClampNeg (ea_i h (b0 + 0) 63)) x4) := ShM_wi hs13
                      refine ea_aload_n (pc := 123) dX12_post_123 rfl 0 rfl ?_
                      refine ea_getR (pc := 124) dX12_post_124 ec_12 (k := 68) (Nat.le_of_ble_eq_true rfl) rfl (Or.inl ew_1413) (hs15.1 0 (by decide)).1 (hs15.1 0 (by decide)).2.1 (hs15.2 0 68 rfl) ?_
                      refine ea_iload (pc := 127) dX12_post_127 7 rfl ?_
                      refine ea_iload (pc := 129) dX12_post_129 5 rfl ?_
                      obtain ⟨z16, E⟩ := gd_some E
                      refine ea_iast (pc := 131) dX12_post_131 (hs15.1 42 (by decide)).1 (hs15.1 42 (by decide)).2.1 (ea_vpl (hs15.1 42 (by decide)).2.2 z16) ?_
                      have hs17 : ShM b0 (ea_wi (ea_wi (ea_wi (ea_wi (ea_wi (ea_wi h (b0 + 0) 63 ((ea_i h (b0 + 0) 63) + (1 : Int32))) (b0 + 38) (Int32.toNatClampNeg (ea_i h (b0 + 0) 63)) x1) (b0 + 39) (Int32.toNatClampNeg (ea_i h (b0 + 0) 63)) x2) (b0 + 40) (Int32.toNatClampNeg (ea_i h (b0 + 0) 63)) x3) (b0 + 41) (Int32.toNatClampNeg (ea_i h (b0 + 0) 63)) x4) (b0 + 42) (Int32.toNatClampNeg (ea_i h (b0 + 0) 63)) x5) := ShM_wi hs15
                      refine ea_aload_n (pc := 132) dX12_post_132 rfl 0 rfl ?_
                      refine ea_getR (pc := 133) dX12_post_133 ec_12 (k := 69) (Nat.le_of_ble_eq_true rfl) rfl (Or.inl ew_1414) (hs17.1 0 (by decide)).1 (hs17.1 0 (by decide)).2.1 (hs17.2 0 69 rfl) ?_
                      refine ea_iload (pc := 136) dX12_post_136 7 rfl ?_
                      refine ea_iload (pc := 138) dX12_post_138 6 rfl ?_
                      obtain ⟨z18, E⟩ := gd_some E
                      refine ea_iast (pc := 140) dX12_post_140 (hs17.1 43 (by decide)).1 (hs17.1 43 (by decide)).2.1 (ea_vpl (hs17.1 43 (by decide)).2.2 z18) ?_
                      have hs19 : ShM b0 (ea_wi (ea_wi (ea_wi (ea_wi (ea_wi (ea_wi (ea_wi h (b0 + 0) 63 ((ea_i h (b0 + 0) 63) + (1 : Int32))) (b0 + 38) (Int32.toNatClampNeg (ea_i h (b0 + 0) 63)) x1) (b0 + 39) (Int32.toNatClampNeg (ea_i h (b0 + 0) 63)) x2) (b0 + 40) (Int32.toNatClampNeg (ea_i h (b0 + 0) 63)) x3) (b0 + 41) (Int32.toNatClampNeg (ea_i h (b0 + 0) 63)) x4) (b0 + 42) (Int32.toNatClampNeg (ea_i h (b0 + 0) 63)) x5) (b0 + 43) (Int32.toNatClampNeg (ea_i h (b0 + 0) 63)) x6) := ShM_wi hs17
                      refine ea_aload_n (pc := 141) dX12_post_141 rfl 0 rfl ?_
                      refine ea_getR (pc := 142) dX12_post_142 ec_12 (k := 70) (Nat.le_of_ble_eq_true rfl) rfl (Or.inl ew_1415) (hs19.1 0 (by decide)).1 (hs19.1 0 (by decide)).2.1 (hs19.2 0 70 rfl) ?_
                      refine ea_iload (pc := 145) dX12_post_145 7 rfl ?_
                      refine ea_aload_n (pc := 147) dX12_post_147 rfl 0 rfl ?_
                      refine ea_getI (pc := 148) dX12_post_148 ec_12 (k := 0) (Nat.le_of_ble_eq_true rfl) rfl (Or.inl ew_1345) (hs19.1 0 (by decide)).1 (hs19.1 0 (by decide)).2.1 ?_
                      obtain ⟨z20, E⟩ := gd_some E
                      refine ea_iast (pc := 151) dX12_post_151 (hs19.1 44 (by decide)).1 (hs19.1 44 (by decide)).2.1 (ea_vpl (hs19.1 44 (by decide)).2.2 z20) ?_
                      have hs21 : ShM b0 (ea_wi (ea_wi (ea_wi (ea_wi (ea_wi (ea_wi (ea_wi (ea_wi h (b0 + 0) 63 ((ea_i h (b0 + 0) 63) + (1 : Int32))) (b0 + 38) (Int32.toNatClampNeg (ea_i h (b0 + 0) 63)) x1) (b0 + 39) (Int32.toNatClampNeg (ea_i h (b0 + 0) 63)) x2) (b0 + 40) (Int32.toNatClampNeg (ea_i h (b0 + 0) 63)) x3) (b0 + 41) (Int32.toNatClampNeg (ea_i h (b0 + 0) 63)) x4) (b0 + 42) (Int32.toNatClampNeg (ea_i h (b0 + 0) 63)) x5) (b0 + 43) (Int32.toNatClampNeg (ea_i h (b0 + 0) 63)) x6) (b0 + 44) (Int32.toNatClampNeg (ea_i h (b0 + 0) 63)) (ea_i (ea_wi (ea_wi (ea_wi (ea_wi (ea_wi (ea_wi (ea_wi h (b0 + 0) 63 ((ea_i h (b0 + 0) 63) + (1 : Int32))) (b0 + 38) (Int32.toNatClampNeg (ea_i h (b0 + 0) 63)) x1) (b0 + 39) (Int32.toNatClampNeg (ea_i h (b0 + 0) 63)) x2) (b0 + 40) (Int32.toNatClampNeg (ea_i h (b0 + 0) 63)) x3) (b0 + 41) (Int32.toNatClampNeg (ea_i h (b0 + 0) 63)) x4) (b0 + 42) (Int32.toNatClampNeg (ea_i h (b0 + 0) 63)) x5) (b0 + 43) (Int32.toNatClampNeg (ea_i h (b0 + 0) 63)) x6) (b0 + 0) 0)) := ShM_wi hs19
                      refine ea_aload_n (pc := 152) dX12_post_152 rfl 0 rfl ?_
                      refine ea_getR (pc := 153) dX12_post_153 ec_12 (k := 71) (Nat.le_of_ble_eq_true rfl) rfl (Or.inl ew_1416) (hs21.1 0 (by decide)).1 (hs21.1 0 (by decide)).2.1 (hs21.2 0 71 rfl) ?_
                      refine ea_iload (pc := 156) dX12_post_156 7 rfl ?_
                      refine ea_aload_n (pc := 158) dX12_post_158 rfl 0 rfl ?_
                      refine ea_iload_n (pc := 159) dX12_post_159 rfl 2 rfl ?_
                      refine ea_iload_n (pc := 160) dX12_post_160 rfl 3 rfl ?_
                      refine ea_iconst (pc := 161) dX12_post_161 (v := 0) rfl ?_
                      obtain ⟨z22, E⟩ := gd_some E
                      refine ea_callV (pc := 162) (d' := d - 1) (As := [vI x2, vI x3, vI 0]) (st := [vI (ea_i h (b0 + 0) 63), vR (some (b0 + 45))]) dX12_post_162 kX12_milesOf (sX12_milesOf (d := d - 1) (by omega) hs21 z22) (by omega) rfl (Nat.le_of_ble_eq_true rfl) ew_1719 ew_1721 ew_48 (ci := 12) rfl (by decide) (hs21.1 0 (by decide)).1 (hs21.1 0 (by decide)).2.1 ?_
                      have hs23 : ShM b0 (wX12_milesOf b0 (x2 : Int32) (x3 : Int32) (0 : Int32) (ea_wi (ea_wi (ea_wi (ea_wi (ea_wi (ea_wi (ea_wi (ea_wi h (b0 + 0) 63 ((ea_i h (b0 + 0) 63) + (1 : Int32))) (b0 + 38) (Int32.toNatClampNeg (ea_i h (b0 + 0) 63)) x1) (b0 + 39) (Int32.toNatClampNeg (ea_i h (b0 + 0) 63)) x2) (b0 + 40) (Int32.toNatClampNeg (ea_i h (b0 + 0) 63)) x3) (b0 + 41) (Int32.toNatClampNeg (ea_i h (b0 + 0) 63)) x4) (b0 + 42) (Int32.toNatClampNeg (ea_i h (b0 + 0) 63)) x5) (b0 + 43) (Int32.toNatClampNeg (ea_i h (b0 + 0) 63)) x6) (b0 + 44) (Int32.toNatClampNeg (ea_i h (b0 + 0) 63)) (ea_i (ea_wi (ea_wi (ea_wi (ea_wi (ea_wi (ea_wi (ea_wi h (b0 + 0) 63 ((ea_i h (b0 + 0) 63) + (1 : Int32))) (b0 + 38) (Int32.toNatClampNeg (ea_i h (b0 + 0) 63)) x1) (b0 + 39) (Int32.toNatClampNeg (ea_i h (b0 + 0) 63)) x2) (b0 + 40) (Int32.toNatClampNeg (ea_i h (b0 + 0) 63)) x3) (b0 + 41) (Int32.toNatClampNeg (ea_i h (b0 + 0) 63)) x4) (b0 + 42) (Int32.toNatClampNeg (ea_i h (b0 + 0) 63)) x5) (b0 + 43) (Int32.toNatClampNeg (ea_i h (b0 + 0) 63)) x6) (b0 + 0) 0))) := shX12_milesOf hs21
                      obtain ⟨z24, E⟩ := gd_some E
                      refine ea_iast (pc := 165) dX12_post_165 (hs23.1 45 (by decide)).1 (hs23.1 45 (by decide)).2.1 (ea_vpl (hs23.1 45 (by decide)).2.2 z24) ?_
                      have hs25 : ShM b0 (ea_wi (wX12_milesOf b0 (x2 : Int32) (x3 : Int32) (0 : Int32) (ea_wi (ea_wi (ea_wi (ea_wi (ea_wi (ea_wi (ea_wi (ea_wi h (b0 + 0) 63 ((ea_i h (b0 + 0) 63) + (1 : Int32))) (b0 + 38) (Int32.toNatClampNeg (ea_i h (b0 + 0) 63)) x1) (b0 + 39) (Int32.toNatClampNeg (ea_i h (b0 + 0) 63)) x2) (b0 + 40) (Int32.toNatClampNeg (ea_i h (b0 + 0) 63)) x3) (b0 + 41) (Int32.toNatClampNeg (ea_i h (b0 + 0) 63)) x4) (b0 + 42) (Int32.toNatClampNeg (ea_i h (b0 + 0) 63)) x5) (b0 + 43) (Int32.toNatClampNeg (ea_i h (b0 + 0) 63)) x6) (b0 + 44) (Int32.toNatClampNeg (ea_i h (b0 + 0) 63)) (ea_i (ea_wi (ea_wi (ea_wi (ea_wi (ea_wi (ea_wi (ea_wi h (b0 + 0) 63 ((ea_i h (b0 + 0) 63) + (1 : Int32))) (b0 + 38) (Int32.toNatClampNeg (ea_i h (b0 + 0) 63)) x1) (b0 + 39) (Int32.toNatClampNeg (ea_i h (b0 + 0) 63)) x2) (b0 + 40) (Int32.toNatClampNeg (ea_i h (b0 + 0) 63)) x3) (b0 + 41) (Int32.toNatClampNeg (ea_i h (b0 + 0) 63)) x4) (b0 + 42) (Int32.toNatClampNeg (ea_i h (b0 + 0) 63)) x5) (b0 + 43) (Int32.toNatClampNeg (ea_i h (b0 + 0) 63)) x6) (b0 + 0) 0))) (b0 + 45) (Int32.toNatClampNeg (ea_i h (b0 + 0) 63)) (vX12_milesOf b0 (x2 : Int32) (x3 : Int32) (0 : Int32) (ea_wi (ea_wi (ea_wi (ea_wi (ea_wi (ea_wi (ea_wi (ea_wi h (b0 + 0) 63 ((ea_i h (b0 + 0) 63) + (1 : Int32))) (b0 + 38) (Int32.toNatClampNeg (ea_i h (b0 + 0) 63)) x1) (b0 + 39) (Int32.toNatClampNeg (ea_i h (b0 + 0) 63)) x2) (b0 + 40) (Int32.toNatClampNeg (ea_i h (b0 + 0) 63)) x3) (b0 + 41) (Int32.toNatClampNeg (ea_i h (b0 + 0) 63)) x4) (b0 + 42) (Int32.toNatClampNeg (ea_i h (b0 + 0) 63)) x5) (b0 + 43) (Int32.toNatClampNeg (ea_i h (b0 + 0) 63)) x6) (b0 + 44) (Int32.toNatClampNeg (ea_i h (b0 + 0) 63)) (ea_i (ea_wi (ea_wi (ea_wi (ea_wi (ea_wi (ea_wi (ea_wi h (b0 + 0) 63 ((ea_i h (b0 + 0) 63) + (1 : Int32))) (b0 + 38) (Int32.toNatClampNeg (ea_i h (b0 + 0) 63)) x1) (b0 + 39) (Int32.toNatClampNeg (ea_i h (b0 + 0) 63)) x2) (b0 + 40) (Int32.toNatClampNeg (ea_i h (b0 + 0) 63)) x3) (b0 + 41) (Int32.toNatClampNeg (ea_i h (b0 + 0) 63)) x4) (b0 + 42) (Int32.toNatClampNeg (ea_i h (b0 + 0) 63)) x5) (b0 + 43) (Int32.toNatClampNeg (ea_i h (b0 + 0) 63)) x6) (b0 + 0) 0)))) := ShM_wi hs23
                      refine ea_aload_n (pc := 166) dX12_post_166 rfl 0 rfl ?_
                      refine ea_getR (pc := 167) dX12_post_167 ec_12 (k := 78) (Nat.le_of_ble_eq_true rfl) rfl (Or.inl ew_1423) (hs25.1 0 (by decide)).1 (hs25.1 0 (by decide)).2.1 (hs25.2 0 78 rfl) ?_
                      refine ea_iload (pc := 170) dX12_post_170 7 rfl ?_
                      refine ea_aload_n (pc := 172) dX12_post_172 rfl 0 rfl ?_
                      refine ea_iload_n (pc := 173) dX12_post_173 rfl 2 rfl ?_
                      refine ea_iload_n (pc := 174) dX12_post_174 rfl 3 rfl ?_
                      obtain ⟨z26, E⟩ := gd_some E
                      refine ea_callV (pc := 175) (d' := d - 1) (As := [vI x2, vI x3]) (st := [vI (ea_i h (b0 + 0) 63), vR (some (b0 + 52))]) dX12_post_175 kX12_isCross (sX12_isCross (d := d - 1) (by omega) hs25 z26) (by omega) rfl (Nat.le_of_ble_eq_true rfl) ew_1983 ew_1985 ew_82 (ci := 12) rfl (by decide) (hs25.1 0 (by decide)).1 (hs25.1 0 (by decide)).2.1 ?_
                      have hs27 : ShM b0 (wX12_isCross b0 (x2 : Int32) (x3 : Int32) (ea_wi (wX12_milesOf b0 (x2 : Int32) (x3 : Int32) (0 : Int32) (ea_wi (ea_wi (ea_wi (ea_wi (ea_wi (ea_wi (ea_wi (ea_wi h (b0 + 0) 63 ((ea_i h (b0 + 0) 63) + (1 : Int32))) (b0 + 38) (Int32.toNatClampNeg (ea_i h (b0 + 0) 63)) x1) (b0 + 39) (Int32.toNatClampNeg (ea_i h (b0 + 0) 63)) x2) (b0 + 40) (Int32.toNatClampNeg (ea_i h (b0 + 0) 63)) x3) (b0 + 41) (Int32.toNatClampNeg (ea_i h (b0 + 0) 63)) x4) (b0 + 42) (Int32.toNatClampNeg (ea_i h (b0 + 0) 63)) x5) (b0 + 43) (Int32.toNatClampNeg (ea_i h (b0 + 0) 63)) x6) (b0 + 44) (Int32.toNatClampNeg (ea_i h (b0 + 0) 63)) (ea_i (ea_wi (ea_wi (ea_wi (ea_wi (ea_wi (ea_wi (ea_wi h (b0 + 0) 63 ((ea_i h (b0 + 0) 63) + (1 : Int32))) (b0 + 38) (Int32.toNatClampNeg (ea_i h (b0 + 0) 63)) x1) (b0 + 39) (Int32.toNatClampNeg (ea_i h (b0 + 0) 63)) x2) (b0 + 40) (Int32.toNatClampNeg (ea_i h (b0 + 0) 63)) x3) (b0 + 41) (Int32.toNatClampNeg (ea_i h (b0 + 0) 63)) x4) (b0 + 42) (Int32.toNatClampNeg (ea_i h (b0 + 0) 63)) x5) (b0 + 43) (Int32.toNatClampNeg (ea_i h (b0 + 0) 63)) x6) (b0 + 0) 0))) (b0 + 45) (Int32.toNatClampNeg (ea_i h (b0 + 0) 63)) (vX12_milesOf b0 (x2 : Int32) (x3 : Int32) (0 : Int32) (ea_wi (ea_wi (ea_wi (ea_wi (ea_wi (ea_wi (ea_wi (ea_wi h (b0 + 0) 63 ((ea_i h (b0 + 0) 63) + (1 : Int32))) (b0 + 38) (Int32.toNatClampNeg (ea_i h (b0 + 0) 63)) x1) (b0 + 39) (Int32.toNatClampNeg (ea_i h (b0 + 0) 63)) x2) (b0 + 40) (Int32.toNatClampNeg (ea_i h (b0 + 0) 63)) x3) (b0 + 41) (Int32.toNatClampNeg (ea_i h (b0 + 0) 63)) x4) (b0 + 42) (Int32.toNatClampNeg (ea_i h (b0 + 0) 63)) x5) (b0 + 43) (Int32.toNatClampNeg (ea_i h (b0 + 0) 63)) x6) (b0 + 44) (Int32.toNatClampNeg (ea_i h (b0 + 0) 63)) (ea_i (ea_wi (ea_wi (ea_wi (ea_wi (ea_wi (ea_wi (ea_wi h (b0 + 0) 63 ((ea_i h (b0 + 0) 63) + (1 : Int32))) (b0 + 38) (Int32.toNatClampNeg (ea_i h (b0 + 0) 63)) x1) (b0 + 39) (Int32.toNatClampNeg (ea_i h (b0 + 0) 63)) x2) (b0 + 40) (Int32.toNatClampNeg (ea_i h (b0 + 0) 63)) x3) (b0 + 41) (Int32.toNatClampNeg (ea_i h (b0 + 0) 63)) x4) (b0 + 42) (Int32.toNatClampNeg (ea_i h (b0 + 0) 63)) x5) (b0 + 43) (Int32.toNatClampNeg (ea_i h (b0 + 0) 63)) x6) (b0 + 0) 0))))) := shX12_isCross hs25
                      obtain ⟨z28, E⟩ := gd_some E
                      obtain ⟨z30, E⟩ := gd_some E
                      refine ea_zast (pc := 178) dX12_post_178 (y := (vX12_isCross b0 (x2 : Int32) (x3 : Int32) (ea_wi (wX12_milesOf b0 (x2 : Int32) (x3 : Int32) (0 : Int32) (ea_wi (ea_wi (ea_wi (ea_wi (ea_wi (ea_wi (ea_wi (ea_wi h (b0 + 0) 63 ((ea_i h (b0 + 0) 63) + (1 : Int32))) (b0 + 38) (Int32.toNatClampNeg (ea_i h (b0 + 0) 63)) x1) (b0 + 39) (Int32.toNatClampNeg (ea_i h (b0 + 0) 63)) x2) (b0 + 40) (Int32.toNatClampNeg (ea_i h (b0 + 0) 63)) x3) (b0 + 41) (Int32.toNatClampNeg (ea_i h (b0 + 0) 63)) x4) (b0 + 42) (Int32.toNatClampNeg (ea_i h (b0 + 0) 63)) x5) (b0 + 43) (Int32.toNatClampNeg (ea_i h (b0 + 0) 63)) x6) (b0 + 44) (Int32.toNatClampNeg (ea_i h (b0 + 0) 63)) (ea_i (ea_wi (ea_wi (ea_wi (ea_wi (ea_wi (ea_wi (ea_wi h (b0 + 0) 63 ((ea_i h (b0 + 0) 63) + (1 : Int32))) (b0 + 38) (Int32.toNatClampNeg (ea_i h (b0 + 0) 63)) x1) (b0 + 39) (Int32.toNatClampNeg (ea_i h (b0 + 0) 63)) x2) (b0 + 40) (Int32.toNatClampNeg (ea_i h (b0 + 0) 63)) x3) (b0 + 41) (Int32.toNatClampNeg (ea_i h (b0 + 0) 63)) x4) (b0 + 42) (Int32.toNatClampNeg (ea_i h (b0 + 0) 63)) x5) (b0 + 43) (Int32.toNatClampNeg (ea_i h (b0 + 0) 63)) x6) (b0 + 0) 0))) (b0 + 45) (Int32.toNatClampNeg (ea_i h (b0 + 0) 63)) (vX12_milesOf b0 (x2 : Int32) (x3 : Int32) (0 : Int32) (ea_wi (ea_wi (ea_wi (ea_wi (ea_wi (ea_wi (ea_wi (ea_wi h (b0 + 0) 63 ((ea_i h (b0 + 0) 63) + (1 : Int32))) (b0 + 38) (Int32.toNatClampNeg (ea_i h (b0 + 0) 63)) x1) (b0 + 39) (Int32.toNatClampNeg (ea_i h (b0 + 0) 63)) x2) (b0 + 40) (Int32.toNatClampNeg (ea_i h (b0 + 0) 63)) x3) (b0 + 41) (Int32.toNatClampNeg (ea_i h (b0 + 0) 63)) x4) (b0 + 42) (Int32.toNatClampNeg (ea_i h (b0 + 0) 63)) x5) (b0 + 43) (Int32.toNatClampNeg (ea_i h (b0 + 0) 63)) x6) (b0 + 44) (Int32.toNatClampNeg (ea_i h (b0 + 0) 63)) (ea_i (ea_wi (ea_wi (ea_wi (ea_wi (ea_wi (ea_wi (ea_wi h (b0 + 0) 63 ((ea_i h (b0 + 0) 63) + (1 : Int32))) (b0 + 38) (Int32.toNatClampNeg (ea_i h (b0 + 0) 63)) x1) (b0 + 39) (Int32.toNatClampNeg (ea_i h (b0 + 0) 63)) x2) (b0 + 40) (Int32.toNatClampNeg (ea_i h (b0 + 0) 63)) x3) (b0 + 41) (Int32.toNatClampNeg (ea_i h (b0 + 0) 63)) x4) (b0 + 42) (Int32.toNatClampNeg (ea_i h (b0 + 0) 63)) x5) (b0 + 43) (Int32.toNatClampNeg (ea_i h (b0 + 0) 63)) x6) (b0 + 0) 0)))))) (ea_bn z30) (hs27.1 52 (by decide)).1 (hs27.1 52 (by decide)).2.1 (ea_vpl (hs27.1 52 (by decide)).2.2 z28) ?_
                      have hs29 : ShM b0 (ea_wi (wX12_isCross b0 (x2 : Int32) (x3 : Int32) (ea_wi (wX12_milesOf b0 (x2 : Int32) (x3 : Int32) (0 : Int32) (ea_wi (ea_wi (ea_wi (ea_wi (ea_wi (ea_wi (ea_wi (ea_wi h (b0 + 0) 63 ((ea_i h (b0 + 0) 63) + (1 : Int32))) (b0 + 38) (Int32.toNatClampNeg (ea_i h (b0 + 0) 63)) x1) (b0 + 39) (Int32.toNatClampNeg (ea_i h (b0 + 0) 63)) x2) (b0 + 40) (Int32.toNatClampNeg (ea_i h (b0 + 0) 63)) x3) (b0 + 41) (Int32.toNatClampNeg (ea_i h (b0 + 0) 63)) x4) (b0 + 42) (Int32.toNatClampNeg (ea_i h (b0 + 0) 63)) x5) (b0 + 43) (Int32.toNatClampNeg (ea_i h (b0 + 0) 63)) x6) (b0 + 44) (Int32.toNatClampNeg (ea_i h (b0 + 0) 63)) (ea_i (ea_wi (ea_wi (ea_wi (ea_wi (ea_wi (ea_wi (ea_wi h (b0 + 0) 63 ((ea_i h (b0 + 0) 63) + (1 : Int32))) (b0 + 38) (Int32.toNatClampNeg (ea_i h (b0 + 0) 63)) x1) (b0 + 39) (Int32.toNatClampNeg (ea_i h (b0 + 0) 63)) x2) (b0 + 40) (Int32.toNatClampNeg (ea_i h (b0 + 0) 63)) x3) (b0 + 41) (Int32.toNatClampNeg (ea_i h (b0 + 0) 63)) x4) (b0 + 42) (Int32.toNatClampNeg (ea_i h (b0 + 0) 63)) x5) (b0 + 43) (Int32.toNatClampNeg (ea_i h (b0 + 0) 63)) x6) (b0 + 0) 0))) (b0 + 45) (Int32.toNatClampNeg (ea_i h (b0 + 0) 63)) (vX12_milesOf b0 (x2 : Int32) (x3 : Int32) (0 : Int32) (ea_wi (ea_wi (ea_wi (ea_wi (ea_wi (ea_wi (ea_wi (ea_wi h (b0 + 0) 63 ((ea_i h (b0 + 0) 63) + (1 : Int32))) (b0 + 38) (Int32.toNatClampNeg (ea_i h (b0 + 0) 63)) x1) (b0 + 39) (Int32.toNatClampNeg (ea_i h (b0 + 0) 63)) x2) (b0 + 40) (Int32.toNatClampNeg (ea_i h (b0 + 0) 63)) x3) (b0 + 41) (Int32.toNatClampNeg (ea_i h (b0 + 0) 63)) x4) (b0 + 42) (Int32.toNatClampNeg (ea_i h (b0 + 0) 63)) x5) (b0 + 43) (Int32.toNatClampNeg (ea_i h (b0 + 0) 63)) x6) (b0 + 44) (Int32.toNatClampNeg (ea_i h (b0 + 0) 63)) (ea_i (ea_wi (ea_wi (ea_wi (ea_wi (ea_wi (ea_wi (ea_wi h (b0 + 0) 63 ((ea_i h (b0 + 0) 63) + (1 : Int32))) (b0 + 38) (Int32.toNatClampNeg (ea_i h (b0 + 0) 63)) x1) (b0 + 39) (Int32.toNatClampNeg (ea_i h (b0 + 0) 63)) x2) (b0 + 40) (Int32.toNatClampNeg (ea_i h (b0 + 0) 63)) x3) (b0 + 41) (Int32.toNatClampNeg (ea_i h (b0 + 0) 63)) x4) (b0 + 42) (Int32.toNatClampNeg (ea_i h (b0 + 0) 63)) x5) (b0 + 43) (Int32.toNatClampNeg (ea_i h (b0 + 0) 63)) x6) (b0 + 0) 0))))) (b0 + 52) (Int32.toNatClampNeg (ea_i h (b0 + 0) 63)) (vX12_isCross b0 (x2 : Int32) (x3 : Int32) (ea_wi (wX12_milesOf b0 (x2 : Int32) (x3 : Int32) (0 : Int32) (ea_wi (ea_wi (ea_wi (ea_wi (ea_wi (ea_wi (ea_wi (ea_wi h (b0 + 0) 63 ((ea_i h (b0 + 0) 63) + (1 : Int32))) (b0 + 38) (Int32.toNatClampNeg (ea_i h (b0 + 0) 63)) x1) (b0 + 39) (Int32.toNatClampNeg (ea_i h (b0 + 0) 63)) x2) (b0 + 40) (Int32.toNatClampNeg (ea_i h (b0 + 0) 63)) x3) (b0 + 41) (Int32.toNatClampNeg (ea_i h (b0 + 0) 63)) x4) (b0 + 42) (Int32.toNatClampNeg (ea_i h (b0 + 0) 63)) x5) (b0 + 43) (Int32.toNatClampNeg (ea_i h (b0 + 0) 63)) x6) (b0 + 44) (Int32.toNatClampNeg (ea_i h (b0 + 0) 63)) (ea_i (ea_wi (ea_wi (ea_wi (ea_wi (ea_wi (ea_wi (ea_wi h (b0 + 0) 63 ((ea_i h (b0 + 0) 63) + (1 : Int32))) (b0 + 38) (Int32.toNatClampNeg (ea_i h (b0 + 0) 63)) x1) (b0 + 39) (Int32.toNatClampNeg (ea_i h (b0 + 0) 63)) x2) (b0 + 40) (Int32.toNatClampNeg (ea_i h (b0 + 0) 63)) x3) (b0 + 41) (Int32.toNatClampNeg (ea_i h (b0 + 0) 63)) x4) (b0 + 42) (Int32.toNatClampNeg (ea_i h (b0 + 0) 63)) x5) (b0 + 43) (Int32.toNatClampNeg (ea_i h (b0 + 0) 63)) x6) (b0 + 0) 0))) (b0 + 45) (Int32.toNatClampNeg (ea_i h (b0 + 0) 63)) (vX12_milesOf b0 (x2 : Int32) (x3 : Int32) (0 : Int32) (ea_wi (ea_wi (ea_wi (ea_wi (ea_wi (ea_wi (ea_wi (ea_wi h (b0 + 0) 63 ((ea_i h (b0 + 0) 63) + (1 : Int32))) (b0 + 38) (Int32.toNatClampNeg (ea_i h (b0 + 0) 63)) x1) (b0 + 39) (Int32.toNatClampNeg (ea_i h (b0 + 0) 63)) x2) (b0 + 40) (Int32.toNatClampNeg (ea_i h (b0 + 0) 63)) x3) (b0 + 41) (Int32.toNatClampNeg (ea_i h (b0 + 0) 63)) x4) (b0 + 42) (Int32.toNatClampNeg (ea_i h (b0 + 0) 63)) x5) (b0 + 43) (Int32.toNatClampNeg (ea_i h (b0 + 0) 63)) x6) (b0 + 44) (Int32.toNatClampNeg (ea_i h (b0 + 0) 63)) (ea_i (ea_wi (ea_wi (ea_wi (ea_wi (ea_wi (ea_wi (ea_wi h (b0 + 0) 63 ((ea_i h (b0 + 0) 63) + (1 : Int32))) (b0 + 38) (Int32.toNatClampNeg (ea_i h (b0 + 0) 63)) x1) (b0 + 39) (Int32.toNatClampNeg (ea_i h (b0 + 0) 63)) x2) (b0 + 40) (Int32.toNatClampNeg (ea_i h (b0 + 0) 63)) x3) (b0 + 41) (Int32.toNatClampNeg (ea_i h (b0 + 0) 63)) x4) (b0 + 42) (Int32.toNatClampNeg (ea_i h (b0 + 0) 63)) x5) (b0 + 43) (Int32.toNatClampNeg (ea_i h (b0 + 0) 63)) x6) (b0 + 0) 0)))))) := ShM_wi hs27
                      refine ea_aload_n (pc := 179) dX12_post_179 rfl 0 rfl ?_
                      refine ea_getR (pc := 180) dX12_post_180 ec_12 (k := 72) (Nat.le_of_ble_eq_true rfl) rfl (Or.inl ew_1417) (hs29.1 0 (by decide)).1 (hs29.1 0 (by decide)).2.1 (hs29.2 0 72 rfl) ?_
                      refine ea_iload (pc := 183) dX12_post_183 7 rfl ?_
                      refine ea_iconst (pc := 185) dX12_post_185 (v := 0) rfl ?_
                      obtain ⟨z31, E⟩ := gd_some E
                      refine ea_iast (pc := 186) dX12_post_186 (hs29.1 46 (by decide)).1 (hs29.1 46 (by decide)).2.1 (ea_vpl (hs29.1 46 (by decide)).2.2 z31) ?_
                      have hs32 : ShM b0 (ea_wi (ea_wi (wX12_isCross b0 (x2 : Int32) (x3 : Int32) (ea_wi (wX12_milesOf b0 (x2 : Int32) (x3 : Int32) (0 : Int32) (ea_wi (ea_wi (ea_wi (ea_wi (ea_wi (ea_wi (ea_wi (ea_wi h (b0 + 0) 63 ((ea_i h (b0 + 0) 63) + (1 : Int32))) (b0 + 38) (Int32.toNatClampNeg (ea_i h (b0 + 0) 63)) x1) (b0 + 39) (Int32.toNatClampNeg (ea_i h (b0 + 0) 63)) x2) (b0 + 40) (Int32.toNatClampNeg (ea_i h (b0 + 0) 63)) x3) (b0 + 41) (Int32.toNatClampNeg (ea_i h (b0 + 0) 63)) x4) (b0 + 42) (Int32.toNatClampNeg (ea_i h (b0 + 0) 63)) x5) (b0 + 43) (Int32.toNatClampNeg (ea_i h (b0 + 0) 63)) x6) (b0 + 44) (Int32.toNatClampNeg (ea_i h (b0 + 0) 63)) (ea_i (ea_wi (ea_wi (ea_wi (ea_wi (ea_wi (ea_wi (ea_wi h (b0 + 0) 63 ((ea_i h (b0 + 0) 63) + (1 : Int32))) (b0 + 38) (Int32.toNatClampNeg (ea_i h (b0 + 0) 63)) x1) (b0 + 39) (Int32.toNatClampNeg (ea_i h (b0 + 0) 63)) x2) (b0 + 40) (Int32.toNatClampNeg (ea_i h (b0 + 0) 63)) x3) (b0 + 41) (Int32.toNatClampNeg (ea_i h (b0 + 0) 63)) x4) (b0 + 42) (Int32.toNatClampNeg (ea_i h (b0 + 0) 63)) x5) (b0 + 43) (Int32.toNatClampNeg (ea_i h (b0 + 0) 63)) x6) (b0 + 0) 0))) (b0 + 45) (Int32.toNatClampNeg (ea_i h (b0 + 0) 63)) (vX12_milesOf b0 (x2 : Int32) (x3 : Int32) (0 : Int32) (ea_wi (ea_wi (ea_wi (ea_wi (ea_wi (ea_wi (ea_wi (ea_wi h (b0 + 0) 63 ((ea_i h (b0 + 0) 63) + (1 : Int32))) (b0 + 38) (Int32.toNatClampNeg (ea_i h (b0 + 0) 63)) x1) (b0 + 39) (Int32.toNatClampNeg (ea_i h (b0 + 0) 63)) x2) (b0 + 40) (Int32.toNatClampNeg (ea_i h (b0 + 0) 63)) x3) (b0 + 41) (Int32.toNatClampNeg (ea_i h (b0 + 0) 63)) x4) (b0 + 42) (Int32.toNatClampNeg (ea_i h (b0 + 0) 63)) x5) (b0 + 43) (Int32.toNatClampNeg (ea_i h (b0 + 0) 63)) x6) (b0 + 44) (Int32.toNatClampNeg (ea_i h (b0 + 0) 63)) (ea_i (ea_wi (ea_wi (ea_wi (ea_wi (ea_wi (ea_wi (ea_wi h (b0 + 0) 63 ((ea_i h (b0 + 0) 63) + (1 : Int32))) (b0 + 38) (Int32.toNatClampNeg (ea_i h (b0 + 0) 63)) x1) (b0 + 39) (Int32.toNatClampNeg (ea_i h (b0 + 0) 63)) x2) (b0 + 40) (Int32.toNatClampNeg (ea_i h (b0 + 0) 63)) x3) (b0 + 41) (Int32.toNatClampNeg (ea_i h (b0 + 0) 63)) x4) (b0 + 42) (Int32.toNatClampNeg (ea_i h (b0 + 0) 63)) x5) (b0 + 43) (Int32.toNatClampNeg (ea_i h (b0 + 0) 63)) x6) (b0 + 0) 0))))) (b0 + 52) (Int32.toNatClampNeg (ea_i h (b0 + 0) 63)) (vX12_isCross b0 (x2 : Int32) (x3 : Int32) (ea_wi (wX12_milesOf b0 (x2 : Int32) (x3 : Int32) (0 : Int32) (ea_wi (ea_wi (ea_wi (ea_wi (ea_wi (ea_wi (ea_wi (ea_wi h (b0 + 0) 63 ((ea_i h (b0 + 0) 63) + (1 : Int32))) (b0 + 38) (Int32.toNatClampNeg (ea_i h (b0 + 0) 63)) x1) (b0 + 39) (Int32.toNatClampNeg (ea_i h (b0 + 0) 63)) x2) (b0 + 40) (Int32.toNatClampNeg (ea_i h (b0 + 0) 63)) x3) (b0 + 41) (Int32.toNatClampNeg (ea_i h (b0 + 0) 63)) x4) (b0 + 42) (Int32.toNatClampNeg (ea_i h (b0 + 0) 63)) x5) (b0 + 43) (Int32.toNatClampNeg (ea_i h (b0 + 0) 63)) x6) (b0 + 44) (Int32.toNatClampNeg (ea_i h (b0 + 0) 63)) (ea_i (ea_wi (ea_wi (ea_wi (ea_wi (ea_wi (ea_wi (ea_wi h (b0 + 0) 63 ((ea_i h (b0 + 0) 63) + (1 : Int32))) (b0 + 38) (Int32.toNatClampNeg (ea_i h (b0 + 0) 63)) x1) (b0 + 39) (Int32.toNatClampNeg (ea_i h (b0 + 0) 63)) x2) (b0 + 40) (Int32.toNatClampNeg (ea_i h (b0 + 0) 63)) x3) (b0 + 41) (Int32.toNatClampNeg (ea_i h (b0 + 0) 63)) x4) (b0 + 42) (Int32.toNatClampNeg (ea_i h (b0 + 0) 63)) x5) (b0 + 43) (Int32.toNatClampNeg (ea_i h (b0 + 0) 63)) x6) (b0 + 0) 0))) (b0 + 45) (Int32.toNatClampNeg (ea_i h (b0 + 0) 63)) (vX12_milesOf b0 (x2 : Int32) (x3 : Int32) (0 : Int32) (ea_wi (ea_wi (ea_wi (ea_wi (ea_wi (ea_wi (ea_wi (ea_wi h (b0 + 0) 63 ((ea_i h (b0 + 0) 63) + (1 : Int32))) (b0 + 38) (Int32.toNatClampNeg (ea_i h (b0 + 0) 63)) x1) (b0 + 39) (Int32.toNatClampNeg (ea_i h (b0 + 0) 63)) x2) (b0 + 40) (Int32.toNatClampNeg (ea_i h (b0 + 0) 63)) x3) (b0 + 41) (Int32.toNatClampNeg (ea_i h (b0 + 0) 63)) x4) (b0 + 42) (Int32.toNatClampNeg (ea_i h (b0 + 0) 63)) x5) (b0 + 43) (Int32.toNatClampNeg (ea_i h (b0 + 0) 63)) x6) (b0 + 44) (Int32.toNatClampNeg (ea_i h (b0 + 0) 63)) (ea_i (ea_wi (ea_wi (ea_wi (ea_wi (ea_wi (ea_wi (ea_wi h (b0 + 0) 63 ((ea_i h (b0 + 0) 63) + (1 : Int32))) (b0 + 38) (Int32.toNatClampNeg (ea_i h (b0 + 0) 63)) x1) (b0 + 39) (Int32.toNatClampNeg (ea_i h (b0 + 0) 63)) x2) (b0 + 40) (Int32.toNatClampNeg (ea_i h (b0 + 0) 63)) x3) (b0 + 41) (Int32.toNatClampNeg (ea_i h (b0 + 0) 63)) x4) (b0 + 42) (Int32.toNatClampNeg (ea_i h (b0 + 0) 63)) x5) (b0 + 43) (Int32.toNatClampNeg (ea_i h (b0 + 0) 63)) x6) (b0 + 0) 0)))))) (b0 + 46) (Int32.toNatClampNeg (ea_i h (b0 + 0) 63)) 0) := ShM_wi hs29
                      refine ea_iconst (pc := 187) dX12_post_187 (v := 0) rfl ?_
                      refine ea_istore (pc := 188) (lv' := [(0, vR (some (b0 + 0))), (2, vI x2), (6, vI x6), (7, vI (ea_i h (b0 + 0) 63)), (8, vI 0)]) dX12_post_188 (Nat.le_of_ble_eq_true rfl) [1, 3, 7, 8, 0] rfl ?_
                      exact ((ih 190 0 0 0 (x2 : Int32) 0 0 0 (x6 : Int32) ((ea_i h (b0 + 0) 63) : Int32) (0 : Int32) (ea_wi (ea_wi (wX12_isCross b0 (x2 : Int32) (x3 : Int32) (ea_wi (wX12_milesOf b0 (x2 : Int32) (x3 : Int32) (0 : Int32) (ea_wi (ea_wi (ea_wi (ea_wi (ea_wi (ea_wi (ea_wi (ea_wi h (b0 + 0) 63 ((ea_i h (b0 + 0) 63) + (1 : Int32))) (b0 + 38) (Int32.toNatClampNeg (ea_i h (b0 + 0) 63)) x1) (b0 + 39) (Int32.toNatClampNeg (ea_i h (b0 + 0) 63)) x2) (b0 + 40) (Int32.toNatClampNeg (ea_i h (b0 + 0) 63)) x3) (b0 + 41) (Int32.toNatClampNeg (ea_i h (b0 + 0) 63)) x4) (b0 + 42) (Int32.toNatClampNeg (ea_i h (b0 + 0) 63)) x5) (b0 + 43) (Int32.toNatClampNeg (ea_i h (b0 + 0) 63)) x6) (b0 + 44) (Int32.toNatClampNeg (ea_i h (b0 + 0) 63)) (ea_i (ea_wi (ea_wi (ea_wi (ea_wi (ea_wi (ea_wi (ea_wi h (b0 + 0) 63 ((ea_i h (b0 + 0) 63) + (1 : Int32))) (b0 + 38) (Int32.toNatClampNeg (ea_i h (b0 + 0) 63)) x1) (b0 + 39) (Int32.toNatClampNeg (ea_i h (b0 + 0) 63)) x2) (b0 + 40) (Int32.toNatClampNeg (ea_i h (b0 + 0) 63)) x3) (b0 + 41) (Int32.toNatClampNeg (ea_i h (b0 + 0) 63)) x4) (b0 + 42) (Int32.toNatClampNeg (ea_i h (b0 + 0) 63)) x5) (b0 + 43) (Int32.toNatClampNeg (ea_i h (b0 + 0) 63)) x6) (b0 + 0) 0))) (b0 + 45) (Int32.toNatClampNeg (ea_i h (b0 + 0) 63)) (vX12_milesOf b0 (x2 : Int32) (x3 : Int32) (0 : Int32) (ea_wi (ea_wi (ea_wi (ea_wi (ea_wi (ea_wi (ea_wi (ea_wi h (b0 + 0) 63 ((ea_i h (b0 + 0) 63) + (1 : Int32))) (b0 + 38) (Int32.toNatClampNeg (ea_i h (b0 + 0) 63)) x1) (b0 + 39) (Int32.toNatClampNeg (ea_i h (b0 + 0) 63)) x2) (b0 + 40) (Int32.toNatClampNeg (ea_i h (b0 + 0) 63)) x3) (b0 + 41) (Int32.toNatClampNeg (ea_i h (b0 + 0) 63)) x4) (b0 + 42) (Int32.toNatClampNeg (ea_i h (b0 + 0) 63)) x5) (b0 + 43) (Int32.toNatClampNeg (ea_i h (b0 + 0) 63)) x6) (b0 + 44) (Int32.toNatClampNeg (ea_i h (b0 + 0) 63)) (ea_i (ea_wi (ea_wi (ea_wi (ea_wi (ea_wi (ea_wi (ea_wi h (b0 + 0) 63 ((ea_i h (b0 + 0) 63) + (1 : Int32))) (b0 + 38) (Int32.toNatClampNeg (ea_i h (b0 + 0) 63)) x1) (b0 + 39) (Int32.toNatClampNeg (ea_i h (b0 + 0) 63)) x2) (b0 + 40) (Int32.toNatClampNeg (ea_i h (b0 + 0) 63)) x3) (b0 + 41) (Int32.toNatClampNeg (ea_i h (b0 + 0) 63)) x4) (b0 + 42) (Int32.toNatClampNeg (ea_i h (b0 + 0) 63)) x5) (b0 + 43) (Int32.toNatClampNeg (ea_i h (b0 + 0) 63)) x6) (b0 + 0) 0))))) (b0 + 52) (Int32.toNatClampNeg (ea_i h (b0 + 0) 63)) (vX12_isCross b0 (x2 : Int32) (x3 : Int32) (ea_wi (wX12_milesOf b0 (x2 : Int32) (x3 : Int32) (0 : Int32) (ea_wi (ea_wi (ea_wi (ea_wi (ea_wi (ea_wi (ea_wi (ea_wi h (b0 + 0) 63 ((ea_i h (b0 + 0) 63) + (1 : Int32))) (b0 + 38) (Int32.toNatClampNeg (ea_i h (b0 + 0) 63)) x1) (b0 + 39) (Int32.toNatClampNeg (ea_i h (b0 + 0) 63)) x2) (b0 + 40) (Int32.toNatClampNeg (ea_i h (b0 + 0) 63)) x3) (b0 + 41) (Int32.toNatClampNeg (ea_i h (b0 + 0) 63)) x4) (b0 + 42) (Int32.toNatClampNeg (ea_i h (b0 + 0) 63)) x5) (b0 + 43) (Int32.toNatClampNeg (ea_i h (b0 + 0) 63)) x6) (b0 + 44) (Int32.toNatClampNeg (ea_i h (b0 + 0) 63)) (ea_i (ea_wi (ea_wi (ea_wi (ea_wi (ea_wi (ea_wi (ea_wi h (b0 + 0) 63 ((ea_i h (b0 + 0) 63) + (1 : Int32))) (b0 + 38) (Int32.toNatClampNeg (ea_i h (b0 + 0) 63)) x1) (b0 + 39) (Int32.toNatClampNeg (ea_i h (b0 + 0) 63)) x2) (b0 + 40) (Int32.toNatClampNeg (ea_i h (b0 + 0) 63)) x3) (b0 + 41) (Int32.toNatClampNeg (ea_i h (b0 + 0) 63)) x4) (b0 + 42) (Int32.toNatClampNeg (ea_i h (b0 + 0) 63)) x5) (b0 + 43) (Int32.toNatClampNeg (ea_i h (b0 + 0) 63)) x6) (b0 + 0) 0))) (b0 + 45) (Int32.toNatClampNeg (ea_i h (b0 + 0) 63)) (vX12_milesOf b0 (x2 : Int32) (x3 : Int32) (0 : Int32) (ea_wi (ea_wi (ea_wi (ea_wi (ea_wi (ea_wi (ea_wi (ea_wi h (b0 + 0) 63 ((ea_i h (b0 + 0) 63) + (1 : Int32))) (b0 + 38) (Int32.toNatClampNeg (ea_i h (b0 + 0) 63)) x1) (b0 + 39) (Int32.toNatClampNeg (ea_i h (b0 + 0) 63)) x2) (b0 + 40) (Int32.toNatClampNeg (ea_i h (b0 + 0) 63)) x3) (b0 + 41) (Int32.toNatClampNeg (ea_i h (b0 + 0) 63)) x4) (b0 + 42) (Int32.toNatClampNeg (ea_i h (b0 + 0) 63)) x5) (b0 + 43) (Int32.toNatClampNeg (ea_i h (b0 + 0) 63)) x6) (b0 + 44) (Int32.toNatClampNeg (ea_i h (b0 + 0) 63)) (ea_i (ea_wi (ea_wi (ea_wi (ea_wi (ea_wi (ea_wi (ea_wi h (b0 + 0) 63 ((ea_i h (b0 + 0) 63) + (1 : Int32))) (b0 + 38) (Int32.toNatClampNeg (ea_i h (b0 + 0) 63)) x1) (b0 + 39) (Int32.toNatClampNeg (ea_i h (b0 + 0) 63)) x2) (b0 + 40) (Int32.toNatClampNeg (ea_i h (b0 + 0) 63)) x3) (b0 + 41) (Int32.toNatClampNeg (ea_i h (b0 + 0) 63)) x4) (b0 + 42) (Int32.toNatClampNeg (ea_i h (b0 + 0) 63)) x5) (b0 + 43) (Int32.toNatClampNeg (ea_i h (b0 + 0) 63)) x6) (b0 + 0) 0)))))) (b0 + 46) (Int32.toNatClampNeg (ea_i h (b0 + 0) 63)) 0) _ _ E hs32).2.1 rfl)
                    · have E := (if_pos c33).symm.trans E
                      refine ea_iconst (pc := 72) dX12_post_72 (v := (-1)) rfl ?_
                      cases E
                      exact ea_ireturn (pc := 73) dX12_post_73 rfl rfl
    refine ⟨?_, ?_⟩
    · intro el
      subst el
      have E := (if_neg (by decide)).symm.trans E
      have E := (if_pos rfl).symm.trans E
      refine ea_iload (pc := 190) dX12_post_190 4 rfl ?_
      refine ea_iload (pc := 192) dX12_post_192 3 rfl ?_
      refine ea_icmp_gt (pc := 194) (tgt := 263) dX12_post_194 rfl (fun c65 => ?_) (fun c65 => ?_)
      · have E := (if_pos c65).symm.trans E
        refine ea_aload_n (pc := 263) dX12_post_263 rfl 0 rfl ?_
        refine ea_getR (pc := 264) dX12_post_264 ec_12 (k := 73) (Nat.le_of_ble_eq_true rfl) rfl (Or.inl ew_1418) (hs.1 0 (by decide)).1 (hs.1 0 (by decide)).2.1 (hs.2 0 73 rfl) ?_
        refine ea_iload (pc := 267) dX12_post_267 3 rfl ?_
        refine ea_aload_n (pc := 269) dX12_post_269 rfl 0 rfl ?_
        refine ea_aload_n (pc := 270) dX12_post_270 rfl 0 rfl ?_
        refine ea_getI (pc := 271) dX12_post_271 ec_12 (k := 0) (Nat.le_of_ble_eq_true rfl) rfl (Or.inl ew_1345) (hs.1 0 (by decide)).1 (hs.1 0 (by decide)).2.1 ?_
        refine ea_sipush (pc := 274) dX12_post_274 (v := 1440) rfl ?_
        refine ea_idiv (pc := 277) dX12_post_277 (by decide) ?_
        obtain ⟨z41, E⟩ := gd_some E
        refine ea_callV (pc := 278) (d' := d - 1) (As := [vI ((ea_i h (b0 + 0) 0) / (1440 : Int32))]) (st := [vI x7, vR (some (b0 + 47))]) dX12_post_278 kX12_actOn (sX12_actOn (d := d - 1) (by omega) hs z41) (by omega) rfl (Nat.le_of_ble_eq_true rfl) ew_1975 ew_1977 ew_81 (ci := 12) rfl (by decide) (hs.1 0 (by decide)).1 (hs.1 0 (by decide)).2.1 ?_
        have hs42 : ShM b0 (wX12_actOn b0 (((ea_i h (b0 + 0) 0) / (1440 : Int32)) : Int32) h) := shX12_actOn hs
        obtain ⟨z43, E⟩ := gd_some E
        refine ea_iast (pc := 281) dX12_post_281 (hs42.1 47 (by decide)).1 (hs42.1 47 (by decide)).2.1 (ea_vpl (hs42.1 47 (by decide)).2.2 z43) ?_
        have hs44 : ShM b0 (ea_wi (wX12_actOn b0 (((ea_i h (b0 + 0) 0) / (1440 : Int32)) : Int32) h) (b0 + 47) (Int32.toNatClampNeg x7) (vX12_actOn b0 (((ea_i h (b0 + 0) 0) / (1440 : Int32)) : Int32) h)) := ShM_wi hs42
        refine ea_aload_n (pc := 282) dX12_post_282 rfl 0 rfl ?_
        refine ea_getR (pc := 283) dX12_post_283 ec_12 (k := 79) (Nat.le_of_ble_eq_true rfl) rfl (Or.inl ew_1424) (hs44.1 0 (by decide)).1 (hs44.1 0 (by decide)).2.1 (hs44.2 0 79 rfl) ?_
        refine ea_iload (pc := 286) dX12_post_286 3 rfl ?_
        refine ea_aload_n (pc := 288) dX12_post_288 rfl 0 rfl ?_
        refine ea_getR (pc := 289) dX12_post_289 ec_12 (k := 73) (Nat.le_of_ble_eq_true rfl) rfl (Or.inl ew_1418) (hs44.1 0 (by decide)).1 (hs44.1 0 (by decide)).2.1 (hs44.2 0 73 rfl) ?_
        refine ea_iload (pc := 292) dX12_post_292 3 rfl ?_
        obtain ⟨z45, E⟩ := gd_some E
        refine ea_iald (pc := 294) dX12_post_294 (hs44.1 47 (by decide)).1 (hs44.1 47 (by decide)).2.1 (ea_vpl (hs44.1 47 (by decide)).2.2 z45) ?_
        refine ea_iconst (pc := 295) dX12_post_295 (v := (-1)) rfl ?_
        refine ea_icmp_eq (pc := 296) (tgt := 319) dX12_post_296 rfl (fun c49 => ?_) (fun c49 => ?_)
        · have E := (if_pos c49).symm.trans E
          refine ea_iconst (pc := 319) dX12_post_319 (v := 0) rfl ?_
          exact (ea_fewer [0, 1, 3] rfl ((ih 320 (0 : Int32) (x7 : Int32) 0 (x2 : Int32) 0 0 0 0 (x7 : Int32) 0 (ea_wi (wX12_actOn b0 (((ea_i h (b0 + 0) 0) / (1440 : Int32)) : Int32) h) (b0 + 47) (Int32.toNatClampNeg x7) (vX12_actOn b0 (((ea_i h (b0 + 0) 0) / (1440 : Int32)) : Int32) h)) _ _ E hs44).2.2.1 rfl))
        · have E := (if_neg c49).symm.trans E
          refine ea_aload_n (pc := 299) dX12_post_299 rfl 0 rfl ?_
          refine ea_iload (pc := 300) dX12_post_300 3 rfl ?_
          refine ea_aload_n (pc := 302) dX12_post_302 rfl 0 rfl ?_
          refine ea_getR (pc := 303) dX12_post_303 ec_12 (k := 73) (Nat.le_of_ble_eq_true rfl) rfl (Or.inl ew_1418) (hs44.1 0 (by decide)).1 (hs44.1 0 (by decide)).2.1 (hs44.2 0 73 rfl) ?_
          refine ea_iload (pc := 306) dX12_post_306 3 rfl ?_
          obtain ⟨z46, E⟩ := gd_some E
          refine ea_iald (pc := 308) dX12_post_308 (hs44.1 47 (by decide)).1 (hs44.1 47 (by decide)).2.1 (ea_vpl (hs44.1 47 (by decide)).2.2 z46) ?_
          obtain ⟨z47, E⟩ := gd_some E
          refine ea_callV (pc := 309) (d' := d - 1) (As := [vI x7, vI (ea_i (ea_wi (wX12_actOn b0 (((ea_i h (b0 + 0) 0) / (1440 : Int32)) : Int32) h) (b0 + 47) (Int32.toNatClampNeg x7) (vX12_actOn b0 (((ea_i h (b0 + 0) 0) / (1440 : Int32)) : Int32) h)) (b0 + 47) (Int32.toNatClampNeg x7))]) (st := [vI x7, vR (some (b0 + 53))]) dX12_post_309 kX12_isFree (sX12_isFree (d := d - 1) (by omega) hs44 z47) (by omega) rfl (Nat.le_of_ble_eq_true rfl) ew_1987 ew_1989 ew_83 (ci := 12) rfl (by decide) (hs44.1 0 (by decide)).1 (hs44.1 0 (by decide)).2.1 ?_
          refine ea_if_eq (pc := 312) (tgt := 319) dX12_post_312 rfl (fun c48 => ?_) (fun c48 => ?_)
          · have E := (if_pos c48).symm.trans E
            refine ea_iconst (pc := 319) dX12_post_319 (v := 0) rfl ?_
            exact (ea_fewer [0, 1, 3] rfl ((ih 320 (0 : Int32) (x7 : Int32) 0 (x2 : Int32) 0 0 0 0 (x7 : Int32) 0 (ea_wi (wX12_actOn b0 (((ea_i h (b0 + 0) 0) / (1440 : Int32)) : Int32) h) (b0 + 47) (Int32.toNatClampNeg x7) (vX12_actOn b0 (((ea_i h (b0 + 0) 0) / (1440 : Int32)) : Int32) h)) _ _ E hs44).2.2.1 rfl))
          · have E := (if_neg c48).symm.trans E
            refine ea_iconst (pc := 315) dX12_post_315 (v := 1) rfl ?_
            refine ea_goto (pc := 316) (tgt := 320) dX12_post_316 rfl ?_
            exact (ea_fewer [0, 1, 3] rfl ((ih 320 (1 : Int32) (x7 : Int32) 0 (x2 : Int32) 0 0 0 0 (x7 : Int32) 0 (ea_wi (wX12_actOn b0 (((ea_i h (b0 + 0) 0) / (1440 : Int32)) : Int32) h) (b0 + 47) (Int32.toNatClampNeg x7) (vX12_actOn b0 (((ea_i h (b0 + 0) 0) / (1440 : Int32)) : Int32) h)) _ _ E hs44).2.2.1 rfl))
      · have E := (if_neg c65).symm.trans E
        refine ea_aload_n (pc := 197) dX12_post_197 rfl 0 rfl ?_
        refine ea_getR (pc := 198) dX12_post_198 ec_12 (k := 72) (Nat.le_of_ble_eq_true rfl) rfl (Or.inl ew_1417) (hs.1 0 (by decide)).1 (hs.1 0 (by decide)).2.1 (hs.2 0 72 rfl) ?_
        refine ea_iload (pc := 201) dX12_post_201 3 rfl ?_
        refine ea_dup2 (pc := 203) dX12_post_203 rfl rfl ?_
        obtain ⟨z50, E⟩ := gd_some E
        refine ea_iald (pc := 204) dX12_post_204 (hs.1 46 (by decide)).1 (hs.1 46 (by decide)).2.1 (ea_vpl (hs.1 46 (by decide)).2.2 z50) ?_
        refine ea_aload_n (pc := 205) dX12_post_205 rfl 0 rfl ?_
        refine ea_getR (pc := 206) dX12_post_206 ec_12 (k := 64) (Nat.le_of_ble_eq_true rfl) rfl (Or.inl ew_1409) (hs.1 0 (by decide)).1 (hs.1 0 (by decide)).2.1 (hs.2 0 64 rfl) ?_
        refine ea_iload (pc := 209) dX12_post_209 4 rfl ?_
        obtain ⟨z51, E⟩ := gd_some E
        refine ea_iald (pc := 211) dX12_post_211 (hs.1 38 (by decide)).1 (hs.1 38 (by decide)).2.1 (ea_vpl (hs.1 38 (by decide)).2.2 z51) ?_
        refine ea_iconst (pc := 212) dX12_post_212 (v := 2) rfl ?_
        refine ea_icmp_ne (pc := 213) (tgt := 254) dX12_post_213 rfl (fun c64 => ?_) (fun c64 => ?_)
        · have E := (if_neg c64).symm.trans E
          refine ea_iconst (pc := 254) dX12_post_254 (v := 0) rfl ?_
          refine ea_iadd (pc := 255) dX12_post_255 ?_
          obtain ⟨z52, E⟩ := gd_some E
          refine ea_iast (pc := 256) dX12_post_256 (hs.1 46 (by decide)).1 (hs.1 46 (by decide)).2.1 (ea_vpl (hs.1 46 (by decide)).2.2 z52) ?_
          have hs53 : ShM b0 (ea_wi h (b0 + 46) (Int32.toNatClampNeg x7) ((ea_i h (b0 + 46) (Int32.toNatClampNeg x7)) + (0 : Int32))) := ShM_wi hs
          refine ea_iinc (pc := 257) (v := 1) (lv' := [(0, vR (some (b0 + 0))), (2, vI x2), (6, vI x6), (7, vI x7), (8, vI (x8 + (1 : Int32)))]) dX12_post_257 4 rfl rfl (Nat.le_of_ble_eq_true rfl) [1, 2, 3, 4, 0] rfl ?_
          refine ea_goto (pc := 260) (tgt := 190) dX12_post_260 rfl ?_
          exact ((ih 190 0 0 0 (x2 : Int32) 0 0 0 (x6 : Int32) (x7 : Int32) ((x8 + (1 : Int32)) : Int32) (ea_wi h (b0 + 46) (Int32.toNatClampNeg x7) ((ea_i h (b0 + 46) (Int32.toNatClampNeg x7)) + (0 : Int32))) _ _ E hs53).2.1 rfl)
        · have E := (if_pos c64).symm.trans E
          refine ea_aload_n (pc := 216) dX12_post_216 rfl 0 rfl ?_
          refine ea_getR (pc := 217) dX12_post_217 ec_12 (k := 69) (Nat.le_of_ble_eq_true rfl) rfl (Or.inl ew_1414) (hs.1 0 (by decide)).1 (hs.1 0 (by decide)).2.1 (hs.2 0 69 rfl) ?_
          refine ea_iload (pc := 220) dX12_post_220 4 rfl ?_
          obtain ⟨z54, E⟩ := gd_some E
          refine ea_iald (pc := 222) dX12_post_222 (hs.1 43 (by decide)).1 (hs.1 43 (by decide)).2.1 (ea_vpl (hs.1 43 (by decide)).2.2 z54) ?_
          refine ea_iload (pc := 223) dX12_post_223 2 rfl ?_
          refine ea_icmp_ne (pc := 225) (tgt := 254) dX12_post_225 rfl (fun c63 => ?_) (fun c63 => ?_)
          · have E := (if_neg c63).symm.trans E
            refine ea_iconst (pc := 254) dX12_post_254 (v := 0) rfl ?_
            refine ea_iadd (pc := 255) dX12_post_255 ?_
            obtain ⟨z55, E⟩ := gd_some E
            refine ea_iast (pc := 256) dX12_post_256 (hs.1 46 (by decide)).1 (hs.1 46 (by decide)).2.1 (ea_vpl (hs.1 46 (by decide)).2.2 z55) ?_
            have hs56 : ShM b0 (ea_wi h (b0 + 46) (Int32.toNatClampNeg x7) ((ea_i h (b0 + 46) (Int32.toNatClampNeg x7)) + (0 : Int32))) := ShM_wi hs
            refine ea_iinc (pc := 257) (v := 1) (lv' := [(0, vR (some (b0 + 0))), (2, vI x2), (6, vI x6), (7, vI x7), (8, vI (x8 + (1 : Int32)))]) dX12_post_257 4 rfl rfl (Nat.le_of_ble_eq_true rfl) [1, 2, 3, 4, 0] rfl ?_
            refine ea_goto (pc := 260) (tgt := 190) dX12_post_260 rfl ?_
            exact ((ih 190 0 0 0 (x2 : Int32) 0 0 0 (x6 : Int32) (x7 : Int32) ((x8 + (1 : Int32)) : Int32) (ea_wi h (b0 + 46) (Int32.toNatClampNeg x7) ((ea_i h (b0 + 46) (Int32.toNatClampNeg x7)) + (0 : Int32))) _ _ E hs56).2.1 rfl)
          · have E := (if_pos c63).symm.trans E
            refine ea_aload_n (pc := 228) dX12_post_228 rfl 0 rfl ?_
            refine ea_getR (pc := 229) dX12_post_229 ec_12 (k := 70) (Nat.le_of_ble_eq_true rfl) rfl (Or.inl ew_1415) (hs.1 0 (by decide)).1 (hs.1 0 (by decide)).2.1 (hs.2 0 70 rfl) ?_
            refine ea_iload (pc := 232) dX12_post_232 4 rfl ?_
            obtain ⟨z57, E⟩ := gd_some E
            refine ea_iald (pc := 234) dX12_post_234 (hs.1 44 (by decide)).1 (hs.1 44 (by decide)).2.1 (ea_vpl (hs.1 44 (by decide)).2.2 z57) ?_
            refine ea_sipush (pc := 235) dX12_post_235 (v := 1440) rfl ?_
            refine ea_idiv (pc := 238) dX12_post_238 (by decide) ?_
            refine ea_aload_n (pc := 239) dX12_post_239 rfl 0 rfl ?_
            refine ea_getI (pc := 240) dX12_post_240 ec_12 (k := 0) (Nat.le_of_ble_eq_true rfl) rfl (Or.inl ew_1345) (hs.1 0 (by decide)).1 (hs.1 0 (by decide)).2.1 ?_
            refine ea_sipush (pc := 243) dX12_post_243 (v := 1440) rfl ?_
            refine ea_idiv (pc := 246) dX12_post_246 (by decide) ?_
            refine ea_icmp_ne (pc := 247) (tgt := 254) dX12_post_247 rfl (fun c62 => ?_) (fun c62 => ?_)
            · have E := (if_neg c62).symm.trans E
              refine ea_iconst (pc := 254) dX12_post_254 (v := 0) rfl ?_
              refine ea_iadd (pc := 255) dX12_post_255 ?_
              obtain ⟨z58, E⟩ := gd_some E
              refine ea_iast (pc := 256) dX12_post_256 (hs.1 46 (by decide)).1 (hs.1 46 (by decide)).2.1 (ea_vpl (hs.1 46 (by decide)).2.2 z58) ?_
              have hs59 : ShM b0 (ea_wi h (b0 + 46) (Int32.toNatClampNeg x7) ((ea_i h (b0 + 46) (Int32.toNatClampNeg x7)) + (0 : Int32))) := ShM_wi hs
              refine ea_iinc (pc := 257) (v := 1) (lv' := [(0, vR (some (b0 + 0))), (2, vI x2), (6, vI x6), (7, vI x7), (8, vI (x8 + (1 : Int32)))]) dX12_post_257 4 rfl rfl (Nat.le_of_ble_eq_true rfl) [1, 2, 3, 4, 0] rfl ?_
              refine ea_goto (pc := 260) (tgt := 190) dX12_post_260 rfl ?_
              exact ((ih 190 0 0 0 (x2 : Int32) 0 0 0 (x6 : Int32) (x7 : Int32) ((x8 + (1 : Int32)) : Int32) (ea_wi h (b0 + 46) (Int32.toNatClampNeg x7) ((ea_i h (b0 + 46) (Int32.toNatClampNeg x7)) + (0 : Int32))) _ _ E hs59).2.1 rfl)
            · have E := (if_pos c62).symm.trans E
              refine ea_iconst (pc := 250) dX12_post_250 (v := 1) rfl ?_
              refine ea_goto (pc := 251) (tgt := 255) dX12_post_251 rfl ?_
              refine ea_iadd (pc := 255) dX12_post_255 ?_
              obtain ⟨z60, E⟩ := gd_some E
              refine ea_iast (pc := 256) dX12_post_256 (hs.1 46 (by decide)).1 (hs.1 46 (by decide)).2.1 (ea_vpl (hs.1 46 (by decide)).2.2 z60) ?_
              have hs61 : ShM b0 (ea_wi h (b0 + 46) (Int32.toNatClampNeg x7) ((ea_i h (b0 + 46) (Int32.toNatClampNeg x7)) + (1 : Int32))) := ShM_wi hs
              refine ea_iinc (pc := 257) (v := 1) (lv' := [(0, vR (some (b0 + 0))), (2, vI x2), (6, vI x6), (7, vI x7), (8, vI (x8 + (1 : Int32)))]) dX12_post_257 4 rfl rfl (Nat.le_of_ble_eq_true rfl) [1, 2, 3, 4, 0] rfl ?_
              refine ea_goto (pc := 260) (tgt := 190) dX12_post_260 rfl ?_
              exact ((ih 190 0 0 0 (x2 : Int32) 0 0 0 (x6 : Int32) (x7 : Int32) ((x8 + (1 : Int32)) : Int32) (ea_wi h (b0 + 46) (Int32.toNatClampNeg x7) ((ea_i h (b0 + 46) (Int32.toNatClampNeg x7)) + (1 : Int32))) _ _ E hs61).2.1 rfl)
    refine ⟨?_, ?_⟩
    · intro el
      subst el
      have E := (if_neg (by decide)).symm.trans E
      have E := (if_neg (by decide)).symm.trans E
      have E := (if_pos rfl).symm.trans E
      obtain ⟨z66, E⟩ := gd_some E
      obtain ⟨z68, E⟩ := gd_some E
      refine ea_zast (pc := 320) dX12_post_320 (y := sx0) (ea_bn z68) (hs.1 53 (by decide)).1 (hs.1 53 (by decide)).2.1 (ea_vpl (hs.1 53 (by decide)).2.2 z66) ?_
      have hs67 : ShM b0 (ea_wi h (b0 + 53) (Int32.toNatClampNeg sx1) sx0) := ShM_wi hs
      refine ea_aload_n (pc := 321) dX12_post_321 rfl 0 rfl ?_
      refine ea_getR (pc := 322) dX12_post_322 ec_12 (k := 74) (Nat.le_of_ble_eq_true rfl) rfl (Or.inl ew_1419) (hs67.1 0 (by decide)).1 (hs67.1 0 (by decide)).2.1 (hs67.2 0 74 rfl) ?_
      refine ea_iload (pc := 325) dX12_post_325 2 rfl ?_
      refine ea_aload_n (pc := 327) dX12_post_327 rfl 0 rfl ?_
      refine ea_getR (pc := 328) dX12_post_328 ec_12 (k := 73) (Nat.le_of_ble_eq_true rfl) rfl (Or.inl ew_1418) (hs67.1 0 (by decide)).1 (hs67.1 0 (by decide)).2.1 (hs67.2 0 73 rfl) ?_
      refine ea_iload (pc := 331) dX12_post_331 2 rfl ?_
      obtain ⟨z69, E⟩ := gd_some E
      refine ea_iald (pc := 333) dX12_post_333 (hs67.1 47 (by decide)).1 (hs67.1 47 (by decide)).2.1 (ea_vpl (hs67.1 47 (by decide)).2.2 z69) ?_
      refine ea_iconst (pc := 334) dX12_post_334 (v := (-1)) rfl ?_
      refine ea_icmp_ne (pc := 335) (tgt := 342) dX12_post_335 rfl (fun c73 => ?_) (fun c73 => ?_)
      · have E := (if_neg c73).symm.trans E
        refine ea_aload_n (pc := 342) dX12_post_342 rfl 0 rfl ?_
        refine ea_iload (pc := 343) dX12_post_343 2 rfl ?_
        refine ea_aload_n (pc := 345) dX12_post_345 rfl 0 rfl ?_
        refine ea_getR (pc := 346) dX12_post_346 ec_12 (k := 73) (Nat.le_of_ble_eq_true rfl) rfl (Or.inl ew_1418) (hs67.1 0 (by decide)).1 (hs67.1 0 (by decide)).2.1 (hs67.2 0 73 rfl) ?_
        refine ea_iload (pc := 349) dX12_post_349 2 rfl ?_
        obtain ⟨z70, E⟩ := gd_some E
        refine ea_iald (pc := 351) dX12_post_351 (hs67.1 47 (by decide)).1 (hs67.1 47 (by decide)).2.1 (ea_vpl (hs67.1 47 (by decide)).2.2 z70) ?_
        obtain ⟨z71, E⟩ := gd_some E
        refine ea_callV (pc := 352) (d' := d - 1) (As := [vI x7, vI (ea_i (ea_wi h (b0 + 53) (Int32.toNatClampNeg sx1) sx0) (b0 + 47) (Int32.toNatClampNeg x7))]) (st := [vI x7, vR (some (b0 + 48))]) dX12_post_352 kX12_chargeBy (sX12_chargeBy (d := d - 1) (by omega) hs67 z71) (by omega) rfl (Nat.le_of_ble_eq_true rfl) ew_1991 ew_1993 ew_84 (ci := 12) rfl (by decide) (hs67.1 0 (by decide)).1 (hs67.1 0 (by decide)).2.1 ?_
        have hs72 : ShM b0 (wX12_chargeBy b0 (x7 : Int32) ((ea_i (ea_wi h (b0 + 53) (Int32.toNatClampNeg sx1) sx0) (b0 + 47) (Int32.toNatClampNeg x7)) : Int32) (ea_wi h (b0 + 53) (Int32.toNatClampNeg sx1) sx0)) := shX12_chargeBy hs67
        exact ((ih 355 ((vX12_chargeBy b0 (x7 : Int32) ((ea_i (ea_wi h (b0 + 53) (Int32.toNatClampNeg sx1) sx0) (b0 + 47) (Int32.toNatClampNeg x7)) : Int32) (ea_wi h (b0 + 53) (Int32.toNatClampNeg sx1) sx0)) : Int32) (x7 : Int32) 0 (x2 : Int32) 0 0 0 0 (x7 : Int32) 0 (wX12_chargeBy b0 (x7 : Int32) ((ea_i (ea_wi h (b0 + 53) (Int32.toNatClampNeg sx1) sx0) (b0 + 47) (Int32.toNatClampNeg x7)) : Int32) (ea_wi h (b0 + 53) (Int32.toNatClampNeg sx1) sx0)) _ _ E hs72).2.2.2.1 rfl)
      · have E := (if_pos c73).symm.trans E
        refine ea_iconst (pc := 338) dX12_post_338 (v := 0) rfl ?_
        refine ea_goto (pc := 339) (tgt := 355) dX12_post_339 rfl ?_
        exact ((ih 355 (0 : Int32) (x7 : Int32) 0 (x2 : Int32) 0 0 0 0 (x7 : Int32) 0 (ea_wi h (b0 + 53) (Int32.toNatClampNeg sx1) sx0) _ _ E hs67).2.2.2.1 rfl)
    refine ⟨?_, ?_⟩
    · intro el
      subst el
      have E := (if_neg (by decide)).symm.trans E
      have E := (if_neg (by decide)).symm.trans E
      have E := (if_neg (by decide)).symm.trans E
      have E := (if_pos rfl).symm.trans E
      obtain ⟨z74, E⟩ := gd_some E
      refine ea_iast (pc := 355) dX12_post_355 (hs.1 48 (by decide)).1 (hs.1 48 (by decide)).2.1 (ea_vpl (hs.1 48 (by decide)).2.2 z74) ?_
      have hs75 : ShM b0 (ea_wi h (b0 + 48) (Int32.toNatClampNeg sx1) sx0) := ShM_wi hs
      refine ea_aload_n (pc := 356) dX12_post_356 rfl 0 rfl ?_
      refine ea_getR (pc := 357) dX12_post_357 ec_12 (k := 75) (Nat.le_of_ble_eq_true rfl) rfl (Or.inl ew_1420) (hs75.1 0 (by decide)).1 (hs75.1 0 (by decide)).2.1 (hs75.2 0 75 rfl) ?_
      refine ea_iload (pc := 360) dX12_post_360 2 rfl ?_
      refine ea_aload_n (pc := 362) dX12_post_362 rfl 0 rfl ?_
      refine ea_getR (pc := 363) dX12_post_363 ec_12 (k := 73) (Nat.le_of_ble_eq_true rfl) rfl (Or.inl ew_1418) (hs75.1 0 (by decide)).1 (hs75.1 0 (by decide)).2.1 (hs75.2 0 73 rfl) ?_
      refine ea_iload (pc := 366) dX12_post_366 2 rfl ?_
      obtain ⟨z76, E⟩ := gd_some E
      refine ea_iald (pc := 368) dX12_post_368 (hs75.1 47 (by decide)).1 (hs75.1 47 (by decide)).2.1 (ea_vpl (hs75.1 47 (by decide)).2.2 z76) ?_
      refine ea_iconst (pc := 369) dX12_post_369 (v := (-1)) rfl ?_
      refine ea_icmp_ne (pc := 370) (tgt := 377) dX12_post_370 rfl (fun c80 => ?_) (fun c80 => ?_)
      · have E := (if_neg c80).symm.trans E
        refine ea_aload_n (pc := 377) dX12_post_377 rfl 0 rfl ?_
        refine ea_iload (pc := 378) dX12_post_378 2 rfl ?_
        refine ea_aload_n (pc := 380) dX12_post_380 rfl 0 rfl ?_
        refine ea_getR (pc := 381) dX12_post_381 ec_12 (k := 73) (Nat.le_of_ble_eq_true rfl) rfl (Or.inl ew_1418) (hs75.1 0 (by decide)).1 (hs75.1 0 (by decide)).2.1 (hs75.2 0 73 rfl) ?_
        refine ea_iload (pc := 384) dX12_post_384 2 rfl ?_
        obtain ⟨z77, E⟩ := gd_some E
        refine ea_iald (pc := 386) dX12_post_386 (hs75.1 47 (by decide)).1 (hs75.1 47 (by decide)).2.1 (ea_vpl (hs75.1 47 (by decide)).2.2 z77) ?_
        obtain ⟨z78, E⟩ := gd_some E
        refine ea_callV (pc := 387) (d' := d - 1) (As := [vI x7, vI (ea_i (ea_wi h (b0 + 48) (Int32.toNatClampNeg sx1) sx0) (b0 + 47) (Int32.toNatClampNeg x7))]) (st := [vI x7, vR (some (b0 + 49))]) dX12_post_387 kX12_lineOf (sX12_lineOf (d := d - 1) (by omega) hs75 z78) (by omega) rfl (Nat.le_of_ble_eq_true rfl) ew_1995 ew_1997 ew_85 (ci := 12) rfl (by decide) (hs75.1 0 (by decide)).1 (hs75.1 0 (by decide)).2.1 ?_
        have hs79 : ShM b0 (wX12_lineOf b0 (x7 : Int32) ((ea_i (ea_wi h (b0 + 48) (Int32.toNatClampNeg sx1) sx0) (b0 + 47) (Int32.toNatClampNeg x7)) : Int32) (ea_wi h (b0 + 48) (Int32.toNatClampNeg sx1) sx0)) := shX12_lineOf hs75
        exact ((ih 390 ((vX12_lineOf b0 (x7 : Int32) ((ea_i (ea_wi h (b0 + 48) (Int32.toNatClampNeg sx1) sx0) (b0 + 47) (Int32.toNatClampNeg x7)) : Int32) (ea_wi h (b0 + 48) (Int32.toNatClampNeg sx1) sx0)) : Int32) (x7 : Int32) 0 (x2 : Int32) 0 0 0 0 (x7 : Int32) 0 (wX12_lineOf b0 (x7 : Int32) ((ea_i (ea_wi h (b0 + 48) (Int32.toNatClampNeg sx1) sx0) (b0 + 47) (Int32.toNatClampNeg x7)) : Int32) (ea_wi h (b0 + 48) (Int32.toNatClampNeg sx1) sx0)) _ _ E hs79).2.2.2.2 rfl)
      · have E := (if_pos c80).symm.trans E
        refine ea_iconst (pc := 373) dX12_post_373 (v := (-1)) rfl ?_
        refine ea_goto (pc := 374) (tgt := 390) dX12_post_374 rfl ?_
        exact ((ih 390 ((-1) : Int32) (x7 : Int32) 0 (x2 : Int32) 0 0 0 0 (x7 : Int32) 0 (ea_wi h (b0 + 48) (Int32.toNatClampNeg sx1) sx0) _ _ E hs75).2.2.2.2 rfl)
    intro el
    subst el
    have E := (if_neg (by decide)).symm.trans E
    have E := (if_neg (by decide)).symm.trans E
    have E := (if_neg (by decide)).symm.trans E
    have E := (if_neg (by decide)).symm.trans E
    have E := (if_pos rfl).symm.trans E
    obtain ⟨z81, E⟩ := gd_some E
    refine ea_iast (pc := 390) dX12_post_390 (hs.1 49 (by decide)).1 (hs.1 49 (by decide)).2.1 (ea_vpl (hs.1 49 (by decide)).2.2 z81) ?_
    have hs82 : ShM b0 (ea_wi h (b0 + 49) (Int32.toNatClampNeg sx1) sx0) := ShM_wi hs
    refine ea_aload_n (pc := 391) dX12_post_391 rfl 0 rfl ?_
    refine ea_getR (pc := 392) dX12_post_392 ec_12 (k := 83) (Nat.le_of_ble_eq_true rfl) rfl (Or.inl ew_1428) (hs82.1 0 (by decide)).1 (hs82.1 0 (by decide)).2.1 (hs82.2 0 83 rfl) ?_
    refine ea_iload (pc := 395) dX12_post_395 2 rfl ?_
    refine ea_iconst (pc := 397) dX12_post_397 (v := (-1)) rfl ?_
    obtain ⟨z83, E⟩ := gd_some E
    refine ea_iast (pc := 398) dX12_post_398 (hs82.1 57 (by decide)).1 (hs82.1 57 (by decide)).2.1 (ea_vpl (hs82.1 57 (by decide)).2.2 z83) ?_
    have hs84 : ShM b0 (ea_wi (ea_wi h (b0 + 49) (Int32.toNatClampNeg sx1) sx0) (b0 + 57) (Int32.toNatClampNeg x7) (-1)) := ShM_wi hs82
    refine ea_aload_n (pc := 399) dX12_post_399 rfl 0 rfl ?_
    refine ea_iload (pc := 400) dX12_post_400 2 rfl ?_
    refine ea_aload_n (pc := 402) dX12_post_402 rfl 0 rfl ?_
    refine ea_getI (pc := 403) dX12_post_403 ec_12 (k := 0) (Nat.le_of_ble_eq_true rfl) rfl (Or.inl ew_1345) (hs84.1 0 (by decide)).1 (hs84.1 0 (by decide)).2.1 ?_
    refine ea_iconst (pc := 406) dX12_post_406 (v := 0) rfl ?_
    refine ea_iload_n (pc := 407) dX12_post_407 rfl 1 rfl ?_
    obtain ⟨z85, E⟩ := gd_some E
    refine ea_callV (pc := 408) (d' := d - 1) (As := [vI x7, vI (ea_i (ea_wi (ea_wi h (b0 + 49) (Int32.toNatClampNeg sx1) sx0) (b0 + 57) (Int32.toNatClampNeg x7) (-1)) (b0 + 0) 0), vI 0, vI x2]) (st := []) dX12_post_408 kX12_turns (sX12_turns (d := d - 1) (by omega) hs84 z85) (by omega) rfl (Nat.le_of_ble_eq_true rfl) ew_2011 ew_2013 ew_88 (ci := 12) rfl (by decide) (hs84.1 0 (by decide)).1 (hs84.1 0 (by decide)).2.1 ?_
    have hs86 : ShM b0 (wX12_turns b0 (x7 : Int32) ((ea_i (ea_wi (ea_wi h (b0 + 49) (Int32.toNatClampNeg sx1) sx0) (b0 + 57) (Int32.toNatClampNeg x7) (-1)) (b0 + 0) 0) : Int32) (0 : Int32) (x2 : Int32) (ea_wi (ea_wi h (b0 + 49) (Int32.toNatClampNeg sx1) sx0) (b0 + 57) (Int32.toNatClampNeg x7) (-1))) := shX12_turns hs84
    refine ea_iload (pc := 411) dX12_post_411 2 rfl ?_
    cases E
    exact ea_ireturn (pc := 413) dX12_post_413 rfl rfl
noncomputable def qX12_post (b0 : Nat) (x1 : Int32) (x2 : Int32) (x3 : Int32) (x4 : Int32) (x5 : Int32) (x6 : Int32) (h : ea_H) : Option (Int32 × ea_H) := gX12_post b0 1000000000 0 0 0 x1 x2 x3 x4 x5 x6 0 0 h
def okX12_post (b0 : Nat) (x1 : Int32) (x2 : Int32) (x3 : Int32) (x4 : Int32) (x5 : Int32) (x6 : Int32) (h : ea_H) : Prop := ∃ x, qX12_post b0 x1 x2 x3 x4 x5 x6 h = some x
noncomputable def vX12_post (b0 : Nat) (x1 : Int32) (x2 : Int32) (x3 : Int32) (x4 : Int32) (x5 : Int32) (x6 : Int32) (h : ea_H) : Int32 := ((qX12_post b0 x1 x2 x3 x4 x5 x6 h).getD (0, h)).1
noncomputable def wX12_post (b0 : Nat) (x1 : Int32) (x2 : Int32) (x3 : Int32) (x4 : Int32) (x5 : Int32) (x6 : Int32) (h : ea_H) : ea_H := ((qX12_post b0 x1 x2 x3 x4 x5 x6 h).getD (0, h)).2
theorem sX12_post {d : Nat} {b0 : Nat} {x1 : Int32} {x2 : Int32} {x3 : Int32} {x4 : Int32} {x5 : Int32} {x6 : Int32} {h : ea_H} (hd : 5 ≤ d) (hs : ShM b0 h) (K : okX12_post b0 x1 x2 x3 x4 x5 x6 h) : ea_Met mX12_post d [vR (some (b0 + 0)), vI x1, vI x2, vI x3, vI x4, vI x5, vI x6] h (some (vI (vX12_post b0 x1 x2 x3 x4 x5 x6 h))) (wX12_post b0 x1 x2 x3 x4 x5 x6 h) := by
  obtain ⟨⟨x, y⟩, K⟩ := K
  unfold wX12_post vX12_post
  rw [K]
  unfold qX12_post at K
  exact ea_enter rfl (Nat.le_of_ble_eq_true rfl) ((tX12_post hd 1000000000 0 0 0 x1 x2 x3 x4 x5 x6 0 0 h x y K hs).1 rfl)
theorem zX12_post {b0 : Nat} : ∀ (f lbl : Nat) (sx0 : Int32) (sx1 : Int32) (x1 : Int32) (x2 : Int32) (x3 : Int32) (x4 : Int32) (x5 : Int32) (x6 : Int32) (x7 : Int32) (x8 : Int32) (h : ea_H) (r : Int32) (h' : ea_H), gX12_post b0 f lbl sx0 sx1 x1 x2 x3 x4 x5 x6 x7 x8 h = some (r, h') → ShM b0 h → ShM b0 h' := by
  intro f
  induction f with
  | zero => intro lbl sx0 sx1 x1 x2 x3 x4 x5 x6 x7 x8 h r h' E; cases E
  | succ f ih =>
    intro lbl sx0 sx1 x1 x2 x3 x4 x5 x6 x7 x8 h r h' E hs
    unfold gX12_post at E
    by_cases el0 : lbl = 0
    · have E := (if_pos el0).symm.trans E
      by_cases c40 : (vX12_isIn (x1 : Int32) (0 : Int32) (4 : Int32) h) = (0 : Int32)
      · have E := (if_pos c40).symm.trans E
        cases E
        exact hs
      have E := (if_neg c40).symm.trans E
      by_cases c39 : (vX12_isTown b0 (x2 : Int32) h) = (0 : Int32)
      · have E := (if_pos c39).symm.trans E
        cases E
        exact hs
      have E := (if_neg c39).symm.trans E
      by_cases c38 : (vX12_isTown b0 (x3 : Int32) h) = (0 : Int32)
      · have E := (if_pos c38).symm.trans E
        cases E
        exact hs
      have E := (if_neg c38).symm.trans E
      by_cases c37 : x2 = x3
      · have E := (if_pos c37).symm.trans E
        cases E
        exact hs
      have E := (if_neg c37).symm.trans E
      by_cases c36 : (vX12_isIn (x4 : Int32) (1 : Int32) (9 : Int32) h) = (0 : Int32)
      · have E := (if_pos c36).symm.trans E
        cases E
        exact hs
      have E := (if_neg c36).symm.trans E
      by_cases c35 : (vX12_isIn (x5 : Int32) (0 : Int32) (99 : Int32) h) = (0 : Int32)
      · have E := (if_pos c35).symm.trans E
        cases E
        exact hs
      have E := (if_neg c35).symm.trans E
      by_cases c34 : (vX12_isIn (x6 : Int32) (0 : Int32) (9 : Int32) h) = (0 : Int32)
      · have E := (if_pos c34).symm.trans E
        cases E
        exact hs
      have E := (if_neg c34).symm.trans E
      by_cases c33 : (ea_i h (b0 + 0) 63) = (120 : Int32)
      · have E := (if_pos c33).symm.trans E
        cases E
        exact hs
      have E := (if_neg c33).symm.trans E
      obtain ⟨z8, E⟩ := gd_some E
      obtain ⟨z10, E⟩ := gd_some E
      obtain ⟨z12, E⟩ := gd_some E
      obtain ⟨z14, E⟩ := gd_some E
      obtain ⟨z16, E⟩ := gd_some E
      obtain ⟨z18, E⟩ := gd_some E
      obtain ⟨z20, E⟩ := gd_some E
      obtain ⟨z22, E⟩ := gd_some E
      obtain ⟨z24, E⟩ := gd_some E
      obtain ⟨z26, E⟩ := gd_some E
      obtain ⟨z28, E⟩ := gd_some E
      obtain ⟨z30, E⟩ := gd_some E
      obtain ⟨z31, E⟩ := gd_some E
      exact ih 190 0 0 0 (x2 : Int32) 0 0 0 (x6 : Int32) ((ea_i h (b0 + 0) 63) : Int32) (0 : Int32) (ea_wi (ea_wi (wX12_isCross b0 (x2 : Int32) (x3 : Int32) (ea_wi (wX12_milesOf b0 (x2 : Int32) (x3 : Int32) (0 : Int32) (ea_wi (ea_wi (ea_wi (ea_wi (ea_wi (ea_wi (ea_wi (ea_wi h (b0 + 0) 63 ((ea_i h (b0 + 0) 63) + (1 : Int32))) (b0 + 38) (Int32.toNatClampNeg (ea_i h (b0 + 0) 63)) x1) (b0 + 39) (Int32.toNatClampNeg (ea_i h (b0 + 0) 63)) x2) (b0 + 40) (Int32.toNatClampNeg (ea_i h (b0 + 0) 63)) x3) (b0 + 41) (Int32.toNatClampNeg (ea_i h (b0 + 0) 63)) x4) (b0 + 42) (Int32.toNatClampNeg (ea_i h (b0 + 0) 63)) x5) (b0 + 43) (Int32.toNatClampNeg (ea_i h (b0 + 0) 63)) x6) (b0 + 44) (Int32.toNatClampNeg (ea_i h (b0 + 0) 63)) (ea_i (ea_wi (ea_wi (ea_wi (ea_wi (ea_wi (ea_wi (ea_wi h (b0 + 0) 63 ((ea_i h (b0 + 0) 63) + (1 : Int32))) (b0 + 38) (Int32.toNatClampNeg (ea_i h (b0 + 0) 63)) x1) (b0 + 39) (Int32.toNatClampNeg (ea_i h (b0 + 0) 63)) x2) (b0 + 40) (Int32.toNatClampNeg (ea_i h (b0 + 0) 63)) x3) (b0 + 41) (Int32.toNatClampNeg (ea_i h (b0 + 0) 63)) x4) (b0 + 42) (Int32.toNatClampNeg (ea_i h (b0 + 0) 63)) x5) (b0 + 43) (Int32.toNatClampNeg (ea_i h (b0 + 0) 63)) x6) (b0 + 0) 0))) (b0 + 45) (Int32.toNatClampNeg (ea_i h (b0 + 0) 63)) (vX12_milesOf b0 (x2 : Int32) (x3 : Int32) (0 : Int32) (ea_wi (ea_wi (ea_wi (ea_wi (ea_wi (ea_wi (ea_wi (ea_wi h (b0 + 0) 63 ((ea_i h (b0 + 0) 63) + (1 : Int32))) (b0 + 38) (Int32.toNatClampNeg (ea_i h (b0 + 0) 63)) x1) (b0 + 39) (Int32.toNatClampNeg (ea_i h (b0 + 0) 63)) x2) (b0 + 40) (Int32.toNatClampNeg (ea_i h (b0 + 0) 63)) x3) (b0 + 41) (Int32.toNatClampNeg (ea_i h (b0 + 0) 63)) x4) (b0 + 42) (Int32.toNatClampNeg (ea_i h (b0 + 0) 63)) x5) (b0 + 43) (Int32.toNatClampNeg (ea_i h (b0 + 0) 63)) x6) (b0 + 44) (Int32.toNatClampNeg (ea_i h (b0 + 0) 63)) (ea_i (ea_wi (ea_wi (ea_wi (ea_wi (ea_wi (ea_wi (ea_wi h (b0 + 0) 63 ((ea_i h (b0 + 0) 63) + (1 : Int32))) (b0 + 38) (Int32.toNatClampNeg (ea_i h (b0 + 0) 63)) x1) (b0 + 39) (Int32.toNatClampNeg (ea_i h (b0 + 0) 63)) x2) (b0 + 40) (Int32.toNatClampNeg (ea_i h (b0 + 0) 63)) x3) (b0 + 41) (Int32.toNatClampNeg (ea_i h (b0 + 0) 63)) x4) (b0 + 42) (Int32.toNatClampNeg (ea_i h (b0 + 0) 63)) x5) (b0 + 43) (Int32.toNatClampNeg (ea_i h (b0 + 0) 63)) x6) (b0 + 0) 0))))) (b0 + 52) (Int32.toNatClampNeg (ea_i h (b0 + 0) 63)) (vX12_isCross b0 (x2 : Int32) (x3 : Int32) (ea_wi (wX12_milesOf b0 (x2 : Int32) (x3 : Int32) (0 : Int32) (ea_wi (ea_wi (ea_wi (ea_wi (ea_wi (ea_wi (ea_wi (ea_wi h (b0 + 0) 63 ((ea_i h (b0 + 0) 63) + (1 : Int32))) (b0 + 38) (Int32.toNatClampNeg (ea_i h (b0 + 0) 63)) x1) (b0 + 39) (Int32.toNatClampNeg (ea_i h (b0 + 0) 63)) x2) (b0 + 40) (Int32.toNatClampNeg (ea_i h (b0 + 0) 63)) x3) (b0 + 41) (Int32.toNatClampNeg (ea_i h (b0 + 0) 63)) x4) (b0 + 42) (Int32.toNatClampNeg (ea_i h (b0 + 0) 63)) x5) (b0 + 43) (Int32.toNatClampNeg (ea_i h (b0 + 0) 63)) x6) (b0 + 44) (Int32.toNatClampNeg (ea_i h (b0 + 0) 63)) (ea_i (ea_wi (ea_wi (ea_wi (ea_wi (ea_wi (ea_wi (ea_wi h (b0 + 0) 63 ((ea_i h (b0 + 0) 63) + (1 : Int32))) (b0 + 38) (Int32.toNatClampNeg (ea_i h (b0 + 0) 63)) x1) (b0 + 39) (Int32.toNatClampNeg (ea_i h (b0 + 0) 63)) x2) (b0 + 40) (Int32.toNatClampNeg (ea_i h (b0 + 0) 63)) x3) (b0 + 41) (Int32.toNatClampNeg (ea_i h (b0 + 0) 63)) x4) (b0 + 42) (Int32.toNatClampNeg (ea_i h (b0 + 0) 63)) x5) (b0 + 43) (Int32.toNatClampNeg (ea_i h (b0 + 0) 63)) x6) (b0 + 0) 0))) (b0 + 45) (Int32.toNatClampNeg (ea_i h (b0 + 0) 63)) (vX12_milesOf b0 (x2 : Int32) (x3 : Int32) (0 : Int32) (ea_wi (ea_wi (ea_wi (ea_wi (ea_wi (ea_wi (ea_wi (ea_wi h (b0 + 0) 63 ((ea_i h (b0 + 0) 63) + (1 : Int32))) (b0 + 38) (Int32.toNatClampNeg (ea_i h (b0 + 0) 63)) x1) (b0 + 39) (Int32.toNatClampNeg (ea_i h (b0 + 0) 63)) x2) (b0 + 40) (Int32.toNatClampNeg (ea_i h (b0 + 0) 63)) x3) (b0 + 41) (Int32.toNatClampNeg (ea_i h (b0 + 0) 63)) x4) (b0 + 42) (Int32.toNatClampNeg (ea_i h (b0 + 0) 63)) x5) (b0 + 43) (Int32.toNatClampNeg (ea_i h (b0 + 0) 63)) x6) (b0 + 44) (Int32.toNatClampNeg (ea_i h (b0 + 0) 63)) (ea_i (ea_wi (ea_wi (ea_wi (ea_wi (ea_wi (ea_wi (ea_wi h (b0 + 0) 63 ((ea_i h (b0 + 0) 63) + (1 : Int32))) (b0 + 38) (Int32.toNatClampNeg (ea_i h (b0 + 0) 63)) x1) (b0 + 39) (Int32.toNatClampNeg (ea_i h (b0 + 0) 63)) x2) (b0 + 40) (Int32.toNatClampNeg (ea_i h (b0 + 0) 63)) x3) (b0 + 41) (Int32.toNatClampNeg (ea_i h (b0 + 0) 63)) x4) (b0 + 42) (Int32.toNatClampNeg (ea_i h (b0 + 0) 63)) x5) (b0 + 43) (Int32.toNatClampNeg (ea_i h (b0 + 0) 63)) x6) (b0 + 0) 0)))))) (b0 + 46) (Int32.toNatClampNeg (ea_i h (b0 + 0) 63)) 0) _ _ E (ShM_wi (ShM_wi (shX12_isCross (ShM_wi (shX12_milesOf (ShM_wi (ShM_wi (ShM_wi (ShM_wi (ShM_wi (ShM_wi (ShM_wi (ShM_wi hs)))))))))))))
    have E := (if_neg el0).symm.trans E
    by_cases el1 : lbl = 190
    · have E := (if_pos el1).symm.trans E
      by_cases c65 : x7 < x8
      · have E := (if_pos c65).symm.trans E
        obtain ⟨z41, E⟩ := gd_some E
        obtain ⟨z43, E⟩ := gd_some E
        obtain ⟨z45, E⟩ := gd_some E
        by_cases c49 : (ea_i (ea_wi (wX12_actOn b0 (((ea_i h (b0 + 0) 0) / (1440 : Int32)) : Int32) h) (b0 + 47) (Int32.toNatClampNeg x7) (vX12_actOn b0 (((ea_i h (b0 + 0) 0) / (1440 : Int32)) : Int32) h)) (b0 + 47) (Int32.toNatClampNeg x7)) = ((-1) : Int32)
        · have E := (if_pos c49).symm.trans E
          exact ih 320 (0 : Int32) (x7 : Int32) 0 (x2 : Int32) 0 0 0 0 (x7 : Int32) 0 (ea_wi (wX12_actOn b0 (((ea_i h (b0 + 0) 0) / (1440 : Int32)) : Int32) h) (b0 + 47) (Int32.toNatClampNeg x7) (vX12_actOn b0 (((ea_i h (b0 + 0) 0) / (1440 : Int32)) : Int32) h)) _ _ E (ShM_wi (shX12_actOn hs))
        have E := (if_neg c49).symm.trans E
        obtain ⟨z46, E⟩ := gd_some E
        obtain ⟨z47, E⟩ := gd_some E
        by_cases c48 : (vX12_isFree b0 (x7 : Int32) ((ea_i (ea_wi (wX12_actOn b0 (((ea_i h (b0 + 0) 0) / (1440 : Int32)) : Int32) h) (b0 + 47) (Int32.toNatClampNeg x7) (vX12_actOn b0 (((ea_i h (b0 + 0) 0) / (1440 : Int32)) : Int32) h)) (b0 + 47) (Int32.toNatClampNeg x7)) : Int32) (ea_wi (wX12_actOn b0 (((ea_i h (b0 + 0) 0) / (1440 : Int32)) : Int32) h) (b0 + 47) (Int32.toNatClampNeg x7) (vX12_actOn b0 (((ea_i h (b0 + 0) 0) / (1440 : Int32)) : Int32) h))) = (0 : Int32)
        · have E := (if_pos c48).symm.trans E
          exact ih 320 (0 : Int32) (x7 : Int32) 0 (x2 : Int32) 0 0 0 0 (x7 : Int32) 0 (ea_wi (wX12_actOn b0 (((ea_i h (b0 + 0) 0) / (1440 : Int32)) : Int32) h) (b0 + 47) (Int32.toNatClampNeg x7) (vX12_actOn b0 (((ea_i h (b0 + 0) 0) / (1440 : Int32)) : Int32) h)) _ _ E (ShM_wi (shX12_actOn hs))
        have E := (if_neg c48).symm.trans E
        exact ih 320 (1 : Int32) (x7 : Int32) 0 (x2 : Int32) 0 0 0 0 (x7 : Int32) 0 (ea_wi (wX12_actOn b0 (((ea_i h (b0 + 0) 0) / (1440 : Int32)) : Int32) h) (b0 + 47) (Int32.toNatClampNeg x7) (vX12_actOn b0 (((ea_i h (b0 + 0) 0) / (1440 : Int32)) : Int32) h)) _ _ E (ShM_wi (shX12_actOn hs))
      have E := (if_neg c65).symm.trans E
      obtain ⟨z50, E⟩ := gd_some E
      obtain ⟨z51, E⟩ := gd_some E
      by_cases c64 : (ea_i h (b0 + 38) (Int32.toNatClampNeg x8)) = (2 : Int32)
      · have E := (if_pos c64).symm.trans E
        obtain ⟨z54, E⟩ := gd_some E
        by_cases c63 : (ea_i h (b0 + 43) (Int32.toNatClampNeg x8)) = x6
        · have E := (if_pos c63).symm.trans E
          obtain ⟨z57, E⟩ := gd_some E
          by_cases c62 : ((ea_i h (b0 + 44) (Int32.toNatClampNeg x8)) / (1440 : Int32)) = ((ea_i h (b0 + 0) 0) / (1440 : Int32))
          · have E := (if_pos c62).symm.trans E
            obtain ⟨z60, E⟩ := gd_some E
            exact ih 190 0 0 0 (x2 : Int32) 0 0 0 (x6 : Int32) (x7 : Int32) ((x8 + (1 : Int32)) : Int32) (ea_wi h (b0 + 46) (Int32.toNatClampNeg x7) ((ea_i h (b0 + 46) (Int32.toNatClampNeg x7)) + (1 : Int32))) _ _ E (ShM_wi hs)
          have E := (if_neg c62).symm.trans E
          obtain ⟨z58, E⟩ := gd_some E
          exact ih 190 0 0 0 (x2 : Int32) 0 0 0 (x6 : Int32) (x7 : Int32) ((x8 + (1 : Int32)) : Int32) (ea_wi h (b0 + 46) (Int32.toNatClampNeg x7) ((ea_i h (b0 + 46) (Int32.toNatClampNeg x7)) + (0 : Int32))) _ _ E (ShM_wi hs)
        have E := (if_neg c63).symm.trans E
        obtain ⟨z55, E⟩ := gd_some E
        exact ih 190 0 0 0 (x2 : Int32) 0 0 0 (x6 : Int32) (x7 : Int32) ((x8 + (1 : Int32)) : Int32) (ea_wi h (b0 + 46) (Int32.toNatClampNeg x7) ((ea_i h (b0 + 46) (Int32.toNatClampNeg x7)) + (0 : Int32))) _ _ E (ShM_wi hs)
      have E := (if_neg c64).symm.trans E
      obtain ⟨z52, E⟩ := gd_some E
      exact ih 190 0 0 0 (x2 : Int32) 0 0 0 (x6 : Int32) (x7 : Int32) ((x8 + (1 : Int32)) : Int32) (ea_wi h (b0 + 46) (Int32.toNatClampNeg x7) ((ea_i h (b0 + 46) (Int32.toNatClampNeg x7)) + (0 : Int32))) _ _ E (ShM_wi hs)
    have E := (if_neg el1).symm.trans E
    by_cases el2 : lbl = 320
    · have E := (if_pos el2).symm.trans E
      obtain ⟨z66, E⟩ := gd_some E
      obtain ⟨z68, E⟩ := gd_some E
      obtain ⟨z69, E⟩ := gd_some E
      by_cases c73 : (ea_i (ea_wi h (b0 + 53) (Int32.toNatClampNeg sx1) sx0) (b0 + 47) (Int32.toNatClampNeg x7)) = ((-1) : Int32)
      · have E := (if_pos c73).symm.trans E
        exact ih 355 (0 : Int32) (x7 : Int32) 0 (x2 : Int32) 0 0 0 0 (x7 : Int32) 0 (ea_wi h (b0 + 53) (Int32.toNatClampNeg sx1) sx0) _ _ E (ShM_wi hs)
      have E := (if_neg c73).symm.trans E
      obtain ⟨z70, E⟩ := gd_some E
      obtain ⟨z71, E⟩ := gd_some E
      exact ih 355 ((vX12_chargeBy b0 (x7 : Int32) ((ea_i (ea_wi h (b0 + 53) (Int32.toNatClampNeg sx1) sx0) (b0 + 47) (Int32.toNatClampNeg x7)) : Int32) (ea_wi h (b0 + 53) (Int32.toNatClampNeg sx1) sx0)) : Int32) (x7 : Int32) 0 (x2 : Int32) 0 0 0 0 (x7 : Int32) 0 (wX12_chargeBy b0 (x7 : Int32) ((ea_i (ea_wi h (b0 + 53) (Int32.toNatClampNeg sx1) sx0) (b0 + 47) (Int32.toNatClampNeg x7)) : Int32) (ea_wi h (b0 + 53) (Int32.toNatClampNeg sx1) sx0)) _ _ E (shX12_chargeBy (ShM_wi hs))
    have E := (if_neg el2).symm.trans E
    by_cases el3 : lbl = 355
    · have E := (if_pos el3).symm.trans E
      obtain ⟨z74, E⟩ := gd_some E
      obtain ⟨z76, E⟩ := gd_some E
      by_cases c80 : (ea_i (ea_wi h (b0 + 48) (Int32.toNatClampNeg sx1) sx0) (b0 + 47) (Int32.toNatClampNeg x7)) = ((-1) : Int32)
      · have E := (if_pos c80).symm.trans E
        exact ih 390 ((-1) : Int32) (x7 : Int32) 0 (x2 : Int32) 0 0 0 0 (x7 : Int32) 0 (ea_wi h (b0 + 48) (Int32.toNatClampNeg sx1) sx0) _ _ E (ShM_wi hs)
      have E := (if_neg c80).symm.trans E
      obtain ⟨z77, E⟩ := gd_some E
      obtain ⟨z78, E⟩ := gd_some E
      exact ih 390 ((vX12_lineOf b0 (x7 : Int32) ((ea_i (ea_wi h (b0 + 48) (Int32.toNatClampNeg sx1) sx0) (b0 + 47) (Int32.toNatClampNeg x7)) : Int32) (ea_wi h (b0 + 48) (Int32.toNatClampNeg sx1) sx0)) : Int32) (x7 : Int32) 0 (x2 : Int32) 0 0 0 0 (x7 : Int32) 0 (wX12_lineOf b0 (x7 : Int32) ((ea_i (ea_wi h (b0 + 48) (Int32.toNatClampNeg sx1) sx0) (b0 + 47) (Int32.toNatClampNeg x7)) : Int32) (ea_wi h (b0 + 48) (Int32.toNatClampNeg sx1) sx0)) _ _ E (shX12_lineOf (ShM_wi hs))
    have E := (if_neg el3).symm.trans E
    by_cases el4 : lbl = 390
    · have E := (if_pos el4).symm.trans E
      obtain ⟨z81, E⟩ := gd_some E
      obtain ⟨z83, E⟩ := gd_some E
      obtain ⟨z85, E⟩ := gd_some E
      cases E
      exact (shX12_turns (ShM_wi (ShM_wi hs)))
    have E := (if_neg el4).symm.trans E
    cases E
theorem shX12_post {b0 : Nat} {x1 : Int32} {x2 : Int32} {x3 : Int32} {x4 : Int32} {x5 : Int32} {x6 : Int32} {h : ea_H} (hs : ShM b0 h) : ShM b0 (wX12_post b0 x1 x2 x3 x4 x5 x6 h) := by
  unfold wX12_post
  cases K : qX12_post b0 x1 x2 x3 x4 x5 x6 h with
  | none => exact hs
  | some x => obtain ⟨x, y⟩ := x; unfold qX12_post at K; exact zX12_post _ _ _ _ _ _ _ _ _ _ _ _ _ _ _ K hs
noncomputable def vX12_isOwed (b0 : Nat) (x1 : Int32) (h : ea_H) : Int32 := (if (ea_i h (b0 + 38) (Int32.toNatClampNeg x1)) = (0 : Int32) then (1 : Int32) else (if (ea_i h (b0 + 38) (Int32.toNatClampNeg x1)) = (3 : Int32) then (1 : Int32) else (0 : Int32)))
def okX12_isOwed (b0 : Nat) (x1 : Int32) (h : ea_H) : Prop := vp_in x1 120 ∧ (((ea_i h (b0 + 38) (Int32.toNatClampNeg x1)) = (0 : Int32) → True) ∧ (¬ (ea_i h (b0 + 38) (Int32.toNatClampNeg x1)) = (0 : Int32) → vp_in x1 120))
theorem bo_vX12_isOwed (b0 : Nat) (x1 : Int32) (h : ea_H) : vX12_isOwed b0 x1 h = 0 ∨ vX12_isOwed b0 x1 h = 1 := (ea_itB (Or.inr rfl) (ea_itB (Or.inr rfl) (Or.inl rfl)))
theorem sX12_isOwed {d : Nat} {b0 : Nat} {x1 : Int32} {h : ea_H} (hd : 1 ≤ d) (hs : ShM b0 h) (K : okX12_isOwed b0 x1 h) : ea_Met mX12_isOwed d [vR (some (b0 + 0)), vI x1] h (some (vI (vX12_isOwed b0 x1 h))) h := by
  obtain ⟨X, EX⟩ : ∃ z, z = vX12_isOwed b0 x1 h := ⟨_, rfl⟩
  rw [← EX]
  unfold vX12_isOwed at EX
  unfold okX12_isOwed at K
  refine ea_enter rfl (Nat.le_of_ble_eq_true rfl) ?_
  refine ea_aload_n (pc := 0) dX12_isOwed_0 rfl 0 rfl ?_
  refine ea_getR (pc := 1) dX12_isOwed_1 ec_12 (k := 64) (Nat.le_of_ble_eq_true rfl) rfl (Or.inl ew_1409) (hs.1 0 (by decide)).1 (hs.1 0 (by decide)).2.1 (hs.2 0 64 rfl) ?_
  refine ea_iload_n (pc := 4) dX12_isOwed_4 rfl 1 rfl ?_
  obtain ⟨z1, K⟩ := K
  refine ea_iald (pc := 5) dX12_isOwed_5 (hs.1 38 (by decide)).1 (hs.1 38 (by decide)).2.1 (ea_vpl (hs.1 38 (by decide)).2.2 z1) ?_
  refine ea_if_eq (pc := 6) (tgt := 19) dX12_isOwed_6 rfl (fun c4 => ?_) (fun c4 => ?_)
  · have EX := EX.trans (if_pos c4)
    refine ea_iconst (pc := 19) dX12_isOwed_19 (v := 1) rfl ?_
    refine ea_goto (pc := 20) (tgt := 24) dX12_isOwed_20 rfl ?_
    subst EX
    exact ea_ireturn (pc := 24) dX12_isOwed_24 rfl (ea_bn (Or.inr rfl))
  · have EX := EX.trans (if_neg c4)
    have K := K.2 c4
    refine ea_aload_n (pc := 9) dX12_isOwed_9 rfl 0 rfl ?_
    refine ea_getR (pc := 10) dX12_isOwed_10 ec_12 (k := 64) (Nat.le_of_ble_eq_true rfl) rfl (Or.inl ew_1409) (hs.1 0 (by decide)).1 (hs.1 0 (by decide)).2.1 (hs.2 0 64 rfl) ?_
    refine ea_iload_n (pc := 13) dX12_isOwed_13 rfl 1 rfl ?_
    have z2 := K
    refine ea_iald (pc := 14) dX12_isOwed_14 (hs.1 38 (by decide)).1 (hs.1 38 (by decide)).2.1 (ea_vpl (hs.1 38 (by decide)).2.2 z2) ?_
    refine ea_iconst (pc := 15) dX12_isOwed_15 (v := 3) rfl ?_
    refine ea_icmp_ne (pc := 16) (tgt := 23) dX12_isOwed_16 rfl (fun c3 => ?_) (fun c3 => ?_)
    · have EX := EX.trans (if_neg c3)
      refine ea_iconst (pc := 23) dX12_isOwed_23 (v := 0) rfl ?_
      subst EX
      exact ea_ireturn (pc := 24) dX12_isOwed_24 rfl (ea_bn (Or.inl rfl))
    · have EX := EX.trans (if_pos c3)
      refine ea_iconst (pc := 19) dX12_isOwed_19 (v := 1) rfl ?_
      refine ea_goto (pc := 20) (tgt := 24) dX12_isOwed_20 rfl ?_
      subst EX
      exact ea_ireturn (pc := 24) dX12_isOwed_24 rfl (ea_bn (Or.inr rfl))
noncomputable def vX12_owed (b0 : Nat) (x1 : Int32) (h : ea_H) : Int32 := (if (vX12_isOwed b0 (x1 : Int32) h) = (0 : Int32) then (0 : Int32) else (ea_i h (b0 + 48) (Int32.toNatClampNeg x1)))
def okX12_owed (b0 : Nat) (x1 : Int32) (h : ea_H) : Prop := (okX12_isOwed b0 (x1 : Int32) h) ∧ (((vX12_isOwed b0 (x1 : Int32) h) = (0 : Int32) → True) ∧ (¬ (vX12_isOwed b0 (x1 : Int32) h) = (0 : Int32) → vp_in x1 120))
theorem sX12_owed {d : Nat} {b0 : Nat} {x1 : Int32} {h : ea_H} (hd : 2 ≤ d) (hs : ShM b0 h) (K : okX12_owed b0 x1 h) : ea_Met mX12_owed d [vR (some (b0 + 0)), vI x1] h (some (vI (vX12_owed b0 x1 h))) h := by
  obtain ⟨X, EX⟩ : ∃ z, z = vX12_owed b0 x1 h := ⟨_, rfl⟩
  rw [← EX]
  unfold vX12_owed at EX
  unfold okX12_owed at K
  refine ea_enter rfl (Nat.le_of_ble_eq_true rfl) ?_
  refine ea_aload_n (pc := 0) dX12_owed_0 rfl 0 rfl ?_
  refine ea_iload_n (pc := 1) dX12_owed_1 rfl 1 rfl ?_
  obtain ⟨z1, K⟩ := K
  refine ea_callV (pc := 2) (d' := d - 1) (As := [vI x1]) (st := []) dX12_owed_2 kX12_isOwed (sX12_isOwed (d := d - 1) (by omega) hs z1) (by omega) rfl (Nat.le_of_ble_eq_true rfl) ew_2031 ew_2033 ew_91 (ci := 12) rfl (by decide) (hs.1 0 (by decide)).1 (hs.1 0 (by decide)).2.1 ?_
  refine ea_if_eq (pc := 5) (tgt := 17) dX12_owed_5 rfl (fun c3 => ?_) (fun c3 => ?_)
  · have EX := EX.trans (if_pos c3)
    refine ea_iconst (pc := 17) dX12_owed_17 (v := 0) rfl ?_
    subst EX
    exact ea_ireturn (pc := 18) dX12_owed_18 rfl rfl
  · have EX := EX.trans (if_neg c3)
    have K := K.2 c3
    refine ea_aload_n (pc := 8) dX12_owed_8 rfl 0 rfl ?_
    refine ea_getR (pc := 9) dX12_owed_9 ec_12 (k := 74) (Nat.le_of_ble_eq_true rfl) rfl (Or.inl ew_1419) (hs.1 0 (by decide)).1 (hs.1 0 (by decide)).2.1 (hs.2 0 74 rfl) ?_
    refine ea_iload_n (pc := 12) dX12_owed_12 rfl 1 rfl ?_
    have z2 := K
    refine ea_iald (pc := 13) dX12_owed_13 (hs.1 48 (by decide)).1 (hs.1 48 (by decide)).2.1 (ea_vpl (hs.1 48 (by decide)).2.2 z2) ?_
    refine ea_goto (pc := 14) (tgt := 18) dX12_owed_14 rfl ?_
    subst EX
    exact ea_ireturn (pc := 18) dX12_owed_18 rfl rfl
noncomputable def vX12_of (b0 : Nat) (x1 : Int32) (x2 : Int32) (h : ea_H) : Int32 := (if (vX12_isLetterOf b0 (x1 : Int32) h) = (0 : Int32) then ((-1) : Int32) else (if Int32.toInt x2 = 0 then (ea_i h (b0 + 38) (Int32.toNatClampNeg x1)) else (if Int32.toInt x2 = 1 then (ea_i h (b0 + 39) (Int32.toNatClampNeg x1)) else (if Int32.toInt x2 = 2 then (ea_i h (b0 + 40) (Int32.toNatClampNeg x1)) else (if Int32.toInt x2 = 3 then (ea_i h (b0 + 41) (Int32.toNatClampNeg x1)) else (if Int32.toInt x2 = 4 then (ea_i h (b0 + 42) (Int32.toNatClampNeg x1)) else (if Int32.toInt x2 = 5 then (ea_i h (b0 + 43) (Int32.toNatClampNeg x1)) else (if Int32.toInt x2 = 6 then (ea_i h (b0 + 44) (Int32.toNatClampNeg x1)) else (if Int32.toInt x2 = 7 then (ea_i h (b0 + 55) (Int32.toNatClampNeg x1)) else (if Int32.toInt x2 = 8 then (ea_i h (b0 + 56) (Int32.toNatClampNeg x1)) else (if Int32.toInt x2 = 9 then (if (ea_i h (b0 + 52) (Int32.toNatClampNeg x1)) = (0 : Int32) then (0 : Int32) else (1 : Int32)) else (if Int32.toInt x2 = 10 then (if (ea_i h (b0 + 55) (Int32.toNatClampNeg x1)) = (1 : Int32) then (if (ea_i h (b0 + 61) (Int32.toNatClampNeg x1)) = (0 : Int32) then (0 : Int32) else (1 : Int32)) else (0 : Int32)) else (if Int32.toInt x2 = 11 then (if (ea_i h (b0 + 55) (Int32.toNatClampNeg x1)) = (1 : Int32) then (ea_i h (b0 + 57) (Int32.toNatClampNeg x1)) else ((-1) : Int32)) else (if Int32.toInt x2 = 12 then (ea_i h (b0 + 58) (Int32.toNatClampNeg x1)) else ((-1) : Int32)))))))))))))))
def okX12_of (b0 : Nat) (x1 : Int32) (x2 : Int32) (h : ea_H) : Prop := ((vX12_isLetterOf b0 (x1 : Int32) h) = (0 : Int32) → True) ∧ (¬ (vX12_isLetterOf b0 (x1 : Int32) h) = (0 : Int32) → (Int32.toInt x2 = 0 → vp_in x1 120) ∧ (¬ Int32.toInt x2 = 0 → (Int32.toInt x2 = 1 → vp_in x1 120) ∧ (¬ Int32.toInt x2 = 1 → (Int32.toInt x2 = 2 → vp_in x1 120) ∧ (¬ Int32.toInt x2 = 2 → (Int32.toInt x2 = 3 → vp_in x1 120) ∧ (¬ Int32.toInt x2 = 3 → (Int32.toInt x2 = 4 → vp_in x1 120) ∧ (¬ Int32.toInt x2 = 4 → (Int32.toInt x2 = 5 → vp_in x1 120) ∧ (¬ Int32.toInt x2 = 5 → (Int32.toInt x2 = 6 → vp_in x1 120) ∧ (¬ Int32.toInt x2 = 6 → (Int32.toInt x2 = 7 → vp_in x1 120) ∧ (¬ Int32.toInt x2 = 7 → (Int32.toInt x2 = 8 → vp_in x1 120) ∧ (¬ Int32.toInt x2 = 8 → (Int32.toInt x2 = 9 → vp_in x1 120) ∧ (¬ Int32.toInt x2 = 9 → (Int32.toInt x2 = 10 → vp_in x1 120 ∧ (((ea_i h (b0 + 55) (Int32.toNatClampNeg x1)) = (1 : Int32) → vp_in x1 120) ∧ (¬ (ea_i h (b0 + 55) (Int32.toNatClampNeg x1)) = (1 : Int32) → True))) ∧ (¬ Int32.toInt x2 = 10 → (Int32.toInt x2 = 11 → vp_in x1 120 ∧ (((ea_i h (b0 + 55) (Int32.toNatClampNeg x1)) = (1 : Int32) → vp_in x1 120) ∧ (¬ (ea_i h (b0 + 55) (Int32.toNatClampNeg x1)) = (1 : Int32) → True))) ∧ (¬ Int32.toInt x2 = 11 → (Int32.toInt x2 = 12 → vp_in x1 120) ∧ (¬ Int32.toInt x2 = 12 → True))))))))))))))
theorem sX12_of {d : Nat} {b0 : Nat} {x1 : Int32} {x2 : Int32} {h : ea_H} (hd : 3 ≤ d) (hs : ShM b0 h) (K : okX12_of b0 x1 x2 h) : ea_Met mX12_of d [vR (some (b0 + 0)), vI x1, vI x2] h (some (vI (vX12_of b0 x1 x2 h))) h := by
  obtain ⟨X, EX⟩ : ∃ z, z = vX12_of b0 x1 x2 h := ⟨_, rfl⟩
  rw [← EX]
  unfold vX12_of at EX
  unfold okX12_of at K
  refine ea_enter rfl (Nat.le_of_ble_eq_true rfl) ?_
  refine ea_aload_n (pc := 0) dX12_of_0 rfl 0 rfl ?_
  refine ea_iload_n (pc := 1) dX12_of_1 rfl 1 rfl ?_
  refine ea_callV (pc := 2) (d' := d - 1) (As := [vI x1]) (st := []) dX12_of_2 kX12_isLetterOf (sX12_isLetterOf (d := d - 1) (by omega) hs) (by omega) rfl (Nat.le_of_ble_eq_true rfl) ew_2019 ew_2021 ew_89 (ci := 12) rfl (by decide) (hs.1 0 (by decide)).1 (hs.1 0 (by decide)).2.1 ?_
  refine ea_if_ne (pc := 5) (tgt := 10) dX12_of_5 rfl (fun c21 => ?_) (fun c21 => ?_)
  · have EX := EX.trans (if_neg c21)
    have K := K.2 c21
    refine ea_iload_n (pc := 10) dX12_of_10 rfl 2 rfl ?_
    by_cases qc11_0 : Int32.toInt x2 = 0
    · have EX := EX.trans (if_pos qc11_0)
      have K := K.1 qc11_0
      refine ea_tswIn (pc := 11) (tgt := 76) dX12_of_11 (by rw [qc11_0]; decide) (by rw [qc11_0]; decide) (by rw [qc11_0]; rfl) rfl ?_
      refine ea_aload_n (pc := 76) dX12_of_76 rfl 0 rfl ?_
      refine ea_getR (pc := 77) dX12_of_77 ec_12 (k := 64) (Nat.le_of_ble_eq_true rfl) rfl (Or.inl ew_1409) (hs.1 0 (by decide)).1 (hs.1 0 (by decide)).2.1 (hs.2 0 64 rfl) ?_
      refine ea_iload_n (pc := 80) dX12_of_80 rfl 1 rfl ?_
      have z2 := K
      refine ea_iald (pc := 81) dX12_of_81 (hs.1 38 (by decide)).1 (hs.1 38 (by decide)).2.1 (ea_vpl (hs.1 38 (by decide)).2.2 z2) ?_
      subst EX
      exact ea_ireturn (pc := 82) dX12_of_82 rfl rfl
    have EX := EX.trans (if_neg qc11_0)
    have K := K.2 qc11_0
    by_cases qc11_1 : Int32.toInt x2 = 1
    · have EX := EX.trans (if_pos qc11_1)
      have K := K.1 qc11_1
      refine ea_tswIn (pc := 11) (tgt := 83) dX12_of_11 (by rw [qc11_1]; decide) (by rw [qc11_1]; decide) (by rw [qc11_1]; rfl) rfl ?_
      refine ea_aload_n (pc := 83) dX12_of_83 rfl 0 rfl ?_
      refine ea_getR (pc := 84) dX12_of_84 ec_12 (k := 65) (Nat.le_of_ble_eq_true rfl) rfl (Or.inl ew_1410) (hs.1 0 (by decide)).1 (hs.1 0 (by decide)).2.1 (hs.2 0 65 rfl) ?_
      refine ea_iload_n (pc := 87) dX12_of_87 rfl 1 rfl ?_
      have z3 := K
      refine ea_iald (pc := 88) dX12_of_88 (hs.1 39 (by decide)).1 (hs.1 39 (by decide)).2.1 (ea_vpl (hs.1 39 (by decide)).2.2 z3) ?_
      subst EX
      exact ea_ireturn (pc := 89) dX12_of_89 rfl rfl
    have EX := EX.trans (if_neg qc11_1)
    have K := K.2 qc11_1
    by_cases qc11_2 : Int32.toInt x2 = 2
    · have EX := EX.trans (if_pos qc11_2)
      have K := K.1 qc11_2
      refine ea_tswIn (pc := 11) (tgt := 90) dX12_of_11 (by rw [qc11_2]; decide) (by rw [qc11_2]; decide) (by rw [qc11_2]; rfl) rfl ?_
      refine ea_aload_n (pc := 90) dX12_of_90 rfl 0 rfl ?_
      refine ea_getR (pc := 91) dX12_of_91 ec_12 (k := 66) (Nat.le_of_ble_eq_true rfl) rfl (Or.inl ew_1411) (hs.1 0 (by decide)).1 (hs.1 0 (by decide)).2.1 (hs.2 0 66 rfl) ?_
      refine ea_iload_n (pc := 94) dX12_of_94 rfl 1 rfl ?_
      have z4 := K
      refine ea_iald (pc := 95) dX12_of_95 (hs.1 40 (by decide)).1 (hs.1 40 (by decide)).2.1 (ea_vpl (hs.1 40 (by decide)).2.2 z4) ?_
      subst EX
      exact ea_ireturn (pc := 96) dX12_of_96 rfl rfl
    have EX := EX.trans (if_neg qc11_2)
    have K := K.2 qc11_2
    by_cases qc11_3 : Int32.toInt x2 = 3
    · have EX := EX.trans (if_pos qc11_3)
      have K := K.1 qc11_3
      refine ea_tswIn (pc := 11) (tgt := 97) dX12_of_11 (by rw [qc11_3]; decide) (by rw [qc11_3]; decide) (by rw [qc11_3]; rfl) rfl ?_
      refine ea_aload_n (pc := 97) dX12_of_97 rfl 0 rfl ?_
      refine ea_getR (pc := 98) dX12_of_98 ec_12 (k := 67) (Nat.le_of_ble_eq_true rfl) rfl (Or.inl ew_1412) (hs.1 0 (by decide)).1 (hs.1 0 (by decide)).2.1 (hs.2 0 67 rfl) ?_
      refine ea_iload_n (pc := 101) dX12_of_101 rfl 1 rfl ?_
      have z5 := K
      refine ea_iald (pc := 102) dX12_of_102 (hs.1 41 (by decide)).1 (hs.1 41 (by decide)).2.1 (ea_vpl (hs.1 41 (by decide)).2.2 z5) ?_
      subst EX
      exact ea_ireturn (pc := 103) dX12_of_103 rfl rfl
    have EX := EX.trans (if_neg qc11_3)
    have K := K.2 qc11_3
    by_cases qc11_4 : Int32.toInt x2 = 4
    · have EX := EX.trans (if_pos qc11_4)
      have K := K.1 qc11_4
      refine ea_tswIn (pc := 11) (tgt := 104) dX12_of_11 (by rw [qc11_4]; decide) (by rw [qc11_4]; decide) (by rw [qc11_4]; rfl) rfl ?_
      refine ea_aload_n (pc := 104) dX12_of_104 rfl 0 rfl ?_
      refine ea_getR (pc := 105) dX12_of_105 ec_12 (k := 68) (Nat.le_of_ble_eq_true rfl) rfl (Or.inl ew_1413) (hs.1 0 (by decide)).1 (hs.1 0 (by decide)).2.1 (hs.2 0 68 rfl) ?_
      refine ea_iload_n (pc := 108) dX12_of_108 rfl 1 rfl ?_
      have z6 := K
      refine ea_iald (pc := 109) dX12_of_109 (hs.1 42 (by decide)).1 (hs.1 42 (by decide)).2.1 (ea_vpl (hs.1 42 (by decide)).2.2 z6) ?_
      subst EX
      exact ea_ireturn (pc := 110) dX12_of_110 rfl rfl
    have EX := EX.trans (if_neg qc11_4)
    have K := K.2 qc11_4
    by_cases qc11_5 : Int32.toInt x2 = 5
    · have EX := EX.trans (if_pos qc11_5)
      have K := K.1 qc11_5
      refine ea_tswIn (pc := 11) (tgt := 111) dX12_of_11 (by rw [qc11_5]; decide) (by rw [qc11_5]; decide) (by rw [qc11_5]; rfl) rfl ?_
      refine ea_aload_n (pc := 111) dX12_of_111 rfl 0 rfl ?_
      refine ea_getR (pc := 112) dX12_of_112 ec_12 (k := 69) (Nat.le_of_ble_eq_true rfl) rfl (Or.inl ew_1414) (hs.1 0 (by decide)).1 (hs.1 0 (by decide)).2.1 (hs.2 0 69 rfl) ?_
      refine ea_iload_n (pc := 115) dX12_of_115 rfl 1 rfl ?_
      have z7 := K
      refine ea_iald (pc := 116) dX12_of_116 (hs.1 43 (by decide)).1 (hs.1 43 (by decide)).2.1 (ea_vpl (hs.1 43 (by decide)).2.2 z7) ?_
      subst EX
      exact ea_ireturn (pc := 117) dX12_of_117 rfl rfl
    have EX := EX.trans (if_neg qc11_5)
    have K := K.2 qc11_5
    by_cases qc11_6 : Int32.toInt x2 = 6
    · have EX := EX.trans (if_pos qc11_6)
      have K := K.1 qc11_6
      refine ea_tswIn (pc := 11) (tgt := 118) dX12_of_11 (by rw [qc11_6]; decide) (by rw [qc11_6]; decide) (by rw [qc11_6]; rfl) rfl ?_
      refine ea_aload_n (pc := 118) dX12_of_118 rfl 0 rfl ?_
      refine ea_getR (pc := 119) dX12_of_119 ec_12 (k := 70) (Nat.le_of_ble_eq_true rfl) rfl (Or.inl ew_1415) (hs.1 0 (by decide)).1 (hs.1 0 (by decide)).2.1 (hs.2 0 70 rfl) ?_
      refine ea_iload_n (pc := 122) dX12_of_122 rfl 1 rfl ?_
      have z8 := K
      refine ea_iald (pc := 123) dX12_of_123 (hs.1 44 (by decide)).1 (hs.1 44 (by decide)).2.1 (ea_vpl (hs.1 44 (by decide)).2.2 z8) ?_
      subst EX
      exact ea_ireturn (pc := 124) dX12_of_124 rfl rfl
    have EX := EX.trans (if_neg qc11_6)
    have K := K.2 qc11_6
    by_cases qc11_7 : Int32.toInt x2 = 7
    · have EX := EX.trans (if_pos qc11_7)
      have K := K.1 qc11_7
      refine ea_tswIn (pc := 11) (tgt := 125) dX12_of_11 (by rw [qc11_7]; decide) (by rw [qc11_7]; decide) (by rw [qc11_7]; rfl) rfl ?_
      refine ea_aload_n (pc := 125) dX12_of_125 rfl 0 rfl ?_
      refine ea_getR (pc := 126) dX12_of_126 ec_12 (k := 81) (Nat.le_of_ble_eq_true rfl) rfl (Or.inl ew_1426) (hs.1 0 (by decide)).1 (hs.1 0 (by decide)).2.1 (hs.2 0 81 rfl) ?_
      refine ea_iload_n (pc := 129) dX12_of_129 rfl 1 rfl ?_
      have z9 := K
      refine ea_iald (pc := 130) dX12_of_130 (hs.1 55 (by decide)).1 (hs.1 55 (by decide)).2.1 (ea_vpl (hs.1 55 (by decide)).2.2 z9) ?_
      subst EX
      exact ea_ireturn (pc := 131) dX12_of_131 rfl rfl
    have EX := EX.trans (if_neg qc11_7)
    have K := K.2 qc11_7
    by_cases qc11_8 : Int32.toInt x2 = 8
    · have EX := EX.trans (if_pos qc11_8)
      have K := K.1 qc11_8
      refine ea_tswIn (pc := 11) (tgt := 132) dX12_of_11 (by rw [qc11_8]; decide) (by rw [qc11_8]; decide) (by rw [qc11_8]; rfl) rfl ?_
      refine ea_aload_n (pc := 132) dX12_of_132 rfl 0 rfl ?_
      refine ea_getR (pc := 133) dX12_of_133 ec_12 (k := 82) (Nat.le_of_ble_eq_true rfl) rfl (Or.inl ew_1427) (hs.1 0 (by decide)).1 (hs.1 0 (by decide)).2.1 (hs.2 0 82 rfl) ?_
      refine ea_iload_n (pc := 136) dX12_of_136 rfl 1 rfl ?_
      have z10 := K
      refine ea_iald (pc := 137) dX12_of_137 (hs.1 56 (by decide)).1 (hs.1 56 (by decide)).2.1 (ea_vpl (hs.1 56 (by decide)).2.2 z10) ?_
      subst EX
      exact ea_ireturn (pc := 138) dX12_of_138 rfl rfl
    have EX := EX.trans (if_neg qc11_8)
    have K := K.2 qc11_8
    by_cases qc11_9 : Int32.toInt x2 = 9
    · have EX := EX.trans (if_pos qc11_9)
      have K := K.1 qc11_9
      refine ea_tswIn (pc := 11) (tgt := 139) dX12_of_11 (by rw [qc11_9]; decide) (by rw [qc11_9]; decide) (by rw [qc11_9]; rfl) rfl ?_
      refine ea_aload_n (pc := 139) dX12_of_139 rfl 0 rfl ?_
      refine ea_getR (pc := 140) dX12_of_140 ec_12 (k := 78) (Nat.le_of_ble_eq_true rfl) rfl (Or.inl ew_1423) (hs.1 0 (by decide)).1 (hs.1 0 (by decide)).2.1 (hs.2 0 78 rfl) ?_
      refine ea_iload_n (pc := 143) dX12_of_143 rfl 1 rfl ?_
      have z11 := K
      refine ea_zald (pc := 144) dX12_of_144 (hs.1 52 (by decide)).1 (hs.1 52 (by decide)).2.1 (ea_vpl (hs.1 52 (by decide)).2.2 z11) ?_
      refine ea_if_eq (pc := 145) (tgt := 152) dX12_of_145 rfl (fun c12 => ?_) (fun c12 => ?_)
      · have EX := EX.trans (if_pos c12)
        refine ea_iconst (pc := 152) dX12_of_152 (v := 0) rfl ?_
        subst EX
        exact ea_ireturn (pc := 153) dX12_of_153 rfl rfl
      · have EX := EX.trans (if_neg c12)
        refine ea_iconst (pc := 148) dX12_of_148 (v := 1) rfl ?_
        refine ea_goto (pc := 149) (tgt := 153) dX12_of_149 rfl ?_
        subst EX
        exact ea_ireturn (pc := 153) dX12_of_153 rfl rfl
    have EX := EX.trans (if_neg qc11_9)
    have K := K.2 qc11_9
    by_cases qc11_10 : Int32.toInt x2 = 10
    · have EX := EX.trans (if_pos qc11_10)
      have K := K.1 qc11_10
      refine ea_tswIn (pc := 11) (tgt := 154) dX12_of_11 (by rw [qc11_10]; decide) (by rw [qc11_10]; decide) (by rw [qc11_10]; rfl) rfl ?_
      refine ea_aload_n (pc := 154) dX12_of_154 rfl 0 rfl ?_
      refine ea_getR (pc := 155) dX12_of_155 ec_12 (k := 81) (Nat.le_of_ble_eq_true rfl) rfl (Or.inl ew_1426) (hs.1 0 (by decide)).1 (hs.1 0 (by decide)).2.1 (hs.2 0 81 rfl) ?_
      refine ea_iload_n (pc := 158) dX12_of_158 rfl 1 rfl ?_
      obtain ⟨z13, K⟩ := K
      refine ea_iald (pc := 159) dX12_of_159 (hs.1 55 (by decide)).1 (hs.1 55 (by decide)).2.1 (ea_vpl (hs.1 55 (by decide)).2.2 z13) ?_
      refine ea_iconst (pc := 160) dX12_of_160 (v := 1) rfl ?_
      refine ea_icmp_ne (pc := 161) (tgt := 177) dX12_of_161 rfl (fun c16 => ?_) (fun c16 => ?_)
      · have EX := EX.trans (if_neg c16)
        refine ea_iconst (pc := 177) dX12_of_177 (v := 0) rfl ?_
        subst EX
        exact ea_ireturn (pc := 178) dX12_of_178 rfl rfl
      · have EX := EX.trans (if_pos c16)
        have K := K.1 c16
        refine ea_aload_n (pc := 164) dX12_of_164 rfl 0 rfl ?_
        refine ea_getR (pc := 165) dX12_of_165 ec_12 (k := 87) (Nat.le_of_ble_eq_true rfl) rfl (Or.inl ew_1432) (hs.1 0 (by decide)).1 (hs.1 0 (by decide)).2.1 (hs.2 0 87 rfl) ?_
        refine ea_iload_n (pc := 168) dX12_of_168 rfl 1 rfl ?_
        have z14 := K
        refine ea_zald (pc := 169) dX12_of_169 (hs.1 61 (by decide)).1 (hs.1 61 (by decide)).2.1 (ea_vpl (hs.1 61 (by decide)).2.2 z14) ?_
        refine ea_if_eq (pc := 170) (tgt := 177) dX12_of_170 rfl (fun c15 => ?_) (fun c15 => ?_)
        · have EX := EX.trans (if_pos c15)
          refine ea_iconst (pc := 177) dX12_of_177 (v := 0) rfl ?_
          subst EX
          exact ea_ireturn (pc := 178) dX12_of_178 rfl rfl
        · have EX := EX.trans (if_neg c15)
          refine ea_iconst (pc := 173) dX12_of_173 (v := 1) rfl ?_
          refine ea_goto (pc := 174) (tgt := 178) dX12_of_174 rfl ?_
          subst EX
          exact ea_ireturn (pc := 178) dX12_of_178 rfl rfl
    have EX := EX.trans (if_neg qc11_10)
    have K := K.2 qc11_10
    by_cases qc11_11 : Int32.toInt x2 = 11
    · have EX := EX.trans (if_pos qc11_11)
      have K := K.1 qc11_11
      refine ea_tswIn (pc := 11) (tgt := 179) dX12_of_11 (by rw [qc11_11]; decide) (by rw [qc11_11]; decide) (by rw [qc11_11]; rfl) rfl ?_
      refine ea_aload_n (pc := 179) dX12_of_179 rfl 0 rfl ?_
      refine ea_getR (pc := 180) dX12_of_180 ec_12 (k := 81) (Nat.le_of_ble_eq_true rfl) rfl (Or.inl ew_1426) (hs.1 0 (by decide)).1 (hs.1 0 (by decide)).2.1 (hs.2 0 81 rfl) ?_
      refine ea_iload_n (pc := 183) dX12_of_183 rfl 1 rfl ?_
      obtain ⟨z17, K⟩ := K
      refine ea_iald (pc := 184) dX12_of_184 (hs.1 55 (by decide)).1 (hs.1 55 (by decide)).2.1 (ea_vpl (hs.1 55 (by decide)).2.2 z17) ?_
      refine ea_iconst (pc := 185) dX12_of_185 (v := 1) rfl ?_
      refine ea_icmp_ne (pc := 186) (tgt := 198) dX12_of_186 rfl (fun c19 => ?_) (fun c19 => ?_)
      · have EX := EX.trans (if_neg c19)
        refine ea_iconst (pc := 198) dX12_of_198 (v := (-1)) rfl ?_
        subst EX
        exact ea_ireturn (pc := 199) dX12_of_199 rfl rfl
      · have EX := EX.trans (if_pos c19)
        have K := K.1 c19
        refine ea_aload_n (pc := 189) dX12_of_189 rfl 0 rfl ?_
        refine ea_getR (pc := 190) dX12_of_190 ec_12 (k := 83) (Nat.le_of_ble_eq_true rfl) rfl (Or.inl ew_1428) (hs.1 0 (by decide)).1 (hs.1 0 (by decide)).2.1 (hs.2 0 83 rfl) ?_
        refine ea_iload_n (pc := 193) dX12_of_193 rfl 1 rfl ?_
        have z18 := K
        refine ea_iald (pc := 194) dX12_of_194 (hs.1 57 (by decide)).1 (hs.1 57 (by decide)).2.1 (ea_vpl (hs.1 57 (by decide)).2.2 z18) ?_
        refine ea_goto (pc := 195) (tgt := 199) dX12_of_195 rfl ?_
        subst EX
        exact ea_ireturn (pc := 199) dX12_of_199 rfl rfl
    have EX := EX.trans (if_neg qc11_11)
    have K := K.2 qc11_11
    by_cases qc11_12 : Int32.toInt x2 = 12
    · have EX := EX.trans (if_pos qc11_12)
      have K := K.1 qc11_12
      refine ea_tswIn (pc := 11) (tgt := 200) dX12_of_11 (by rw [qc11_12]; decide) (by rw [qc11_12]; decide) (by rw [qc11_12]; rfl) rfl ?_
      refine ea_aload_n (pc := 200) dX12_of_200 rfl 0 rfl ?_
      refine ea_getR (pc := 201) dX12_of_201 ec_12 (k := 84) (Nat.le_of_ble_eq_true rfl) rfl (Or.inl ew_1429) (hs.1 0 (by decide)).1 (hs.1 0 (by decide)).2.1 (hs.2 0 84 rfl) ?_
      refine ea_iload_n (pc := 204) dX12_of_204 rfl 1 rfl ?_
      have z20 := K
      refine ea_iald (pc := 205) dX12_of_205 (hs.1 58 (by decide)).1 (hs.1 58 (by decide)).2.1 (ea_vpl (hs.1 58 (by decide)).2.2 z20) ?_
      subst EX
      exact ea_ireturn (pc := 206) dX12_of_206 rfl rfl
    have EX := EX.trans (if_neg qc11_12)
    have K := K.2 qc11_12
    refine ea_tswOut (pc := 11) (tgt := 207) dX12_of_11 (ea_sw_0_12 qc11_0 qc11_1 qc11_2 qc11_3 qc11_4 qc11_5 qc11_6 qc11_7 qc11_8 qc11_9 qc11_10 qc11_11 qc11_12) rfl ?_
    refine ea_iconst (pc := 207) dX12_of_207 (v := (-1)) rfl ?_
    subst EX
    exact ea_ireturn (pc := 208) dX12_of_208 rfl rfl
  · have EX := EX.trans (if_pos c21)
    refine ea_iconst (pc := 8) dX12_of_8 (v := (-1)) rfl ?_
    subst EX
    exact ea_ireturn (pc := 9) dX12_of_9 rfl rfl
noncomputable def vX12_charge (b0 : Nat) (x1 : Int32) (x2 : Int32) (h : ea_H) : Int32 := (if (vX12_isLetterOf b0 (x1 : Int32) h) = (0 : Int32) then ((-1) : Int32) else (if Int32.toInt x2 = 0 then (ea_i h (b0 + 48) (Int32.toNatClampNeg x1)) else (if Int32.toInt x2 = 1 then (ea_i h (b0 + 47) (Int32.toNatClampNeg x1)) else (if Int32.toInt x2 = 2 then (if (ea_i h (b0 + 53) (Int32.toNatClampNeg x1)) = (0 : Int32) then (ea_i h (b0 + 49) (Int32.toNatClampNeg x1)) else ((-1) : Int32)) else (if Int32.toInt x2 = 3 then (vX12_owed b0 (x1 : Int32) h) else (if Int32.toInt x2 = 4 then (if (vX12_isOwed b0 (x1 : Int32) h) = (0 : Int32) then (ea_i h (b0 + 48) (Int32.toNatClampNeg x1)) else (0 : Int32)) else (if Int32.toInt x2 = 5 then (if (ea_i h (b0 + 53) (Int32.toNatClampNeg x1)) = (0 : Int32) then (0 : Int32) else (1 : Int32)) else ((-1) : Int32))))))))
def okX12_charge (b0 : Nat) (x1 : Int32) (x2 : Int32) (h : ea_H) : Prop := ((vX12_isLetterOf b0 (x1 : Int32) h) = (0 : Int32) → True) ∧ (¬ (vX12_isLetterOf b0 (x1 : Int32) h) = (0 : Int32) → (Int32.toInt x2 = 0 → vp_in x1 120) ∧ (¬ Int32.toInt x2 = 0 → (Int32.toInt x2 = 1 → vp_in x1 120) ∧ (¬ Int32.toInt x2 = 1 → (Int32.toInt x2 = 2 → vp_in x1 120 ∧ (((ea_i h (b0 + 53) (Int32.toNatClampNeg x1)) = (0 : Int32) → vp_in x1 120) ∧ (¬ (ea_i h (b0 + 53) (Int32.toNatClampNeg x1)) = (0 : Int32) → True))) ∧ (¬ Int32.toInt x2 = 2 → (Int32.toInt x2 = 3 → (okX12_owed b0 (x1 : Int32) h)) ∧ (¬ Int32.toInt x2 = 3 → (Int32.toInt x2 = 4 → (okX12_isOwed b0 (x1 : Int32) h) ∧ (((vX12_isOwed b0 (x1 : Int32) h) = (0 : Int32) → vp_in x1 120) ∧ (¬ (vX12_isOwed b0 (x1 : Int32) h) = (0 : Int32) → True))) ∧ (¬ Int32.toInt x2 = 4 → (Int32.toInt x2 = 5 → vp_in x1 120) ∧ (¬ Int32.toInt x2 = 5 → True)))))))
theorem sX12_charge {d : Nat} {b0 : Nat} {x1 : Int32} {x2 : Int32} {h : ea_H} (hd : 3 ≤ d) (hs : ShM b0 h) (K : okX12_charge b0 x1 x2 h) : ea_Met mX12_charge d [vR (some (b0 + 0)), vI x1, vI x2] h (some (vI (vX12_charge b0 x1 x2 h))) h := by
  obtain ⟨X, EX⟩ : ∃ z, z = vX12_charge b0 x1 x2 h := ⟨_, rfl⟩
  rw [← EX]
  unfold vX12_charge at EX
  unfold okX12_charge at K
  refine ea_enter rfl (Nat.le_of_ble_eq_true rfl) ?_
  refine ea_aload_n (pc := 0) dX12_charge_0 rfl 0 rfl ?_
  refine ea_iload_n (pc := 1) dX12_charge_1 rfl 1 rfl ?_
  refine ea_callV (pc := 2) (d' := d - 1) (As := [vI x1]) (st := []) dX12_charge_2 kX12_isLetterOf (sX12_isLetterOf (d := d - 1) (by omega) hs) (by omega) rfl (Nat.le_of_ble_eq_true rfl) ew_2019 ew_2021 ew_89 (ci := 12) rfl (by decide) (hs.1 0 (by decide)).1 (hs.1 0 (by decide)).2.1 ?_
  refine ea_if_ne (pc := 5) (tgt := 10) dX12_charge_5 rfl (fun c13 => ?_) (fun c13 => ?_)
  · have EX := EX.trans (if_neg c13)
    have K := K.2 c13
    refine ea_iload_n (pc := 10) dX12_charge_10 rfl 2 rfl ?_
    by_cases qc11_0 : Int32.toInt x2 = 0
    · have EX := EX.trans (if_pos qc11_0)
      have K := K.1 qc11_0
      refine ea_tswIn (pc := 11) (tgt := 48) dX12_charge_11 (by rw [qc11_0]; decide) (by rw [qc11_0]; decide) (by rw [qc11_0]; rfl) rfl ?_
      refine ea_aload_n (pc := 48) dX12_charge_48 rfl 0 rfl ?_
      refine ea_getR (pc := 49) dX12_charge_49 ec_12 (k := 74) (Nat.le_of_ble_eq_true rfl) rfl (Or.inl ew_1419) (hs.1 0 (by decide)).1 (hs.1 0 (by decide)).2.1 (hs.2 0 74 rfl) ?_
      refine ea_iload_n (pc := 52) dX12_charge_52 rfl 1 rfl ?_
      have z2 := K
      refine ea_iald (pc := 53) dX12_charge_53 (hs.1 48 (by decide)).1 (hs.1 48 (by decide)).2.1 (ea_vpl (hs.1 48 (by decide)).2.2 z2) ?_
      subst EX
      exact ea_ireturn (pc := 54) dX12_charge_54 rfl rfl
    have EX := EX.trans (if_neg qc11_0)
    have K := K.2 qc11_0
    by_cases qc11_1 : Int32.toInt x2 = 1
    · have EX := EX.trans (if_pos qc11_1)
      have K := K.1 qc11_1
      refine ea_tswIn (pc := 11) (tgt := 55) dX12_charge_11 (by rw [qc11_1]; decide) (by rw [qc11_1]; decide) (by rw [qc11_1]; rfl) rfl ?_
      refine ea_aload_n (pc := 55) dX12_charge_55 rfl 0 rfl ?_
      refine ea_getR (pc := 56) dX12_charge_56 ec_12 (k := 73) (Nat.le_of_ble_eq_true rfl) rfl (Or.inl ew_1418) (hs.1 0 (by decide)).1 (hs.1 0 (by decide)).2.1 (hs.2 0 73 rfl) ?_
      refine ea_iload_n (pc := 59) dX12_charge_59 rfl 1 rfl ?_
      have z3 := K
      refine ea_iald (pc := 60) dX12_charge_60 (hs.1 47 (by decide)).1 (hs.1 47 (by decide)).2.1 (ea_vpl (hs.1 47 (by decide)).2.2 z3) ?_
      subst EX
      exact ea_ireturn (pc := 61) dX12_charge_61 rfl rfl
    have EX := EX.trans (if_neg qc11_1)
    have K := K.2 qc11_1
    by_cases qc11_2 : Int32.toInt x2 = 2
    · have EX := EX.trans (if_pos qc11_2)
      have K := K.1 qc11_2
      refine ea_tswIn (pc := 11) (tgt := 62) dX12_charge_11 (by rw [qc11_2]; decide) (by rw [qc11_2]; decide) (by rw [qc11_2]; rfl) rfl ?_
      refine ea_aload_n (pc := 62) dX12_charge_62 rfl 0 rfl ?_
      refine ea_getR (pc := 63) dX12_charge_63 ec_12 (k := 79) (Nat.le_of_ble_eq_true rfl) rfl (Or.inl ew_1424) (hs.1 0 (by decide)).1 (hs.1 0 (by decide)).2.1 (hs.2 0 79 rfl) ?_
      refine ea_iload_n (pc := 66) dX12_charge_66 rfl 1 rfl ?_
      obtain ⟨z4, K⟩ := K
      refine ea_zald (pc := 67) dX12_charge_67 (hs.1 53 (by decide)).1 (hs.1 53 (by decide)).2.1 (ea_vpl (hs.1 53 (by decide)).2.2 z4) ?_
      refine ea_if_eq (pc := 68) (tgt := 75) dX12_charge_68 rfl (fun c6 => ?_) (fun c6 => ?_)
      · have EX := EX.trans (if_pos c6)
        have K := K.1 c6
        refine ea_aload_n (pc := 75) dX12_charge_75 rfl 0 rfl ?_
        refine ea_getR (pc := 76) dX12_charge_76 ec_12 (k := 75) (Nat.le_of_ble_eq_true rfl) rfl (Or.inl ew_1420) (hs.1 0 (by decide)).1 (hs.1 0 (by decide)).2.1 (hs.2 0 75 rfl) ?_
        refine ea_iload_n (pc := 79) dX12_charge_79 rfl 1 rfl ?_
        have z5 := K
        refine ea_iald (pc := 80) dX12_charge_80 (hs.1 49 (by decide)).1 (hs.1 49 (by decide)).2.1 (ea_vpl (hs.1 49 (by decide)).2.2 z5) ?_
        subst EX
        exact ea_ireturn (pc := 81) dX12_charge_81 rfl rfl
      · have EX := EX.trans (if_neg c6)
        refine ea_iconst (pc := 71) dX12_charge_71 (v := (-1)) rfl ?_
        refine ea_goto (pc := 72) (tgt := 81) dX12_charge_72 rfl ?_
        subst EX
        exact ea_ireturn (pc := 81) dX12_charge_81 rfl rfl
    have EX := EX.trans (if_neg qc11_2)
    have K := K.2 qc11_2
    by_cases qc11_3 : Int32.toInt x2 = 3
    · have EX := EX.trans (if_pos qc11_3)
      have K := K.1 qc11_3
      refine ea_tswIn (pc := 11) (tgt := 82) dX12_charge_11 (by rw [qc11_3]; decide) (by rw [qc11_3]; decide) (by rw [qc11_3]; rfl) rfl ?_
      refine ea_aload_n (pc := 82) dX12_charge_82 rfl 0 rfl ?_
      refine ea_iload_n (pc := 83) dX12_charge_83 rfl 1 rfl ?_
      have z7 := K
      refine ea_callV (pc := 84) (d' := d - 1) (As := [vI x1]) (st := []) dX12_charge_84 kX12_owed (sX12_owed (d := d - 1) (by omega) hs z7) (by omega) rfl (Nat.le_of_ble_eq_true rfl) ew_2027 ew_2029 ew_90 (ci := 12) rfl (by decide) (hs.1 0 (by decide)).1 (hs.1 0 (by decide)).2.1 ?_
      subst EX
      exact ea_ireturn (pc := 87) dX12_charge_87 rfl rfl
    have EX := EX.trans (if_neg qc11_3)
    have K := K.2 qc11_3
    by_cases qc11_4 : Int32.toInt x2 = 4
    · have EX := EX.trans (if_pos qc11_4)
      have K := K.1 qc11_4
      refine ea_tswIn (pc := 11) (tgt := 88) dX12_charge_11 (by rw [qc11_4]; decide) (by rw [qc11_4]; decide) (by rw [qc11_4]; rfl) rfl ?_
      refine ea_aload_n (pc := 88) dX12_charge_88 rfl 0 rfl ?_
      refine ea_iload_n (pc := 89) dX12_charge_89 rfl 1 rfl ?_
      obtain ⟨z8, K⟩ := K
      refine ea_callV (pc := 90) (d' := d - 1) (As := [vI x1]) (st := []) dX12_charge_90 kX12_isOwed (sX12_isOwed (d := d - 1) (by omega) hs z8) (by omega) rfl (Nat.le_of_ble_eq_true rfl) ew_2031 ew_2033 ew_91 (ci := 12) rfl (by decide) (hs.1 0 (by decide)).1 (hs.1 0 (by decide)).2.1 ?_
      refine ea_if_eq (pc := 93) (tgt := 100) dX12_charge_93 rfl (fun c10 => ?_) (fun c10 => ?_)
      · have EX := EX.trans (if_pos c10)
        have K := K.1 c10
        refine ea_aload_n (pc := 100) dX12_charge_100 rfl 0 rfl ?_
        refine ea_getR (pc := 101) dX12_charge_101 ec_12 (k := 74) (Nat.le_of_ble_eq_true rfl) rfl (Or.inl ew_1419) (hs.1 0 (by decide)).1 (hs.1 0 (by decide)).2.1 (hs.2 0 74 rfl) ?_
        refine ea_iload_n (pc := 104) dX12_charge_104 rfl 1 rfl ?_
        have z9 := K
        refine ea_iald (pc := 105) dX12_charge_105 (hs.1 48 (by decide)).1 (hs.1 48 (by decide)).2.1 (ea_vpl (hs.1 48 (by decide)).2.2 z9) ?_
        subst EX
        exact ea_ireturn (pc := 106) dX12_charge_106 rfl rfl
      · have EX := EX.trans (if_neg c10)
        refine ea_iconst (pc := 96) dX12_charge_96 (v := 0) rfl ?_
        refine ea_goto (pc := 97) (tgt := 106) dX12_charge_97 rfl ?_
        subst EX
        exact ea_ireturn (pc := 106) dX12_charge_106 rfl rfl
    have EX := EX.trans (if_neg qc11_4)
    have K := K.2 qc11_4
    by_cases qc11_5 : Int32.toInt x2 = 5
    · have EX := EX.trans (if_pos qc11_5)
      have K := K.1 qc11_5
      refine ea_tswIn (pc := 11) (tgt := 107) dX12_charge_11 (by rw [qc11_5]; decide) (by rw [qc11_5]; decide) (by rw [qc11_5]; rfl) rfl ?_
      refine ea_aload_n (pc := 107) dX12_charge_107 rfl 0 rfl ?_
      refine ea_getR (pc := 108) dX12_charge_108 ec_12 (k := 79) (Nat.le_of_ble_eq_true rfl) rfl (Or.inl ew_1424) (hs.1 0 (by decide)).1 (hs.1 0 (by decide)).2.1 (hs.2 0 79 rfl) ?_
      refine ea_iload_n (pc := 111) dX12_charge_111 rfl 1 rfl ?_
      have z11 := K
      refine ea_zald (pc := 112) dX12_charge_112 (hs.1 53 (by decide)).1 (hs.1 53 (by decide)).2.1 (ea_vpl (hs.1 53 (by decide)).2.2 z11) ?_
      refine ea_if_eq (pc := 113) (tgt := 120) dX12_charge_113 rfl (fun c12 => ?_) (fun c12 => ?_)
      · have EX := EX.trans (if_pos c12)
        refine ea_iconst (pc := 120) dX12_charge_120 (v := 0) rfl ?_
        subst EX
        exact ea_ireturn (pc := 121) dX12_charge_121 rfl rfl
      · have EX := EX.trans (if_neg c12)
        refine ea_iconst (pc := 116) dX12_charge_116 (v := 1) rfl ?_
        refine ea_goto (pc := 117) (tgt := 121) dX12_charge_117 rfl ?_
        subst EX
        exact ea_ireturn (pc := 121) dX12_charge_121 rfl rfl
    have EX := EX.trans (if_neg qc11_5)
    have K := K.2 qc11_5
    refine ea_tswOut (pc := 11) (tgt := 122) dX12_charge_11 (ea_sw_0_5 qc11_0 qc11_1 qc11_2 qc11_3 qc11_4 qc11_5) rfl ?_
    refine ea_iconst (pc := 122) dX12_charge_122 (v := (-1)) rfl ?_
    subst EX
    exact ea_ireturn (pc := 123) dX12_charge_123 rfl rfl
  · have EX := EX.trans (if_pos c13)
    refine ea_iconst (pc := 8) dX12_charge_8 (v := (-1)) rfl ?_
    subst EX
    exact ea_ireturn (pc := 9) dX12_charge_9 rfl rfl
noncomputable def vX12_lead (b0 : Nat) (x1 : Int32) (x2 : Int32) (x3 : Int32) (h : ea_H) : Int32 := (if (vX12_isLetterOf b0 (x1 : Int32) h) = (0 : Int32) then ((-1) : Int32) else (if (vX12_isIn (x2 : Int32) (0 : Int32) (((ea_i h (b0 + 50) (Int32.toNatClampNeg x1)) - (1 : Int32)) : Int32) h) = (0 : Int32) then ((-1) : Int32) else (if x3 = (0 : Int32) then (ea_i h (b0 + 62) (Int32.toNatClampNeg (((1000 : Int32) * x1) + x2))) else (if x3 = (1 : Int32) then (ea_i h (b0 + 63) (Int32.toNatClampNeg (((1000 : Int32) * x1) + x2))) else (if x3 = (2 : Int32) then (ea_i h (b0 + 64) (Int32.toNatClampNeg (((1000 : Int32) * x1) + x2))) else ((-1) : Int32))))))
def okX12_lead (b0 : Nat) (x1 : Int32) (x2 : Int32) (x3 : Int32) (h : ea_H) : Prop := ((vX12_isLetterOf b0 (x1 : Int32) h) = (0 : Int32) → True) ∧ (¬ (vX12_isLetterOf b0 (x1 : Int32) h) = (0 : Int32) → vp_in x1 120 ∧ (((vX12_isIn (x2 : Int32) (0 : Int32) (((ea_i h (b0 + 50) (Int32.toNatClampNeg x1)) - (1 : Int32)) : Int32) h) = (0 : Int32) → True) ∧ (¬ (vX12_isIn (x2 : Int32) (0 : Int32) (((ea_i h (b0 + 50) (Int32.toNatClampNeg x1)) - (1 : Int32)) : Int32) h) = (0 : Int32) → (x3 = (0 : Int32) → vp_in (((1000 : Int32) * x1) + x2) 120000) ∧ (¬ x3 = (0 : Int32) → (x3 = (1 : Int32) → vp_in (((1000 : Int32) * x1) + x2) 120000) ∧ (¬ x3 = (1 : Int32) → (x3 = (2 : Int32) → vp_in (((1000 : Int32) * x1) + x2) 120000) ∧ (¬ x3 = (2 : Int32) → True))))))
theorem sX12_lead {d : Nat} {b0 : Nat} {x1 : Int32} {x2 : Int32} {x3 : Int32} {h : ea_H} (hd : 3 ≤ d) (hs : ShM b0 h) (K : okX12_lead b0 x1 x2 x3 h) : ea_Met mX12_lead d [vR (some (b0 + 0)), vI x1, vI x2, vI x3] h (some (vI (vX12_lead b0 x1 x2 x3 h))) h := by
  obtain ⟨X, EX⟩ : ∃ z, z = vX12_lead b0 x1 x2 x3 h := ⟨_, rfl⟩
  rw [← EX]
  unfold vX12_lead at EX
  unfold okX12_lead at K
  refine ea_enter rfl (Nat.le_of_ble_eq_true rfl) ?_
  refine ea_aload_n (pc := 0) dX12_lead_0 rfl 0 rfl ?_
  refine ea_iload_n (pc := 1) dX12_lead_1 rfl 1 rfl ?_
  refine ea_callV (pc := 2) (d' := d - 1) (As := [vI x1]) (st := []) dX12_lead_2 kX12_isLetterOf (sX12_isLetterOf (d := d - 1) (by omega) hs) (by omega) rfl (Nat.le_of_ble_eq_true rfl) ew_2019 ew_2021 ew_89 (ci := 12) rfl (by decide) (hs.1 0 (by decide)).1 (hs.1 0 (by decide)).2.1 ?_
  refine ea_if_eq (pc := 5) (tgt := 24) dX12_lead_5 rfl (fun c11 => ?_) (fun c11 => ?_)
  · have EX := EX.trans (if_pos c11)
    refine ea_iconst (pc := 24) dX12_lead_24 (v := (-1)) rfl ?_
    subst EX
    exact ea_ireturn (pc := 25) dX12_lead_25 rfl rfl
  · have EX := EX.trans (if_neg c11)
    have K := K.2 c11
    refine ea_iload_n (pc := 8) dX12_lead_8 rfl 2 rfl ?_
    refine ea_iconst (pc := 9) dX12_lead_9 (v := 0) rfl ?_
    refine ea_aload_n (pc := 10) dX12_lead_10 rfl 0 rfl ?_
    refine ea_getR (pc := 11) dX12_lead_11 ec_12 (k := 76) (Nat.le_of_ble_eq_true rfl) rfl (Or.inl ew_1421) (hs.1 0 (by decide)).1 (hs.1 0 (by decide)).2.1 (hs.2 0 76 rfl) ?_
    refine ea_iload_n (pc := 14) dX12_lead_14 rfl 1 rfl ?_
    obtain ⟨z2, K⟩ := K
    refine ea_iald (pc := 15) dX12_lead_15 (hs.1 50 (by decide)).1 (hs.1 50 (by decide)).2.1 (ea_vpl (hs.1 50 (by decide)).2.2 z2) ?_
    refine ea_iconst (pc := 16) dX12_lead_16 (v := 1) rfl ?_
    refine ea_isub (pc := 17) dX12_lead_17 ?_
    refine ea_callS (pc := 18) (d' := d - 1) (As := [vI x2, vI 0, vI ((ea_i h (b0 + 50) (Int32.toNatClampNeg x1)) - (1 : Int32))]) (st := []) dX12_lead_18 kX12_isIn (sX12_isIn (d := d - 1) (by omega)) (by omega) rfl (Nat.le_of_ble_eq_true rfl) ew_1712 ew_1713 ?_
    refine ea_if_ne (pc := 21) (tgt := 26) dX12_lead_21 rfl (fun c10 => ?_) (fun c10 => ?_)
    · have EX := EX.trans (if_neg c10)
      have K := K.2 c10
      refine ea_sipush (pc := 26) dX12_lead_26 (v := 1000) rfl ?_
      refine ea_iload_n (pc := 29) dX12_lead_29 rfl 1 rfl ?_
      refine ea_imul (pc := 30) dX12_lead_30 ?_
      refine ea_iload_n (pc := 31) dX12_lead_31 rfl 2 rfl ?_
      refine ea_iadd (pc := 32) dX12_lead_32 ?_
      refine ea_istore (pc := 33) (lv' := [(0, vR (some (b0 + 0))), (3, vI x3), (4, vI (((1000 : Int32) * x1) + x2))]) dX12_lead_33 (Nat.le_of_ble_eq_true rfl) [1, 4, 0] rfl ?_
      refine ea_iload_n (pc := 35) dX12_lead_35 rfl 1 rfl ?_
      refine ea_if_ne (pc := 36) (tgt := 49) dX12_lead_36 rfl (fun c9 => ?_) (fun c9 => ?_)
      · have EX := EX.trans (if_neg c9)
        have K := K.2 c9
        refine ea_iload_n (pc := 49) dX12_lead_49 rfl 1 rfl ?_
        refine ea_iconst (pc := 50) dX12_lead_50 (v := 1) rfl ?_
        refine ea_icmp_ne (pc := 51) (tgt := 64) dX12_lead_51 rfl (fun c7 => ?_) (fun c7 => ?_)
        · have EX := EX.trans (if_neg c7)
          have K := K.2 c7
          refine ea_iload_n (pc := 64) dX12_lead_64 rfl 1 rfl ?_
          refine ea_iconst (pc := 65) dX12_lead_65 (v := 2) rfl ?_
          refine ea_icmp_ne (pc := 66) (tgt := 79) dX12_lead_66 rfl (fun c5 => ?_) (fun c5 => ?_)
          · have EX := EX.trans (if_neg c5)
            refine ea_iconst (pc := 79) dX12_lead_79 (v := (-1)) rfl ?_
            subst EX
            exact ea_ireturn (pc := 80) dX12_lead_80 rfl rfl
          · have EX := EX.trans (if_pos c5)
            have K := K.1 c5
            refine ea_aload_n (pc := 69) dX12_lead_69 rfl 0 rfl ?_
            refine ea_getR (pc := 70) dX12_lead_70 ec_12 (k := 90) (Nat.le_of_ble_eq_true rfl) rfl (Or.inl ew_1435) (hs.1 0 (by decide)).1 (hs.1 0 (by decide)).2.1 (hs.2 0 90 rfl) ?_
            refine ea_iload (pc := 73) dX12_lead_73 2 rfl ?_
            have z4 := K
            refine ea_iald (pc := 75) dX12_lead_75 (hs.1 64 (by decide)).1 (hs.1 64 (by decide)).2.1 (ea_vpl (hs.1 64 (by decide)).2.2 z4) ?_
            refine ea_goto (pc := 76) (tgt := 80) dX12_lead_76 rfl ?_
            subst EX
            exact ea_ireturn (pc := 80) dX12_lead_80 rfl rfl
        · have EX := EX.trans (if_pos c7)
          have K := K.1 c7
          refine ea_aload_n (pc := 54) dX12_lead_54 rfl 0 rfl ?_
          refine ea_getR (pc := 55) dX12_lead_55 ec_12 (k := 89) (Nat.le_of_ble_eq_true rfl) rfl (Or.inl ew_1434) (hs.1 0 (by decide)).1 (hs.1 0 (by decide)).2.1 (hs.2 0 89 rfl) ?_
          refine ea_iload (pc := 58) dX12_lead_58 2 rfl ?_
          have z6 := K
          refine ea_iald (pc := 60) dX12_lead_60 (hs.1 63 (by decide)).1 (hs.1 63 (by decide)).2.1 (ea_vpl (hs.1 63 (by decide)).2.2 z6) ?_
          refine ea_goto (pc := 61) (tgt := 80) dX12_lead_61 rfl ?_
          subst EX
          exact ea_ireturn (pc := 80) dX12_lead_80 rfl rfl
      · have EX := EX.trans (if_pos c9)
        have K := K.1 c9
        refine ea_aload_n (pc := 39) dX12_lead_39 rfl 0 rfl ?_
        refine ea_getR (pc := 40) dX12_lead_40 ec_12 (k := 88) (Nat.le_of_ble_eq_true rfl) rfl (Or.inl ew_1433) (hs.1 0 (by decide)).1 (hs.1 0 (by decide)).2.1 (hs.2 0 88 rfl) ?_
        refine ea_iload (pc := 43) dX12_lead_43 2 rfl ?_
        have z8 := K
        refine ea_iald (pc := 45) dX12_lead_45 (hs.1 62 (by decide)).1 (hs.1 62 (by decide)).2.1 (ea_vpl (hs.1 62 (by decide)).2.2 z8) ?_
        refine ea_goto (pc := 46) (tgt := 80) dX12_lead_46 rfl ?_
        subst EX
        exact ea_ireturn (pc := 80) dX12_lead_80 rfl rfl
    · have EX := EX.trans (if_pos c10)
      refine ea_iconst (pc := 24) dX12_lead_24 (v := (-1)) rfl ?_
      subst EX
      exact ea_ireturn (pc := 25) dX12_lead_25 rfl rfl
noncomputable def gX12_where (b0 : Nat) : Nat → Nat → Int32 → Int32 → Int32 → Int32 → ea_H → Option (Int32 × ea_H)
  | 0, _, _, _, _, _, _ => none
  | f + 1, lbl, x1, x2, x3, x4, h =>
    if lbl = 0 then (if (vX12_isLetterOf b0 (x1 : Int32) h) = (0 : Int32) then (some (((-1) : Int32), h)) else (gd (vp_in x1 120) (if (vX12_isIn (x2 : Int32) ((ea_i h (b0 + 44) (Int32.toNatClampNeg x1)) : Int32) ((ea_i h (b0 + 0) 0) : Int32) h) = (0 : Int32) then (some (((-1) : Int32), h)) else (if (vX12_isIn (x3 : Int32) (0 : Int32) (1 : Int32) h) = (0 : Int32) then (some (((-1) : Int32), h)) else (gd (vp_in x1 120) (gX12_where b0 f 46 (x1 : Int32) (x2 : Int32) (x3 : Int32) (((ea_i h (b0 + 50) (Int32.toNatClampNeg x1)) - (1 : Int32)) : Int32) h)))))) else
    if lbl = 46 then (gd (vp_in (((1000 : Int32) * x1) + x4) 120000) (if (ea_i h (b0 + 62) (Int32.toNatClampNeg (((1000 : Int32) * x1) + x4))) ≤ x2 then (if x3 = (0 : Int32) then (gd (vp_in (((1000 : Int32) * x1) + x4) 120000) (some ((ea_i h (b0 + 63) (Int32.toNatClampNeg (((1000 : Int32) * x1) + x4))), h))) else (gd (vp_in (((1000 : Int32) * x1) + x4) 120000) (some ((ea_i h (b0 + 64) (Int32.toNatClampNeg (((1000 : Int32) * x1) + x4))), h)))) else (gX12_where b0 f 46 (x1 : Int32) (x2 : Int32) (x3 : Int32) ((x4 + ((-1) : Int32)) : Int32) h))) else none
theorem tX12_where {d : Nat} {b0 : Nat} {h0 : ea_H} (hd : 3 ≤ d) : ∀ (f lbl : Nat) (x1 : Int32) (x2 : Int32) (x3 : Int32) (x4 : Int32) (h : ea_H) (r : Int32) (h' : ea_H), gX12_where b0 f lbl x1 x2 x3 x4 h = some (r, h') → ShM b0 h → (lbl = 0 → ea_W mX12_where d h0 (some (vI r)) h' 0 [(0, vR (some (b0 + 0))), (1, vI x1), (2, vI x2), (3, vI x3)] [] h) ∧ (lbl = 46 → ea_W mX12_where d h0 (some (vI r)) h' 46 [(0, vR (some (b0 + 0))), (1, vI x1), (2, vI x2), (3, vI x3), (4, vI x4)] [] h) := by
  intro f
  induction f with
  | zero => intro lbl x1 x2 x3 x4 h r h' E; cases E
  | succ f ih =>
    intro lbl x1 x2 x3 x4 h r h' E hs
    unfold gX12_where at E
    refine ⟨?_, ?_⟩
    · intro el
      subst el
      have E := (if_pos rfl).symm.trans E
      refine ea_aload_n (pc := 0) dX12_where_0 rfl 0 rfl ?_
      refine ea_iload_n (pc := 1) dX12_where_1 rfl 1 rfl ?_
      refine ea_callV (pc := 2) (d' := d - 1) (As := [vI x1]) (st := []) dX12_where_2 kX12_isLetterOf (sX12_isLetterOf (d := d - 1) (by omega) hs) (by omega) rfl (Nat.le_of_ble_eq_true rfl) ew_2019 ew_2021 ew_89 (ci := 12) rfl (by decide) (hs.1 0 (by decide)).1 (hs.1 0 (by decide)).2.1 ?_
      refine ea_if_eq (pc := 5) (tgt := 34) dX12_where_5 rfl (fun c8 => ?_) (fun c8 => ?_)
      · have E := (if_pos c8).symm.trans E
        refine ea_iconst (pc := 34) dX12_where_34 (v := (-1)) rfl ?_
        cases E
        exact ea_ireturn (pc := 35) dX12_where_35 rfl rfl
      · have E := (if_neg c8).symm.trans E
        refine ea_iload_n (pc := 8) dX12_where_8 rfl 2 rfl ?_
        refine ea_aload_n (pc := 9) dX12_where_9 rfl 0 rfl ?_
        refine ea_getR (pc := 10) dX12_where_10 ec_12 (k := 70) (Nat.le_of_ble_eq_true rfl) rfl (Or.inl ew_1415) (hs.1 0 (by decide)).1 (hs.1 0 (by decide)).2.1 (hs.2 0 70 rfl) ?_
        refine ea_iload_n (pc := 13) dX12_where_13 rfl 1 rfl ?_
        obtain ⟨z2, E⟩ := gd_some E
        refine ea_iald (pc := 14) dX12_where_14 (hs.1 44 (by decide)).1 (hs.1 44 (by decide)).2.1 (ea_vpl (hs.1 44 (by decide)).2.2 z2) ?_
        refine ea_aload_n (pc := 15) dX12_where_15 rfl 0 rfl ?_
        refine ea_getI (pc := 16) dX12_where_16 ec_12 (k := 0) (Nat.le_of_ble_eq_true rfl) rfl (Or.inl ew_1345) (hs.1 0 (by decide)).1 (hs.1 0 (by decide)).2.1 ?_
        refine ea_callS (pc := 19) (d' := d - 1) (As := [vI x2, vI (ea_i h (b0 + 44) (Int32.toNatClampNeg x1)), vI (ea_i h (b0 + 0) 0)]) (st := []) dX12_where_19 kX12_isIn (sX12_isIn (d := d - 1) (by omega)) (by omega) rfl (Nat.le_of_ble_eq_true rfl) ew_1712 ew_1713 ?_
        refine ea_if_eq (pc := 22) (tgt := 34) dX12_where_22 rfl (fun c7 => ?_) (fun c7 => ?_)
        · have E := (if_pos c7).symm.trans E
          refine ea_iconst (pc := 34) dX12_where_34 (v := (-1)) rfl ?_
          cases E
          exact ea_ireturn (pc := 35) dX12_where_35 rfl rfl
        · have E := (if_neg c7).symm.trans E
          refine ea_iload_n (pc := 25) dX12_where_25 rfl 3 rfl ?_
          refine ea_iconst (pc := 26) dX12_where_26 (v := 0) rfl ?_
          refine ea_iconst (pc := 27) dX12_where_27 (v := 1) rfl ?_
          refine ea_callS (pc := 28) (d' := d - 1) (As := [vI x3, vI 0, vI 1]) (st := []) dX12_where_28 kX12_isIn (sX12_isIn (d := d - 1) (by omega)) (by omega) rfl (Nat.le_of_ble_eq_true rfl) ew_1712 ew_1713 ?_
          refine ea_if_ne (pc := 31) (tgt := 36) dX12_where_31 rfl (fun c6 => ?_) (fun c6 => ?_)
          · have E := (if_neg c6).symm.trans E
            refine ea_aload_n (pc := 36) dX12_where_36 rfl 0 rfl ?_
            refine ea_getR (pc := 37) dX12_where_37 ec_12 (k := 76) (Nat.le_of_ble_eq_true rfl) rfl (Or.inl ew_1421) (hs.1 0 (by decide)).1 (hs.1 0 (by decide)).2.1 (hs.2 0 76 rfl) ?_
            refine ea_iload_n (pc := 40) dX12_where_40 rfl 1 rfl ?_
            obtain ⟨z5, E⟩ := gd_some E
            refine ea_iald (pc := 41) dX12_where_41 (hs.1 50 (by decide)).1 (hs.1 50 (by decide)).2.1 (ea_vpl (hs.1 50 (by decide)).2.2 z5) ?_
            refine ea_iconst (pc := 42) dX12_where_42 (v := 1) rfl ?_
            refine ea_isub (pc := 43) dX12_where_43 ?_
            refine ea_istore (pc := 44) (lv' := [(0, vR (some (b0 + 0))), (1, vI x1), (2, vI x2), (3, vI x3), (4, vI ((ea_i h (b0 + 50) (Int32.toNatClampNeg x1)) - (1 : Int32)))]) dX12_where_44 (Nat.le_of_ble_eq_true rfl) [1, 2, 3, 4, 0] rfl ?_
            exact ((ih 46 (x1 : Int32) (x2 : Int32) (x3 : Int32) (((ea_i h (b0 + 50) (Int32.toNatClampNeg x1)) - (1 : Int32)) : Int32) h _ _ E hs).2 rfl)
          · have E := (if_pos c6).symm.trans E
            refine ea_iconst (pc := 34) dX12_where_34 (v := (-1)) rfl ?_
            cases E
            exact ea_ireturn (pc := 35) dX12_where_35 rfl rfl
    intro el
    subst el
    have E := (if_neg (by decide)).symm.trans E
    have E := (if_pos rfl).symm.trans E
    refine ea_aload_n (pc := 46) dX12_where_46 rfl 0 rfl ?_
    refine ea_getR (pc := 47) dX12_where_47 ec_12 (k := 88) (Nat.le_of_ble_eq_true rfl) rfl (Or.inl ew_1433) (hs.1 0 (by decide)).1 (hs.1 0 (by decide)).2.1 (hs.2 0 88 rfl) ?_
    refine ea_sipush (pc := 50) dX12_where_50 (v := 1000) rfl ?_
    refine ea_iload_n (pc := 53) dX12_where_53 rfl 1 rfl ?_
    refine ea_imul (pc := 54) dX12_where_54 ?_
    refine ea_iload (pc := 55) dX12_where_55 4 rfl ?_
    refine ea_iadd (pc := 57) dX12_where_57 ?_
    obtain ⟨z9, E⟩ := gd_some E
    refine ea_iald (pc := 58) dX12_where_58 (hs.1 62 (by decide)).1 (hs.1 62 (by decide)).2.1 (ea_vpl (hs.1 62 (by decide)).2.2 z9) ?_
    refine ea_iload_n (pc := 59) dX12_where_59 rfl 2 rfl ?_
    refine ea_icmp_le (pc := 60) (tgt := 69) dX12_where_60 rfl (fun c13 => ?_) (fun c13 => ?_)
    · have E := (if_pos c13).symm.trans E
      refine ea_iload_n (pc := 69) dX12_where_69 rfl 3 rfl ?_
      refine ea_if_ne (pc := 70) (tgt := 89) dX12_where_70 rfl (fun c12 => ?_) (fun c12 => ?_)
      · have E := (if_neg c12).symm.trans E
        refine ea_aload_n (pc := 89) dX12_where_89 rfl 0 rfl ?_
        refine ea_getR (pc := 90) dX12_where_90 ec_12 (k := 90) (Nat.le_of_ble_eq_true rfl) rfl (Or.inl ew_1435) (hs.1 0 (by decide)).1 (hs.1 0 (by decide)).2.1 (hs.2 0 90 rfl) ?_
        refine ea_sipush (pc := 93) dX12_where_93 (v := 1000) rfl ?_
        refine ea_iload_n (pc := 96) dX12_where_96 rfl 1 rfl ?_
        refine ea_imul (pc := 97) dX12_where_97 ?_
        refine ea_iload (pc := 98) dX12_where_98 4 rfl ?_
        refine ea_iadd (pc := 100) dX12_where_100 ?_
        obtain ⟨z10, E⟩ := gd_some E
        refine ea_iald (pc := 101) dX12_where_101 (hs.1 64 (by decide)).1 (hs.1 64 (by decide)).2.1 (ea_vpl (hs.1 64 (by decide)).2.2 z10) ?_
        cases E
        exact ea_ireturn (pc := 102) dX12_where_102 rfl rfl
      · have E := (if_pos c12).symm.trans E
        refine ea_aload_n (pc := 73) dX12_where_73 rfl 0 rfl ?_
        refine ea_getR (pc := 74) dX12_where_74 ec_12 (k := 89) (Nat.le_of_ble_eq_true rfl) rfl (Or.inl ew_1434) (hs.1 0 (by decide)).1 (hs.1 0 (by decide)).2.1 (hs.2 0 89 rfl) ?_
        refine ea_sipush (pc := 77) dX12_where_77 (v := 1000) rfl ?_
        refine ea_iload_n (pc := 80) dX12_where_80 rfl 1 rfl ?_
        refine ea_imul (pc := 81) dX12_where_81 ?_
        refine ea_iload (pc := 82) dX12_where_82 4 rfl ?_
        refine ea_iadd (pc := 84) dX12_where_84 ?_
        obtain ⟨z11, E⟩ := gd_some E
        refine ea_iald (pc := 85) dX12_where_85 (hs.1 63 (by decide)).1 (hs.1 63 (by decide)).2.1 (ea_vpl (hs.1 63 (by decide)).2.2 z11) ?_
        refine ea_goto (pc := 86) (tgt := 102) dX12_where_86 rfl ?_
        cases E
        exact ea_ireturn (pc := 102) dX12_where_102 rfl rfl
    · have E := (if_neg c13).symm.trans E
      refine ea_iinc (pc := 63) (v := (-1)) (lv' := [(0, vR (some (b0 + 0))), (1, vI x1), (2, vI x2), (3, vI x3), (4, vI (x4 + ((-1) : Int32)))]) dX12_where_63 4 rfl rfl (Nat.le_of_ble_eq_true rfl) [1, 2, 3, 4, 0] rfl ?_
      refine ea_goto (pc := 66) (tgt := 46) dX12_where_66 rfl ?_
      exact ((ih 46 (x1 : Int32) (x2 : Int32) (x3 : Int32) ((x4 + ((-1) : Int32)) : Int32) h _ _ E hs).2 rfl)
noncomputable def qX12_where (b0 : Nat) (x1 : Int32) (x2 : Int32) (x3 : Int32) (h : ea_H) : Option (Int32 × ea_H) := gX12_where b0 1000000000 0 x1 x2 x3 0 h
def okX12_where (b0 : Nat) (x1 : Int32) (x2 : Int32) (x3 : Int32) (h : ea_H) : Prop := ∃ x, qX12_where b0 x1 x2 x3 h = some x
noncomputable def vX12_where (b0 : Nat) (x1 : Int32) (x2 : Int32) (x3 : Int32) (h : ea_H) : Int32 := ((qX12_where b0 x1 x2 x3 h).getD (0, h)).1
noncomputable def wX12_where (b0 : Nat) (x1 : Int32) (x2 : Int32) (x3 : Int32) (h : ea_H) : ea_H := ((qX12_where b0 x1 x2 x3 h).getD (0, h)).2
theorem sX12_where {d : Nat} {b0 : Nat} {x1 : Int32} {x2 : Int32} {x3 : Int32} {h : ea_H} (hd : 3 ≤ d) (hs : ShM b0 h) (K : okX12_where b0 x1 x2 x3 h) : ea_Met mX12_where d [vR (some (b0 + 0)), vI x1, vI x2, vI x3] h (some (vI (vX12_where b0 x1 x2 x3 h))) (wX12_where b0 x1 x2 x3 h) := by
  obtain ⟨⟨x, y⟩, K⟩ := K
  unfold wX12_where vX12_where
  rw [K]
  unfold qX12_where at K
  exact ea_enter rfl (Nat.le_of_ble_eq_true rfl) ((tX12_where hd 1000000000 0 x1 x2 x3 0 h x y K hs).1 rfl)
