/-! the class, 2 -/
noncomputable def vX8_joined (x0 : Int32) (x1 : Int32) (x2 : Int32) (h : ea_H) : Int32 := (if Int32.toInt x0 = -19 then (x1 ||| x2) else (if Int32.toInt x0 = -18 then (x1 &&& x2) else (if Int32.toInt x0 = -17 then (0 : Int32) else (if Int32.toInt x0 = -16 then (if x1 ≤ x2 then (0 : Int32) else (1 : Int32)) else (if Int32.toInt x0 = -15 then (if x1 = x2 then (1 : Int32) else (0 : Int32)) else (if Int32.toInt x0 = -14 then (if x2 ≤ x1 then (0 : Int32) else (1 : Int32)) else (if Int32.toInt x0 = -13 then (if x2 = (0 : Int32) then (0 : Int32) else (x1 / x2)) else (if Int32.toInt x0 = -12 then (x1 * x2) else (if Int32.toInt x0 = -11 then (x1 - x2) else (if Int32.toInt x0 = -10 then (x1 + x2) else (0 : Int32)))))))))))
def okX8_joined (x0 : Int32) (x1 : Int32) (x2 : Int32) (h : ea_H) : Prop := (Int32.toInt x0 = -19 → True) ∧ (¬ Int32.toInt x0 = -19 → (Int32.toInt x0 = -18 → True) ∧ (¬ Int32.toInt x0 = -18 → (Int32.toInt x0 = -17 → True) ∧ (¬ Int32.toInt x0 = -17 → (Int32.toInt x0 = -16 → True) ∧ (¬ Int32.toInt x0 = -16 → (Int32.toInt x0 = -15 → True) ∧ (¬ Int32.toInt x0 = -15 → (Int32.toInt x0 = -14 → True) ∧ (¬ Int32.toInt x0 = -14 → (Int32.toInt x0 = -13 → (x2 = (0 : Int32) → True) ∧ (¬ x2 = (0 : Int32) → (¬ x2 = 0))) ∧ (¬ Int32.toInt x0 = -13 → (Int32.toInt x0 = -12 → True) ∧ (¬ Int32.toInt x0 = -12 → (Int32.toInt x0 = -11 → True) ∧ (¬ Int32.toInt x0 = -11 → (Int32.toInt x0 = -10 → True) ∧ (¬ Int32.toInt x0 = -10 → True))))))))))
theorem sX8_joined {d : Nat} {x0 : Int32} {x1 : Int32} {x2 : Int32} {h : ea_H} (hd : 1 ≤ d) (K : okX8_joined x0 x1 x2 h) : ea_Met mX8_joined d [vI x0, vI x1, vI x2] h (some (vI (vX8_joined x0 x1 x2 h))) h := by
  obtain ⟨X, EX⟩ : ∃ z, z = vX8_joined x0 x1 x2 h := ⟨_, rfl⟩
  rw [← EX]
  unfold vX8_joined at EX
  unfold okX8_joined at K
  refine ea_enter rfl (Nat.le_of_ble_eq_true rfl) ?_
  refine ea_iload_n (pc := 0) dX8_joined_0 rfl 0 rfl ?_
  by_cases qc1_0 : Int32.toInt x0 = -19
  · have EX := EX.trans (if_pos qc1_0)
    have K := K.1 qc1_0
    refine ea_tswIn (pc := 1) (tgt := 117) dX8_joined_1 (by rw [qc1_0]; decide) (by rw [qc1_0]; decide) (by rw [qc1_0]; rfl) rfl ?_
    refine ea_iload_n (pc := 117) dX8_joined_117 rfl 1 rfl ?_
    refine ea_iload_n (pc := 118) dX8_joined_118 rfl 2 rfl ?_
    refine ea_ior (pc := 119) dX8_joined_119 ?_
    subst EX
    exact ea_ireturn (pc := 120) dX8_joined_120 rfl rfl
  have EX := EX.trans (if_neg qc1_0)
  have K := K.2 qc1_0
  by_cases qc1_1 : Int32.toInt x0 = -18
  · have EX := EX.trans (if_pos qc1_1)
    have K := K.1 qc1_1
    refine ea_tswIn (pc := 1) (tgt := 113) dX8_joined_1 (by rw [qc1_1]; decide) (by rw [qc1_1]; decide) (by rw [qc1_1]; rfl) rfl ?_
    refine ea_iload_n (pc := 113) dX8_joined_113 rfl 1 rfl ?_
    refine ea_iload_n (pc := 114) dX8_joined_114 rfl 2 rfl ?_
    refine ea_iand (pc := 115) dX8_joined_115 ?_
    subst EX
    exact ea_ireturn (pc := 116) dX8_joined_116 rfl rfl
  have EX := EX.trans (if_neg qc1_1)
  have K := K.2 qc1_1
  by_cases qc1_2 : Int32.toInt x0 = -17
  · have EX := EX.trans (if_pos qc1_2)
    have K := K.1 qc1_2
    refine ea_tswIn (pc := 1) (tgt := 121) dX8_joined_1 (by rw [qc1_2]; decide) (by rw [qc1_2]; decide) (by rw [qc1_2]; rfl) rfl ?_
    refine ea_iconst (pc := 121) dX8_joined_121 (v := 0) rfl ?_
    subst EX
    exact ea_ireturn (pc := 122) dX8_joined_122 rfl rfl
  have EX := EX.trans (if_neg qc1_2)
  have K := K.2 qc1_2
  by_cases qc1_3 : Int32.toInt x0 = -16
  · have EX := EX.trans (if_pos qc1_3)
    have K := K.1 qc1_3
    refine ea_tswIn (pc := 1) (tgt := 102) dX8_joined_1 (by rw [qc1_3]; decide) (by rw [qc1_3]; decide) (by rw [qc1_3]; rfl) rfl ?_
    refine ea_iload_n (pc := 102) dX8_joined_102 rfl 1 rfl ?_
    refine ea_iload_n (pc := 103) dX8_joined_103 rfl 2 rfl ?_
    refine ea_icmp_le (pc := 104) (tgt := 111) dX8_joined_104 rfl (fun c1 => ?_) (fun c1 => ?_)
    · have EX := EX.trans (if_pos c1)
      refine ea_iconst (pc := 111) dX8_joined_111 (v := 0) rfl ?_
      subst EX
      exact ea_ireturn (pc := 112) dX8_joined_112 rfl rfl
    · have EX := EX.trans (if_neg c1)
      refine ea_iconst (pc := 107) dX8_joined_107 (v := 1) rfl ?_
      refine ea_goto (pc := 108) (tgt := 112) dX8_joined_108 rfl ?_
      subst EX
      exact ea_ireturn (pc := 112) dX8_joined_112 rfl rfl
  have EX := EX.trans (if_neg qc1_3)
  have K := K.2 qc1_3
  by_cases qc1_4 : Int32.toInt x0 = -15
  · have EX := EX.trans (if_pos qc1_4)
    have K := K.1 qc1_4
    refine ea_tswIn (pc := 1) (tgt := 91) dX8_joined_1 (by rw [qc1_4]; decide) (by rw [qc1_4]; decide) (by rw [qc1_4]; rfl) rfl ?_
    refine ea_iload_n (pc := 91) dX8_joined_91 rfl 1 rfl ?_
    refine ea_iload_n (pc := 92) dX8_joined_92 rfl 2 rfl ?_
    refine ea_icmp_ne (pc := 93) (tgt := 100) dX8_joined_93 rfl (fun c2 => ?_) (fun c2 => ?_)
    · have EX := EX.trans (if_neg c2)
      refine ea_iconst (pc := 100) dX8_joined_100 (v := 0) rfl ?_
      subst EX
      exact ea_ireturn (pc := 101) dX8_joined_101 rfl rfl
    · have EX := EX.trans (if_pos c2)
      refine ea_iconst (pc := 96) dX8_joined_96 (v := 1) rfl ?_
      refine ea_goto (pc := 97) (tgt := 101) dX8_joined_97 rfl ?_
      subst EX
      exact ea_ireturn (pc := 101) dX8_joined_101 rfl rfl
  have EX := EX.trans (if_neg qc1_4)
  have K := K.2 qc1_4
  by_cases qc1_5 : Int32.toInt x0 = -14
  · have EX := EX.trans (if_pos qc1_5)
    have K := K.1 qc1_5
    refine ea_tswIn (pc := 1) (tgt := 80) dX8_joined_1 (by rw [qc1_5]; decide) (by rw [qc1_5]; decide) (by rw [qc1_5]; rfl) rfl ?_
    refine ea_iload_n (pc := 80) dX8_joined_80 rfl 1 rfl ?_
    refine ea_iload_n (pc := 81) dX8_joined_81 rfl 2 rfl ?_
    refine ea_icmp_ge (pc := 82) (tgt := 89) dX8_joined_82 rfl (fun c3 => ?_) (fun c3 => ?_)
    · have EX := EX.trans (if_pos c3)
      refine ea_iconst (pc := 89) dX8_joined_89 (v := 0) rfl ?_
      subst EX
      exact ea_ireturn (pc := 90) dX8_joined_90 rfl rfl
    · have EX := EX.trans (if_neg c3)
      refine ea_iconst (pc := 85) dX8_joined_85 (v := 1) rfl ?_
      refine ea_goto (pc := 86) (tgt := 90) dX8_joined_86 rfl ?_
      subst EX
      exact ea_ireturn (pc := 90) dX8_joined_90 rfl rfl
  have EX := EX.trans (if_neg qc1_5)
  have K := K.2 qc1_5
  by_cases qc1_6 : Int32.toInt x0 = -13
  · have EX := EX.trans (if_pos qc1_6)
    have K := K.1 qc1_6
    refine ea_tswIn (pc := 1) (tgt := 68) dX8_joined_1 (by rw [qc1_6]; decide) (by rw [qc1_6]; decide) (by rw [qc1_6]; rfl) rfl ?_
    refine ea_iload_n (pc := 68) dX8_joined_68 rfl 2 rfl ?_
    refine ea_if_ne (pc := 69) (tgt := 76) dX8_joined_69 rfl (fun c5 => ?_) (fun c5 => ?_)
    · have EX := EX.trans (if_neg c5)
      have K := K.2 c5
      refine ea_iload_n (pc := 76) dX8_joined_76 rfl 1 rfl ?_
      refine ea_iload_n (pc := 77) dX8_joined_77 rfl 2 rfl ?_
      have z4 := K
      refine ea_idiv (pc := 78) dX8_joined_78 z4 ?_
      subst EX
      exact ea_ireturn (pc := 79) dX8_joined_79 rfl rfl
    · have EX := EX.trans (if_pos c5)
      refine ea_iconst (pc := 72) dX8_joined_72 (v := 0) rfl ?_
      refine ea_goto (pc := 73) (tgt := 79) dX8_joined_73 rfl ?_
      subst EX
      exact ea_ireturn (pc := 79) dX8_joined_79 rfl rfl
  have EX := EX.trans (if_neg qc1_6)
  have K := K.2 qc1_6
  by_cases qc1_7 : Int32.toInt x0 = -12
  · have EX := EX.trans (if_pos qc1_7)
    have K := K.1 qc1_7
    refine ea_tswIn (pc := 1) (tgt := 64) dX8_joined_1 (by rw [qc1_7]; decide) (by rw [qc1_7]; decide) (by rw [qc1_7]; rfl) rfl ?_
    refine ea_iload_n (pc := 64) dX8_joined_64 rfl 1 rfl ?_
    refine ea_iload_n (pc := 65) dX8_joined_65 rfl 2 rfl ?_
    refine ea_imul (pc := 66) dX8_joined_66 ?_
    subst EX
    exact ea_ireturn (pc := 67) dX8_joined_67 rfl rfl
  have EX := EX.trans (if_neg qc1_7)
  have K := K.2 qc1_7
  by_cases qc1_8 : Int32.toInt x0 = -11
  · have EX := EX.trans (if_pos qc1_8)
    have K := K.1 qc1_8
    refine ea_tswIn (pc := 1) (tgt := 60) dX8_joined_1 (by rw [qc1_8]; decide) (by rw [qc1_8]; decide) (by rw [qc1_8]; rfl) rfl ?_
    refine ea_iload_n (pc := 60) dX8_joined_60 rfl 1 rfl ?_
    refine ea_iload_n (pc := 61) dX8_joined_61 rfl 2 rfl ?_
    refine ea_isub (pc := 62) dX8_joined_62 ?_
    subst EX
    exact ea_ireturn (pc := 63) dX8_joined_63 rfl rfl
  have EX := EX.trans (if_neg qc1_8)
  have K := K.2 qc1_8
  by_cases qc1_9 : Int32.toInt x0 = -10
  · have EX := EX.trans (if_pos qc1_9)
    have K := K.1 qc1_9
    refine ea_tswIn (pc := 1) (tgt := 56) dX8_joined_1 (by rw [qc1_9]; decide) (by rw [qc1_9]; decide) (by rw [qc1_9]; rfl) rfl ?_
    refine ea_iload_n (pc := 56) dX8_joined_56 rfl 1 rfl ?_
    refine ea_iload_n (pc := 57) dX8_joined_57 rfl 2 rfl ?_
    refine ea_iadd (pc := 58) dX8_joined_58 ?_
    subst EX
    exact ea_ireturn (pc := 59) dX8_joined_59 rfl rfl
  have EX := EX.trans (if_neg qc1_9)
  have K := K.2 qc1_9
  refine ea_tswOut (pc := 1) (tgt := 121) dX8_joined_1 (ec_sw_m19_m10 qc1_0 qc1_1 qc1_2 qc1_3 qc1_4 qc1_5 qc1_6 qc1_7 qc1_8 qc1_9) rfl ?_
  refine ea_iconst (pc := 121) dX8_joined_121 (v := 0) rfl ?_
  subst EX
  exact ea_ireturn (pc := 122) dX8_joined_122 rfl rfl
noncomputable def wX9_init (a0 : Nat) (h : ea_H) : ea_H := (ea_wr (ea_new (ea_wr (ea_new (ea_wr (ea_new (ea_wr (ea_new (ea_wr (ea_new (ea_wr (ea_new (ea_wr (ea_new h 20 10 10) a0 1 (some (ea_n h))) 20 80 80) a0 2 (some (ea_n (ea_wr (ea_new h 20 10 10) a0 1 (some (ea_n h)))))) 20 80 80) a0 3 (some (ea_n (ea_wr (ea_new (ea_wr (ea_new h 20 10 10) a0 1 (some (ea_n h))) 20 80 80) a0 2 (some (ea_n (ea_wr (ea_new h 20 10 10) a0 1 (some (ea_n h))))))))) 20 80 80) a0 4 (some (ea_n (ea_wr (ea_new (ea_wr (ea_new (ea_wr (ea_new h 20 10 10) a0 1 (some (ea_n h))) 20 80 80) a0 2 (some (ea_n (ea_wr (ea_new h 20 10 10) a0 1 (some (ea_n h)))))) 20 80 80) a0 3 (some (ea_n (ea_wr (ea_new (ea_wr (ea_new h 20 10 10) a0 1 (some (ea_n h))) 20 80 80) a0 2 (some (ea_n (ea_wr (ea_new h 20 10 10) a0 1 (some (ea_n h)))))))))))) 21 80 80) a0 5 (some (ea_n (ea_wr (ea_new (ea_wr (ea_new (ea_wr (ea_new (ea_wr (ea_new h 20 10 10) a0 1 (some (ea_n h))) 20 80 80) a0 2 (some (ea_n (ea_wr (ea_new h 20 10 10) a0 1 (some (ea_n h)))))) 20 80 80) a0 3 (some (ea_n (ea_wr (ea_new (ea_wr (ea_new h 20 10 10) a0 1 (some (ea_n h))) 20 80 80) a0 2 (some (ea_n (ea_wr (ea_new h 20 10 10) a0 1 (some (ea_n h))))))))) 20 80 80) a0 4 (some (ea_n (ea_wr (ea_new (ea_wr (ea_new (ea_wr (ea_new h 20 10 10) a0 1 (some (ea_n h))) 20 80 80) a0 2 (some (ea_n (ea_wr (ea_new h 20 10 10) a0 1 (some (ea_n h)))))) 20 80 80) a0 3 (some (ea_n (ea_wr (ea_new (ea_wr (ea_new h 20 10 10) a0 1 (some (ea_n h))) 20 80 80) a0 2 (some (ea_n (ea_wr (ea_new h 20 10 10) a0 1 (some (ea_n h))))))))))))))) 20 70 70) a0 6 (some (ea_n (ea_wr (ea_new (ea_wr (ea_new (ea_wr (ea_new (ea_wr (ea_new (ea_wr (ea_new h 20 10 10) a0 1 (some (ea_n h))) 20 80 80) a0 2 (some (ea_n (ea_wr (ea_new h 20 10 10) a0 1 (some (ea_n h)))))) 20 80 80) a0 3 (some (ea_n (ea_wr (ea_new (ea_wr (ea_new h 20 10 10) a0 1 (some (ea_n h))) 20 80 80) a0 2 (some (ea_n (ea_wr (ea_new h 20 10 10) a0 1 (some (ea_n h))))))))) 20 80 80) a0 4 (some (ea_n (ea_wr (ea_new (ea_wr (ea_new (ea_wr (ea_new h 20 10 10) a0 1 (some (ea_n h))) 20 80 80) a0 2 (some (ea_n (ea_wr (ea_new h 20 10 10) a0 1 (some (ea_n h)))))) 20 80 80) a0 3 (some (ea_n (ea_wr (ea_new (ea_wr (ea_new h 20 10 10) a0 1 (some (ea_n h))) 20 80 80) a0 2 (some (ea_n (ea_wr (ea_new h 20 10 10) a0 1 (some (ea_n h)))))))))))) 21 80 80) a0 5 (some (ea_n (ea_wr (ea_new (ea_wr (ea_new (ea_wr (ea_new (ea_wr (ea_new h 20 10 10) a0 1 (some (ea_n h))) 20 80 80) a0 2 (some (ea_n (ea_wr (ea_new h 20 10 10) a0 1 (some (ea_n h)))))) 20 80 80) a0 3 (some (ea_n (ea_wr (ea_new (ea_wr (ea_new h 20 10 10) a0 1 (some (ea_n h))) 20 80 80) a0 2 (some (ea_n (ea_wr (ea_new h 20 10 10) a0 1 (some (ea_n h))))))))) 20 80 80) a0 4 (some (ea_n (ea_wr (ea_new (ea_wr (ea_new (ea_wr (ea_new h 20 10 10) a0 1 (some (ea_n h))) 20 80 80) a0 2 (some (ea_n (ea_wr (ea_new h 20 10 10) a0 1 (some (ea_n h)))))) 20 80 80) a0 3 (some (ea_n (ea_wr (ea_new (ea_wr (ea_new h 20 10 10) a0 1 (some (ea_n h))) 20 80 80) a0 2 (some (ea_n (ea_wr (ea_new h 20 10 10) a0 1 (some (ea_n h)))))))))))))))))) 21 560 560) a0 7 (some (ea_n (ea_wr (ea_new (ea_wr (ea_new (ea_wr (ea_new (ea_wr (ea_new (ea_wr (ea_new (ea_wr (ea_new h 20 10 10) a0 1 (some (ea_n h))) 20 80 80) a0 2 (some (ea_n (ea_wr (ea_new h 20 10 10) a0 1 (some (ea_n h)))))) 20 80 80) a0 3 (some (ea_n (ea_wr (ea_new (ea_wr (ea_new h 20 10 10) a0 1 (some (ea_n h))) 20 80 80) a0 2 (some (ea_n (ea_wr (ea_new h 20 10 10) a0 1 (some (ea_n h))))))))) 20 80 80) a0 4 (some (ea_n (ea_wr (ea_new (ea_wr (ea_new (ea_wr (ea_new h 20 10 10) a0 1 (some (ea_n h))) 20 80 80) a0 2 (some (ea_n (ea_wr (ea_new h 20 10 10) a0 1 (some (ea_n h)))))) 20 80 80) a0 3 (some (ea_n (ea_wr (ea_new (ea_wr (ea_new h 20 10 10) a0 1 (some (ea_n h))) 20 80 80) a0 2 (some (ea_n (ea_wr (ea_new h 20 10 10) a0 1 (some (ea_n h)))))))))))) 21 80 80) a0 5 (some (ea_n (ea_wr (ea_new (ea_wr (ea_new (ea_wr (ea_new (ea_wr (ea_new h 20 10 10) a0 1 (some (ea_n h))) 20 80 80) a0 2 (some (ea_n (ea_wr (ea_new h 20 10 10) a0 1 (some (ea_n h)))))) 20 80 80) a0 3 (some (ea_n (ea_wr (ea_new (ea_wr (ea_new h 20 10 10) a0 1 (some (ea_n h))) 20 80 80) a0 2 (some (ea_n (ea_wr (ea_new h 20 10 10) a0 1 (some (ea_n h))))))))) 20 80 80) a0 4 (some (ea_n (ea_wr (ea_new (ea_wr (ea_new (ea_wr (ea_new h 20 10 10) a0 1 (some (ea_n h))) 20 80 80) a0 2 (some (ea_n (ea_wr (ea_new h 20 10 10) a0 1 (some (ea_n h)))))) 20 80 80) a0 3 (some (ea_n (ea_wr (ea_new (ea_wr (ea_new h 20 10 10) a0 1 (some (ea_n h))) 20 80 80) a0 2 (some (ea_n (ea_wr (ea_new h 20 10 10) a0 1 (some (ea_n h))))))))))))))) 20 70 70) a0 6 (some (ea_n (ea_wr (ea_new (ea_wr (ea_new (ea_wr (ea_new (ea_wr (ea_new (ea_wr (ea_new h 20 10 10) a0 1 (some (ea_n h))) 20 80 80) a0 2 (some (ea_n (ea_wr (ea_new h 20 10 10) a0 1 (some (ea_n h)))))) 20 80 80) a0 3 (some (ea_n (ea_wr (ea_new (ea_wr (ea_new h 20 10 10) a0 1 (some (ea_n h))) 20 80 80) a0 2 (some (ea_n (ea_wr (ea_new h 20 10 10) a0 1 (some (ea_n h))))))))) 20 80 80) a0 4 (some (ea_n (ea_wr (ea_new (ea_wr (ea_new (ea_wr (ea_new h 20 10 10) a0 1 (some (ea_n h))) 20 80 80) a0 2 (some (ea_n (ea_wr (ea_new h 20 10 10) a0 1 (some (ea_n h)))))) 20 80 80) a0 3 (some (ea_n (ea_wr (ea_new (ea_wr (ea_new h 20 10 10) a0 1 (some (ea_n h))) 20 80 80) a0 2 (some (ea_n (ea_wr (ea_new h 20 10 10) a0 1 (some (ea_n h)))))))))))) 21 80 80) a0 5 (some (ea_n (ea_wr (ea_new (ea_wr (ea_new (ea_wr (ea_new (ea_wr (ea_new h 20 10 10) a0 1 (some (ea_n h))) 20 80 80) a0 2 (some (ea_n (ea_wr (ea_new h 20 10 10) a0 1 (some (ea_n h)))))) 20 80 80) a0 3 (some (ea_n (ea_wr (ea_new (ea_wr (ea_new h 20 10 10) a0 1 (some (ea_n h))) 20 80 80) a0 2 (some (ea_n (ea_wr (ea_new h 20 10 10) a0 1 (some (ea_n h))))))))) 20 80 80) a0 4 (some (ea_n (ea_wr (ea_new (ea_wr (ea_new (ea_wr (ea_new h 20 10 10) a0 1 (some (ea_n h))) 20 80 80) a0 2 (some (ea_n (ea_wr (ea_new h 20 10 10) a0 1 (some (ea_n h)))))) 20 80 80) a0 3 (some (ea_n (ea_wr (ea_new (ea_wr (ea_new h 20 10 10) a0 1 (some (ea_n h))) 20 80 80) a0 2 (some (ea_n (ea_wr (ea_new h 20 10 10) a0 1 (some (ea_n h)))))))))))))))))))))
def okX9_init (a0 : Nat) (h : ea_H) : Prop := (a0 < ea_n (ea_new h 20 10 10) ∧ ea_c (ea_new h 20 10 10) a0 = 9) ∧ ((a0 < ea_n (ea_new (ea_wr (ea_new h 20 10 10) a0 1 (some (ea_n h))) 20 80 80) ∧ ea_c (ea_new (ea_wr (ea_new h 20 10 10) a0 1 (some (ea_n h))) 20 80 80) a0 = 9) ∧ ((a0 < ea_n (ea_new (ea_wr (ea_new (ea_wr (ea_new h 20 10 10) a0 1 (some (ea_n h))) 20 80 80) a0 2 (some (ea_n (ea_wr (ea_new h 20 10 10) a0 1 (some (ea_n h)))))) 20 80 80) ∧ ea_c (ea_new (ea_wr (ea_new (ea_wr (ea_new h 20 10 10) a0 1 (some (ea_n h))) 20 80 80) a0 2 (some (ea_n (ea_wr (ea_new h 20 10 10) a0 1 (some (ea_n h)))))) 20 80 80) a0 = 9) ∧ ((a0 < ea_n (ea_new (ea_wr (ea_new (ea_wr (ea_new (ea_wr (ea_new h 20 10 10) a0 1 (some (ea_n h))) 20 80 80) a0 2 (some (ea_n (ea_wr (ea_new h 20 10 10) a0 1 (some (ea_n h)))))) 20 80 80) a0 3 (some (ea_n (ea_wr (ea_new (ea_wr (ea_new h 20 10 10) a0 1 (some (ea_n h))) 20 80 80) a0 2 (some (ea_n (ea_wr (ea_new h 20 10 10) a0 1 (some (ea_n h))))))))) 20 80 80) ∧ ea_c (ea_new (ea_wr (ea_new (ea_wr (ea_new (ea_wr (ea_new h 20 10 10) a0 1 (some (ea_n h))) 20 80 80) a0 2 (some (ea_n (ea_wr (ea_new h 20 10 10) a0 1 (some (ea_n h)))))) 20 80 80) a0 3 (some (ea_n (ea_wr (ea_new (ea_wr (ea_new h 20 10 10) a0 1 (some (ea_n h))) 20 80 80) a0 2 (some (ea_n (ea_wr (ea_new h 20 10 10) a0 1 (some (ea_n h))))))))) 20 80 80) a0 = 9) ∧ ((a0 < ea_n (ea_new (ea_wr (ea_new (ea_wr (ea_new (ea_wr (ea_new (ea_wr (ea_new h 20 10 10) a0 1 (some (ea_n h))) 20 80 80) a0 2 (some (ea_n (ea_wr (ea_new h 20 10 10) a0 1 (some (ea_n h)))))) 20 80 80) a0 3 (some (ea_n (ea_wr (ea_new (ea_wr (ea_new h 20 10 10) a0 1 (some (ea_n h))) 20 80 80) a0 2 (some (ea_n (ea_wr (ea_new h 20 10 10) a0 1 (some (ea_n h))))))))) 20 80 80) a0 4 (some (ea_n (ea_wr (ea_new (ea_wr (ea_new (ea_wr (ea_new h 20 10 10) a0 1 (some (ea_n h))) 20 80 80) a0 2 (some (ea_n (ea_wr (ea_new h 20 10 10) a0 1 (some (ea_n h)))))) 20 80 80) a0 3 (some (ea_n (ea_wr (ea_new (ea_wr (ea_new h 20 10 10) a0 1 (some (ea_n h))) 20 80 80) a0 2 (some (ea_n (ea_wr (ea_new h 20 10 10) a0 1 (some (ea_n h)))))))))))) 21 80 80) ∧ ea_c (ea_new (ea_wr (ea_new (ea_wr (ea_new (ea_wr (ea_new (ea_wr (ea_new h 20 10 10) a0 1 (some (ea_n h))) 20 80 80) a0 2 (some (ea_n (ea_wr (ea_new h 20 10 10) a0 1 (some (ea_n h)))))) 20 80 80) a0 3 (some (ea_n (ea_wr (ea_new (ea_wr (ea_new h 20 10 10) a0 1 (some (ea_n h))) 20 80 80) a0 2 (some (ea_n (ea_wr (ea_new h 20 10 10) a0 1 (some (ea_n h))))))))) 20 80 80) a0 4 (some (ea_n (ea_wr (ea_new (ea_wr (ea_new (ea_wr (ea_new h 20 10 10) a0 1 (some (ea_n h))) 20 80 80) a0 2 (some (ea_n (ea_wr (ea_new h 20 10 10) a0 1 (some (ea_n h)))))) 20 80 80) a0 3 (some (ea_n (ea_wr (ea_new (ea_wr (ea_new h 20 10 10) a0 1 (some (ea_n h))) 20 80 80) a0 2 (some (ea_n (ea_wr (ea_new h 20 10 10) a0 1 (some (ea_n h)))))))))))) 21 80 80) a0 = 9) ∧ ((a0 < ea_n (ea_new (ea_wr (ea_new (ea_wr (ea_new (ea_wr (ea_new (ea_wr (ea_new (ea_wr (ea_new h 20 10 10) a0 1 (some (ea_n h))) 20 80 80) a0 2 (some (ea_n (ea_wr (ea_new h 20 10 10) a0 1 (some (ea_n h)))))) 20 80 80) a0 3 (some (ea_n (ea_wr (ea_new (ea_wr (ea_new h 20 10 10) a0 1 (some (ea_n h))) 20 80 80) a0 2 (some (ea_n (ea_wr (ea_new h 20 10 10) a0 1 (some (ea_n h))))))))) 20 80 80) a0 4 (some (ea_n (ea_wr (ea_new (ea_wr (ea_new (ea_wr (ea_new h 20 10 10) a0 1 (some (ea_n h))) 20 80 80) a0 2 (some (ea_n (ea_wr (ea_new h 20 10 10) a0 1 (some (ea_n h)))))) 20 80 80) a0 3 (some (ea_n (ea_wr (ea_new (ea_wr (ea_new h 20 10 10) a0 1 (some (ea_n h))) 20 80 80) a0 2 (some (ea_n (ea_wr (ea_new h 20 10 10) a0 1 (some (ea_n h)))))))))))) 21 80 80) a0 5 (some (ea_n (ea_wr (ea_new (ea_wr (ea_new (ea_wr (ea_new (ea_wr (ea_new h 20 10 10) a0 1 (some (ea_n h))) 20 80 80) a0 2 (some (ea_n (ea_wr (ea_new h 20 10 10) a0 1 (some (ea_n h)))))) 20 80 80) a0 3 (some (ea_n (ea_wr (ea_new (ea_wr (ea_new h 20 10 10) a0 1 (some (ea_n h))) 20 80 80) a0 2 (some (ea_n (ea_wr (ea_new h 20 10 10) a0 1 (some (ea_n h))))))))) 20 80 80) a0 4 (some (ea_n (ea_wr (ea_new (ea_wr (ea_new (ea_wr (ea_new h 20 10 10) a0 1 (some (ea_n h))) 20 80 80) a0 2 (some (ea_n (ea_wr (ea_new h 20 10 10) a0 1 (some (ea_n h)))))) 20 80 80) a0 3 (some (ea_n (ea_wr (ea_new (ea_wr (ea_new h 20 10 10) a0 1 (some (ea_n h))) 20 80 80) a0 2 (some (ea_n (ea_wr (ea_new h 20 10 10) a0 1 (some (ea_n h))))))))))))))) 20 70 70) ∧ ea_c (ea_new (ea_wr (ea_new (ea_wr (ea_new (ea_wr (ea_new (ea_wr (ea_new (ea_wr (ea_new h 20 10 10) a0 1 (some (ea_n h))) 20 80 80) a0 2 (some (ea_n (ea_wr (ea_new h 20 10 10) a0 1 (some (ea_n h)))))) 20 80 80) a0 3 (some (ea_n (ea_wr (ea_new (ea_wr (ea_new h 20 10 10) a0 1 (some (ea_n h))) 20 80 80) a0 2 (some (ea_n (ea_wr (ea_new h 20 10 10) a0 1 (some (ea_n h))))))))) 20 80 80) a0 4 (some (ea_n (ea_wr (ea_new (ea_wr (ea_new (ea_wr (ea_new h 20 10 10) a0 1 (some (ea_n h))) 20 80 80) a0 2 (some (ea_n (ea_wr (ea_new h 20 10 10) a0 1 (some (ea_n h)))))) 20 80 80) a0 3 (some (ea_n (ea_wr (ea_new (ea_wr (ea_new h 20 10 10) a0 1 (some (ea_n h))) 20 80 80) a0 2 (some (ea_n (ea_wr (ea_new h 20 10 10) a0 1 (some (ea_n h)))))))))))) 21 80 80) a0 5 (some (ea_n (ea_wr (ea_new (ea_wr (ea_new (ea_wr (ea_new (ea_wr (ea_new h 20 10 10) a0 1 (some (ea_n h))) 20 80 80) a0 2 (some (ea_n (ea_wr (ea_new h 20 10 10) a0 1 (some (ea_n h)))))) 20 80 80) a0 3 (some (ea_n (ea_wr (ea_new (ea_wr (ea_new h 20 10 10) a0 1 (some (ea_n h))) 20 80 80) a0 2 (some (ea_n (ea_wr (ea_new h 20 10 10) a0 1 (some (ea_n h))))))))) 20 80 80) a0 4 (some (ea_n (ea_wr (ea_new (ea_wr (ea_new (ea_wr (ea_new h 20 10 10) a0 1 (some (ea_n h))) 20 80 80) a0 2 (some (ea_n (ea_wr (ea_new h 20 10 10) a0 1 (some (ea_n h)))))) 20 80 80) a0 3 (some (ea_n (ea_wr (ea_new (ea_wr (ea_new h 20 10 10) a0 1 (some (ea_n h))) 20 80 80) a0 2 (some (ea_n (ea_wr (ea_new h 20 10 10) a0 1 (some (ea_n h))))))))))))))) 20 70 70) a0 = 9) ∧ ((a0 < ea_n (ea_new (ea_wr (ea_new (ea_wr (ea_new (ea_wr (ea_new (ea_wr (ea_new (ea_wr (ea_new (ea_wr (ea_new h 20 10 10) a0 1 (some (ea_n h))) 20 80 80) a0 2 (some (ea_n (ea_wr (ea_new h 20 10 10) a0 1 (some (ea_n h)))))) 20 80 80) a0 3 (some (ea_n (ea_wr (ea_new (ea_wr (ea_new h 20 10 10) a0 1 (some (ea_n h))) 20 80 80) a0 2 (some (ea_n (ea_wr (ea_new h 20 10 10) a0 1 (some (ea_n h))))))))) 20 80 80) a0 4 (some (ea_n (ea_wr (ea_new (ea_wr (ea_new (ea_wr (ea_new h 20 10 10) a0 1 (some (ea_n h))) 20 80 80) a0 2 (some (ea_n (ea_wr (ea_new h 20 10 10) a0 1 (some (ea_n h)))))) 20 80 80) a0 3 (some (ea_n (ea_wr (ea_new (ea_wr (ea_new h 20 10 10) a0 1 (some (ea_n h))) 20 80 80) a0 2 (some (ea_n (ea_wr (ea_new h 20 10 10) a0 1 (some (ea_n h)))))))))))) 21 80 80) a0 5 (some (ea_n (ea_wr (ea_new (ea_wr (ea_new (ea_wr (ea_new (ea_wr (ea_new h 20 10 10) a0 1 (some (ea_n h))) 20 80 80) a0 2 (some (ea_n (ea_wr (ea_new h 20 10 10) a0 1 (some (ea_n h)))))) 20 80 80) a0 3 (some (ea_n (ea_wr (ea_new (ea_wr (ea_new h 20 10 10) a0 1 (some (ea_n h))) 20 80 80) a0 2 (some (ea_n (ea_wr (ea_new h 20 10 10) a0 1 (some (ea_n h))))))))) 20 80 80) a0 4 (some (ea_n (ea_wr (ea_new (ea_wr (ea_new (ea_wr (ea_new h 20 10 10) a0 1 (some (ea_n h))) 20 80 80) a0 2 (some (ea_n (ea_wr (ea_new h 20 10 10) a0 1 (some (ea_n h)))))) 20 80 80) a0 3 (some (ea_n (ea_wr (ea_new (ea_wr (ea_new h 20 10 10) a0 1 (some (ea_n h))) 20 80 80) a0 2 (some (ea_n (ea_wr (ea_new h 20 10 10) a0 1 (some (ea_n h))))))))))))))) 20 70 70) a0 6 (some (ea_n (ea_wr (ea_new (ea_wr (ea_new (ea_wr (ea_new (ea_wr (ea_new (ea_wr (ea_new h 20 10 10) a0 1 (some (ea_n h))) 20 80 80) a0 2 (some (ea_n (ea_wr (ea_new h 20 10 10) a0 1 (some (ea_n h)))))) 20 80 80) a0 3 (some (ea_n (ea_wr (ea_new (ea_wr (ea_new h 20 10 10) a0 1 (some (ea_n h))) 20 80 80) a0 2 (some (ea_n (ea_wr (ea_new h 20 10 10) a0 1 (some (ea_n h))))))))) 20 80 80) a0 4 (some (ea_n (ea_wr (ea_new (ea_wr (ea_new (ea_wr (ea_new h 20 10 10) a0 1 (some (ea_n h))) 20 80 80) a0 2 (some (ea_n (ea_wr (ea_new h 20 10 10) a0 1 (some (ea_n h)))))) 20 80 80) a0 3 (some (ea_n (ea_wr (ea_new (ea_wr (ea_new h 20 10 10) a0 1 (some (ea_n h))) 20 80 80) a0 2 (some (ea_n (ea_wr (ea_new h 20 10 10) a0 1 (some (ea_n h)))))))))))) 21 80 80) a0 5 (some (ea_n (ea_wr (ea_new (ea_wr (ea_new (ea_wr (ea_new (ea_wr (ea_new h 20 10 10) a0 1 (some (ea_n h))) 20 80 80) a0 2 (some (ea_n (ea_wr (ea_new h 20 10 10) a0 1 (some (ea_n h)))))) 20 80 80) a0 3 (some (ea_n (ea_wr (ea_new (ea_wr (ea_new h 20 10 10) a0 1 (some (ea_n h))) 20 80 80) a0 2 (some (ea_n (ea_wr (ea_new h 20 10 10) a0 1 (some (ea_n h))))))))) 20 80 80) a0 4 (some (ea_n (ea_wr (ea_new (ea_wr (ea_new (ea_wr (ea_new h 20 10 10) a0 1 (some (ea_n h))) 20 80 80) a0 2 (some (ea_n (ea_wr (ea_new h 20 10 10) a0 1 (some (ea_n h)))))) 20 80 80) a0 3 (some (ea_n (ea_wr (ea_new (ea_wr (ea_new h 20 10 10) a0 1 (some (ea_n h))) 20 80 80) a0 2 (some (ea_n (ea_wr (ea_new h 20 10 10) a0 1 (some (ea_n h)))))))))))))))))) 21 560 560) ∧ ea_c (ea_new (ea_wr (ea_new (ea_wr (ea_new (ea_wr (ea_new (ea_wr (ea_new (ea_wr (ea_new (ea_wr (ea_new h 20 10 10) a0 1 (some (ea_n h))) 20 80 80) a0 2 (some (ea_n (ea_wr (ea_new h 20 10 10) a0 1 (some (ea_n h)))))) 20 80 80) a0 3 (some (ea_n (ea_wr (ea_new (ea_wr (ea_new h 20 10 10) a0 1 (some (ea_n h))) 20 80 80) a0 2 (some (ea_n (ea_wr (ea_new h 20 10 10) a0 1 (some (ea_n h))))))))) 20 80 80) a0 4 (some (ea_n (ea_wr (ea_new (ea_wr (ea_new (ea_wr (ea_new h 20 10 10) a0 1 (some (ea_n h))) 20 80 80) a0 2 (some (ea_n (ea_wr (ea_new h 20 10 10) a0 1 (some (ea_n h)))))) 20 80 80) a0 3 (some (ea_n (ea_wr (ea_new (ea_wr (ea_new h 20 10 10) a0 1 (some (ea_n h))) 20 80 80) a0 2 (some (ea_n (ea_wr (ea_new h 20 10 10) a0 1 (some (ea_n h)))))))))))) 21 80 80) a0 5 (some (ea_n (ea_wr (ea_new (ea_wr (ea_new (ea_wr (ea_new (ea_wr (ea_new h 20 10 10) a0 1 (some (ea_n h))) 20 80 80) a0 2 (some (ea_n (ea_wr (ea_new h 20 10 10) a0 1 (some (ea_n h)))))) 20 80 80) a0 3 (some (ea_n (ea_wr (ea_new (ea_wr (ea_new h 20 10 10) a0 1 (some (ea_n h))) 20 80 80) a0 2 (some (ea_n (ea_wr (ea_new h 20 10 10) a0 1 (some (ea_n h))))))))) 20 80 80) a0 4 (some (ea_n (ea_wr (ea_new (ea_wr (ea_new (ea_wr (ea_new h 20 10 10) a0 1 (some (ea_n h))) 20 80 80) a0 2 (some (ea_n (ea_wr (ea_new h 20 10 10) a0 1 (some (ea_n h)))))) 20 80 80) a0 3 (some (ea_n (ea_wr (ea_new (ea_wr (ea_new h 20 10 10) a0 1 (some (ea_n h))) 20 80 80) a0 2 (some (ea_n (ea_wr (ea_new h 20 10 10) a0 1 (some (ea_n h))))))))))))))) 20 70 70) a0 6 (some (ea_n (ea_wr (ea_new (ea_wr (ea_new (ea_wr (ea_new (ea_wr (ea_new (ea_wr (ea_new h 20 10 10) a0 1 (some (ea_n h))) 20 80 80) a0 2 (some (ea_n (ea_wr (ea_new h 20 10 10) a0 1 (some (ea_n h)))))) 20 80 80) a0 3 (some (ea_n (ea_wr (ea_new (ea_wr (ea_new h 20 10 10) a0 1 (some (ea_n h))) 20 80 80) a0 2 (some (ea_n (ea_wr (ea_new h 20 10 10) a0 1 (some (ea_n h))))))))) 20 80 80) a0 4 (some (ea_n (ea_wr (ea_new (ea_wr (ea_new (ea_wr (ea_new h 20 10 10) a0 1 (some (ea_n h))) 20 80 80) a0 2 (some (ea_n (ea_wr (ea_new h 20 10 10) a0 1 (some (ea_n h)))))) 20 80 80) a0 3 (some (ea_n (ea_wr (ea_new (ea_wr (ea_new h 20 10 10) a0 1 (some (ea_n h))) 20 80 80) a0 2 (some (ea_n (ea_wr (ea_new h 20 10 10) a0 1 (some (ea_n h)))))))))))) 21 80 80) a0 5 (some (ea_n (ea_wr (ea_new (ea_wr (ea_new (ea_wr (ea_new (ea_wr (ea_new h 20 10 10) a0 1 (some (ea_n h))) 20 80 80) a0 2 (some (ea_n (ea_wr (ea_new h 20 10 10) a0 1 (some (ea_n h)))))) 20 80 80) a0 3 (some (ea_n (ea_wr (ea_new (ea_wr (ea_new h 20 10 10) a0 1 (some (ea_n h))) 20 80 80) a0 2 (some (ea_n (ea_wr (ea_new h 20 10 10) a0 1 (some (ea_n h))))))))) 20 80 80) a0 4 (some (ea_n (ea_wr (ea_new (ea_wr (ea_new (ea_wr (ea_new h 20 10 10) a0 1 (some (ea_n h))) 20 80 80) a0 2 (some (ea_n (ea_wr (ea_new h 20 10 10) a0 1 (some (ea_n h)))))) 20 80 80) a0 3 (some (ea_n (ea_wr (ea_new (ea_wr (ea_new h 20 10 10) a0 1 (some (ea_n h))) 20 80 80) a0 2 (some (ea_n (ea_wr (ea_new h 20 10 10) a0 1 (some (ea_n h)))))))))))))))))) 21 560 560) a0 = 9)))))))
theorem sX9_init {d : Nat} {a0 : Nat} {h : ea_H} (hd : 1 ≤ d) (K : okX9_init a0 h) : ea_Met mX9_init d [vR (some a0)] h none (wX9_init a0 h) := by
  obtain ⟨Y, EY⟩ : ∃ z, z = wX9_init a0 h := ⟨_, rfl⟩
  rw [← EY]
  unfold wX9_init at EY
  unfold okX9_init at K
  refine ea_enter rfl (Nat.le_of_ble_eq_true rfl) ?_
  refine ea_aload_n (pc := 0) dX9_init_0 rfl 0 rfl ?_
  refine ea_objInit (pc := 1) dX9_init_1 ew_176 ew_134 ew_135 (by omega) (Nat.le_of_ble_eq_true rfl) ?_
  refine ea_aload_n (pc := 4) dX9_init_4 rfl 0 rfl ?_
  refine ea_bipush (pc := 5) dX9_init_5 (v := 10) rfl ?_
  refine ea_newI (pc := 7) (N := 10) dX9_init_7 ew_170 (by decide) rfl (Nat.le_of_ble_eq_true rfl) ?_
  obtain ⟨f2, K⟩ := K
  refine ea_putR (pc := 9) dX9_init_9 ec_9 (k := 1) (Nat.le_of_ble_eq_true rfl) rfl (Or.inr ⟨rfl, rfl, rfl, ew_180⟩) f2.1 f2.2 ?_
  refine ea_aload_n (pc := 12) dX9_init_12 rfl 0 rfl ?_
  refine ea_bipush (pc := 13) dX9_init_13 (v := 80) rfl ?_
  refine ea_newI (pc := 15) (N := 80) dX9_init_15 ew_170 (by decide) rfl (Nat.le_of_ble_eq_true rfl) ?_
  obtain ⟨f5, K⟩ := K
  refine ea_putR (pc := 17) dX9_init_17 ec_9 (k := 2) (Nat.le_of_ble_eq_true rfl) rfl (Or.inr ⟨rfl, rfl, rfl, ew_184⟩) f5.1 f5.2 ?_
  refine ea_aload_n (pc := 20) dX9_init_20 rfl 0 rfl ?_
  refine ea_bipush (pc := 21) dX9_init_21 (v := 80) rfl ?_
  refine ea_newI (pc := 23) (N := 80) dX9_init_23 ew_170 (by decide) rfl (Nat.le_of_ble_eq_true rfl) ?_
  obtain ⟨f8, K⟩ := K
  refine ea_putR (pc := 25) dX9_init_25 ec_9 (k := 3) (Nat.le_of_ble_eq_true rfl) rfl (Or.inr ⟨rfl, rfl, rfl, ew_188⟩) f8.1 f8.2 ?_
  refine ea_aload_n (pc := 28) dX9_init_28 rfl 0 rfl ?_
  refine ea_bipush (pc := 29) dX9_init_29 (v := 80) rfl ?_
  refine ea_newI (pc := 31) (N := 80) dX9_init_31 ew_170 (by decide) rfl (Nat.le_of_ble_eq_true rfl) ?_
  obtain ⟨f11, K⟩ := K
  refine ea_putR (pc := 33) dX9_init_33 ec_9 (k := 4) (Nat.le_of_ble_eq_true rfl) rfl (Or.inr ⟨rfl, rfl, rfl, ew_191⟩) f11.1 f11.2 ?_
  refine ea_aload_n (pc := 36) dX9_init_36 rfl 0 rfl ?_
  refine ea_bipush (pc := 37) dX9_init_37 (v := 80) rfl ?_
  refine ea_newZ (pc := 39) (N := 80) dX9_init_39 ew_218 (by decide) rfl (Nat.le_of_ble_eq_true rfl) ?_
  obtain ⟨f14, K⟩ := K
  refine ea_putR (pc := 41) dX9_init_41 ec_9 (k := 5) (Nat.le_of_ble_eq_true rfl) rfl (Or.inr ⟨rfl, rfl, rfl, ew_194⟩) f14.1 f14.2 ?_
  refine ea_aload_n (pc := 44) dX9_init_44 rfl 0 rfl ?_
  refine ea_bipush (pc := 45) dX9_init_45 (v := 70) rfl ?_
  refine ea_newI (pc := 47) (N := 70) dX9_init_47 ew_170 (by decide) rfl (Nat.le_of_ble_eq_true rfl) ?_
  obtain ⟨f17, K⟩ := K
  refine ea_putR (pc := 49) dX9_init_49 ec_9 (k := 6) (Nat.le_of_ble_eq_true rfl) rfl (Or.inr ⟨rfl, rfl, rfl, ew_196⟩) f17.1 f17.2 ?_
  refine ea_aload_n (pc := 52) dX9_init_52 rfl 0 rfl ?_
  refine ea_sipush (pc := 53) dX9_init_53 (v := 560) rfl ?_
  refine ea_newZ (pc := 56) (N := 560) dX9_init_56 ew_218 (by decide) rfl (Nat.le_of_ble_eq_true rfl) ?_
  have f20 := K
  refine ea_putR (pc := 58) dX9_init_58 ec_9 (k := 7) (Nat.le_of_ble_eq_true rfl) rfl (Or.inr ⟨rfl, rfl, rfl, ew_198⟩) f20.1 f20.2 ?_
  subst EY
  exact ea_return (pc := 61) dX9_init_61 rfl
noncomputable def vX9_has (b0 : Nat) (x1 : Int32) (h : ea_H) : Int32 := (if x1 < (0 : Int32) then (0 : Int32) else (if (ea_i h (b0 + 5) 0) ≤ x1 then (0 : Int32) else (1 : Int32)))
theorem bo_vX9_has (b0 : Nat) (x1 : Int32) (h : ea_H) : vX9_has b0 x1 h = 0 ∨ vX9_has b0 x1 h = 1 := (ea_itB (Or.inl rfl) (ea_itB (Or.inl rfl) (Or.inr rfl)))
theorem sX9_has {d : Nat} {b0 : Nat} {x1 : Int32} {h : ea_H} (hd : 1 ≤ d) (hs : ShC b0 h) : ea_Met mX9_has d [vR (some (b0 + 5)), vI x1] h (some (vI (vX9_has b0 x1 h))) h := by
  obtain ⟨X, EX⟩ : ∃ z, z = vX9_has b0 x1 h := ⟨_, rfl⟩
  rw [← EX]
  unfold vX9_has at EX
  refine ea_enter rfl (Nat.le_of_ble_eq_true rfl) ?_
  refine ea_iload_n (pc := 0) dX9_has_0 rfl 1 rfl ?_
  refine ea_if_lt (pc := 1) (tgt := 16) dX9_has_1 rfl (fun c2 => ?_) (fun c2 => ?_)
  · have EX := EX.trans (if_pos c2)
    refine ea_iconst (pc := 16) dX9_has_16 (v := 0) rfl ?_
    subst EX
    exact ea_ireturn (pc := 17) dX9_has_17 rfl (ea_bn (Or.inl rfl))
  · have EX := EX.trans (if_neg c2)
    refine ea_iload_n (pc := 4) dX9_has_4 rfl 1 rfl ?_
    refine ea_aload_n (pc := 5) dX9_has_5 rfl 0 rfl ?_
    refine ea_getI (pc := 6) dX9_has_6 ec_9 (k := 0) (Nat.le_of_ble_eq_true rfl) rfl (Or.inl ew_177) (hs.1 5 (by decide)).1 (hs.1 5 (by decide)).2.1 ?_
    refine ea_icmp_ge (pc := 9) (tgt := 16) dX9_has_9 rfl (fun c1 => ?_) (fun c1 => ?_)
    · have EX := EX.trans (if_pos c1)
      refine ea_iconst (pc := 16) dX9_has_16 (v := 0) rfl ?_
      subst EX
      exact ea_ireturn (pc := 17) dX9_has_17 rfl (ea_bn (Or.inl rfl))
    · have EX := EX.trans (if_neg c1)
      refine ea_iconst (pc := 12) dX9_has_12 (v := 1) rfl ?_
      refine ea_goto (pc := 13) (tgt := 17) dX9_has_13 rfl ?_
      subst EX
      exact ea_ireturn (pc := 17) dX9_has_17 rfl (ea_bn (Or.inr rfl))
noncomputable def vX9_hasRun (b0 : Nat) (x1 : Int32) (x2 : Int32) (h : ea_H) : Int32 := (if (vX9_has b0 (x1 : Int32) h) = (0 : Int32) then (0 : Int32) else (if x2 < (0 : Int32) then (0 : Int32) else (if (7 : Int32) ≤ x2 then (0 : Int32) else (1 : Int32))))
theorem bo_vX9_hasRun (b0 : Nat) (x1 : Int32) (x2 : Int32) (h : ea_H) : vX9_hasRun b0 x1 x2 h = 0 ∨ vX9_hasRun b0 x1 x2 h = 1 := (ea_itB (Or.inl rfl) (ea_itB (Or.inl rfl) (ea_itB (Or.inl rfl) (Or.inr rfl))))
theorem sX9_hasRun {d : Nat} {b0 : Nat} {x1 : Int32} {x2 : Int32} {h : ea_H} (hd : 2 ≤ d) (hs : ShC b0 h) : ea_Met mX9_hasRun d [vR (some (b0 + 5)), vI x1, vI x2] h (some (vI (vX9_hasRun b0 x1 x2 h))) h := by
  obtain ⟨X, EX⟩ : ∃ z, z = vX9_hasRun b0 x1 x2 h := ⟨_, rfl⟩
  rw [← EX]
  unfold vX9_hasRun at EX
  refine ea_enter rfl (Nat.le_of_ble_eq_true rfl) ?_
  refine ea_aload_n (pc := 0) dX9_hasRun_0 rfl 0 rfl ?_
  refine ea_iload_n (pc := 1) dX9_hasRun_1 rfl 1 rfl ?_
  refine ea_callV (pc := 2) (d' := d - 1) (As := [vI x1]) (st := []) dX9_hasRun_2 kX9_has (sX9_has (d := d - 1) (by omega) hs) (by omega) rfl (Nat.le_of_ble_eq_true rfl) ew_546 ew_519 ew_520 (ci := 9) rfl (by decide) (hs.1 5 (by decide)).1 (hs.1 5 (by decide)).2.1 ?_
  refine ea_if_eq (pc := 5) (tgt := 22) dX9_hasRun_5 rfl (fun c4 => ?_) (fun c4 => ?_)
  · have EX := EX.trans (if_pos c4)
    refine ea_iconst (pc := 22) dX9_hasRun_22 (v := 0) rfl ?_
    subst EX
    exact ea_ireturn (pc := 23) dX9_hasRun_23 rfl (ea_bn (Or.inl rfl))
  · have EX := EX.trans (if_neg c4)
    refine ea_iload_n (pc := 8) dX9_hasRun_8 rfl 2 rfl ?_
    refine ea_if_lt (pc := 9) (tgt := 22) dX9_hasRun_9 rfl (fun c3 => ?_) (fun c3 => ?_)
    · have EX := EX.trans (if_pos c3)
      refine ea_iconst (pc := 22) dX9_hasRun_22 (v := 0) rfl ?_
      subst EX
      exact ea_ireturn (pc := 23) dX9_hasRun_23 rfl (ea_bn (Or.inl rfl))
    · have EX := EX.trans (if_neg c3)
      refine ea_iload_n (pc := 12) dX9_hasRun_12 rfl 2 rfl ?_
      refine ea_bipush (pc := 13) dX9_hasRun_13 (v := 7) rfl ?_
      refine ea_icmp_ge (pc := 15) (tgt := 22) dX9_hasRun_15 rfl (fun c2 => ?_) (fun c2 => ?_)
      · have EX := EX.trans (if_pos c2)
        refine ea_iconst (pc := 22) dX9_hasRun_22 (v := 0) rfl ?_
        subst EX
        exact ea_ireturn (pc := 23) dX9_hasRun_23 rfl (ea_bn (Or.inl rfl))
      · have EX := EX.trans (if_neg c2)
        refine ea_iconst (pc := 18) dX9_hasRun_18 (v := 1) rfl ?_
        refine ea_goto (pc := 19) (tgt := 23) dX9_hasRun_19 rfl ?_
        subst EX
        exact ea_ireturn (pc := 23) dX9_hasRun_23 rfl (ea_bn (Or.inr rfl))
noncomputable def vX9_add (b0 : Nat) (x1 : Int32) (x2 : Int32) (x3 : Int32) (x4 : Int32) (x5 : Int32) (h : ea_H) : Int32 := (if (8 : Int32) ≤ (ea_i h (b0 + 6) (Int32.toNatClampNeg x1)) then ((-1) : Int32) else (if x3 < (0 : Int32) then ((-1) : Int32) else (if x4 < x3 then ((-1) : Int32) else (if x4 ≤ (2400 : Int32) then (if x5 = (0 : Int32) then (if (ea_i h (b0 + 6) (Int32.toNatClampNeg x1)) ≤ (0 : Int32) then (ea_i h (b0 + 6) (Int32.toNatClampNeg x1)) else (if (ea_i h (b0 + 7) (Int32.toNatClampNeg ((((8 : Int32) * x1) + (ea_i h (b0 + 6) (Int32.toNatClampNeg x1))) - (1 : Int32)))) = x2 then ((-1) : Int32) else (if (ea_i h (b0 + 9) (Int32.toNatClampNeg ((((8 : Int32) * x1) + (ea_i h (b0 + 6) (Int32.toNatClampNeg x1))) - (1 : Int32)))) < x3 then (ea_i h (b0 + 6) (Int32.toNatClampNeg x1)) else ((-1) : Int32)))) else (if x3 = x4 then (if (ea_i h (b0 + 6) (Int32.toNatClampNeg x1)) ≤ (0 : Int32) then (ea_i h (b0 + 6) (Int32.toNatClampNeg x1)) else (if (ea_i h (b0 + 7) (Int32.toNatClampNeg ((((8 : Int32) * x1) + (ea_i h (b0 + 6) (Int32.toNatClampNeg x1))) - (1 : Int32)))) = x2 then ((-1) : Int32) else (if (ea_i h (b0 + 9) (Int32.toNatClampNeg ((((8 : Int32) * x1) + (ea_i h (b0 + 6) (Int32.toNatClampNeg x1))) - (1 : Int32)))) < x3 then (ea_i h (b0 + 6) (Int32.toNatClampNeg x1)) else ((-1) : Int32)))) else ((-1) : Int32))) else ((-1) : Int32)))))
noncomputable def wX9_add (b0 : Nat) (x1 : Int32) (x2 : Int32) (x3 : Int32) (x4 : Int32) (x5 : Int32) (h : ea_H) : ea_H := (if (8 : Int32) ≤ (ea_i h (b0 + 6) (Int32.toNatClampNeg x1)) then h else (if x3 < (0 : Int32) then h else (if x4 < x3 then h else (if x4 ≤ (2400 : Int32) then (if x5 = (0 : Int32) then (if (ea_i h (b0 + 6) (Int32.toNatClampNeg x1)) ≤ (0 : Int32) then (ea_wi (ea_wi (ea_wi (ea_wi (ea_wi h (b0 + 7) (Int32.toNatClampNeg (((8 : Int32) * x1) + (ea_i h (b0 + 6) (Int32.toNatClampNeg x1)))) x2) (b0 + 8) (Int32.toNatClampNeg (((8 : Int32) * x1) + (ea_i h (b0 + 6) (Int32.toNatClampNeg x1)))) x3) (b0 + 9) (Int32.toNatClampNeg (((8 : Int32) * x1) + (ea_i h (b0 + 6) (Int32.toNatClampNeg x1)))) x4) (b0 + 10) (Int32.toNatClampNeg (((8 : Int32) * x1) + (ea_i h (b0 + 6) (Int32.toNatClampNeg x1)))) x5) (b0 + 6) (Int32.toNatClampNeg x1) ((ea_i (ea_wi (ea_wi (ea_wi (ea_wi h (b0 + 7) (Int32.toNatClampNeg (((8 : Int32) * x1) + (ea_i h (b0 + 6) (Int32.toNatClampNeg x1)))) x2) (b0 + 8) (Int32.toNatClampNeg (((8 : Int32) * x1) + (ea_i h (b0 + 6) (Int32.toNatClampNeg x1)))) x3) (b0 + 9) (Int32.toNatClampNeg (((8 : Int32) * x1) + (ea_i h (b0 + 6) (Int32.toNatClampNeg x1)))) x4) (b0 + 10) (Int32.toNatClampNeg (((8 : Int32) * x1) + (ea_i h (b0 + 6) (Int32.toNatClampNeg x1)))) x5) (b0 + 6) (Int32.toNatClampNeg x1)) + (1 : Int32))) else (if (ea_i h (b0 + 7) (Int32.toNatClampNeg ((((8 : Int32) * x1) + (ea_i h (b0 + 6) (Int32.toNatClampNeg x1))) - (1 : Int32)))) = x2 then h else (if (ea_i h (b0 + 9) (Int32.toNatClampNeg ((((8 : Int32) * x1) + (ea_i h (b0 + 6) (Int32.toNatClampNeg x1))) - (1 : Int32)))) < x3 then (ea_wi (ea_wi (ea_wi (ea_wi (ea_wi h (b0 + 7) (Int32.toNatClampNeg (((8 : Int32) * x1) + (ea_i h (b0 + 6) (Int32.toNatClampNeg x1)))) x2) (b0 + 8) (Int32.toNatClampNeg (((8 : Int32) * x1) + (ea_i h (b0 + 6) (Int32.toNatClampNeg x1)))) x3) (b0 + 9) (Int32.toNatClampNeg (((8 : Int32) * x1) + (ea_i h (b0 + 6) (Int32.toNatClampNeg x1)))) x4) (b0 + 10) (Int32.toNatClampNeg (((8 : Int32) * x1) + (ea_i h (b0 + 6) (Int32.toNatClampNeg x1)))) x5) (b0 + 6) (Int32.toNatClampNeg x1) ((ea_i (ea_wi (ea_wi (ea_wi (ea_wi h (b0 + 7) (Int32.toNatClampNeg (((8 : Int32) * x1) + (ea_i h (b0 + 6) (Int32.toNatClampNeg x1)))) x2) (b0 + 8) (Int32.toNatClampNeg (((8 : Int32) * x1) + (ea_i h (b0 + 6) (Int32.toNatClampNeg x1)))) x3) (b0 + 9) (Int32.toNatClampNeg (((8 : Int32) * x1) + (ea_i h (b0 + 6) (Int32.toNatClampNeg x1)))) x4) (b0 + 10) (Int32.toNatClampNeg (((8 : Int32) * x1) + (ea_i h (b0 + 6) (Int32.toNatClampNeg x1)))) x5) (b0 + 6) (Int32.toNatClampNeg x1)) + (1 : Int32))) else h))) else (if x3 = x4 then (if (ea_i h (b0 + 6) (Int32.toNatClampNeg x1)) ≤ (0 : Int32) then (ea_wi (ea_wi (ea_wi (ea_wi (ea_wi h (b0 + 7) (Int32.toNatClampNeg (((8 : Int32) * x1) + (ea_i h (b0 + 6) (Int32.toNatClampNeg x1)))) x2) (b0 + 8) (Int32.toNatClampNeg (((8 : Int32) * x1) + (ea_i h (b0 + 6) (Int32.toNatClampNeg x1)))) x3) (b0 + 9) (Int32.toNatClampNeg (((8 : Int32) * x1) + (ea_i h (b0 + 6) (Int32.toNatClampNeg x1)))) x4) (b0 + 10) (Int32.toNatClampNeg (((8 : Int32) * x1) + (ea_i h (b0 + 6) (Int32.toNatClampNeg x1)))) x5) (b0 + 6) (Int32.toNatClampNeg x1) ((ea_i (ea_wi (ea_wi (ea_wi (ea_wi h (b0 + 7) (Int32.toNatClampNeg (((8 : Int32) * x1) + (ea_i h (b0 + 6) (Int32.toNatClampNeg x1)))) x2) (b0 + 8) (Int32.toNatClampNeg (((8 : Int32) * x1) + (ea_i h (b0 + 6) (Int32.toNatClampNeg x1)))) x3) (b0 + 9) (Int32.toNatClampNeg (((8 : Int32) * x1) + (ea_i h (b0 + 6) (Int32.toNatClampNeg x1)))) x4) (b0 + 10) (Int32.toNatClampNeg (((8 : Int32) * x1) + (ea_i h (b0 + 6) (Int32.toNatClampNeg x1)))) x5) (b0 + 6) (Int32.toNatClampNeg x1)) + (1 : Int32))) else (if (ea_i h (b0 + 7) (Int32.toNatClampNeg ((((8 : Int32) * x1) + (ea_i h (b0 + 6) (Int32.toNatClampNeg x1))) - (1 : Int32)))) = x2 then h else (if (ea_i h (b0 + 9) (Int32.toNatClampNeg ((((8 : Int32) * x1) + (ea_i h (b0 + 6) (Int32.toNatClampNeg x1))) - (1 : Int32)))) < x3 then (ea_wi (ea_wi (ea_wi (ea_wi (ea_wi h (b0 + 7) (Int32.toNatClampNeg (((8 : Int32) * x1) + (ea_i h (b0 + 6) (Int32.toNatClampNeg x1)))) x2) (b0 + 8) (Int32.toNatClampNeg (((8 : Int32) * x1) + (ea_i h (b0 + 6) (Int32.toNatClampNeg x1)))) x3) (b0 + 9) (Int32.toNatClampNeg (((8 : Int32) * x1) + (ea_i h (b0 + 6) (Int32.toNatClampNeg x1)))) x4) (b0 + 10) (Int32.toNatClampNeg (((8 : Int32) * x1) + (ea_i h (b0 + 6) (Int32.toNatClampNeg x1)))) x5) (b0 + 6) (Int32.toNatClampNeg x1) ((ea_i (ea_wi (ea_wi (ea_wi (ea_wi h (b0 + 7) (Int32.toNatClampNeg (((8 : Int32) * x1) + (ea_i h (b0 + 6) (Int32.toNatClampNeg x1)))) x2) (b0 + 8) (Int32.toNatClampNeg (((8 : Int32) * x1) + (ea_i h (b0 + 6) (Int32.toNatClampNeg x1)))) x3) (b0 + 9) (Int32.toNatClampNeg (((8 : Int32) * x1) + (ea_i h (b0 + 6) (Int32.toNatClampNeg x1)))) x4) (b0 + 10) (Int32.toNatClampNeg (((8 : Int32) * x1) + (ea_i h (b0 + 6) (Int32.toNatClampNeg x1)))) x5) (b0 + 6) (Int32.toNatClampNeg x1)) + (1 : Int32))) else h))) else h)) else h))))
def okX9_add (b0 : Nat) (x1 : Int32) (x2 : Int32) (x3 : Int32) (x4 : Int32) (x5 : Int32) (h : ea_H) : Prop := vp_in x1 10 ∧ (((8 : Int32) ≤ (ea_i h (b0 + 6) (Int32.toNatClampNeg x1)) → True) ∧ (¬ (8 : Int32) ≤ (ea_i h (b0 + 6) (Int32.toNatClampNeg x1)) → (x3 < (0 : Int32) → True) ∧ (¬ x3 < (0 : Int32) → (x4 < x3 → True) ∧ (¬ x4 < x3 → (x4 ≤ (2400 : Int32) → (x5 = (0 : Int32) → ((ea_i h (b0 + 6) (Int32.toNatClampNeg x1)) ≤ (0 : Int32) → vp_in (((8 : Int32) * x1) + (ea_i h (b0 + 6) (Int32.toNatClampNeg x1))) 80 ∧ (vp_in (((8 : Int32) * x1) + (ea_i h (b0 + 6) (Int32.toNatClampNeg x1))) 80 ∧ (vp_in (((8 : Int32) * x1) + (ea_i h (b0 + 6) (Int32.toNatClampNeg x1))) 80 ∧ (vp_in (((8 : Int32) * x1) + (ea_i h (b0 + 6) (Int32.toNatClampNeg x1))) 80 ∧ ((x5 = 0 ∨ x5 = 1) ∧ (vp_in x1 10 ∧ (vp_in x1 10))))))) ∧ (¬ (ea_i h (b0 + 6) (Int32.toNatClampNeg x1)) ≤ (0 : Int32) → vp_in ((((8 : Int32) * x1) + (ea_i h (b0 + 6) (Int32.toNatClampNeg x1))) - (1 : Int32)) 80 ∧ (((ea_i h (b0 + 7) (Int32.toNatClampNeg ((((8 : Int32) * x1) + (ea_i h (b0 + 6) (Int32.toNatClampNeg x1))) - (1 : Int32)))) = x2 → True) ∧ (¬ (ea_i h (b0 + 7) (Int32.toNatClampNeg ((((8 : Int32) * x1) + (ea_i h (b0 + 6) (Int32.toNatClampNeg x1))) - (1 : Int32)))) = x2 → vp_in ((((8 : Int32) * x1) + (ea_i h (b0 + 6) (Int32.toNatClampNeg x1))) - (1 : Int32)) 80 ∧ (((ea_i h (b0 + 9) (Int32.toNatClampNeg ((((8 : Int32) * x1) + (ea_i h (b0 + 6) (Int32.toNatClampNeg x1))) - (1 : Int32)))) < x3 → vp_in (((8 : Int32) * x1) + (ea_i h (b0 + 6) (Int32.toNatClampNeg x1))) 80 ∧ (vp_in (((8 : Int32) * x1) + (ea_i h (b0 + 6) (Int32.toNatClampNeg x1))) 80 ∧ (vp_in (((8 : Int32) * x1) + (ea_i h (b0 + 6) (Int32.toNatClampNeg x1))) 80 ∧ (vp_in (((8 : Int32) * x1) + (ea_i h (b0 + 6) (Int32.toNatClampNeg x1))) 80 ∧ ((x5 = 0 ∨ x5 = 1) ∧ (vp_in x1 10 ∧ (vp_in x1 10))))))) ∧ (¬ (ea_i h (b0 + 9) (Int32.toNatClampNeg ((((8 : Int32) * x1) + (ea_i h (b0 + 6) (Int32.toNatClampNeg x1))) - (1 : Int32)))) < x3 → True)))))) ∧ (¬ x5 = (0 : Int32) → (x3 = x4 → ((ea_i h (b0 + 6) (Int32.toNatClampNeg x1)) ≤ (0 : Int32) → vp_in (((8 : Int32) * x1) + (ea_i h (b0 + 6) (Int32.toNatClampNeg x1))) 80 ∧ (vp_in (((8 : Int32) * x1) + (ea_i h (b0 + 6) (Int32.toNatClampNeg x1))) 80 ∧ (vp_in (((8 : Int32) * x1) + (ea_i h (b0 + 6) (Int32.toNatClampNeg x1))) 80 ∧ (vp_in (((8 : Int32) * x1) + (ea_i h (b0 + 6) (Int32.toNatClampNeg x1))) 80 ∧ ((x5 = 0 ∨ x5 = 1) ∧ (vp_in x1 10 ∧ (vp_in x1 10))))))) ∧ (¬ (ea_i h (b0 + 6) (Int32.toNatClampNeg x1)) ≤ (0 : Int32) → vp_in ((((8 : Int32) * x1) + (ea_i h (b0 + 6) (Int32.toNatClampNeg x1))) - (1 : Int32)) 80 ∧ (((ea_i h (b0 + 7) (Int32.toNatClampNeg ((((8 : Int32) * x1) + (ea_i h (b0 + 6) (Int32.toNatClampNeg x1))) - (1 : Int32)))) = x2 → True) ∧ (¬ (ea_i h (b0 + 7) (Int32.toNatClampNeg ((((8 : Int32) * x1) + (ea_i h (b0 + 6) (Int32.toNatClampNeg x1))) - (1 : Int32)))) = x2 → vp_in ((((8 : Int32) * x1) + (ea_i h (b0 + 6) (Int32.toNatClampNeg x1))) - (1 : Int32)) 80 ∧ (((ea_i h (b0 + 9) (Int32.toNatClampNeg ((((8 : Int32) * x1) + (ea_i h (b0 + 6) (Int32.toNatClampNeg x1))) - (1 : Int32)))) < x3 → vp_in (((8 : Int32) * x1) + (ea_i h (b0 + 6) (Int32.toNatClampNeg x1))) 80 ∧ (vp_in (((8 : Int32) * x1) + (ea_i h (b0 + 6) (Int32.toNatClampNeg x1))) 80 ∧ (vp_in (((8 : Int32) * x1) + (ea_i h (b0 + 6) (Int32.toNatClampNeg x1))) 80 ∧ (vp_in (((8 : Int32) * x1) + (ea_i h (b0 + 6) (Int32.toNatClampNeg x1))) 80 ∧ ((x5 = 0 ∨ x5 = 1) ∧ (vp_in x1 10 ∧ (vp_in x1 10))))))) ∧ (¬ (ea_i h (b0 + 9) (Int32.toNatClampNeg ((((8 : Int32) * x1) + (ea_i h (b0 + 6) (Int32.toNatClampNeg x1))) - (1 : Int32)))) < x3 → True)))))) ∧ (¬ x3 = x4 → True))) ∧ (¬ x4 ≤ (2400 : Int32) → True)))))
theorem shX9_add {b0 : Nat} {x1 : Int32} {x2 : Int32} {x3 : Int32} {x4 : Int32} {x5 : Int32} {h : ea_H} (hs : ShC b0 h) : ShC b0 (wX9_add b0 x1 x2 x3 x4 x5 h) := (ShC_it hs (ShC_it hs (ShC_it hs (ShC_it (ShC_it (ShC_it (ShC_wi (ShC_wi (ShC_wi (ShC_wi (ShC_wi hs))))) (ShC_it hs (ShC_it (ShC_wi (ShC_wi (ShC_wi (ShC_wi (ShC_wi hs))))) hs))) (ShC_it (ShC_it (ShC_wi (ShC_wi (ShC_wi (ShC_wi (ShC_wi hs))))) (ShC_it hs (ShC_it (ShC_wi (ShC_wi (ShC_wi (ShC_wi (ShC_wi hs))))) hs))) hs)) hs))))
theorem sX9_add {d : Nat} {b0 : Nat} {x1 : Int32} {x2 : Int32} {x3 : Int32} {x4 : Int32} {x5 : Int32} {h : ea_H} (hd : 1 ≤ d) (hs : ShC b0 h) (K : okX9_add b0 x1 x2 x3 x4 x5 h) : ea_Met mX9_add d [vR (some (b0 + 5)), vI x1, vI x2, vI x3, vI x4, vI x5] h (some (vI (vX9_add b0 x1 x2 x3 x4 x5 h))) (wX9_add b0 x1 x2 x3 x4 x5 h) := by
  obtain ⟨X, EX⟩ : ∃ z, z = vX9_add b0 x1 x2 x3 x4 x5 h := ⟨_, rfl⟩
  rw [← EX]
  unfold vX9_add at EX
  obtain ⟨Y, EY⟩ : ∃ z, z = wX9_add b0 x1 x2 x3 x4 x5 h := ⟨_, rfl⟩
  rw [← EY]
  unfold wX9_add at EY
  unfold okX9_add at K
  refine ea_enter rfl (Nat.le_of_ble_eq_true rfl) ?_
  refine ea_aload_n (pc := 0) dX9_add_0 rfl 0 rfl ?_
  refine ea_getR (pc := 1) dX9_add_1 ec_9 (k := 1) (Nat.le_of_ble_eq_true rfl) rfl (Or.inl ew_180) (hs.1 5 (by decide)).1 (hs.1 5 (by decide)).2.1 (hs.2 5 1 rfl) ?_
  refine ea_iload_n (pc := 4) dX9_add_4 rfl 1 rfl ?_
  obtain ⟨z1, K⟩ := K
  refine ea_iald (pc := 5) dX9_add_5 (hs.1 6 (by decide)).1 (hs.1 6 (by decide)).2.1 (ea_vpl (hs.1 6 (by decide)).2.2 z1) ?_
  refine ea_istore (pc := 6) (lv' := [(0, vR (some (b0 + 5))), (1, vI x1), (2, vI x2), (3, vI x3), (4, vI x4), (5, vI x5), (6, vI (ea_i h (b0 + 6) (Int32.toNatClampNeg x1)))]) dX9_add_6 (Nat.le_of_ble_eq_true rfl) [1, 2, 3, 4, 5, 6, 0] rfl ?_
  refine ea_iload (pc := 8) dX9_add_8 6 rfl ?_
  refine ea_bipush (pc := 10) dX9_add_10 (v := 8) rfl ?_
  refine ea_icmp_ge (pc := 12) (tgt := 33) dX9_add_12 rfl (fun c65 => ?_) (fun c65 => ?_)
  · have EX := EX.trans (if_pos c65)
    have EY := EY.trans (if_pos c65)
    refine ea_iconst (pc := 33) dX9_add_33 (v := (-1)) rfl ?_
    subst EX
    subst EY
    exact ea_ireturn (pc := 34) dX9_add_34 rfl rfl
  · have EX := EX.trans (if_neg c65)
    have EY := EY.trans (if_neg c65)
    have K := K.2 c65
    refine ea_iload_n (pc := 15) dX9_add_15 rfl 3 rfl ?_
    refine ea_if_lt (pc := 16) (tgt := 33) dX9_add_16 rfl (fun c64 => ?_) (fun c64 => ?_)
    · have EX := EX.trans (if_pos c64)
      have EY := EY.trans (if_pos c64)
      refine ea_iconst (pc := 33) dX9_add_33 (v := (-1)) rfl ?_
      subst EX
      subst EY
      exact ea_ireturn (pc := 34) dX9_add_34 rfl rfl
    · have EX := EX.trans (if_neg c64)
      have EY := EY.trans (if_neg c64)
      have K := K.2 c64
      refine ea_iload (pc := 19) dX9_add_19 4 rfl ?_
      refine ea_iload_n (pc := 21) dX9_add_21 rfl 3 rfl ?_
      refine ea_icmp_lt (pc := 22) (tgt := 33) dX9_add_22 rfl (fun c63 => ?_) (fun c63 => ?_)
      · have EX := EX.trans (if_pos c63)
        have EY := EY.trans (if_pos c63)
        refine ea_iconst (pc := 33) dX9_add_33 (v := (-1)) rfl ?_
        subst EX
        subst EY
        exact ea_ireturn (pc := 34) dX9_add_34 rfl rfl
      · have EX := EX.trans (if_neg c63)
        have EY := EY.trans (if_neg c63)
        have K := K.2 c63
        refine ea_iload (pc := 25) dX9_add_25 4 rfl ?_
        refine ea_sipush (pc := 27) dX9_add_27 (v := 2400) rfl ?_
        refine ea_icmp_le (pc := 30) (tgt := 35) dX9_add_30 rfl (fun c62 => ?_) (fun c62 => ?_)
        · have EX := EX.trans (if_pos c62)
          have EY := EY.trans (if_pos c62)
          have K := K.1 c62
          refine ea_iload (pc := 35) dX9_add_35 5 rfl ?_
          refine ea_if_eq (pc := 37) (tgt := 48) dX9_add_37 rfl (fun c61 => ?_) (fun c61 => ?_)
          · have EX := EX.trans (if_pos c61)
            have EY := EY.trans (if_pos c61)
            have K := K.1 c61
            refine ea_bipush (pc := 48) dX9_add_48 (v := 8) rfl ?_
            refine ea_iload_n (pc := 50) dX9_add_50 rfl 1 rfl ?_
            refine ea_imul (pc := 51) dX9_add_51 ?_
            refine ea_iload (pc := 52) dX9_add_52 6 rfl ?_
            refine ea_iadd (pc := 54) dX9_add_54 ?_
            refine ea_istore (pc := 55) (lv' := [(0, vR (some (b0 + 5))), (1, vI x1), (2, vI x2), (3, vI x3), (4, vI x4), (5, vI x5), (6, vI (ea_i h (b0 + 6) (Int32.toNatClampNeg x1))), (7, vI (((8 : Int32) * x1) + (ea_i h (b0 + 6) (Int32.toNatClampNeg x1))))]) dX9_add_55 (Nat.le_of_ble_eq_true rfl) [1, 2, 3, 4, 5, 6, 7, 0] rfl ?_
            refine ea_iload (pc := 57) dX9_add_57 6 rfl ?_
            refine ea_if_le (pc := 59) (tgt := 90) dX9_add_59 rfl (fun c30 => ?_) (fun c30 => ?_)
            · have EX := EX.trans (if_pos c30)
              have EY := EY.trans (if_pos c30)
              have K := K.1 c30
              refine ea_aload_n (pc := 90) dX9_add_90 rfl 0 rfl ?_
              refine ea_getR (pc := 91) dX9_add_91 ec_9 (k := 2) (Nat.le_of_ble_eq_true rfl) rfl (Or.inl ew_184) (hs.1 5 (by decide)).1 (hs.1 5 (by decide)).2.1 (hs.2 5 2 rfl) ?_
              refine ea_iload (pc := 94) dX9_add_94 7 rfl ?_
              refine ea_iload_n (pc := 96) dX9_add_96 rfl 2 rfl ?_
              obtain ⟨z2, K⟩ := K
              refine ea_iast (pc := 97) dX9_add_97 (hs.1 7 (by decide)).1 (hs.1 7 (by decide)).2.1 (ea_vpl (hs.1 7 (by decide)).2.2 z2) ?_
              have hs3 : ShC b0 (ea_wi h (b0 + 7) (Int32.toNatClampNeg (((8 : Int32) * x1) + (ea_i h (b0 + 6) (Int32.toNatClampNeg x1)))) x2) := ShC_wi hs
              refine ea_aload_n (pc := 98) dX9_add_98 rfl 0 rfl ?_
              refine ea_getR (pc := 99) dX9_add_99 ec_9 (k := 3) (Nat.le_of_ble_eq_true rfl) rfl (Or.inl ew_188) (hs3.1 5 (by decide)).1 (hs3.1 5 (by decide)).2.1 (hs3.2 5 3 rfl) ?_
              refine ea_iload (pc := 102) dX9_add_102 7 rfl ?_
              refine ea_iload_n (pc := 104) dX9_add_104 rfl 3 rfl ?_
              obtain ⟨z4, K⟩ := K
              refine ea_iast (pc := 105) dX9_add_105 (hs3.1 8 (by decide)).1 (hs3.1 8 (by decide)).2.1 (ea_vpl (hs3.1 8 (by decide)).2.2 z4) ?_
              have hs5 : ShC b0 (ea_wi (ea_wi h (b0 + 7) (Int32.toNatClampNeg (((8 : Int32) * x1) + (ea_i h (b0 + 6) (Int32.toNatClampNeg x1)))) x2) (b0 + 8) (Int32.toNatClampNeg (((8 : Int32) * x1) + (ea_i h (b0 + 6) (Int32.toNatClampNeg x1)))) x3) := ShC_wi hs3
              refine ea_aload_n (pc := 106) dX9_add_106 rfl 0 rfl ?_
              refine ea_getR (pc := 107) dX9_add_107 ec_9 (k := 4) (Nat.le_of_ble_eq_true rfl) rfl (Or.inl ew_191) (hs5.1 5 (by decide)).1 (hs5.1 5 (by decide)).2.1 (hs5.2 5 4 rfl) ?_
              refine ea_iload (pc := 110) dX9_add_110 7 rfl ?_
              refine ea_iload (pc := 112) dX9_add_112 4 rfl ?_
              obtain ⟨z6, K⟩ := K
              refine ea_iast (pc := 114) dX9_add_114 (hs5.1 9 (by decide)).1 (hs5.1 9 (by decide)).2.1 (ea_vpl (hs5.1 9 (by decide)).2.2 z6) ?_
              have hs7 : ShC b0 (ea_wi (ea_wi (ea_wi h (b0 + 7) (Int32.toNatClampNeg (((8 : Int32) * x1) + (ea_i h (b0 + 6) (Int32.toNatClampNeg x1)))) x2) (b0 + 8) (Int32.toNatClampNeg (((8 : Int32) * x1) + (ea_i h (b0 + 6) (Int32.toNatClampNeg x1)))) x3) (b0 + 9) (Int32.toNatClampNeg (((8 : Int32) * x1) + (ea_i h (b0 + 6) (Int32.toNatClampNeg x1)))) x4) := ShC_wi hs5
              refine ea_aload_n (pc := 115) dX9_add_115 rfl 0 rfl ?_
              refine ea_getR (pc := 116) dX9_add_116 ec_9 (k := 5) (Nat.le_of_ble_eq_true rfl) rfl (Or.inl ew_194) (hs7.1 5 (by decide)).1 (hs7.1 5 (by decide)).2.1 (hs7.2 5 5 rfl) ?_
              refine ea_iload (pc := 119) dX9_add_119 7 rfl ?_
              refine ea_iload (pc := 121) dX9_add_121 5 rfl ?_
              obtain ⟨z8, z10, K⟩ := K
              refine ea_zast (pc := 123) dX9_add_123 (y := x5) (ea_bn z10) (hs7.1 10 (by decide)).1 (hs7.1 10 (by decide)).2.1 (ea_vpl (hs7.1 10 (by decide)).2.2 z8) ?_
              have hs9 : ShC b0 (ea_wi (ea_wi (ea_wi (ea_wi h (b0 + 7) (Int32.toNatClampNeg (((8 : Int32) * x1) + (ea_i h (b0 + 6) (Int32.toNatClampNeg x1)))) x2) (b0 + 8) (Int32.toNatClampNeg (((8 : Int32) * x1) + (ea_i h (b0 + 6) (Int32.toNatClampNeg x1)))) x3) (b0 + 9) (Int32.toNatClampNeg (((8 : Int32) * x1) + (ea_i h (b0 + 6) (Int32.toNatClampNeg x1)))) x4) (b0 + 10) (Int32.toNatClampNeg (((8 : Int32) * x1) + (ea_i h (b0 + 6) (Int32.toNatClampNeg x1)))) x5) := ShC_wi hs7
              refine ea_aload_n (pc := 124) dX9_add_124 rfl 0 rfl ?_
              refine ea_getR (pc := 125) dX9_add_125 ec_9 (k := 1) (Nat.le_of_ble_eq_true rfl) rfl (Or.inl ew_180) (hs9.1 5 (by decide)).1 (hs9.1 5 (by decide)).2.1 (hs9.2 5 1 rfl) ?_
              refine ea_iload_n (pc := 128) dX9_add_128 rfl 1 rfl ?_
              refine ea_dup2 (pc := 129) dX9_add_129 rfl rfl ?_
              obtain ⟨z11, K⟩ := K
              refine ea_iald (pc := 130) dX9_add_130 (hs9.1 6 (by decide)).1 (hs9.1 6 (by decide)).2.1 (ea_vpl (hs9.1 6 (by decide)).2.2 z11) ?_
              refine ea_iconst (pc := 131) dX9_add_131 (v := 1) rfl ?_
              refine ea_iadd (pc := 132) dX9_add_132 ?_
              have z12 := K
              refine ea_iast (pc := 133) dX9_add_133 (hs9.1 6 (by decide)).1 (hs9.1 6 (by decide)).2.1 (ea_vpl (hs9.1 6 (by decide)).2.2 z12) ?_
              have hs13 : ShC b0 (ea_wi (ea_wi (ea_wi (ea_wi (ea_wi h (b0 + 7) (Int32.toNatClampNeg (((8 : Int32) * x1) + (ea_i h (b0 + 6) (Int32.toNatClampNeg x1)))) x2) (b0 + 8) (Int32.toNatClampNeg (((8 : Int32) * x1) + (ea_i h (b0 + 6) (Int32.toNatClampNeg x1)))) x3) (b0 + 9) (Int32.toNatClampNeg (((8 : Int32) * x1) + (ea_i h (b0 + 6) (Int32.toNatClampNeg x1)))) x4) (b0 + 10) (Int32.toNatClampNeg (((8 : Int32) * x1) + (ea_i h (b0 + 6) (Int32.toNatClampNeg x1)))) x5) (b0 + 6) (Int32.toNatClampNeg x1) ((ea_i (ea_wi (ea_wi (ea_wi (ea_wi h (b0 + 7) (Int32.toNatClampNeg (((8 : Int32) * x1) + (ea_i h (b0 + 6) (Int32.toNatClampNeg x1)))) x2) (b0 + 8) (Int32.toNatClampNeg (((8 : Int32) * x1) + (ea_i h (b0 + 6) (Int32.toNatClampNeg x1)))) x3) (b0 + 9) (Int32.toNatClampNeg (((8 : Int32) * x1) + (ea_i h (b0 + 6) (Int32.toNatClampNeg x1)))) x4) (b0 + 10) (Int32.toNatClampNeg (((8 : Int32) * x1) + (ea_i h (b0 + 6) (Int32.toNatClampNeg x1)))) x5) (b0 + 6) (Int32.toNatClampNeg x1)) + (1 : Int32))) := ShC_wi hs9
              refine ea_iload (pc := 134) dX9_add_134 6 rfl ?_
              subst EX
              subst EY
              exact ea_ireturn (pc := 136) dX9_add_136 rfl rfl
            · have EX := EX.trans (if_neg c30)
              have EY := EY.trans (if_neg c30)
              have K := K.2 c30
              refine ea_aload_n (pc := 62) dX9_add_62 rfl 0 rfl ?_
              refine ea_getR (pc := 63) dX9_add_63 ec_9 (k := 2) (Nat.le_of_ble_eq_true rfl) rfl (Or.inl ew_184) (hs.1 5 (by decide)).1 (hs.1 5 (by decide)).2.1 (hs.2 5 2 rfl) ?_
              refine ea_iload (pc := 66) dX9_add_66 7 rfl ?_
              refine ea_iconst (pc := 68) dX9_add_68 (v := 1) rfl ?_
              refine ea_isub (pc := 69) dX9_add_69 ?_
              obtain ⟨z14, K⟩ := K
              refine ea_iald (pc := 70) dX9_add_70 (hs.1 7 (by decide)).1 (hs.1 7 (by decide)).2.1 (ea_vpl (hs.1 7 (by decide)).2.2 z14) ?_
              refine ea_iload_n (pc := 71) dX9_add_71 rfl 2 rfl ?_
              refine ea_icmp_eq (pc := 72) (tgt := 88) dX9_add_72 rfl (fun c29 => ?_) (fun c29 => ?_)
              · have EX := EX.trans (if_pos c29)
                have EY := EY.trans (if_pos c29)
                refine ea_iconst (pc := 88) dX9_add_88 (v := (-1)) rfl ?_
                subst EX
                subst EY
                exact ea_ireturn (pc := 89) dX9_add_89 rfl rfl
              · have EX := EX.trans (if_neg c29)
                have EY := EY.trans (if_neg c29)
                have K := K.2 c29
                refine ea_iload_n (pc := 75) dX9_add_75 rfl 3 rfl ?_
                refine ea_aload_n (pc := 76) dX9_add_76 rfl 0 rfl ?_
                refine ea_getR (pc := 77) dX9_add_77 ec_9 (k := 4) (Nat.le_of_ble_eq_true rfl) rfl (Or.inl ew_191) (hs.1 5 (by decide)).1 (hs.1 5 (by decide)).2.1 (hs.2 5 4 rfl) ?_
                refine ea_iload (pc := 80) dX9_add_80 7 rfl ?_
                refine ea_iconst (pc := 82) dX9_add_82 (v := 1) rfl ?_
                refine ea_isub (pc := 83) dX9_add_83 ?_
                obtain ⟨z15, K⟩ := K
                refine ea_iald (pc := 84) dX9_add_84 (hs.1 9 (by decide)).1 (hs.1 9 (by decide)).2.1 (ea_vpl (hs.1 9 (by decide)).2.2 z15) ?_
                refine ea_icmp_gt (pc := 85) (tgt := 90) dX9_add_85 rfl (fun c28 => ?_) (fun c28 => ?_)
                · have EX := EX.trans (if_pos c28)
                  have EY := EY.trans (if_pos c28)
                  have K := K.1 c28
                  refine ea_aload_n (pc := 90) dX9_add_90 rfl 0 rfl ?_
                  refine ea_getR (pc := 91) dX9_add_91 ec_9 (k := 2) (Nat.le_of_ble_eq_true rfl) rfl (Or.inl ew_184) (hs.1 5 (by decide)).1 (hs.1 5 (by decide)).2.1 (hs.2 5 2 rfl) ?_
                  refine ea_iload (pc := 94) dX9_add_94 7 rfl ?_
                  refine ea_iload_n (pc := 96) dX9_add_96 rfl 2 rfl ?_
                  obtain ⟨z16, K⟩ := K
                  refine ea_iast (pc := 97) dX9_add_97 (hs.1 7 (by decide)).1 (hs.1 7 (by decide)).2.1 (ea_vpl (hs.1 7 (by decide)).2.2 z16) ?_
                  have hs17 : ShC b0 (ea_wi h (b0 + 7) (Int32.toNatClampNeg (((8 : Int32) * x1) + (ea_i h (b0 + 6) (Int32.toNatClampNeg x1)))) x2) := ShC_wi hs
                  refine ea_aload_n (pc := 98) dX9_add_98 rfl 0 rfl ?_
                  refine ea_getR (pc := 99) dX9_add_99 ec_9 (k := 3) (Nat.le_of_ble_eq_true rfl) rfl (Or.inl ew_188) (hs17.1 5 (by decide)).1 (hs17.1 5 (by decide)).2.1 (hs17.2 5 3 rfl) ?_
                  refine ea_iload (pc := 102) dX9_add_102 7 rfl ?_
                  refine ea_iload_n (pc := 104) dX9_add_104 rfl 3 rfl ?_
                  obtain ⟨z18, K⟩ := K
                  refine ea_iast (pc := 105) dX9_add_105 (hs17.1 8 (by decide)).1 (hs17.1 8 (by decide)).2.1 (ea_vpl (hs17.1 8 (by decide)).2.2 z18) ?_
                  have hs19 : ShC b0 (ea_wi (ea_wi h (b0 + 7) (Int32.toNatClampNeg (((8 : Int32) * x1) + (ea_i h (b0 + 6) (Int32.toNatClampNeg x1)))) x2) (b0 + 8) (Int32.toNatClampNeg (((8 : Int32) * x1) + (ea_i h (b0 + 6) (Int32.toNatClampNeg x1)))) x3) := ShC_wi hs17
                  refine ea_aload_n (pc := 106) dX9_add_106 rfl 0 rfl ?_
                  refine ea_getR (pc := 107) dX9_add_107 ec_9 (k := 4) (Nat.le_of_ble_eq_true rfl) rfl (Or.inl ew_191) (hs19.1 5 (by decide)).1 (hs19.1 5 (by decide)).2.1 (hs19.2 5 4 rfl) ?_
                  refine ea_iload (pc := 110) dX9_add_110 7 rfl ?_
                  refine ea_iload (pc := 112) dX9_add_112 4 rfl ?_
                  obtain ⟨z20, K⟩ := K
                  refine ea_iast (pc := 114) dX9_add_114 (hs19.1 9 (by decide)).1 (hs19.1 9 (by decide)).2.1 (ea_vpl (hs19.1 9 (by decide)).2.2 z20) ?_
                  have hs21 : ShC b0 (ea_wi (ea_wi (ea_wi h (b0 + 7) (Int32.toNatClampNeg (((8 : Int32) * x1) + (ea_i h (b0 + 6) (Int32.toNatClampNeg x1)))) x2) (b0 + 8) (Int32.toNatClampNeg (((8 : Int32) * x1) + (ea_i h (b0 + 6) (Int32.toNatClampNeg x1)))) x3) (b0 + 9) (Int32.toNatClampNeg (((8 : Int32) * x1) + (ea_i h (b0 + 6) (Int32.toNatClampNeg x1)))) x4) := ShC_wi hs19
                  refine ea_aload_n (pc := 115) dX9_add_115 rfl 0 rfl ?_
                  refine ea_getR (pc := 116) dX9_add_116 ec_9 (k := 5) (Nat.le_of_ble_eq_true rfl) rfl (Or.inl ew_194) (hs21.1 5 (by decide)).1 (hs21.1 5 (by decide)).2.1 (hs21.2 5 5 rfl) ?_
                  refine ea_iload (pc := 119) dX9_add_119 7 rfl ?_
                  refine ea_iload (pc := 121) dX9_add_121 5 rfl ?_
                  obtain ⟨z22, z24, K⟩ := K
                  refine ea_zast (pc := 123) dX9_add_123 (y := x5) (ea_bn z24) (hs21.1 10 (by decide)).1 (hs21.1 10 (by decide)).2.1 (ea_vpl (hs21.1 10 (by decide)).2.2 z22) ?_
                  have hs23 : ShC b0 (ea_wi (ea_wi (ea_wi (ea_wi h (b0 + 7) (Int32.toNatClampNeg (((8 : Int32) * x1) + (ea_i h (b0 + 6) (Int32.toNatClampNeg x1)))) x2) (b0 + 8) (Int32.toNatClampNeg (((8 : Int32) * x1) + (ea_i h (b0 + 6) (Int32.toNatClampNeg x1)))) x3) (b0 + 9) (Int32.toNatClampNeg (((8 : Int32) * x1) + (ea_i h (b0 + 6) (Int32.toNatClampNeg x1)))) x4) (b0 + 10) (Int32.toNatClampNeg (((8 : Int32) * x1) + (ea_i h (b0 + 6) (Int32.toNatClampNeg x1)))) x5) := ShC_wi hs21
                  refine ea_aload_n (pc := 124) dX9_add_124 rfl 0 rfl ?_
                  refine ea_getR (pc := 125) dX9_add_125 ec_9 (k := 1) (Nat.le_of_ble_eq_true rfl) rfl (Or.inl ew_180) (hs23.1 5 (by decide)).1 (hs23.1 5 (by decide)).2.1 (hs23.2 5 1 rfl) ?_
                  refine ea_iload_n (pc := 128) dX9_add_128 rfl 1 rfl ?_
                  refine ea_dup2 (pc := 129) dX9_add_129 rfl rfl ?_
                  obtain ⟨z25, K⟩ := K
                  refine ea_iald (pc := 130) dX9_add_130 (hs23.1 6 (by decide)).1 (hs23.1 6 (by decide)).2.1 (ea_vpl (hs23.1 6 (by decide)).2.2 z25) ?_
                  refine ea_iconst (pc := 131) dX9_add_131 (v := 1) rfl ?_
                  refine ea_iadd (pc := 132) dX9_add_132 ?_
                  have z26 := K
                  refine ea_iast (pc := 133) dX9_add_133 (hs23.1 6 (by decide)).1 (hs23.1 6 (by decide)).2.1 (ea_vpl (hs23.1 6 (by decide)).2.2 z26) ?_
                  have hs27 : ShC b0 (ea_wi (ea_wi (ea_wi (ea_wi (ea_wi h (b0 + 7) (Int32.toNatClampNeg (((8 : Int32) * x1) + (ea_i h (b0 + 6) (Int32.toNatClampNeg x1)))) x2) (b0 + 8) (Int32.toNatClampNeg (((8 : Int32) * x1) + (ea_i h (b0 + 6) (Int32.toNatClampNeg x1)))) x3) (b0 + 9) (Int32.toNatClampNeg (((8 : Int32) * x1) + (ea_i h (b0 + 6) (Int32.toNatClampNeg x1)))) x4) (b0 + 10) (Int32.toNatClampNeg (((8 : Int32) * x1) + (ea_i h (b0 + 6) (Int32.toNatClampNeg x1)))) x5) (b0 + 6) (Int32.toNatClampNeg x1) ((ea_i (ea_wi (ea_wi (ea_wi (ea_wi h (b0 + 7) (Int32.toNatClampNeg (((8 : Int32) * x1) + (ea_i h (b0 + 6) (Int32.toNatClampNeg x1)))) x2) (b0 + 8) (Int32.toNatClampNeg (((8 : Int32) * x1) + (ea_i h (b0 + 6) (Int32.toNatClampNeg x1)))) x3) (b0 + 9) (Int32.toNatClampNeg (((8 : Int32) * x1) + (ea_i h (b0 + 6) (Int32.toNatClampNeg x1)))) x4) (b0 + 10) (Int32.toNatClampNeg (((8 : Int32) * x1) + (ea_i h (b0 + 6) (Int32.toNatClampNeg x1)))) x5) (b0 + 6) (Int32.toNatClampNeg x1)) + (1 : Int32))) := ShC_wi hs23
                  refine ea_iload (pc := 134) dX9_add_134 6 rfl ?_
                  subst EX
                  subst EY
                  exact ea_ireturn (pc := 136) dX9_add_136 rfl rfl
                · have EX := EX.trans (if_neg c28)
                  have EY := EY.trans (if_neg c28)
                  refine ea_iconst (pc := 88) dX9_add_88 (v := (-1)) rfl ?_
                  subst EX
                  subst EY
                  exact ea_ireturn (pc := 89) dX9_add_89 rfl rfl
          · have EX := EX.trans (if_neg c61)
            have EY := EY.trans (if_neg c61)
            have K := K.2 c61
            refine ea_iload_n (pc := 40) dX9_add_40 rfl 3 rfl ?_
            refine ea_iload (pc := 41) dX9_add_41 4 rfl ?_
            refine ea_icmp_eq (pc := 43) (tgt := 48) dX9_add_43 rfl (fun c60 => ?_) (fun c60 => ?_)
            · have EX := EX.trans (if_pos c60)
              have EY := EY.trans (if_pos c60)
              have K := K.1 c60
              refine ea_bipush (pc := 48) dX9_add_48 (v := 8) rfl ?_
              refine ea_iload_n (pc := 50) dX9_add_50 rfl 1 rfl ?_
              refine ea_imul (pc := 51) dX9_add_51 ?_
              refine ea_iload (pc := 52) dX9_add_52 6 rfl ?_
              refine ea_iadd (pc := 54) dX9_add_54 ?_
              refine ea_istore (pc := 55) (lv' := [(0, vR (some (b0 + 5))), (1, vI x1), (2, vI x2), (3, vI x3), (4, vI x4), (5, vI x5), (6, vI (ea_i h (b0 + 6) (Int32.toNatClampNeg x1))), (7, vI (((8 : Int32) * x1) + (ea_i h (b0 + 6) (Int32.toNatClampNeg x1))))]) dX9_add_55 (Nat.le_of_ble_eq_true rfl) [1, 2, 3, 4, 5, 6, 7, 0] rfl ?_
              refine ea_iload (pc := 57) dX9_add_57 6 rfl ?_
              refine ea_if_le (pc := 59) (tgt := 90) dX9_add_59 rfl (fun c59 => ?_) (fun c59 => ?_)
              · have EX := EX.trans (if_pos c59)
                have EY := EY.trans (if_pos c59)
                have K := K.1 c59
                refine ea_aload_n (pc := 90) dX9_add_90 rfl 0 rfl ?_
                refine ea_getR (pc := 91) dX9_add_91 ec_9 (k := 2) (Nat.le_of_ble_eq_true rfl) rfl (Or.inl ew_184) (hs.1 5 (by decide)).1 (hs.1 5 (by decide)).2.1 (hs.2 5 2 rfl) ?_
                refine ea_iload (pc := 94) dX9_add_94 7 rfl ?_
                refine ea_iload_n (pc := 96) dX9_add_96 rfl 2 rfl ?_
                obtain ⟨z31, K⟩ := K
                refine ea_iast (pc := 97) dX9_add_97 (hs.1 7 (by decide)).1 (hs.1 7 (by decide)).2.1 (ea_vpl (hs.1 7 (by decide)).2.2 z31) ?_
                have hs32 : ShC b0 (ea_wi h (b0 + 7) (Int32.toNatClampNeg (((8 : Int32) * x1) + (ea_i h (b0 + 6) (Int32.toNatClampNeg x1)))) x2) := ShC_wi hs
                refine ea_aload_n (pc := 98) dX9_add_98 rfl 0 rfl ?_
                refine ea_getR (pc := 99) dX9_add_99 ec_9 (k := 3) (Nat.le_of_ble_eq_true rfl) rfl (Or.inl ew_188) (hs32.1 5 (by decide)).1 (hs32.1 5 (by decide)).2.1 (hs32.2 5 3 rfl) ?_
                refine ea_iload (pc := 102) dX9_add_102 7 rfl ?_
                refine ea_iload_n (pc := 104) dX9_add_104 rfl 3 rfl ?_
                obtain ⟨z33, K⟩ := K
                refine ea_iast (pc := 105) dX9_add_105 (hs32.1 8 (by decide)).1 (hs32.1 8 (by decide)).2.1 (ea_vpl (hs32.1 8 (by decide)).2.2 z33) ?_
                have hs34 : ShC b0 (ea_wi (ea_wi h (b0 + 7) (Int32.toNatClampNeg (((8 : Int32) * x1) + (ea_i h (b0 + 6) (Int32.toNatClampNeg x1)))) x2) (b0 + 8) (Int32.toNatClampNeg (((8 : Int32) * x1) + (ea_i h (b0 + 6) (Int32.toNatClampNeg x1)))) x3) := ShC_wi hs32
                refine ea_aload_n (pc := 106) dX9_add_106 rfl 0 rfl ?_
                refine ea_getR (pc := 107) dX9_add_107 ec_9 (k := 4) (Nat.le_of_ble_eq_true rfl) rfl (Or.inl ew_191) (hs34.1 5 (by decide)).1 (hs34.1 5 (by decide)).2.1 (hs34.2 5 4 rfl) ?_
                refine ea_iload (pc := 110) dX9_add_110 7 rfl ?_
                refine ea_iload (pc := 112) dX9_add_112 4 rfl ?_
                obtain ⟨z35, K⟩ := K
                refine ea_iast (pc := 114) dX9_add_114 (hs34.1 9 (by decide)).1 (hs34.1 9 (by decide)).2.1 (ea_vpl (hs34.1 9 (by decide)).2.2 z35) ?_
                have hs36 : ShC b0 (ea_wi (ea_wi (ea_wi h (b0 + 7) (Int32.toNatClampNeg (((8 : Int32) * x1) + (ea_i h (b0 + 6) (Int32.toNatClampNeg x1)))) x2) (b0 + 8) (Int32.toNatClampNeg (((8 : Int32) * x1) + (ea_i h (b0 + 6) (Int32.toNatClampNeg x1)))) x3) (b0 + 9) (Int32.toNatClampNeg (((8 : Int32) * x1) + (ea_i h (b0 + 6) (Int32.toNatClampNeg x1)))) x4) := ShC_wi hs34
                refine ea_aload_n (pc := 115) dX9_add_115 rfl 0 rfl ?_
                refine ea_getR (pc := 116) dX9_add_116 ec_9 (k := 5) (Nat.le_of_ble_eq_true rfl) rfl (Or.inl ew_194) (hs36.1 5 (by decide)).1 (hs36.1 5 (by decide)).2.1 (hs36.2 5 5 rfl) ?_
                refine ea_iload (pc := 119) dX9_add_119 7 rfl ?_
                refine ea_iload (pc := 121) dX9_add_121 5 rfl ?_
                obtain ⟨z37, z39, K⟩ := K
                refine ea_zast (pc := 123) dX9_add_123 (y := x5) (ea_bn z39) (hs36.1 10 (by decide)).1 (hs36.1 10 (by decide)).2.1 (ea_vpl (hs36.1 10 (by decide)).2.2 z37) ?_
                have hs38 : ShC b0 (ea_wi (ea_wi (ea_wi (ea_wi h (b0 + 7) (Int32.toNatClampNeg (((8 : Int32) * x1) + (ea_i h (b0 + 6) (Int32.toNatClampNeg x1)))) x2) (b0 + 8) (Int32.toNatClampNeg (((8 : Int32) * x1) + (ea_i h (b0 + 6) (Int32.toNatClampNeg x1)))) x3) (b0 + 9) (Int32.toNatClampNeg (((8 : Int32) * x1) + (ea_i h (b0 + 6) (Int32.toNatClampNeg x1)))) x4) (b0 + 10) (Int32.toNatClampNeg (((8 : Int32) * x1) + (ea_i h (b0 + 6) (Int32.toNatClampNeg x1)))) x5) := ShC_wi hs36
                refine ea_aload_n (pc := 124) dX9_add_124 rfl 0 rfl ?_
                refine ea_getR (pc := 125) dX9_add_125 ec_9 (k := 1) (Nat.le_of_ble_eq_true rfl) rfl (Or.inl ew_180) (hs38.1 5 (by decide)).1 (hs38.1 5 (by decide)).2.1 (hs38.2 5 1 rfl) ?_
                refine ea_iload_n (pc := 128) dX9_add_128 rfl 1 rfl ?_
                refine ea_dup2 (pc := 129) dX9_add_129 rfl rfl ?_
                obtain ⟨z40, K⟩ := K
                refine ea_iald (pc := 130) dX9_add_130 (hs38.1 6 (by decide)).1 (hs38.1 6 (by decide)).2.1 (ea_vpl (hs38.1 6 (by decide)).2.2 z40) ?_
                refine ea_iconst (pc := 131) dX9_add_131 (v := 1) rfl ?_
                refine ea_iadd (pc := 132) dX9_add_132 ?_
                have z41 := K
                refine ea_iast (pc := 133) dX9_add_133 (hs38.1 6 (by decide)).1 (hs38.1 6 (by decide)).2.1 (ea_vpl (hs38.1 6 (by decide)).2.2 z41) ?_
                have hs42 : ShC b0 (ea_wi (ea_wi (ea_wi (ea_wi (ea_wi h (b0 + 7) (Int32.toNatClampNeg (((8 : Int32) * x1) + (ea_i h (b0 + 6) (Int32.toNatClampNeg x1)))) x2) (b0 + 8) (Int32.toNatClampNeg (((8 : Int32) * x1) + (ea_i h (b0 + 6) (Int32.toNatClampNeg x1)))) x3) (b0 + 9) (Int32.toNatClampNeg (((8 : Int32) * x1) + (ea_i h (b0 + 6) (Int32.toNatClampNeg x1)))) x4) (b0 + 10) (Int32.toNatClampNeg (((8 : Int32) * x1) + (ea_i h (b0 + 6) (Int32.toNatClampNeg x1)))) x5) (b0 + 6) (Int32.toNatClampNeg x1) ((ea_i (ea_wi (ea_wi (ea_wi (ea_wi h (b0 + 7) (Int32.toNatClampNeg (((8 : Int32) * x1) + (ea_i h (b0 + 6) (Int32.toNatClampNeg x1)))) x2) (b0 + 8) (Int32.toNatClampNeg (((8 : Int32) * x1) + (ea_i h (b0 + 6) (Int32.toNatClampNeg x1)))) x3) (b0 + 9) (Int32.toNatClampNeg (((8 : Int32) * x1) + (ea_i h (b0 + 6) (Int32.toNatClampNeg x1)))) x4) (b0 + 10) (Int32.toNatClampNeg (((8 : Int32) * x1) + (ea_i h (b0 + 6) (Int32.toNatClampNeg x1)))) x5) (b0 + 6) (Int32.toNatClampNeg x1)) + (1 : Int32))) := ShC_wi hs38
                refine ea_iload (pc := 134) dX9_add_134 6 rfl ?_
                subst EX
                subst EY
                exact ea_ireturn (pc := 136) dX9_add_136 rfl rfl
              · have EX := EX.trans (if_neg c59)
                have EY := EY.trans (if_neg c59)
                have K := K.2 c59
                refine ea_aload_n (pc := 62) dX9_add_62 rfl 0 rfl ?_
                refine ea_getR (pc := 63) dX9_add_63 ec_9 (k := 2) (Nat.le_of_ble_eq_true rfl) rfl (Or.inl ew_184) (hs.1 5 (by decide)).1 (hs.1 5 (by decide)).2.1 (hs.2 5 2 rfl) ?_
                refine ea_iload (pc := 66) dX9_add_66 7 rfl ?_
                refine ea_iconst (pc := 68) dX9_add_68 (v := 1) rfl ?_
                refine ea_isub (pc := 69) dX9_add_69 ?_
                obtain ⟨z43, K⟩ := K
                refine ea_iald (pc := 70) dX9_add_70 (hs.1 7 (by decide)).1 (hs.1 7 (by decide)).2.1 (ea_vpl (hs.1 7 (by decide)).2.2 z43) ?_
                refine ea_iload_n (pc := 71) dX9_add_71 rfl 2 rfl ?_
                refine ea_icmp_eq (pc := 72) (tgt := 88) dX9_add_72 rfl (fun c58 => ?_) (fun c58 => ?_)
                · have EX := EX.trans (if_pos c58)
                  have EY := EY.trans (if_pos c58)
                  refine ea_iconst (pc := 88) dX9_add_88 (v := (-1)) rfl ?_
                  subst EX
                  subst EY
                  exact ea_ireturn (pc := 89) dX9_add_89 rfl rfl
                · have EX := EX.trans (if_neg c58)
                  have EY := EY.trans (if_neg c58)
                  have K := K.2 c58
                  refine ea_iload_n (pc := 75) dX9_add_75 rfl 3 rfl ?_
                  refine ea_aload_n (pc := 76) dX9_add_76 rfl 0 rfl ?_
                  refine ea_getR (pc := 77) dX9_add_77 ec_9 (k := 4) (Nat.le_of_ble_eq_true rfl) rfl (Or.inl ew_191) (hs.1 5 (by decide)).1 (hs.1 5 (by decide)).2.1 (hs.2 5 4 rfl) ?_
                  refine ea_iload (pc := 80) dX9_add_80 7 rfl ?_
                  refine ea_iconst (pc := 82) dX9_add_82 (v := 1) rfl ?_
                  refine ea_isub (pc := 83) dX9_add_83 ?_
                  obtain ⟨z44, K⟩ := K
                  refine ea_iald (pc := 84) dX9_add_84 (hs.1 9 (by decide)).1 (hs.1 9 (by decide)).2.1 (ea_vpl (hs.1 9 (by decide)).2.2 z44) ?_
                  refine ea_icmp_gt (pc := 85) (tgt := 90) dX9_add_85 rfl (fun c57 => ?_) (fun c57 => ?_)
                  · have EX := EX.trans (if_pos c57)
                    have EY := EY.trans (if_pos c57)
                    have K := K.1 c57
                    refine ea_aload_n (pc := 90) dX9_add_90 rfl 0 rfl ?_
                    refine ea_getR (pc := 91) dX9_add_91 ec_9 (k := 2) (Nat.le_of_ble_eq_true rfl) rfl (Or.inl ew_184) (hs.1 5 (by decide)).1 (hs.1 5 (by decide)).2.1 (hs.2 5 2 rfl) ?_
                    refine ea_iload (pc := 94) dX9_add_94 7 rfl ?_
                    refine ea_iload_n (pc := 96) dX9_add_96 rfl 2 rfl ?_
                    obtain ⟨z45, K⟩ := K
                    refine ea_iast (pc := 97) dX9_add_97 (hs.1 7 (by decide)).1 (hs.1 7 (by decide)).2.1 (ea_vpl (hs.1 7 (by decide)).2.2 z45) ?_
                    have hs46 : ShC b0 (ea_wi h (b0 + 7) (Int32.toNatClampNeg (((8 : Int32) * x1) + (ea_i h (b0 + 6) (Int32.toNatClampNeg x1)))) x2) := ShC_wi hs
                    refine ea_aload_n (pc := 98) dX9_add_98 rfl 0 rfl ?_
                    refine ea_getR (pc := 99) dX9_add_99 ec_9 (k := 3) (Nat.le_of_ble_eq_true rfl) rfl (Or.inl ew_188) (hs46.1 5 (by decide)).1 (hs46.1 5 (by decide)).2.1 (hs46.2 5 3 rfl) ?_
                    refine ea_iload (pc := 102) dX9_add_102 7 rfl ?_
                    refine ea_iload_n (pc := 104) dX9_add_104 rfl 3 rfl ?_
                    obtain ⟨z47, K⟩ := K
                    refine ea_iast (pc := 105) dX9_add_105 (hs46.1 8 (by decide)).1 (hs46.1 8 (by decide)).2.1 (ea_vpl (hs46.1 8 (by decide)).2.2 z47) ?_
                    have hs48 : ShC b0 (ea_wi (ea_wi h (b0 + 7) (Int32.toNatClampNeg (((8 : Int32) * x1) + (ea_i h (b0 + 6) (Int32.toNatClampNeg x1)))) x2) (b0 + 8) (Int32.toNatClampNeg (((8 : Int32) * x1) + (ea_i h (b0 + 6) (Int32.toNatClampNeg x1)))) x3) := ShC_wi hs46
                    refine ea_aload_n (pc := 106) dX9_add_106 rfl 0 rfl ?_
                    refine ea_getR (pc := 107) dX9_add_107 ec_9 (k := 4) (Nat.le_of_ble_eq_true rfl) rfl (Or.inl ew_191) (hs48.1 5 (by decide)).1 (hs48.1 5 (by decide)).2.1 (hs48.2 5 4 rfl) ?_
                    refine ea_iload (pc := 110) dX9_add_110 7 rfl ?_
                    refine ea_iload (pc := 112) dX9_add_112 4 rfl ?_
                    obtain ⟨z49, K⟩ := K
                    refine ea_iast (pc := 114) dX9_add_114 (hs48.1 9 (by decide)).1 (hs48.1 9 (by decide)).2.1 (ea_vpl (hs48.1 9 (by decide)).2.2 z49) ?_
                    have hs50 : ShC b0 (ea_wi (ea_wi (ea_wi h (b0 + 7) (Int32.toNatClampNeg (((8 : Int32) * x1) + (ea_i h (b0 + 6) (Int32.toNatClampNeg x1)))) x2) (b0 + 8) (Int32.toNatClampNeg (((8 : Int32) * x1) + (ea_i h (b0 + 6) (Int32.toNatClampNeg x1)))) x3) (b0 + 9) (Int32.toNatClampNeg (((8 : Int32) * x1) + (ea_i h (b0 + 6) (Int32.toNatClampNeg x1)))) x4) := ShC_wi hs48
                    refine ea_aload_n (pc := 115) dX9_add_115 rfl 0 rfl ?_
                    refine ea_getR (pc := 116) dX9_add_116 ec_9 (k := 5) (Nat.le_of_ble_eq_true rfl) rfl (Or.inl ew_194) (hs50.1 5 (by decide)).1 (hs50.1 5 (by decide)).2.1 (hs50.2 5 5 rfl) ?_
                    refine ea_iload (pc := 119) dX9_add_119 7 rfl ?_
                    refine ea_iload (pc := 121) dX9_add_121 5 rfl ?_
                    obtain ⟨z51, z53, K⟩ := K
                    refine ea_zast (pc := 123) dX9_add_123 (y := x5) (ea_bn z53) (hs50.1 10 (by decide)).1 (hs50.1 10 (by decide)).2.1 (ea_vpl (hs50.1 10 (by decide)).2.2 z51) ?_
                    have hs52 : ShC b0 (ea_wi (ea_wi (ea_wi (ea_wi h (b0 + 7) (Int32.toNatClampNeg (((8 : Int32) * x1) + (ea_i h (b0 + 6) (Int32.toNatClampNeg x1)))) x2) (b0 + 8) (Int32.toNatClampNeg (((8 : Int32) * x1) + (ea_i h (b0 + 6) (Int32.toNatClampNeg x1)))) x3) (b0 + 9) (Int32.toNatClampNeg (((8 : Int32) * x1) + (ea_i h (b0 + 6) (Int32.toNatClampNeg x1)))) x4) (b0 + 10) (Int32.toNatClampNeg (((8 : Int32) * x1) + (ea_i h (b0 + 6) (Int32.toNatClampNeg x1)))) x5) := ShC_wi hs50
                    refine ea_aload_n (pc := 124) dX9_add_124 rfl 0 rfl ?_
                    refine ea_getR (pc := 125) dX9_add_125 ec_9 (k := 1) (Nat.le_of_ble_eq_true rfl) rfl (Or.inl ew_180) (hs52.1 5 (by decide)).1 (hs52.1 5 (by decide)).2.1 (hs52.2 5 1 rfl) ?_
                    refine ea_iload_n (pc := 128) dX9_add_128 rfl 1 rfl ?_
                    refine ea_dup2 (pc := 129) dX9_add_129 rfl rfl ?_
                    obtain ⟨z54, K⟩ := K
                    refine ea_iald (pc := 130) dX9_add_130 (hs52.1 6 (by decide)).1 (hs52.1 6 (by decide)).2.1 (ea_vpl (hs52.1 6 (by decide)).2.2 z54) ?_
                    refine ea_iconst (pc := 131) dX9_add_131 (v := 1) rfl ?_
                    refine ea_iadd (pc := 132) dX9_add_132 ?_
                    have z55 := K
                    refine ea_iast (pc := 133) dX9_add_133 (hs52.1 6 (by decide)).1 (hs52.1 6 (by decide)).2.1 (ea_vpl (hs52.1 6 (by decide)).2.2 z55) ?_
                    have hs56 : ShC b0 (ea_wi (ea_wi (ea_wi (ea_wi (ea_wi h (b0 + 7) (Int32.toNatClampNeg (((8 : Int32) * x1) + (ea_i h (b0 + 6) (Int32.toNatClampNeg x1)))) x2) (b0 + 8) (Int32.toNatClampNeg (((8 : Int32) * x1) + (ea_i h (b0 + 6) (Int32.toNatClampNeg x1)))) x3) (b0 + 9) (Int32.toNatClampNeg (((8 : Int32) * x1) + (ea_i h (b0 + 6) (Int32.toNatClampNeg x1)))) x4) (b0 + 10) (Int32.toNatClampNeg (((8 : Int32) * x1) + (ea_i h (b0 + 6) (Int32.toNatClampNeg x1)))) x5) (b0 + 6) (Int32.toNatClampNeg x1) ((ea_i (ea_wi (ea_wi (ea_wi (ea_wi h (b0 + 7) (Int32.toNatClampNeg (((8 : Int32) * x1) + (ea_i h (b0 + 6) (Int32.toNatClampNeg x1)))) x2) (b0 + 8) (Int32.toNatClampNeg (((8 : Int32) * x1) + (ea_i h (b0 + 6) (Int32.toNatClampNeg x1)))) x3) (b0 + 9) (Int32.toNatClampNeg (((8 : Int32) * x1) + (ea_i h (b0 + 6) (Int32.toNatClampNeg x1)))) x4) (b0 + 10) (Int32.toNatClampNeg (((8 : Int32) * x1) + (ea_i h (b0 + 6) (Int32.toNatClampNeg x1)))) x5) (b0 + 6) (Int32.toNatClampNeg x1)) + (1 : Int32))) := ShC_wi hs52
                    refine ea_iload (pc := 134) dX9_add_134 6 rfl ?_
                    subst EX
                    subst EY
                    exact ea_ireturn (pc := 136) dX9_add_136 rfl rfl
                  · have EX := EX.trans (if_neg c57)
                    have EY := EY.trans (if_neg c57)
                    refine ea_iconst (pc := 88) dX9_add_88 (v := (-1)) rfl ?_
                    subst EX
                    subst EY
                    exact ea_ireturn (pc := 89) dX9_add_89 rfl rfl
            · have EX := EX.trans (if_neg c60)
              have EY := EY.trans (if_neg c60)
              refine ea_iconst (pc := 46) dX9_add_46 (v := (-1)) rfl ?_
              subst EX
              subst EY
              exact ea_ireturn (pc := 47) dX9_add_47 rfl rfl
        · have EX := EX.trans (if_neg c62)
          have EY := EY.trans (if_neg c62)
          refine ea_iconst (pc := 33) dX9_add_33 (v := (-1)) rfl ?_
          subst EX
          subst EY
          exact ea_ireturn (pc := 34) dX9_add_34 rfl rfl
noncomputable def vX9_comesAt (b0 : Nat) (x1 : Int32) (x2 : Int32) (x3 : Int32) (h : ea_H) : Int32 := ((((1440 : Int32) * x2) + (ea_i h (b0 + 8) (Int32.toNatClampNeg (((8 : Int32) * x1) + x3)))) + (ea_i h (b0 + 11) (Int32.toNatClampNeg (((10 : Int32) * x2) + x1))))
def okX9_comesAt (b0 : Nat) (x1 : Int32) (x2 : Int32) (x3 : Int32) (h : ea_H) : Prop := vp_in (((8 : Int32) * x1) + x3) 80 ∧ (vp_in (((10 : Int32) * x2) + x1) 70)
theorem sX9_comesAt {d : Nat} {b0 : Nat} {x1 : Int32} {x2 : Int32} {x3 : Int32} {h : ea_H} (hd : 1 ≤ d) (hs : ShC b0 h) (K : okX9_comesAt b0 x1 x2 x3 h) : ea_Met mX9_comesAt d [vR (some (b0 + 5)), vI x1, vI x2, vI x3] h (some (vI (vX9_comesAt b0 x1 x2 x3 h))) h := by
  obtain ⟨X, EX⟩ : ∃ z, z = vX9_comesAt b0 x1 x2 x3 h := ⟨_, rfl⟩
  rw [← EX]
  unfold vX9_comesAt at EX
  unfold okX9_comesAt at K
  refine ea_enter rfl (Nat.le_of_ble_eq_true rfl) ?_
  refine ea_sipush (pc := 0) dX9_comesAt_0 (v := 1440) rfl ?_
  refine ea_iload_n (pc := 3) dX9_comesAt_3 rfl 2 rfl ?_
  refine ea_imul (pc := 4) dX9_comesAt_4 ?_
  refine ea_aload_n (pc := 5) dX9_comesAt_5 rfl 0 rfl ?_
  refine ea_getR (pc := 6) dX9_comesAt_6 ec_9 (k := 3) (Nat.le_of_ble_eq_true rfl) rfl (Or.inl ew_188) (hs.1 5 (by decide)).1 (hs.1 5 (by decide)).2.1 (hs.2 5 3 rfl) ?_
  refine ea_bipush (pc := 9) dX9_comesAt_9 (v := 8) rfl ?_
  refine ea_iload_n (pc := 11) dX9_comesAt_11 rfl 1 rfl ?_
  refine ea_imul (pc := 12) dX9_comesAt_12 ?_
  refine ea_iload_n (pc := 13) dX9_comesAt_13 rfl 3 rfl ?_
  refine ea_iadd (pc := 14) dX9_comesAt_14 ?_
  obtain ⟨z1, K⟩ := K
  refine ea_iald (pc := 15) dX9_comesAt_15 (hs.1 8 (by decide)).1 (hs.1 8 (by decide)).2.1 (ea_vpl (hs.1 8 (by decide)).2.2 z1) ?_
  refine ea_iadd (pc := 16) dX9_comesAt_16 ?_
  refine ea_aload_n (pc := 17) dX9_comesAt_17 rfl 0 rfl ?_
  refine ea_getR (pc := 18) dX9_comesAt_18 ec_9 (k := 6) (Nat.le_of_ble_eq_true rfl) rfl (Or.inl ew_196) (hs.1 5 (by decide)).1 (hs.1 5 (by decide)).2.1 (hs.2 5 6 rfl) ?_
  refine ea_bipush (pc := 21) dX9_comesAt_21 (v := 10) rfl ?_
  refine ea_iload_n (pc := 23) dX9_comesAt_23 rfl 2 rfl ?_
  refine ea_imul (pc := 24) dX9_comesAt_24 ?_
  refine ea_iload_n (pc := 25) dX9_comesAt_25 rfl 1 rfl ?_
  refine ea_iadd (pc := 26) dX9_comesAt_26 ?_
  have z2 := K
  refine ea_iald (pc := 27) dX9_comesAt_27 (hs.1 11 (by decide)).1 (hs.1 11 (by decide)).2.1 (ea_vpl (hs.1 11 (by decide)).2.2 z2) ?_
  refine ea_iadd (pc := 28) dX9_comesAt_28 ?_
  subst EX
  exact ea_ireturn (pc := 29) dX9_comesAt_29 rfl rfl
noncomputable def vX9_goesAt (b0 : Nat) (x1 : Int32) (x2 : Int32) (x3 : Int32) (h : ea_H) : Int32 := ((((1440 : Int32) * x2) + (ea_i h (b0 + 9) (Int32.toNatClampNeg (((8 : Int32) * x1) + x3)))) + (ea_i h (b0 + 11) (Int32.toNatClampNeg (((10 : Int32) * x2) + x1))))
def okX9_goesAt (b0 : Nat) (x1 : Int32) (x2 : Int32) (x3 : Int32) (h : ea_H) : Prop := vp_in (((8 : Int32) * x1) + x3) 80 ∧ (vp_in (((10 : Int32) * x2) + x1) 70)
theorem sX9_goesAt {d : Nat} {b0 : Nat} {x1 : Int32} {x2 : Int32} {x3 : Int32} {h : ea_H} (hd : 1 ≤ d) (hs : ShC b0 h) (K : okX9_goesAt b0 x1 x2 x3 h) : ea_Met mX9_goesAt d [vR (some (b0 + 5)), vI x1, vI x2, vI x3] h (some (vI (vX9_goesAt b0 x1 x2 x3 h))) h := by
  obtain ⟨X, EX⟩ : ∃ z, z = vX9_goesAt b0 x1 x2 x3 h := ⟨_, rfl⟩
  rw [← EX]
  unfold vX9_goesAt at EX
  unfold okX9_goesAt at K
  refine ea_enter rfl (Nat.le_of_ble_eq_true rfl) ?_
  refine ea_sipush (pc := 0) dX9_goesAt_0 (v := 1440) rfl ?_
  refine ea_iload_n (pc := 3) dX9_goesAt_3 rfl 2 rfl ?_
  refine ea_imul (pc := 4) dX9_goesAt_4 ?_
  refine ea_aload_n (pc := 5) dX9_goesAt_5 rfl 0 rfl ?_
  refine ea_getR (pc := 6) dX9_goesAt_6 ec_9 (k := 4) (Nat.le_of_ble_eq_true rfl) rfl (Or.inl ew_191) (hs.1 5 (by decide)).1 (hs.1 5 (by decide)).2.1 (hs.2 5 4 rfl) ?_
  refine ea_bipush (pc := 9) dX9_goesAt_9 (v := 8) rfl ?_
  refine ea_iload_n (pc := 11) dX9_goesAt_11 rfl 1 rfl ?_
  refine ea_imul (pc := 12) dX9_goesAt_12 ?_
  refine ea_iload_n (pc := 13) dX9_goesAt_13 rfl 3 rfl ?_
  refine ea_iadd (pc := 14) dX9_goesAt_14 ?_
  obtain ⟨z1, K⟩ := K
  refine ea_iald (pc := 15) dX9_goesAt_15 (hs.1 9 (by decide)).1 (hs.1 9 (by decide)).2.1 (ea_vpl (hs.1 9 (by decide)).2.2 z1) ?_
  refine ea_iadd (pc := 16) dX9_goesAt_16 ?_
  refine ea_aload_n (pc := 17) dX9_goesAt_17 rfl 0 rfl ?_
  refine ea_getR (pc := 18) dX9_goesAt_18 ec_9 (k := 6) (Nat.le_of_ble_eq_true rfl) rfl (Or.inl ew_196) (hs.1 5 (by decide)).1 (hs.1 5 (by decide)).2.1 (hs.2 5 6 rfl) ?_
  refine ea_bipush (pc := 21) dX9_goesAt_21 (v := 10) rfl ?_
  refine ea_iload_n (pc := 23) dX9_goesAt_23 rfl 2 rfl ?_
  refine ea_imul (pc := 24) dX9_goesAt_24 ?_
  refine ea_iload_n (pc := 25) dX9_goesAt_25 rfl 1 rfl ?_
  refine ea_iadd (pc := 26) dX9_goesAt_26 ?_
  have z2 := K
  refine ea_iald (pc := 27) dX9_goesAt_27 (hs.1 11 (by decide)).1 (hs.1 11 (by decide)).2.1 (ea_vpl (hs.1 11 (by decide)).2.2 z2) ?_
  refine ea_iadd (pc := 28) dX9_goesAt_28 ?_
  subst EX
  exact ea_ireturn (pc := 29) dX9_goesAt_29 rfl rfl
noncomputable def gX9_goneFrom (b0 : Nat) : Nat → Nat → Int32 → Int32 → Int32 → Int32 → Int32 → ea_H → Option (Int32 × ea_H)
  | 0, _, _, _, _, _, _, _ => none
  | f + 1, lbl, x1, x2, x3, x4, x5, h =>
    if lbl = 0 then (gX9_goneFrom b0 f 6 (x1 : Int32) (x2 : Int32) (x3 : Int32) ((-1) : Int32) (0 : Int32) h) else
    if lbl = 6 then (gd (vp_in x1 10) (if ((ea_i h (b0 + 6) (Int32.toNatClampNeg x1)) - (1 : Int32)) ≤ x5 then (some (x4, h)) else (gd ((okX9_goesAt b0 (x1 : Int32) (x2 : Int32) (x5 : Int32) h)) (if x3 < (vX9_goesAt b0 (x1 : Int32) (x2 : Int32) (x5 : Int32) h) then (gX9_goneFrom b0 f 6 (x1 : Int32) (x2 : Int32) (x3 : Int32) (x4 : Int32) ((x5 + (1 : Int32)) : Int32) h) else (gX9_goneFrom b0 f 6 (x1 : Int32) (x2 : Int32) (x3 : Int32) (x5 : Int32) ((x5 + (1 : Int32)) : Int32) h))))) else none
theorem tX9_goneFrom {d : Nat} {b0 : Nat} {h0 : ea_H} (hd : 2 ≤ d) : ∀ (f lbl : Nat) (x1 : Int32) (x2 : Int32) (x3 : Int32) (x4 : Int32) (x5 : Int32) (h : ea_H) (r : Int32) (h' : ea_H), gX9_goneFrom b0 f lbl x1 x2 x3 x4 x5 h = some (r, h') → ShC b0 h → (lbl = 0 → ea_W mX9_goneFrom d h0 (some (vI r)) h' 0 [(0, vR (some (b0 + 5))), (1, vI x1), (2, vI x2), (3, vI x3)] [] h) ∧ (lbl = 6 → ea_W mX9_goneFrom d h0 (some (vI r)) h' 6 [(0, vR (some (b0 + 5))), (1, vI x1), (2, vI x2), (3, vI x3), (4, vI x4), (5, vI x5)] [] h) := by
  intro f
  induction f with
  | zero => intro lbl x1 x2 x3 x4 x5 h r h' E; cases E
  | succ f ih =>
    intro lbl x1 x2 x3 x4 x5 h r h' E hs
    unfold gX9_goneFrom at E
    refine ⟨?_, ?_⟩
    · intro el
      subst el
      have E := (if_pos rfl).symm.trans E
      refine ea_iconst (pc := 0) dX9_goneFrom_0 (v := (-1)) rfl ?_
      refine ea_istore (pc := 1) (lv' := [(0, vR (some (b0 + 5))), (1, vI x1), (2, vI x2), (3, vI x3), (4, vI (-1))]) dX9_goneFrom_1 (Nat.le_of_ble_eq_true rfl) [1, 2, 3, 4, 0] rfl ?_
      refine ea_iconst (pc := 3) dX9_goneFrom_3 (v := 0) rfl ?_
      refine ea_istore (pc := 4) (lv' := [(0, vR (some (b0 + 5))), (1, vI x1), (2, vI x2), (3, vI x3), (4, vI (-1)), (5, vI 0)]) dX9_goneFrom_4 (Nat.le_of_ble_eq_true rfl) [1, 2, 3, 4, 5, 0] rfl ?_
      exact ((ih 6 (x1 : Int32) (x2 : Int32) (x3 : Int32) ((-1) : Int32) (0 : Int32) h _ _ E hs).2 rfl)
    intro el
    subst el
    have E := (if_neg (by decide)).symm.trans E
    have E := (if_pos rfl).symm.trans E
    refine ea_iload (pc := 6) dX9_goneFrom_6 5 rfl ?_
    refine ea_aload_n (pc := 8) dX9_goneFrom_8 rfl 0 rfl ?_
    refine ea_getR (pc := 9) dX9_goneFrom_9 ec_9 (k := 1) (Nat.le_of_ble_eq_true rfl) rfl (Or.inl ew_180) (hs.1 5 (by decide)).1 (hs.1 5 (by decide)).2.1 (hs.2 5 1 rfl) ?_
    refine ea_iload_n (pc := 12) dX9_goneFrom_12 rfl 1 rfl ?_
    obtain ⟨z1, E⟩ := gd_some E
    refine ea_iald (pc := 13) dX9_goneFrom_13 (hs.1 6 (by decide)).1 (hs.1 6 (by decide)).2.1 (ea_vpl (hs.1 6 (by decide)).2.2 z1) ?_
    refine ea_iconst (pc := 14) dX9_goneFrom_14 (v := 1) rfl ?_
    refine ea_isub (pc := 15) dX9_goneFrom_15 ?_
    refine ea_icmp_ge (pc := 16) (tgt := 41) dX9_goneFrom_16 rfl (fun c4 => ?_) (fun c4 => ?_)
    · have E := (if_pos c4).symm.trans E
      refine ea_iload (pc := 41) dX9_goneFrom_41 4 rfl ?_
      cases E
      exact ea_ireturn (pc := 43) dX9_goneFrom_43 rfl rfl
    · have E := (if_neg c4).symm.trans E
      refine ea_aload_n (pc := 19) dX9_goneFrom_19 rfl 0 rfl ?_
      refine ea_iload_n (pc := 20) dX9_goneFrom_20 rfl 1 rfl ?_
      refine ea_iload_n (pc := 21) dX9_goneFrom_21 rfl 2 rfl ?_
      refine ea_iload (pc := 22) dX9_goneFrom_22 5 rfl ?_
      obtain ⟨z2, E⟩ := gd_some E
      refine ea_callV (pc := 24) (d' := d - 1) (As := [vI x1, vI x2, vI x5]) (st := []) dX9_goneFrom_24 kX9_goesAt (sX9_goesAt (d := d - 1) (by omega) hs z2) (by omega) rfl (Nat.le_of_ble_eq_true rfl) ew_1157 ew_577 ew_578 (ci := 9) rfl (by decide) (hs.1 5 (by decide)).1 (hs.1 5 (by decide)).2.1 ?_
      refine ea_iload_n (pc := 27) dX9_goneFrom_27 rfl 3 rfl ?_
      refine ea_icmp_gt (pc := 28) (tgt := 35) dX9_goneFrom_28 rfl (fun c3 => ?_) (fun c3 => ?_)
      · have E := (if_pos c3).symm.trans E
        refine ea_iinc (pc := 35) (v := 1) (lv' := [(0, vR (some (b0 + 5))), (1, vI x1), (2, vI x2), (3, vI x3), (4, vI x4), (5, vI (x5 + (1 : Int32)))]) dX9_goneFrom_35 5 rfl rfl (Nat.le_of_ble_eq_true rfl) [1, 2, 3, 4, 5, 0] rfl ?_
        refine ea_goto (pc := 38) (tgt := 6) dX9_goneFrom_38 rfl ?_
        exact ((ih 6 (x1 : Int32) (x2 : Int32) (x3 : Int32) (x4 : Int32) ((x5 + (1 : Int32)) : Int32) h _ _ E hs).2 rfl)
      · have E := (if_neg c3).symm.trans E
        refine ea_iload (pc := 31) dX9_goneFrom_31 5 rfl ?_
        refine ea_istore (pc := 33) (lv' := [(0, vR (some (b0 + 5))), (1, vI x1), (2, vI x2), (3, vI x3), (4, vI x5), (5, vI x5)]) dX9_goneFrom_33 (Nat.le_of_ble_eq_true rfl) [1, 2, 3, 4, 0, 5] rfl ?_
        refine ea_iinc (pc := 35) (v := 1) (lv' := [(0, vR (some (b0 + 5))), (1, vI x1), (2, vI x2), (3, vI x3), (4, vI x5), (5, vI (x5 + (1 : Int32)))]) dX9_goneFrom_35 5 rfl rfl (Nat.le_of_ble_eq_true rfl) [1, 2, 3, 4, 5, 0] rfl ?_
        refine ea_goto (pc := 38) (tgt := 6) dX9_goneFrom_38 rfl ?_
        exact ((ih 6 (x1 : Int32) (x2 : Int32) (x3 : Int32) (x5 : Int32) ((x5 + (1 : Int32)) : Int32) h _ _ E hs).2 rfl)
noncomputable def qX9_goneFrom (b0 : Nat) (x1 : Int32) (x2 : Int32) (x3 : Int32) (h : ea_H) : Option (Int32 × ea_H) := gX9_goneFrom b0 1000000000 0 x1 x2 x3 0 0 h
def okX9_goneFrom (b0 : Nat) (x1 : Int32) (x2 : Int32) (x3 : Int32) (h : ea_H) : Prop := ∃ x, qX9_goneFrom b0 x1 x2 x3 h = some x
noncomputable def vX9_goneFrom (b0 : Nat) (x1 : Int32) (x2 : Int32) (x3 : Int32) (h : ea_H) : Int32 := ((qX9_goneFrom b0 x1 x2 x3 h).getD (0, h)).1
noncomputable def wX9_goneFrom (b0 : Nat) (x1 : Int32) (x2 : Int32) (x3 : Int32) (h : ea_H) : ea_H := ((qX9_goneFrom b0 x1 x2 x3 h).getD (0, h)).2
theorem sX9_goneFrom {d : Nat} {b0 : Nat} {x1 : Int32} {x2 : Int32} {x3 : Int32} {h : ea_H} (hd : 2 ≤ d) (hs : ShC b0 h) (K : okX9_goneFrom b0 x1 x2 x3 h) : ea_Met mX9_goneFrom d [vR (some (b0 + 5)), vI x1, vI x2, vI x3] h (some (vI (vX9_goneFrom b0 x1 x2 x3 h))) (wX9_goneFrom b0 x1 x2 x3 h) := by
  obtain ⟨⟨x, y⟩, K⟩ := K
  unfold wX9_goneFrom vX9_goneFrom
  rw [K]
  unfold qX9_goneFrom at K
  exact ea_enter rfl (Nat.le_of_ble_eq_true rfl) ((tX9_goneFrom hd 1000000000 0 x1 x2 x3 0 0 h x y K hs).1 rfl)
theorem zX9_goneFrom {b0 : Nat} : ∀ (f lbl : Nat) (x1 : Int32) (x2 : Int32) (x3 : Int32) (x4 : Int32) (x5 : Int32) (h : ea_H) (r : Int32) (h' : ea_H), gX9_goneFrom b0 f lbl x1 x2 x3 x4 x5 h = some (r, h') → ShC b0 h → ShC b0 h' := by
  intro f
  induction f with
  | zero => intro lbl x1 x2 x3 x4 x5 h r h' E; cases E
  | succ f ih =>
    intro lbl x1 x2 x3 x4 x5 h r h' E hs
    unfold gX9_goneFrom at E
    by_cases el0 : lbl = 0
    · have E := (if_pos el0).symm.trans E
      exact ih 6 (x1 : Int32) (x2 : Int32) (x3 : Int32) ((-1) : Int32) (0 : Int32) h _ _ E hs
    have E := (if_neg el0).symm.trans E
    by_cases el1 : lbl = 6
    · have E := (if_pos el1).symm.trans E
      obtain ⟨z1, E⟩ := gd_some E
      by_cases c4 : ((ea_i h (b0 + 6) (Int32.toNatClampNeg x1)) - (1 : Int32)) ≤ x5
      · have E := (if_pos c4).symm.trans E
        cases E
        exact hs
      have E := (if_neg c4).symm.trans E
      obtain ⟨z2, E⟩ := gd_some E
      by_cases c3 : x3 < (vX9_goesAt b0 (x1 : Int32) (x2 : Int32) (x5 : Int32) h)
      · have E := (if_pos c3).symm.trans E
        exact ih 6 (x1 : Int32) (x2 : Int32) (x3 : Int32) (x4 : Int32) ((x5 + (1 : Int32)) : Int32) h _ _ E hs
      have E := (if_neg c3).symm.trans E
      exact ih 6 (x1 : Int32) (x2 : Int32) (x3 : Int32) (x5 : Int32) ((x5 + (1 : Int32)) : Int32) h _ _ E hs
    have E := (if_neg el1).symm.trans E
    cases E
theorem shX9_goneFrom {b0 : Nat} {x1 : Int32} {x2 : Int32} {x3 : Int32} {h : ea_H} (hs : ShC b0 h) : ShC b0 (wX9_goneFrom b0 x1 x2 x3 h) := by
  unfold wX9_goneFrom
  cases K : qX9_goneFrom b0 x1 x2 x3 h with
  | none => exact hs
  | some x => obtain ⟨x, y⟩ := x; unfold qX9_goneFrom at K; exact zX9_goneFrom _ _ _ _ _ _ _ _ _ _ K hs
noncomputable def wX10_init (a0 : Nat) (r1 : Option Nat) (h : ea_H) : ea_H := (ea_wr (ea_wr (ea_new (ea_wr (ea_new h 20 12 12) a0 7 (some (ea_n h))) 20 12 12) a0 8 (some (ea_n (ea_wr (ea_new h 20 12 12) a0 7 (some (ea_n h)))))) a0 2 r1)
def okX10_init (a0 : Nat) (r1 : Option Nat) (h : ea_H) : Prop := (a0 < ea_n (ea_new h 20 12 12) ∧ ea_c (ea_new h 20 12 12) a0 = 10) ∧ ((a0 < ea_n (ea_new (ea_wr (ea_new h 20 12 12) a0 7 (some (ea_n h))) 20 12 12) ∧ ea_c (ea_new (ea_wr (ea_new h 20 12 12) a0 7 (some (ea_n h))) 20 12 12) a0 = 10) ∧ ((a0 < ea_n (ea_wr (ea_new (ea_wr (ea_new h 20 12 12) a0 7 (some (ea_n h))) 20 12 12) a0 8 (some (ea_n (ea_wr (ea_new h 20 12 12) a0 7 (some (ea_n h)))))) ∧ ea_c (ea_wr (ea_new (ea_wr (ea_new h 20 12 12) a0 7 (some (ea_n h))) 20 12 12) a0 8 (some (ea_n (ea_wr (ea_new h 20 12 12) a0 7 (some (ea_n h)))))) a0 = 10)))
theorem sX10_init {d : Nat} {a0 : Nat} {r1 : Option Nat} {h : ea_H} (hd : 1 ≤ d) (K : okX10_init a0 r1 h) : ea_Met mX10_init d [vR (some a0), vR r1] h none (wX10_init a0 r1 h) := by
  obtain ⟨Y, EY⟩ : ∃ z, z = wX10_init a0 r1 h := ⟨_, rfl⟩
  rw [← EY]
  unfold wX10_init at EY
  unfold okX10_init at K
  refine ea_enter rfl (Nat.le_of_ble_eq_true rfl) ?_
  refine ea_aload_n (pc := 0) dX10_init_0 rfl 0 rfl ?_
  refine ea_objInit (pc := 1) dX10_init_1 ew_224 ew_134 ew_135 (by omega) (Nat.le_of_ble_eq_true rfl) ?_
  refine ea_aload_n (pc := 4) dX10_init_4 rfl 0 rfl ?_
  refine ea_bipush (pc := 5) dX10_init_5 (v := 12) rfl ?_
  refine ea_newI (pc := 7) (N := 12) dX10_init_7 ew_170 (by decide) rfl (Nat.le_of_ble_eq_true rfl) ?_
  obtain ⟨f2, K⟩ := K
  refine ea_putR (pc := 9) dX10_init_9 ec_10 (k := 7) (Nat.le_of_ble_eq_true rfl) rfl (Or.inr ⟨rfl, rfl, rfl, ew_234⟩) f2.1 f2.2 ?_
  refine ea_aload_n (pc := 12) dX10_init_12 rfl 0 rfl ?_
  refine ea_bipush (pc := 13) dX10_init_13 (v := 12) rfl ?_
  refine ea_newI (pc := 15) (N := 12) dX10_init_15 ew_170 (by decide) rfl (Nat.le_of_ble_eq_true rfl) ?_
  obtain ⟨f5, K⟩ := K
  refine ea_putR (pc := 17) dX10_init_17 ec_10 (k := 8) (Nat.le_of_ble_eq_true rfl) rfl (Or.inr ⟨rfl, rfl, rfl, ew_235⟩) f5.1 f5.2 ?_
  refine ea_aload_n (pc := 20) dX10_init_20 rfl 0 rfl ?_
  refine ea_aload_n (pc := 21) dX10_init_21 rfl 1 rfl ?_
  have f7 := K
  refine ea_putR (pc := 22) dX10_init_22 ec_10 (k := 2) (Nat.le_of_ble_eq_true rfl) rfl (Or.inr ⟨rfl, rfl, rfl, ew_229⟩) f7.1 f7.2 ?_
  subst EY
  exact ea_return (pc := 25) dX10_init_25 rfl
noncomputable def vX10_minuteOf (y0 : Int64) (h : ea_H) : Int32 := (Int64.toInt32 (y0 >>> (Int32.toInt64 21 &&& 63)))
theorem sX10_minuteOf {d : Nat} {y0 : Int64} {h : ea_H} (hd : 1 ≤ d) : ea_Met mX10_minuteOf d [vJ y0] h (some (vI (vX10_minuteOf y0 h))) h := by
  obtain ⟨X, EX⟩ : ∃ z, z = vX10_minuteOf y0 h := ⟨_, rfl⟩
  rw [← EX]
  unfold vX10_minuteOf at EX
  refine ea_enter rfl (Nat.le_of_ble_eq_true rfl) ?_
  refine ea_lload_n (pc := 0) dX10_minuteOf_0 rfl 0 rfl ?_
  refine ea_bipush (pc := 1) dX10_minuteOf_1 (v := 21) rfl ?_
  refine ea_lshr (pc := 3) dX10_minuteOf_3 ?_
  refine ea_l2i (pc := 4) dX10_minuteOf_4 ?_
  subst EX
  exact ea_ireturn (pc := 5) dX10_minuteOf_5 rfl rfl
noncomputable def vX10_runsOf (y0 : Int64) (h : ea_H) : Int32 := ((Int64.toInt32 (y0 >>> (Int32.toInt64 13 &&& 63))) &&& (255 : Int32))
theorem sX10_runsOf {d : Nat} {y0 : Int64} {h : ea_H} (hd : 1 ≤ d) : ea_Met mX10_runsOf d [vJ y0] h (some (vI (vX10_runsOf y0 h))) h := by
  obtain ⟨X, EX⟩ : ∃ z, z = vX10_runsOf y0 h := ⟨_, rfl⟩
  rw [← EX]
  unfold vX10_runsOf at EX
  refine ea_enter rfl (Nat.le_of_ble_eq_true rfl) ?_
  refine ea_lload_n (pc := 0) dX10_runsOf_0 rfl 0 rfl ?_
  refine ea_bipush (pc := 1) dX10_runsOf_1 (v := 13) rfl ?_
  refine ea_lshr (pc := 3) dX10_runsOf_3 ?_
  refine ea_l2i (pc := 4) dX10_runsOf_4 ?_
  refine ea_sipush (pc := 5) dX10_runsOf_5 (v := 255) rfl ?_
  refine ea_iand (pc := 8) dX10_runsOf_8 ?_
  subst EX
  exact ea_ireturn (pc := 9) dX10_runsOf_9 rfl rfl
noncomputable def vX10_trainOf (y0 : Int64) (h : ea_H) : Int32 := ((Int64.toInt32 (y0 >>> (Int32.toInt64 9 &&& 63))) &&& (15 : Int32))
theorem sX10_trainOf {d : Nat} {y0 : Int64} {h : ea_H} (hd : 1 ≤ d) : ea_Met mX10_trainOf d [vJ y0] h (some (vI (vX10_trainOf y0 h))) h := by
  obtain ⟨X, EX⟩ : ∃ z, z = vX10_trainOf y0 h := ⟨_, rfl⟩
  rw [← EX]
  unfold vX10_trainOf at EX
  refine ea_enter rfl (Nat.le_of_ble_eq_true rfl) ?_
  refine ea_lload_n (pc := 0) dX10_trainOf_0 rfl 0 rfl ?_
  refine ea_bipush (pc := 1) dX10_trainOf_1 (v := 9) rfl ?_
  refine ea_lshr (pc := 3) dX10_trainOf_3 ?_
  refine ea_l2i (pc := 4) dX10_trainOf_4 ?_
  refine ea_bipush (pc := 5) dX10_trainOf_5 (v := 15) rfl ?_
  refine ea_iand (pc := 7) dX10_trainOf_7 ?_
  subst EX
  exact ea_ireturn (pc := 8) dX10_trainOf_8 rfl rfl
noncomputable def vX10_dayOf (y0 : Int64) (h : ea_H) : Int32 := ((Int64.toInt32 (y0 >>> (Int32.toInt64 6 &&& 63))) &&& (7 : Int32))
theorem sX10_dayOf {d : Nat} {y0 : Int64} {h : ea_H} (hd : 1 ≤ d) : ea_Met mX10_dayOf d [vJ y0] h (some (vI (vX10_dayOf y0 h))) h := by
  obtain ⟨X, EX⟩ : ∃ z, z = vX10_dayOf y0 h := ⟨_, rfl⟩
  rw [← EX]
  unfold vX10_dayOf at EX
  refine ea_enter rfl (Nat.le_of_ble_eq_true rfl) ?_
  refine ea_lload_n (pc := 0) dX10_dayOf_0 rfl 0 rfl ?_
  refine ea_bipush (pc := 1) dX10_dayOf_1 (v := 6) rfl ?_
  refine ea_lshr (pc := 3) dX10_dayOf_3 ?_
  refine ea_l2i (pc := 4) dX10_dayOf_4 ?_
  refine ea_bipush (pc := 5) dX10_dayOf_5 (v := 7) rfl ?_
  refine ea_iand (pc := 7) dX10_dayOf_7 ?_
  subst EX
  exact ea_ireturn (pc := 8) dX10_dayOf_8 rfl rfl
noncomputable def vX10_takenOf (y0 : Int64) (h : ea_H) : Int32 := ((Int64.toInt32 (y0 >>> (Int32.toInt64 3 &&& 63))) &&& (7 : Int32))
theorem sX10_takenOf {d : Nat} {y0 : Int64} {h : ea_H} (hd : 1 ≤ d) : ea_Met mX10_takenOf d [vJ y0] h (some (vI (vX10_takenOf y0 h))) h := by
  obtain ⟨X, EX⟩ : ∃ z, z = vX10_takenOf y0 h := ⟨_, rfl⟩
  rw [← EX]
  unfold vX10_takenOf at EX
  refine ea_enter rfl (Nat.le_of_ble_eq_true rfl) ?_
  refine ea_lload_n (pc := 0) dX10_takenOf_0 rfl 0 rfl ?_
  refine ea_iconst (pc := 1) dX10_takenOf_1 (v := 3) rfl ?_
  refine ea_lshr (pc := 2) dX10_takenOf_2 ?_
  refine ea_l2i (pc := 3) dX10_takenOf_3 ?_
  refine ea_bipush (pc := 4) dX10_takenOf_4 (v := 7) rfl ?_
  refine ea_iand (pc := 6) dX10_takenOf_6 ?_
  subst EX
  exact ea_ireturn (pc := 7) dX10_takenOf_7 rfl rfl
noncomputable def vX10_leftOf (y0 : Int64) (h : ea_H) : Int32 := ((Int64.toInt32 y0) &&& (7 : Int32))
theorem sX10_leftOf {d : Nat} {y0 : Int64} {h : ea_H} (hd : 1 ≤ d) : ea_Met mX10_leftOf d [vJ y0] h (some (vI (vX10_leftOf y0 h))) h := by
  obtain ⟨X, EX⟩ : ∃ z, z = vX10_leftOf y0 h := ⟨_, rfl⟩
  rw [← EX]
  unfold vX10_leftOf at EX
  refine ea_enter rfl (Nat.le_of_ble_eq_true rfl) ?_
  refine ea_lload_n (pc := 0) dX10_leftOf_0 rfl 0 rfl ?_
  refine ea_l2i (pc := 1) dX10_leftOf_1 ?_
  refine ea_bipush (pc := 2) dX10_leftOf_2 (v := 7) rfl ?_
  refine ea_iand (pc := 4) dX10_leftOf_4 ?_
  subst EX
  exact ea_ireturn (pc := 5) dX10_leftOf_5 rfl rfl
noncomputable def vX10_keyAt (b0 : Nat) (x1 : Int32) (h : ea_H) : Int32 := (if x1 < (0 : Int32) then (0 : Int32) else (if (ea_i h (b0 + 13) 1) ≤ x1 then (0 : Int32) else (if (ea_r h (b0 + 13) 3) = none then (0 : Int32) else (ea_i h (Option.getD (ea_r h (b0 + 13) 3) 0) (Int32.toNatClampNeg x1)))))
def okX10_keyAt (b0 : Nat) (x1 : Int32) (h : ea_H) : Prop := (x1 < (0 : Int32) → True) ∧ (¬ x1 < (0 : Int32) → ((ea_i h (b0 + 13) 1) ≤ x1 → True) ∧ (¬ (ea_i h (b0 + 13) 1) ≤ x1 → ((ea_r h (b0 + 13) 3) = none → True) ∧ (¬ (ea_r h (b0 + 13) 3) = none → (ea_r h (b0 + 13) 3) = some (Option.getD (ea_r h (b0 + 13) 3) 0) ∧ (((Option.getD (ea_r h (b0 + 13) 3) 0) < ea_n h ∧ ea_c h (Option.getD (ea_r h (b0 + 13) 3) 0) = 20) ∧ (vp_in x1 (ea_l h (Option.getD (ea_r h (b0 + 13) 3) 0)))))))
theorem sX10_keyAt {d : Nat} {b0 : Nat} {x1 : Int32} {h : ea_H} (hd : 1 ≤ d) (hs : ShC b0 h) (K : okX10_keyAt b0 x1 h) : ea_Met mX10_keyAt d [vR (some (b0 + 13)), vI x1] h (some (vI (vX10_keyAt b0 x1 h))) h := by
  obtain ⟨X, EX⟩ : ∃ z, z = vX10_keyAt b0 x1 h := ⟨_, rfl⟩
  rw [← EX]
  unfold vX10_keyAt at EX
  unfold okX10_keyAt at K
  refine ea_enter rfl (Nat.le_of_ble_eq_true rfl) ?_
  refine ea_iload_n (pc := 0) dX10_keyAt_0 rfl 1 rfl ?_
  refine ea_if_lt (pc := 1) (tgt := 28) dX10_keyAt_1 rfl (fun c7 => ?_) (fun c7 => ?_)
  · have EX := EX.trans (if_pos c7)
    refine ea_iconst (pc := 28) dX10_keyAt_28 (v := 0) rfl ?_
    subst EX
    exact ea_ireturn (pc := 29) dX10_keyAt_29 rfl rfl
  · have EX := EX.trans (if_neg c7)
    have K := K.2 c7
    refine ea_iload_n (pc := 4) dX10_keyAt_4 rfl 1 rfl ?_
    refine ea_aload_n (pc := 5) dX10_keyAt_5 rfl 0 rfl ?_
    refine ea_getI (pc := 6) dX10_keyAt_6 ec_10 (k := 1) (Nat.le_of_ble_eq_true rfl) rfl (Or.inl ew_227) (hs.1 13 (by decide)).1 (hs.1 13 (by decide)).2.1 ?_
    refine ea_icmp_ge (pc := 9) (tgt := 28) dX10_keyAt_9 rfl (fun c6 => ?_) (fun c6 => ?_)
    · have EX := EX.trans (if_pos c6)
      refine ea_iconst (pc := 28) dX10_keyAt_28 (v := 0) rfl ?_
      subst EX
      exact ea_ireturn (pc := 29) dX10_keyAt_29 rfl rfl
    · have EX := EX.trans (if_neg c6)
      have K := K.2 c6
      refine ea_aload_n (pc := 12) dX10_keyAt_12 rfl 0 rfl ?_
      refine ea_getR (pc := 13) dX10_keyAt_13 ec_10 (k := 3) (Nat.le_of_ble_eq_true rfl) rfl (Or.inl ew_230) (hs.1 13 (by decide)).1 (hs.1 13 (by decide)).2.1 rfl ?_
      refine ea_ifnull (pc := 16) (tgt := 28) dX10_keyAt_16 rfl (fun c4 => ?_) (fun a5 c4 => ?_)
      · have EX := EX.trans (if_pos c4)
        refine ea_iconst (pc := 28) dX10_keyAt_28 (v := 0) rfl ?_
        subst EX
        exact ea_ireturn (pc := 29) dX10_keyAt_29 rfl rfl
      · have c4n : ¬ (ea_r h (b0 + 13) 3) = none := by rw [c4]; exact fun q => nomatch q
        have EX := EX.trans (if_neg c4n)
        have K := K.2 c4n
        refine ea_aload_n (pc := 19) dX10_keyAt_19 rfl 0 rfl ?_
        refine ea_getR (pc := 20) dX10_keyAt_20 ec_10 (k := 3) (Nat.le_of_ble_eq_true rfl) rfl (Or.inl ew_230) (hs.1 13 (by decide)).1 (hs.1 13 (by decide)).2.1 rfl ?_
        refine ea_iload_n (pc := 23) dX10_keyAt_23 rfl 1 rfl ?_
        obtain ⟨e1, f2, z3⟩ := K
        refine ea_deref1 e1 ?_
        refine ea_iald (pc := 24) dX10_keyAt_24 f2.1 f2.2 z3 ?_
        refine ea_goto (pc := 25) (tgt := 29) dX10_keyAt_25 rfl ?_
        subst EX
        exact ea_ireturn (pc := 29) dX10_keyAt_29 rfl rfl
noncomputable def vX10_minuteIn (x0 : Int32) (h : ea_H) : Int32 := (x0 >>> ((11 : Int32) &&& 31))
theorem sX10_minuteIn {d : Nat} {x0 : Int32} {h : ea_H} (hd : 1 ≤ d) : ea_Met mX10_minuteIn d [vI x0] h (some (vI (vX10_minuteIn x0 h))) h := by
  obtain ⟨X, EX⟩ : ∃ z, z = vX10_minuteIn x0 h := ⟨_, rfl⟩
  rw [← EX]
  unfold vX10_minuteIn at EX
  refine ea_enter rfl (Nat.le_of_ble_eq_true rfl) ?_
  refine ea_iload_n (pc := 0) dX10_minuteIn_0 rfl 0 rfl ?_
  refine ea_bipush (pc := 1) dX10_minuteIn_1 (v := 11) rfl ?_
  refine ea_ishr (pc := 3) dX10_minuteIn_3 ?_
  subst EX
  exact ea_ireturn (pc := 4) dX10_minuteIn_4 rfl rfl
noncomputable def vX10_isGoing (x0 : Int32) (h : ea_H) : Int32 := (if (x0 &&& (1024 : Int32)) = (0 : Int32) then (0 : Int32) else (1 : Int32))
theorem bo_vX10_isGoing (x0 : Int32) (h : ea_H) : vX10_isGoing x0 h = 0 ∨ vX10_isGoing x0 h = 1 := (ea_itB (Or.inl rfl) (Or.inr rfl))
theorem sX10_isGoing {d : Nat} {x0 : Int32} {h : ea_H} (hd : 1 ≤ d) : ea_Met mX10_isGoing d [vI x0] h (some (vI (vX10_isGoing x0 h))) h := by
  obtain ⟨X, EX⟩ : ∃ z, z = vX10_isGoing x0 h := ⟨_, rfl⟩
  rw [← EX]
  unfold vX10_isGoing at EX
  refine ea_enter rfl (Nat.le_of_ble_eq_true rfl) ?_
  refine ea_iload_n (pc := 0) dX10_isGoing_0 rfl 0 rfl ?_
  refine ea_sipush (pc := 1) dX10_isGoing_1 (v := 1024) rfl ?_
  refine ea_iand (pc := 4) dX10_isGoing_4 ?_
  refine ea_if_eq (pc := 5) (tgt := 12) dX10_isGoing_5 rfl (fun c1 => ?_) (fun c1 => ?_)
  · have EX := EX.trans (if_pos c1)
    refine ea_iconst (pc := 12) dX10_isGoing_12 (v := 0) rfl ?_
    subst EX
    exact ea_ireturn (pc := 13) dX10_isGoing_13 rfl (ea_bn (Or.inl rfl))
  · have EX := EX.trans (if_neg c1)
    refine ea_iconst (pc := 8) dX10_isGoing_8 (v := 1) rfl ?_
    refine ea_goto (pc := 9) (tgt := 13) dX10_isGoing_9 rfl ?_
    subst EX
    exact ea_ireturn (pc := 13) dX10_isGoing_13 rfl (ea_bn (Or.inr rfl))
noncomputable def vX10_trainIn (x0 : Int32) (h : ea_H) : Int32 := ((x0 >>> ((6 : Int32) &&& 31)) &&& (15 : Int32))
theorem sX10_trainIn {d : Nat} {x0 : Int32} {h : ea_H} (hd : 1 ≤ d) : ea_Met mX10_trainIn d [vI x0] h (some (vI (vX10_trainIn x0 h))) h := by
  obtain ⟨X, EX⟩ : ∃ z, z = vX10_trainIn x0 h := ⟨_, rfl⟩
  rw [← EX]
  unfold vX10_trainIn at EX
  refine ea_enter rfl (Nat.le_of_ble_eq_true rfl) ?_
  refine ea_iload_n (pc := 0) dX10_trainIn_0 rfl 0 rfl ?_
  refine ea_bipush (pc := 1) dX10_trainIn_1 (v := 6) rfl ?_
  refine ea_ishr (pc := 3) dX10_trainIn_3 ?_
  refine ea_bipush (pc := 4) dX10_trainIn_4 (v := 15) rfl ?_
  refine ea_iand (pc := 6) dX10_trainIn_6 ?_
  subst EX
  exact ea_ireturn (pc := 7) dX10_trainIn_7 rfl rfl
noncomputable def vX10_dayIn (x0 : Int32) (h : ea_H) : Int32 := ((x0 >>> ((3 : Int32) &&& 31)) &&& (7 : Int32))
theorem sX10_dayIn {d : Nat} {x0 : Int32} {h : ea_H} (hd : 1 ≤ d) : ea_Met mX10_dayIn d [vI x0] h (some (vI (vX10_dayIn x0 h))) h := by
  obtain ⟨X, EX⟩ : ∃ z, z = vX10_dayIn x0 h := ⟨_, rfl⟩
  rw [← EX]
  unfold vX10_dayIn at EX
  refine ea_enter rfl (Nat.le_of_ble_eq_true rfl) ?_
  refine ea_iload_n (pc := 0) dX10_dayIn_0 rfl 0 rfl ?_
  refine ea_iconst (pc := 1) dX10_dayIn_1 (v := 3) rfl ?_
  refine ea_ishr (pc := 2) dX10_dayIn_2 ?_
  refine ea_bipush (pc := 3) dX10_dayIn_3 (v := 7) rfl ?_
  refine ea_iand (pc := 5) dX10_dayIn_5 ?_
  subst EX
  exact ea_ireturn (pc := 6) dX10_dayIn_6 rfl rfl
noncomputable def vX10_stopIn (x0 : Int32) (h : ea_H) : Int32 := (x0 &&& (7 : Int32))
theorem sX10_stopIn {d : Nat} {x0 : Int32} {h : ea_H} (hd : 1 ≤ d) : ea_Met mX10_stopIn d [vI x0] h (some (vI (vX10_stopIn x0 h))) h := by
  obtain ⟨X, EX⟩ : ∃ z, z = vX10_stopIn x0 h := ⟨_, rfl⟩
  rw [← EX]
  unfold vX10_stopIn at EX
  refine ea_enter rfl (Nat.le_of_ble_eq_true rfl) ?_
  refine ea_iload_n (pc := 0) dX10_stopIn_0 rfl 0 rfl ?_
  refine ea_bipush (pc := 1) dX10_stopIn_1 (v := 7) rfl ?_
  refine ea_iand (pc := 3) dX10_stopIn_3 ?_
  subst EX
  exact ea_ireturn (pc := 4) dX10_stopIn_4 rfl rfl
noncomputable def vX10_townIn (b0 : Nat) (x1 : Int32) (h : ea_H) : Int32 := (ea_i h (b0 + 7) (Int32.toNatClampNeg (((8 : Int32) * (vX10_trainIn (x1 : Int32) h)) + (vX10_stopIn (x1 : Int32) h))))
def okX10_townIn (b0 : Nat) (x1 : Int32) (h : ea_H) : Prop := vp_in (((8 : Int32) * (vX10_trainIn (x1 : Int32) h)) + (vX10_stopIn (x1 : Int32) h)) 80
theorem sX10_townIn {d : Nat} {b0 : Nat} {x1 : Int32} {h : ea_H} (hd : 2 ≤ d) (hs : ShC b0 h) (K : okX10_townIn b0 x1 h) : ea_Met mX10_townIn d [vR (some (b0 + 13)), vI x1] h (some (vI (vX10_townIn b0 x1 h))) h := by
  obtain ⟨X, EX⟩ : ∃ z, z = vX10_townIn b0 x1 h := ⟨_, rfl⟩
  rw [← EX]
  unfold vX10_townIn at EX
  unfold okX10_townIn at K
  refine ea_enter rfl (Nat.le_of_ble_eq_true rfl) ?_
  refine ea_aload_n (pc := 0) dX10_townIn_0 rfl 0 rfl ?_
  refine ea_getR (pc := 1) dX10_townIn_1 ec_10 (k := 2) (Nat.le_of_ble_eq_true rfl) rfl (Or.inl ew_229) (hs.1 13 (by decide)).1 (hs.1 13 (by decide)).2.1 (hs.2 13 2 rfl) ?_
  refine ea_getR (pc := 4) dX10_townIn_4 ec_9 (k := 2) (Nat.le_of_ble_eq_true rfl) rfl (Or.inl ew_187) (hs.1 5 (by decide)).1 (hs.1 5 (by decide)).2.1 (hs.2 5 2 rfl) ?_
  refine ea_bipush (pc := 7) dX10_townIn_7 (v := 8) rfl ?_
  refine ea_iload_n (pc := 9) dX10_townIn_9 rfl 1 rfl ?_
  refine ea_callS (pc := 10) (d' := d - 1) (As := [vI x1]) (st := [vI 8, vR (some (b0 + 7))]) dX10_townIn_10 kX10_trainIn (sX10_trainIn (d := d - 1) (by omega)) (by omega) rfl (Nat.le_of_ble_eq_true rfl) ew_596 ew_597 ?_
  refine ea_imul (pc := 13) dX10_townIn_13 ?_
  refine ea_iload_n (pc := 14) dX10_townIn_14 rfl 1 rfl ?_
  refine ea_callS (pc := 15) (d' := d - 1) (As := [vI x1]) (st := [vI ((8 : Int32) * (vX10_trainIn (x1 : Int32) h)), vR (some (b0 + 7))]) dX10_townIn_15 kX10_stopIn (sX10_stopIn (d := d - 1) (by omega)) (by omega) rfl (Nat.le_of_ble_eq_true rfl) ew_599 ew_600 ?_
  refine ea_iadd (pc := 18) dX10_townIn_18 ?_
  have z3 := K
  refine ea_iald (pc := 19) dX10_townIn_19 (hs.1 7 (by decide)).1 (hs.1 7 (by decide)).2.1 (ea_vpl (hs.1 7 (by decide)).2.2 z3) ?_
  subst EX
  exact ea_ireturn (pc := 20) dX10_townIn_20 rfl rfl
noncomputable def vX10_slotIn (x0 : Int32) (h : ea_H) : Int32 := (((8 : Int32) * (((10 : Int32) * (vX10_dayIn (x0 : Int32) h)) + (vX10_trainIn (x0 : Int32) h))) + (vX10_stopIn (x0 : Int32) h))
theorem sX10_slotIn {d : Nat} {x0 : Int32} {h : ea_H} (hd : 2 ≤ d) : ea_Met mX10_slotIn d [vI x0] h (some (vI (vX10_slotIn x0 h))) h := by
  obtain ⟨X, EX⟩ : ∃ z, z = vX10_slotIn x0 h := ⟨_, rfl⟩
  rw [← EX]
  unfold vX10_slotIn at EX
  refine ea_enter rfl (Nat.le_of_ble_eq_true rfl) ?_
  refine ea_bipush (pc := 0) dX10_slotIn_0 (v := 8) rfl ?_
  refine ea_bipush (pc := 2) dX10_slotIn_2 (v := 10) rfl ?_
  refine ea_iload_n (pc := 4) dX10_slotIn_4 rfl 0 rfl ?_
  refine ea_callS (pc := 5) (d' := d - 1) (As := [vI x0]) (st := [vI 10, vI 8]) dX10_slotIn_5 kX10_dayIn (sX10_dayIn (d := d - 1) (by omega)) (by omega) rfl (Nat.le_of_ble_eq_true rfl) ew_608 ew_609 ?_
  refine ea_imul (pc := 8) dX10_slotIn_8 ?_
  refine ea_iload_n (pc := 9) dX10_slotIn_9 rfl 0 rfl ?_
  refine ea_callS (pc := 10) (d' := d - 1) (As := [vI x0]) (st := [vI ((10 : Int32) * (vX10_dayIn (x0 : Int32) h)), vI 8]) dX10_slotIn_10 kX10_trainIn (sX10_trainIn (d := d - 1) (by omega)) (by omega) rfl (Nat.le_of_ble_eq_true rfl) ew_596 ew_597 ?_
  refine ea_iadd (pc := 13) dX10_slotIn_13 ?_
  refine ea_imul (pc := 14) dX10_slotIn_14 ?_
  refine ea_iload_n (pc := 15) dX10_slotIn_15 rfl 0 rfl ?_
  refine ea_callS (pc := 16) (d' := d - 1) (As := [vI x0]) (st := [vI ((8 : Int32) * (((10 : Int32) * (vX10_dayIn (x0 : Int32) h)) + (vX10_trainIn (x0 : Int32) h)))]) dX10_slotIn_16 kX10_stopIn (sX10_stopIn (d := d - 1) (by omega)) (by omega) rfl (Nat.le_of_ble_eq_true rfl) ew_599 ew_600 ?_
  refine ea_iadd (pc := 19) dX10_slotIn_19 ?_
  subst EX
  exact ea_ireturn (pc := 20) dX10_slotIn_20 rfl rfl
noncomputable def vX10_begins (y0 : Int64) (x2 : Int32) (h : ea_H) : Int32 := (if (lg_cmp y0 (9223372036854775807 : Int64)) = (0 : Int32) then (0 : Int32) else (if (vX10_trainOf (y0 : Int64) h) = (vX10_trainIn (x2 : Int32) h) then (if (vX10_dayOf (y0 : Int64) h) = (vX10_dayIn (x2 : Int32) h) then (if (vX10_takenOf (y0 : Int64) h) = (vX10_stopIn (x2 : Int32) h) then (1 : Int32) else (0 : Int32)) else (0 : Int32)) else (0 : Int32)))
theorem bo_vX10_begins (y0 : Int64) (x2 : Int32) (h : ea_H) : vX10_begins y0 x2 h = 0 ∨ vX10_begins y0 x2 h = 1 := (ea_itB (Or.inl rfl) (ea_itB (ea_itB (ea_itB (Or.inr rfl) (Or.inl rfl)) (Or.inl rfl)) (Or.inl rfl)))
theorem sX10_begins {d : Nat} {y0 : Int64} {x2 : Int32} {h : ea_H} (hd : 2 ≤ d) : ea_Met mX10_begins d [vJ y0, vI x2] h (some (vI (vX10_begins y0 x2 h))) h := by
  obtain ⟨X, EX⟩ : ∃ z, z = vX10_begins y0 x2 h := ⟨_, rfl⟩
  rw [← EX]
  unfold vX10_begins at EX
  refine ea_enter rfl (Nat.le_of_ble_eq_true rfl) ?_
  refine ea_lload_n (pc := 0) dX10_begins_0 rfl 0 rfl ?_
  refine ea_ldc2 (pc := 1) dX10_begins_1 ew_615 ?_
  refine ea_lcmp (pc := 4) dX10_begins_4 ?_
  refine ea_if_eq (pc := 5) (tgt := 45) dX10_begins_5 rfl (fun c10 => ?_) (fun c10 => ?_)
  · have EX := EX.trans (if_pos c10)
    refine ea_iconst (pc := 45) dX10_begins_45 (v := 0) rfl ?_
    subst EX
    exact ea_ireturn (pc := 46) dX10_begins_46 rfl (ea_bn (Or.inl rfl))
  · have EX := EX.trans (if_neg c10)
    refine ea_lload_n (pc := 8) dX10_begins_8 rfl 0 rfl ?_
    refine ea_callS (pc := 9) (d' := d - 1) (As := [vJ y0]) (st := []) dX10_begins_9 kX10_trainOf (sX10_trainOf (d := d - 1) (by omega)) (by omega) rfl (Nat.le_of_ble_eq_true rfl) ew_680 ew_681 ?_
    refine ea_iload_n (pc := 12) dX10_begins_12 rfl 1 rfl ?_
    refine ea_callS (pc := 13) (d' := d - 1) (As := [vI x2]) (st := [vI (vX10_trainOf (y0 : Int64) h)]) dX10_begins_13 kX10_trainIn (sX10_trainIn (d := d - 1) (by omega)) (by omega) rfl (Nat.le_of_ble_eq_true rfl) ew_596 ew_597 ?_
    refine ea_icmp_ne (pc := 16) (tgt := 45) dX10_begins_16 rfl (fun c9 => ?_) (fun c9 => ?_)
    · have EX := EX.trans (if_neg c9)
      refine ea_iconst (pc := 45) dX10_begins_45 (v := 0) rfl ?_
      subst EX
      exact ea_ireturn (pc := 46) dX10_begins_46 rfl (ea_bn (Or.inl rfl))
    · have EX := EX.trans (if_pos c9)
      refine ea_lload_n (pc := 19) dX10_begins_19 rfl 0 rfl ?_
      refine ea_callS (pc := 20) (d' := d - 1) (As := [vJ y0]) (st := []) dX10_begins_20 kX10_dayOf (sX10_dayOf (d := d - 1) (by omega)) (by omega) rfl (Nat.le_of_ble_eq_true rfl) ew_683 ew_684 ?_
      refine ea_iload_n (pc := 23) dX10_begins_23 rfl 1 rfl ?_
      refine ea_callS (pc := 24) (d' := d - 1) (As := [vI x2]) (st := [vI (vX10_dayOf (y0 : Int64) h)]) dX10_begins_24 kX10_dayIn (sX10_dayIn (d := d - 1) (by omega)) (by omega) rfl (Nat.le_of_ble_eq_true rfl) ew_608 ew_609 ?_
      refine ea_icmp_ne (pc := 27) (tgt := 45) dX10_begins_27 rfl (fun c8 => ?_) (fun c8 => ?_)
      · have EX := EX.trans (if_neg c8)
        refine ea_iconst (pc := 45) dX10_begins_45 (v := 0) rfl ?_
        subst EX
        exact ea_ireturn (pc := 46) dX10_begins_46 rfl (ea_bn (Or.inl rfl))
      · have EX := EX.trans (if_pos c8)
        refine ea_lload_n (pc := 30) dX10_begins_30 rfl 0 rfl ?_
        refine ea_callS (pc := 31) (d' := d - 1) (As := [vJ y0]) (st := []) dX10_begins_31 kX10_takenOf (sX10_takenOf (d := d - 1) (by omega)) (by omega) rfl (Nat.le_of_ble_eq_true rfl) ew_686 ew_687 ?_
        refine ea_iload_n (pc := 34) dX10_begins_34 rfl 1 rfl ?_
        refine ea_callS (pc := 35) (d' := d - 1) (As := [vI x2]) (st := [vI (vX10_takenOf (y0 : Int64) h)]) dX10_begins_35 kX10_stopIn (sX10_stopIn (d := d - 1) (by omega)) (by omega) rfl (Nat.le_of_ble_eq_true rfl) ew_599 ew_600 ?_
        refine ea_icmp_ne (pc := 38) (tgt := 45) dX10_begins_38 rfl (fun c7 => ?_) (fun c7 => ?_)
        · have EX := EX.trans (if_neg c7)
          refine ea_iconst (pc := 45) dX10_begins_45 (v := 0) rfl ?_
          subst EX
          exact ea_ireturn (pc := 46) dX10_begins_46 rfl (ea_bn (Or.inl rfl))
        · have EX := EX.trans (if_pos c7)
          refine ea_iconst (pc := 41) dX10_begins_41 (v := 1) rfl ?_
          refine ea_goto (pc := 42) (tgt := 46) dX10_begins_42 rfl ?_
          subst EX
          exact ea_ireturn (pc := 46) dX10_begins_46 rfl (ea_bn (Or.inr rfl))
noncomputable def vX10_bestAtGoing (b0 : Nat) (x1 : Int32) (x2 : Int32) (x3 : Int32) (h : ea_H) : Int64 := (if (ea_r h (b0 + 13) 4) = none then (9223372036854775807 : Int64) else (if (ea_r h (b0 + 13) 6) = none then (9223372036854775807 : Int64) else (ea_j h (Option.getD (ea_r h (b0 + 13) 4) 0) (Int32.toNatClampNeg (((12 : Int32) * (ea_i h (Option.getD (ea_r h (b0 + 13) 6) 0) (Int32.toNatClampNeg (((8 : Int32) * x1) + x2)))) + x3)))))
def okX10_bestAtGoing (b0 : Nat) (x1 : Int32) (x2 : Int32) (x3 : Int32) (h : ea_H) : Prop := ((ea_r h (b0 + 13) 4) = none → True) ∧ (¬ (ea_r h (b0 + 13) 4) = none → ((ea_r h (b0 + 13) 6) = none → True) ∧ (¬ (ea_r h (b0 + 13) 6) = none → (ea_r h (b0 + 13) 6) = some (Option.getD (ea_r h (b0 + 13) 6) 0) ∧ (((Option.getD (ea_r h (b0 + 13) 6) 0) < ea_n h ∧ ea_c h (Option.getD (ea_r h (b0 + 13) 6) 0) = 20) ∧ (vp_in (((8 : Int32) * x1) + x2) (ea_l h (Option.getD (ea_r h (b0 + 13) 6) 0)) ∧ ((ea_r h (b0 + 13) 4) = some (Option.getD (ea_r h (b0 + 13) 4) 0) ∧ (((Option.getD (ea_r h (b0 + 13) 4) 0) < ea_n h ∧ ea_c h (Option.getD (ea_r h (b0 + 13) 4) 0) = 22) ∧ (vp_in (((12 : Int32) * (ea_i h (Option.getD (ea_r h (b0 + 13) 6) 0) (Int32.toNatClampNeg (((8 : Int32) * x1) + x2)))) + x3) (ea_l h (Option.getD (ea_r h (b0 + 13) 4) 0)))))))))
theorem sX10_bestAtGoing {d : Nat} {b0 : Nat} {x1 : Int32} {x2 : Int32} {x3 : Int32} {h : ea_H} (hd : 1 ≤ d) (hs : ShC b0 h) (K : okX10_bestAtGoing b0 x1 x2 x3 h) : ea_Met mX10_bestAtGoing d [vR (some (b0 + 13)), vI x1, vI x2, vI x3] h (some (vJ (vX10_bestAtGoing b0 x1 x2 x3 h))) h := by
  obtain ⟨X, EX⟩ : ∃ z, z = vX10_bestAtGoing b0 x1 x2 x3 h := ⟨_, rfl⟩
  rw [← EX]
  unfold vX10_bestAtGoing at EX
  unfold okX10_bestAtGoing at K
  refine ea_enter rfl (Nat.le_of_ble_eq_true rfl) ?_
  refine ea_aload_n (pc := 0) dX10_bestAtGoing_0 rfl 0 rfl ?_
  refine ea_getR (pc := 1) dX10_bestAtGoing_1 ec_10 (k := 4) (Nat.le_of_ble_eq_true rfl) rfl (Or.inl ew_231) (hs.1 13 (by decide)).1 (hs.1 13 (by decide)).2.1 rfl ?_
  refine ea_ifnull (pc := 4) (tgt := 14) dX10_bestAtGoing_4 rfl (fun c9 => ?_) (fun a10 c9 => ?_)
  · have EX := EX.trans (if_pos c9)
    refine ea_ldc2 (pc := 14) dX10_bestAtGoing_14 ew_615 ?_
    subst EX
    exact ea_lreturn (pc := 17) dX10_bestAtGoing_17 rfl
  · have c9n : ¬ (ea_r h (b0 + 13) 4) = none := by rw [c9]; exact fun q => nomatch q
    have EX := EX.trans (if_neg c9n)
    have K := K.2 c9n
    refine ea_aload_n (pc := 7) dX10_bestAtGoing_7 rfl 0 rfl ?_
    refine ea_getR (pc := 8) dX10_bestAtGoing_8 ec_10 (k := 6) (Nat.le_of_ble_eq_true rfl) rfl (Or.inl ew_233) (hs.1 13 (by decide)).1 (hs.1 13 (by decide)).2.1 rfl ?_
    refine ea_ifnonnull (pc := 11) (tgt := 18) dX10_bestAtGoing_11 rfl (fun a8 c7 => ?_) (fun c7 => ?_)
    · have c7n : ¬ (ea_r h (b0 + 13) 6) = none := by rw [c7]; exact fun q => nomatch q
      have EX := EX.trans (if_neg c7n)
      have K := K.2 c7n
      refine ea_aload_n (pc := 18) dX10_bestAtGoing_18 rfl 0 rfl ?_
      refine ea_getR (pc := 19) dX10_bestAtGoing_19 ec_10 (k := 4) (Nat.le_of_ble_eq_true rfl) rfl (Or.inl ew_231) (hs.1 13 (by decide)).1 (hs.1 13 (by decide)).2.1 rfl ?_
      refine ea_bipush (pc := 22) dX10_bestAtGoing_22 (v := 12) rfl ?_
      refine ea_aload_n (pc := 24) dX10_bestAtGoing_24 rfl 0 rfl ?_
      refine ea_getR (pc := 25) dX10_bestAtGoing_25 ec_10 (k := 6) (Nat.le_of_ble_eq_true rfl) rfl (Or.inl ew_233) (hs.1 13 (by decide)).1 (hs.1 13 (by decide)).2.1 rfl ?_
      refine ea_bipush (pc := 28) dX10_bestAtGoing_28 (v := 8) rfl ?_
      refine ea_iload_n (pc := 30) dX10_bestAtGoing_30 rfl 1 rfl ?_
      refine ea_imul (pc := 31) dX10_bestAtGoing_31 ?_
      refine ea_iload_n (pc := 32) dX10_bestAtGoing_32 rfl 2 rfl ?_
      refine ea_iadd (pc := 33) dX10_bestAtGoing_33 ?_
      obtain ⟨e1, f2, z3, K⟩ := K
      refine ea_deref1 e1 ?_
      refine ea_iald (pc := 34) dX10_bestAtGoing_34 f2.1 f2.2 z3 ?_
      refine ea_imul (pc := 35) dX10_bestAtGoing_35 ?_
      refine ea_iload_n (pc := 36) dX10_bestAtGoing_36 rfl 3 rfl ?_
      refine ea_iadd (pc := 37) dX10_bestAtGoing_37 ?_
      obtain ⟨e4, f5, z6⟩ := K
      refine ea_deref1 e4 ?_
      refine ea_lald (pc := 38) dX10_bestAtGoing_38 f5.1 f5.2 z6 ?_
      subst EX
      exact ea_lreturn (pc := 39) dX10_bestAtGoing_39 rfl
    · have EX := EX.trans (if_pos c7)
      refine ea_ldc2 (pc := 14) dX10_bestAtGoing_14 ew_615 ?_
      subst EX
      exact ea_lreturn (pc := 17) dX10_bestAtGoing_17 rfl
noncomputable def wX10_addKey (b0 : Nat) (x1 : Int32) (x2 : Int32) (h : ea_H) : ea_H := (if (10079 : Int32) < x1 then h else (if (1120 : Int32) ≤ (ea_i h (b0 + 13) 1) then h else (ea_wi (ea_wi h (Option.getD (ea_r h (b0 + 13) 3) 0) (Int32.toNatClampNeg (ea_i h (b0 + 13) 1)) ((x1 <<< ((11 : Int32) &&& 31)) ||| x2)) (b0 + 13) 1 ((ea_i (ea_wi h (Option.getD (ea_r h (b0 + 13) 3) 0) (Int32.toNatClampNeg (ea_i h (b0 + 13) 1)) ((x1 <<< ((11 : Int32) &&& 31)) ||| x2)) (b0 + 13) 1) + (1 : Int32)))))
def okX10_addKey (b0 : Nat) (x1 : Int32) (x2 : Int32) (h : ea_H) : Prop := ((10079 : Int32) < x1 → True) ∧ (¬ (10079 : Int32) < x1 → ((1120 : Int32) ≤ (ea_i h (b0 + 13) 1) → True) ∧ (¬ (1120 : Int32) ≤ (ea_i h (b0 + 13) 1) → (ea_r h (b0 + 13) 3) = some (Option.getD (ea_r h (b0 + 13) 3) 0) ∧ (((Option.getD (ea_r h (b0 + 13) 3) 0) < ea_n h ∧ ea_c h (Option.getD (ea_r h (b0 + 13) 3) 0) = 20) ∧ (vp_in (ea_i h (b0 + 13) 1) (ea_l h (Option.getD (ea_r h (b0 + 13) 3) 0))))))
theorem shX10_addKey {b0 : Nat} {x1 : Int32} {x2 : Int32} {h : ea_H} (hs : ShC b0 h) : ShC b0 (wX10_addKey b0 x1 x2 h) := (ShC_it hs (ShC_it hs (ShC_wi (ShC_wi hs))))
theorem sX10_addKey {d : Nat} {b0 : Nat} {x1 : Int32} {x2 : Int32} {h : ea_H} (hd : 1 ≤ d) (hs : ShC b0 h) (K : okX10_addKey b0 x1 x2 h) : ea_Met mX10_addKey d [vR (some (b0 + 13)), vI x1, vI x2] h none (wX10_addKey b0 x1 x2 h) := by
  obtain ⟨Y, EY⟩ : ∃ z, z = wX10_addKey b0 x1 x2 h := ⟨_, rfl⟩
  rw [← EY]
  unfold wX10_addKey at EY
  unfold okX10_addKey at K
  refine ea_enter rfl (Nat.le_of_ble_eq_true rfl) ?_
  refine ea_iload_n (pc := 0) dX10_addKey_0 rfl 1 rfl ?_
  refine ea_sipush (pc := 1) dX10_addKey_1 (v := 10079) rfl ?_
  refine ea_icmp_gt (pc := 4) (tgt := 42) dX10_addKey_4 rfl (fun c7 => ?_) (fun c7 => ?_)
  · have EY := EY.trans (if_pos c7)
    subst EY
    exact ea_return (pc := 42) dX10_addKey_42 rfl
  · have EY := EY.trans (if_neg c7)
    have K := K.2 c7
    refine ea_aload_n (pc := 7) dX10_addKey_7 rfl 0 rfl ?_
    refine ea_getI (pc := 8) dX10_addKey_8 ec_10 (k := 1) (Nat.le_of_ble_eq_true rfl) rfl (Or.inl ew_227) (hs.1 13 (by decide)).1 (hs.1 13 (by decide)).2.1 ?_
    refine ea_sipush (pc := 11) dX10_addKey_11 (v := 1120) rfl ?_
    refine ea_icmp_ge (pc := 14) (tgt := 42) dX10_addKey_14 rfl (fun c6 => ?_) (fun c6 => ?_)
    · have EY := EY.trans (if_pos c6)
      subst EY
      exact ea_return (pc := 42) dX10_addKey_42 rfl
    · have EY := EY.trans (if_neg c6)
      have K := K.2 c6
      refine ea_aload_n (pc := 17) dX10_addKey_17 rfl 0 rfl ?_
      refine ea_getR (pc := 18) dX10_addKey_18 ec_10 (k := 3) (Nat.le_of_ble_eq_true rfl) rfl (Or.inl ew_230) (hs.1 13 (by decide)).1 (hs.1 13 (by decide)).2.1 rfl ?_
      refine ea_aload_n (pc := 21) dX10_addKey_21 rfl 0 rfl ?_
      refine ea_getI (pc := 22) dX10_addKey_22 ec_10 (k := 1) (Nat.le_of_ble_eq_true rfl) rfl (Or.inl ew_227) (hs.1 13 (by decide)).1 (hs.1 13 (by decide)).2.1 ?_
      refine ea_iload_n (pc := 25) dX10_addKey_25 rfl 1 rfl ?_
      refine ea_bipush (pc := 26) dX10_addKey_26 (v := 11) rfl ?_
      refine ea_ishl (pc := 28) dX10_addKey_28 ?_
      refine ea_iload_n (pc := 29) dX10_addKey_29 rfl 2 rfl ?_
      refine ea_ior (pc := 30) dX10_addKey_30 ?_
      obtain ⟨e1, f2, z3⟩ := K
      refine ea_deref2 e1 ?_
      refine ea_iast (pc := 31) dX10_addKey_31 f2.1 f2.2 z3 ?_
      have hs4 : ShC b0 (ea_wi h (Option.getD (ea_r h (b0 + 13) 3) 0) (Int32.toNatClampNeg (ea_i h (b0 + 13) 1)) ((x1 <<< ((11 : Int32) &&& 31)) ||| x2)) := ShC_wi hs
      refine ea_aload_n (pc := 32) dX10_addKey_32 rfl 0 rfl ?_
      refine ea_dup (pc := 33) dX10_addKey_33 rfl ?_
      refine ea_getI (pc := 34) dX10_addKey_34 ec_10 (k := 1) (Nat.le_of_ble_eq_true rfl) rfl (Or.inl ew_227) (hs4.1 13 (by decide)).1 (hs4.1 13 (by decide)).2.1 ?_
      refine ea_iconst (pc := 37) dX10_addKey_37 (v := 1) rfl ?_
      refine ea_iadd (pc := 38) dX10_addKey_38 ?_
      refine ea_putI (pc := 39) dX10_addKey_39 ec_10 (k := 1) (Nat.le_of_ble_eq_true rfl) rfl (Or.inl ⟨rfl, Or.inl ew_227⟩) rfl rfl (hs4.1 13 (by decide)).1 (hs4.1 13 (by decide)).2.1 ?_
      have hs5 : ShC b0 (ea_wi (ea_wi h (Option.getD (ea_r h (b0 + 13) 3) 0) (Int32.toNatClampNeg (ea_i h (b0 + 13) 1)) ((x1 <<< ((11 : Int32) &&& 31)) ||| x2)) (b0 + 13) 1 ((ea_i (ea_wi h (Option.getD (ea_r h (b0 + 13) 3) 0) (Int32.toNatClampNeg (ea_i h (b0 + 13) 1)) ((x1 <<< ((11 : Int32) &&& 31)) ||| x2)) (b0 + 13) 1) + (1 : Int32))) := ShC_wi hs4
      subst EY
      exact ea_return (pc := 42) dX10_addKey_42 rfl
noncomputable def gX10_sortKeys (b0 : Nat) : Nat → Nat → Int32 → Int32 → Int32 → Int32 → ea_H → Option (Unit × ea_H)
  | 0, _, _, _, _, _, _ => none
  | f + 1, lbl, x1, x2, x3, x4, h =>
    if lbl = 0 then (gX10_sortKeys b0 f 4 (364 : Int32) 0 0 0 h) else
    if lbl = 4 then (if x1 ≤ (0 : Int32) then (some ((), h)) else (gX10_sortKeys b0 f 10 (x1 : Int32) (x1 : Int32) 0 0 h)) else
    if lbl = 10 then (if (ea_i h (b0 + 13) 1) ≤ x2 then (gX10_sortKeys b0 f 4 ((x1 / (3 : Int32)) : Int32) 0 0 0 h) else (gd ((ea_r h (b0 + 13) 3) = some (Option.getD (ea_r h (b0 + 13) 3) 0)) (gd (((Option.getD (ea_r h (b0 + 13) 3) 0) < ea_n h ∧ ea_c h (Option.getD (ea_r h (b0 + 13) 3) 0) = 20)) (gd (vp_in x2 (ea_l h (Option.getD (ea_r h (b0 + 13) 3) 0))) (gX10_sortKeys b0 f 28 (x1 : Int32) (x2 : Int32) ((ea_i h (Option.getD (ea_r h (b0 + 13) 3) 0) (Int32.toNatClampNeg x2)) : Int32) (x2 : Int32) h))))) else
    if lbl = 28 then (if x4 < x1 then (gd ((ea_r h (b0 + 13) 3) = some (Option.getD (ea_r h (b0 + 13) 3) 0)) (gd (((Option.getD (ea_r h (b0 + 13) 3) 0) < ea_n h ∧ ea_c h (Option.getD (ea_r h (b0 + 13) 3) 0) = 20)) (gd (vp_in x4 (ea_l h (Option.getD (ea_r h (b0 + 13) 3) 0))) (gX10_sortKeys b0 f 10 (x1 : Int32) ((x2 + (1 : Int32)) : Int32) 0 0 (ea_wi h (Option.getD (ea_r h (b0 + 13) 3) 0) (Int32.toNatClampNeg x4) x3))))) else (gd ((ea_r h (b0 + 13) 3) = some (Option.getD (ea_r h (b0 + 13) 3) 0)) (gd (((Option.getD (ea_r h (b0 + 13) 3) 0) < ea_n h ∧ ea_c h (Option.getD (ea_r h (b0 + 13) 3) 0) = 20)) (gd (vp_in (x4 - x1) (ea_l h (Option.getD (ea_r h (b0 + 13) 3) 0))) (if (ea_i h (Option.getD (ea_r h (b0 + 13) 3) 0) (Int32.toNatClampNeg (x4 - x1))) ≤ x3 then (gd ((ea_r h (b0 + 13) 3) = some (Option.getD (ea_r h (b0 + 13) 3) 0)) (gd (((Option.getD (ea_r h (b0 + 13) 3) 0) < ea_n h ∧ ea_c h (Option.getD (ea_r h (b0 + 13) 3) 0) = 20)) (gd (vp_in x4 (ea_l h (Option.getD (ea_r h (b0 + 13) 3) 0))) (gX10_sortKeys b0 f 10 (x1 : Int32) ((x2 + (1 : Int32)) : Int32) 0 0 (ea_wi h (Option.getD (ea_r h (b0 + 13) 3) 0) (Int32.toNatClampNeg x4) x3))))) else (gd ((ea_r h (b0 + 13) 3) = some (Option.getD (ea_r h (b0 + 13) 3) 0)) (gd (((Option.getD (ea_r h (b0 + 13) 3) 0) < ea_n h ∧ ea_c h (Option.getD (ea_r h (b0 + 13) 3) 0) = 20)) (gd (vp_in (x4 - x1) (ea_l h (Option.getD (ea_r h (b0 + 13) 3) 0))) (gd ((ea_r h (b0 + 13) 3) = some (Option.getD (ea_r h (b0 + 13) 3) 0)) (gd (((Option.getD (ea_r h (b0 + 13) 3) 0) < ea_n h ∧ ea_c h (Option.getD (ea_r h (b0 + 13) 3) 0) = 20)) (gd (vp_in x4 (ea_l h (Option.getD (ea_r h (b0 + 13) 3) 0))) (gX10_sortKeys b0 f 28 (x1 : Int32) (x2 : Int32) (x3 : Int32) ((x4 - x1) : Int32) (ea_wi h (Option.getD (ea_r h (b0 + 13) 3) 0) (Int32.toNatClampNeg x4) (ea_i h (Option.getD (ea_r h (b0 + 13) 3) 0) (Int32.toNatClampNeg (x4 - x1)))))))))))))))) else none
theorem tX10_sortKeys {d : Nat} {b0 : Nat} {h0 : ea_H} (hd : 1 ≤ d) : ∀ (f lbl : Nat) (x1 : Int32) (x2 : Int32) (x3 : Int32) (x4 : Int32) (h : ea_H) (r : Unit) (h' : ea_H), gX10_sortKeys b0 f lbl x1 x2 x3 x4 h = some (r, h') → ShC b0 h → (lbl = 0 → ea_W mX10_sortKeys d h0 none h' 0 [(0, vR (some (b0 + 13)))] [] h) ∧ (lbl = 4 → ea_W mX10_sortKeys d h0 none h' 4 [(0, vR (some (b0 + 13))), (1, vI x1)] [] h) ∧ (lbl = 10 → ea_W mX10_sortKeys d h0 none h' 10 [(0, vR (some (b0 + 13))), (1, vI x1), (2, vI x2)] [] h) ∧ (lbl = 28 → ea_W mX10_sortKeys d h0 none h' 28 [(0, vR (some (b0 + 13))), (1, vI x1), (2, vI x2), (3, vI x3), (4, vI x4)] [] h) := by
  intro f
  induction f with
  | zero => intro lbl x1 x2 x3 x4 h r h' E; cases E
  | succ f ih =>
    intro lbl x1 x2 x3 x4 h r h' E hs
    unfold gX10_sortKeys at E
    refine ⟨?_, ?_⟩
    · intro el
      subst el
      have E := (if_pos rfl).symm.trans E
      refine ea_sipush (pc := 0) dX10_sortKeys_0 (v := 364) rfl ?_
      refine ea_istore_n (pc := 3) (lv' := [(0, vR (some (b0 + 13))), (1, vI 364)]) dX10_sortKeys_3 rfl (Nat.le_of_ble_eq_true rfl) [1, 0] rfl ?_
      exact ((ih 4 (364 : Int32) 0 0 0 h _ _ E hs).2.1 rfl)
    refine ⟨?_, ?_⟩
    · intro el
      subst el
      have E := (if_neg (by decide)).symm.trans E
      have E := (if_pos rfl).symm.trans E
      refine ea_iload_n (pc := 4) dX10_sortKeys_4 rfl 1 rfl ?_
      refine ea_if_le (pc := 5) (tgt := 93) dX10_sortKeys_5 rfl (fun c1 => ?_) (fun c1 => ?_)
      · have E := (if_pos c1).symm.trans E
        cases E
        exact ea_return (pc := 93) dX10_sortKeys_93 rfl
      · have E := (if_neg c1).symm.trans E
        refine ea_iload_n (pc := 8) dX10_sortKeys_8 rfl 1 rfl ?_
        refine ea_istore_n (pc := 9) (lv' := [(0, vR (some (b0 + 13))), (1, vI x1), (2, vI x1)]) dX10_sortKeys_9 rfl (Nat.le_of_ble_eq_true rfl) [1, 2, 0] rfl ?_
        exact ((ih 10 (x1 : Int32) (x1 : Int32) 0 0 h _ _ E hs).2.2.1 rfl)
    refine ⟨?_, ?_⟩
    · intro el
      subst el
      have E := (if_neg (by decide)).symm.trans E
      have E := (if_neg (by decide)).symm.trans E
      have E := (if_pos rfl).symm.trans E
      refine ea_iload_n (pc := 10) dX10_sortKeys_10 rfl 2 rfl ?_
      refine ea_aload_n (pc := 11) dX10_sortKeys_11 rfl 0 rfl ?_
      refine ea_getI (pc := 12) dX10_sortKeys_12 ec_10 (k := 1) (Nat.le_of_ble_eq_true rfl) rfl (Or.inl ew_227) (hs.1 13 (by decide)).1 (hs.1 13 (by decide)).2.1 ?_
      refine ea_icmp_ge (pc := 15) (tgt := 86) dX10_sortKeys_15 rfl (fun c5 => ?_) (fun c5 => ?_)
      · have E := (if_pos c5).symm.trans E
        refine ea_iload_n (pc := 86) dX10_sortKeys_86 rfl 1 rfl ?_
        refine ea_iconst (pc := 87) dX10_sortKeys_87 (v := 3) rfl ?_
        refine ea_idiv (pc := 88) dX10_sortKeys_88 (by decide) ?_
        refine ea_istore_n (pc := 89) (lv' := [(0, vR (some (b0 + 13))), (1, vI (x1 / (3 : Int32)))]) dX10_sortKeys_89 rfl (Nat.le_of_ble_eq_true rfl) [1, 0] rfl ?_
        refine ea_goto (pc := 90) (tgt := 4) dX10_sortKeys_90 rfl ?_
        exact ((ih 4 ((x1 / (3 : Int32)) : Int32) 0 0 0 h _ _ E hs).2.1 rfl)
      · have E := (if_neg c5).symm.trans E
        refine ea_aload_n (pc := 18) dX10_sortKeys_18 rfl 0 rfl ?_
        refine ea_getR (pc := 19) dX10_sortKeys_19 ec_10 (k := 3) (Nat.le_of_ble_eq_true rfl) rfl (Or.inl ew_230) (hs.1 13 (by decide)).1 (hs.1 13 (by decide)).2.1 rfl ?_
        refine ea_iload_n (pc := 22) dX10_sortKeys_22 rfl 2 rfl ?_
        obtain ⟨e2, E⟩ := gd_some E
        obtain ⟨f3, E⟩ := gd_some E
        obtain ⟨z4, E⟩ := gd_some E
        refine ea_deref1 e2 ?_
        refine ea_iald (pc := 23) dX10_sortKeys_23 f3.1 f3.2 z4 ?_
        refine ea_istore_n (pc := 24) (lv' := [(0, vR (some (b0 + 13))), (1, vI x1), (2, vI x2), (3, vI (ea_i h (Option.getD (ea_r h (b0 + 13) 3) 0) (Int32.toNatClampNeg x2)))]) dX10_sortKeys_24 rfl (Nat.le_of_ble_eq_true rfl) [1, 2, 3, 0] rfl ?_
        refine ea_iload_n (pc := 25) dX10_sortKeys_25 rfl 2 rfl ?_
        refine ea_istore (pc := 26) (lv' := [(0, vR (some (b0 + 13))), (1, vI x1), (2, vI x2), (3, vI (ea_i h (Option.getD (ea_r h (b0 + 13) 3) 0) (Int32.toNatClampNeg x2))), (4, vI x2)]) dX10_sortKeys_26 (Nat.le_of_ble_eq_true rfl) [1, 2, 3, 4, 0] rfl ?_
        exact ((ih 28 (x1 : Int32) (x2 : Int32) ((ea_i h (Option.getD (ea_r h (b0 + 13) 3) 0) (Int32.toNatClampNeg x2)) : Int32) (x2 : Int32) h _ _ E hs).2.2.2 rfl)
    intro el
    subst el
    have E := (if_neg (by decide)).symm.trans E
    have E := (if_neg (by decide)).symm.trans E
    have E := (if_neg (by decide)).symm.trans E
    have E := (if_pos rfl).symm.trans E
    refine ea_iload (pc := 28) dX10_sortKeys_28 4 rfl ?_
    refine ea_iload_n (pc := 30) dX10_sortKeys_30 rfl 1 rfl ?_
    refine ea_icmp_lt (pc := 31) (tgt := 72) dX10_sortKeys_31 rfl (fun c25 => ?_) (fun c25 => ?_)
    · have E := (if_pos c25).symm.trans E
      refine ea_aload_n (pc := 72) dX10_sortKeys_72 rfl 0 rfl ?_
      refine ea_getR (pc := 73) dX10_sortKeys_73 ec_10 (k := 3) (Nat.le_of_ble_eq_true rfl) rfl (Or.inl ew_230) (hs.1 13 (by decide)).1 (hs.1 13 (by decide)).2.1 rfl ?_
      refine ea_iload (pc := 76) dX10_sortKeys_76 4 rfl ?_
      refine ea_iload_n (pc := 78) dX10_sortKeys_78 rfl 3 rfl ?_
      obtain ⟨e6, E⟩ := gd_some E
      obtain ⟨f7, E⟩ := gd_some E
      obtain ⟨z8, E⟩ := gd_some E
      refine ea_deref2 e6 ?_
      refine ea_iast (pc := 79) dX10_sortKeys_79 f7.1 f7.2 z8 ?_
      have hs9 : ShC b0 (ea_wi h (Option.getD (ea_r h (b0 + 13) 3) 0) (Int32.toNatClampNeg x4) x3) := ShC_wi hs
      refine ea_iinc (pc := 80) (v := 1) (lv' := [(0, vR (some (b0 + 13))), (1, vI x1), (2, vI (x2 + (1 : Int32)))]) dX10_sortKeys_80 2 rfl rfl (Nat.le_of_ble_eq_true rfl) [1, 2, 0] rfl ?_
      refine ea_goto (pc := 83) (tgt := 10) dX10_sortKeys_83 rfl ?_
      exact ((ih 10 (x1 : Int32) ((x2 + (1 : Int32)) : Int32) 0 0 (ea_wi h (Option.getD (ea_r h (b0 + 13) 3) 0) (Int32.toNatClampNeg x4) x3) _ _ E hs9).2.2.1 rfl)
    · have E := (if_neg c25).symm.trans E
      refine ea_aload_n (pc := 34) dX10_sortKeys_34 rfl 0 rfl ?_
      refine ea_getR (pc := 35) dX10_sortKeys_35 ec_10 (k := 3) (Nat.le_of_ble_eq_true rfl) rfl (Or.inl ew_230) (hs.1 13 (by decide)).1 (hs.1 13 (by decide)).2.1 rfl ?_
      refine ea_iload (pc := 38) dX10_sortKeys_38 4 rfl ?_
      refine ea_iload_n (pc := 40) dX10_sortKeys_40 rfl 1 rfl ?_
      refine ea_isub (pc := 41) dX10_sortKeys_41 ?_
      obtain ⟨e10, E⟩ := gd_some E
      obtain ⟨f11, E⟩ := gd_some E
      obtain ⟨z12, E⟩ := gd_some E
      refine ea_deref1 e10 ?_
      refine ea_iald (pc := 42) dX10_sortKeys_42 f11.1 f11.2 z12 ?_
      refine ea_iload_n (pc := 43) dX10_sortKeys_43 rfl 3 rfl ?_
      refine ea_icmp_le (pc := 44) (tgt := 72) dX10_sortKeys_44 rfl (fun c24 => ?_) (fun c24 => ?_)
      · have E := (if_pos c24).symm.trans E
        refine ea_aload_n (pc := 72) dX10_sortKeys_72 rfl 0 rfl ?_
        refine ea_getR (pc := 73) dX10_sortKeys_73 ec_10 (k := 3) (Nat.le_of_ble_eq_true rfl) rfl (Or.inl ew_230) (hs.1 13 (by decide)).1 (hs.1 13 (by decide)).2.1 rfl ?_
        refine ea_iload (pc := 76) dX10_sortKeys_76 4 rfl ?_
        refine ea_iload_n (pc := 78) dX10_sortKeys_78 rfl 3 rfl ?_
        obtain ⟨e13, E⟩ := gd_some E
        obtain ⟨f14, E⟩ := gd_some E
        obtain ⟨z15, E⟩ := gd_some E
        refine ea_deref2 e13 ?_
        refine ea_iast (pc := 79) dX10_sortKeys_79 f14.1 f14.2 z15 ?_
        have hs16 : ShC b0 (ea_wi h (Option.getD (ea_r h (b0 + 13) 3) 0) (Int32.toNatClampNeg x4) x3) := ShC_wi hs
        refine ea_iinc (pc := 80) (v := 1) (lv' := [(0, vR (some (b0 + 13))), (1, vI x1), (2, vI (x2 + (1 : Int32)))]) dX10_sortKeys_80 2 rfl rfl (Nat.le_of_ble_eq_true rfl) [1, 2, 0] rfl ?_
        refine ea_goto (pc := 83) (tgt := 10) dX10_sortKeys_83 rfl ?_
        exact ((ih 10 (x1 : Int32) ((x2 + (1 : Int32)) : Int32) 0 0 (ea_wi h (Option.getD (ea_r h (b0 + 13) 3) 0) (Int32.toNatClampNeg x4) x3) _ _ E hs16).2.2.1 rfl)
      · have E := (if_neg c24).symm.trans E
        refine ea_aload_n (pc := 47) dX10_sortKeys_47 rfl 0 rfl ?_
        refine ea_getR (pc := 48) dX10_sortKeys_48 ec_10 (k := 3) (Nat.le_of_ble_eq_true rfl) rfl (Or.inl ew_230) (hs.1 13 (by decide)).1 (hs.1 13 (by decide)).2.1 rfl ?_
        refine ea_iload (pc := 51) dX10_sortKeys_51 4 rfl ?_
        refine ea_aload_n (pc := 53) dX10_sortKeys_53 rfl 0 rfl ?_
        refine ea_getR (pc := 54) dX10_sortKeys_54 ec_10 (k := 3) (Nat.le_of_ble_eq_true rfl) rfl (Or.inl ew_230) (hs.1 13 (by decide)).1 (hs.1 13 (by decide)).2.1 rfl ?_
        refine ea_iload (pc := 57) dX10_sortKeys_57 4 rfl ?_
        refine ea_iload_n (pc := 59) dX10_sortKeys_59 rfl 1 rfl ?_
        refine ea_isub (pc := 60) dX10_sortKeys_60 ?_
        obtain ⟨e17, E⟩ := gd_some E
        obtain ⟨f18, E⟩ := gd_some E
        obtain ⟨z19, E⟩ := gd_some E
        refine ea_deref1 e17 ?_
        refine ea_iald (pc := 61) dX10_sortKeys_61 f18.1 f18.2 z19 ?_
        obtain ⟨e20, E⟩ := gd_some E
        obtain ⟨f21, E⟩ := gd_some E
        obtain ⟨z22, E⟩ := gd_some E
        refine ea_deref2 e20 ?_
        refine ea_iast (pc := 62) dX10_sortKeys_62 f21.1 f21.2 z22 ?_
        have hs23 : ShC b0 (ea_wi h (Option.getD (ea_r h (b0 + 13) 3) 0) (Int32.toNatClampNeg x4) (ea_i h (Option.getD (ea_r h (b0 + 13) 3) 0) (Int32.toNatClampNeg (x4 - x1)))) := ShC_wi hs
        refine ea_iload (pc := 63) dX10_sortKeys_63 4 rfl ?_
        refine ea_iload_n (pc := 65) dX10_sortKeys_65 rfl 1 rfl ?_
        refine ea_isub (pc := 66) dX10_sortKeys_66 ?_
        refine ea_istore (pc := 67) (lv' := [(0, vR (some (b0 + 13))), (1, vI x1), (2, vI x2), (3, vI x3), (4, vI (x4 - x1))]) dX10_sortKeys_67 (Nat.le_of_ble_eq_true rfl) [1, 2, 3, 4, 0] rfl ?_
        refine ea_goto (pc := 69) (tgt := 28) dX10_sortKeys_69 rfl ?_
        exact ((ih 28 (x1 : Int32) (x2 : Int32) (x3 : Int32) ((x4 - x1) : Int32) (ea_wi h (Option.getD (ea_r h (b0 + 13) 3) 0) (Int32.toNatClampNeg x4) (ea_i h (Option.getD (ea_r h (b0 + 13) 3) 0) (Int32.toNatClampNeg (x4 - x1)))) _ _ E hs23).2.2.2 rfl)
noncomputable def qX10_sortKeys (b0 : Nat) (h : ea_H) : Option (Unit × ea_H) := gX10_sortKeys b0 1000000000 0 0 0 0 0 h
def okX10_sortKeys (b0 : Nat) (h : ea_H) : Prop := ∃ x, qX10_sortKeys b0 h = some x
noncomputable def wX10_sortKeys (b0 : Nat) (h : ea_H) : ea_H := ((qX10_sortKeys b0 h).getD ((), h)).2
theorem sX10_sortKeys {d : Nat} {b0 : Nat} {h : ea_H} (hd : 1 ≤ d) (hs : ShC b0 h) (K : okX10_sortKeys b0 h) : ea_Met mX10_sortKeys d [vR (some (b0 + 13))] h none (wX10_sortKeys b0 h) := by
  obtain ⟨⟨x, y⟩, K⟩ := K
  unfold wX10_sortKeys
  rw [K]
  unfold qX10_sortKeys at K
  exact ea_enter rfl (Nat.le_of_ble_eq_true rfl) ((tX10_sortKeys hd 1000000000 0 0 0 0 0 h x y K hs).1 rfl)
theorem zX10_sortKeys {b0 : Nat} : ∀ (f lbl : Nat) (x1 : Int32) (x2 : Int32) (x3 : Int32) (x4 : Int32) (h : ea_H) (r : Unit) (h' : ea_H), gX10_sortKeys b0 f lbl x1 x2 x3 x4 h = some (r, h') → ShC b0 h → ShC b0 h' := by
  intro f
  induction f with
  | zero => intro lbl x1 x2 x3 x4 h r h' E; cases E
  | succ f ih =>
    intro lbl x1 x2 x3 x4 h r h' E hs
    unfold gX10_sortKeys at E
    by_cases el0 : lbl = 0
    · have E := (if_pos el0).symm.trans E
      exact ih 4 (364 : Int32) 0 0 0 h _ _ E hs
    have E := (if_neg el0).symm.trans E
    by_cases el1 : lbl = 4
    · have E := (if_pos el1).symm.trans E
      by_cases c1 : x1 ≤ (0 : Int32)
      · have E := (if_pos c1).symm.trans E
        cases E
        exact hs
      have E := (if_neg c1).symm.trans E
      exact ih 10 (x1 : Int32) (x1 : Int32) 0 0 h _ _ E hs
    have E := (if_neg el1).symm.trans E
    by_cases el2 : lbl = 10
    · have E := (if_pos el2).symm.trans E
      by_cases c5 : (ea_i h (b0 + 13) 1) ≤ x2
      · have E := (if_pos c5).symm.trans E
        exact ih 4 ((x1 / (3 : Int32)) : Int32) 0 0 0 h _ _ E hs
      have E := (if_neg c5).symm.trans E
      obtain ⟨e2, E⟩ := gd_some E
      obtain ⟨f3, E⟩ := gd_some E
      obtain ⟨z4, E⟩ := gd_some E
      exact ih 28 (x1 : Int32) (x2 : Int32) ((ea_i h (Option.getD (ea_r h (b0 + 13) 3) 0) (Int32.toNatClampNeg x2)) : Int32) (x2 : Int32) h _ _ E hs
    have E := (if_neg el2).symm.trans E
    by_cases el3 : lbl = 28
    · have E := (if_pos el3).symm.trans E
      by_cases c25 : x4 < x1
      · have E := (if_pos c25).symm.trans E
        obtain ⟨e6, E⟩ := gd_some E
        obtain ⟨f7, E⟩ := gd_some E
        obtain ⟨z8, E⟩ := gd_some E
        exact ih 10 (x1 : Int32) ((x2 + (1 : Int32)) : Int32) 0 0 (ea_wi h (Option.getD (ea_r h (b0 + 13) 3) 0) (Int32.toNatClampNeg x4) x3) _ _ E (ShC_wi hs)
      have E := (if_neg c25).symm.trans E
      obtain ⟨e10, E⟩ := gd_some E
      obtain ⟨f11, E⟩ := gd_some E
      obtain ⟨z12, E⟩ := gd_some E
      by_cases c24 : (ea_i h (Option.getD (ea_r h (b0 + 13) 3) 0) (Int32.toNatClampNeg (x4 - x1))) ≤ x3
      · have E := (if_pos c24).symm.trans E
        obtain ⟨e13, E⟩ := gd_some E
        obtain ⟨f14, E⟩ := gd_some E
        obtain ⟨z15, E⟩ := gd_some E
        exact ih 10 (x1 : Int32) ((x2 + (1 : Int32)) : Int32) 0 0 (ea_wi h (Option.getD (ea_r h (b0 + 13) 3) 0) (Int32.toNatClampNeg x4) x3) _ _ E (ShC_wi hs)
      have E := (if_neg c24).symm.trans E
      obtain ⟨e17, E⟩ := gd_some E
      obtain ⟨f18, E⟩ := gd_some E
      obtain ⟨z19, E⟩ := gd_some E
      obtain ⟨e20, E⟩ := gd_some E
      obtain ⟨f21, E⟩ := gd_some E
      obtain ⟨z22, E⟩ := gd_some E
      exact ih 28 (x1 : Int32) (x2 : Int32) (x3 : Int32) ((x4 - x1) : Int32) (ea_wi h (Option.getD (ea_r h (b0 + 13) 3) 0) (Int32.toNatClampNeg x4) (ea_i h (Option.getD (ea_r h (b0 + 13) 3) 0) (Int32.toNatClampNeg (x4 - x1)))) _ _ E (ShC_wi hs)
    have E := (if_neg el3).symm.trans E
    cases E
theorem shX10_sortKeys {b0 : Nat} {h : ea_H} (hs : ShC b0 h) : ShC b0 (wX10_sortKeys b0 h) := by
  unfold wX10_sortKeys
  cases K : qX10_sortKeys b0 h with
  | none => exact hs
  | some x => obtain ⟨x, y⟩ := x; unfold qX10_sortKeys at K; exact zX10_sortKeys _ _ _ _ _ _ _ _ _ K hs
noncomputable def vJ9_max_7cf53 (x0 : Int32) (x1 : Int32) (h : ea_H) : Int32 := (if x0 < x1 then x1 else x0)
theorem sJ9_max_7cf53 {d : Nat} {x0 : Int32} {x1 : Int32} {h : ea_H} (hd : 1 ≤ d) : ea_Met mJ9_max_7cf53 d [vI x0, vI x1] h (some (vI (vJ9_max_7cf53 x0 x1 h))) h := by
  obtain ⟨X, EX⟩ : ∃ z, z = vJ9_max_7cf53 x0 x1 h := ⟨_, rfl⟩
  rw [← EX]
  unfold vJ9_max_7cf53 at EX
  refine ea_enter rfl (Nat.le_of_ble_eq_true rfl) ?_
  refine ea_iload_n (pc := 0) dJ9_max_7cf53_0 rfl 0 rfl ?_
  refine ea_iload_n (pc := 1) dJ9_max_7cf53_1 rfl 1 rfl ?_
  refine ea_icmp_lt (pc := 2) (tgt := 9) dJ9_max_7cf53_2 rfl (fun c1 => ?_) (fun c1 => ?_)
  · have EX := EX.trans (if_pos c1)
    refine ea_iload_n (pc := 9) dJ9_max_7cf53_9 rfl 1 rfl ?_
    subst EX
    exact ea_ireturn (pc := 10) dJ9_max_7cf53_10 rfl rfl
  · have EX := EX.trans (if_neg c1)
    refine ea_iload_n (pc := 5) dJ9_max_7cf53_5 rfl 0 rfl ?_
    refine ea_goto (pc := 6) (tgt := 10) dJ9_max_7cf53_6 rfl ?_
    subst EX
    exact ea_ireturn (pc := 10) dJ9_max_7cf53_10 rfl rfl
noncomputable def vJ9_min_7cf53 (x0 : Int32) (x1 : Int32) (h : ea_H) : Int32 := (if x1 < x0 then x1 else x0)
theorem sJ9_min_7cf53 {d : Nat} {x0 : Int32} {x1 : Int32} {h : ea_H} (hd : 1 ≤ d) : ea_Met mJ9_min_7cf53 d [vI x0, vI x1] h (some (vI (vJ9_min_7cf53 x0 x1 h))) h := by
  obtain ⟨X, EX⟩ : ∃ z, z = vJ9_min_7cf53 x0 x1 h := ⟨_, rfl⟩
  rw [← EX]
  unfold vJ9_min_7cf53 at EX
  refine ea_enter rfl (Nat.le_of_ble_eq_true rfl) ?_
  refine ea_iload_n (pc := 0) dJ9_min_7cf53_0 rfl 0 rfl ?_
  refine ea_iload_n (pc := 1) dJ9_min_7cf53_1 rfl 1 rfl ?_
  refine ea_icmp_gt (pc := 2) (tgt := 9) dJ9_min_7cf53_2 rfl (fun c1 => ?_) (fun c1 => ?_)
  · have EX := EX.trans (if_pos c1)
    refine ea_iload_n (pc := 9) dJ9_min_7cf53_9 rfl 1 rfl ?_
    subst EX
    exact ea_ireturn (pc := 10) dJ9_min_7cf53_10 rfl rfl
  · have EX := EX.trans (if_neg c1)
    refine ea_iload_n (pc := 5) dJ9_min_7cf53_5 rfl 0 rfl ?_
    refine ea_goto (pc := 6) (tgt := 10) dJ9_min_7cf53_6 rfl ?_
    subst EX
    exact ea_ireturn (pc := 10) dJ9_min_7cf53_10 rfl rfl
noncomputable def vJ9_min_f86c9 (y0 : Int64) (y2 : Int64) (h : ea_H) : Int64 := (if (0 : Int32) < (lg_cmp y0 y2) then y2 else y0)
theorem sJ9_min_f86c9 {d : Nat} {y0 : Int64} {y2 : Int64} {h : ea_H} (hd : 1 ≤ d) : ea_Met mJ9_min_f86c9 d [vJ y0, vJ y2] h (some (vJ (vJ9_min_f86c9 y0 y2 h))) h := by
  obtain ⟨X, EX⟩ : ∃ z, z = vJ9_min_f86c9 y0 y2 h := ⟨_, rfl⟩
  rw [← EX]
  unfold vJ9_min_f86c9 at EX
  refine ea_enter rfl (Nat.le_of_ble_eq_true rfl) ?_
  refine ea_lload_n (pc := 0) dJ9_min_f86c9_0 rfl 0 rfl ?_
  refine ea_lload_n (pc := 1) dJ9_min_f86c9_1 rfl 1 rfl ?_
  refine ea_lcmp (pc := 2) dJ9_min_f86c9_2 ?_
  refine ea_if_gt (pc := 3) (tgt := 10) dJ9_min_f86c9_3 rfl (fun c1 => ?_) (fun c1 => ?_)
  · have EX := EX.trans (if_pos c1)
    refine ea_lload_n (pc := 10) dJ9_min_f86c9_10 rfl 1 rfl ?_
    subst EX
    exact ea_lreturn (pc := 11) dJ9_min_f86c9_11 rfl
  · have EX := EX.trans (if_neg c1)
    refine ea_lload_n (pc := 6) dJ9_min_f86c9_6 rfl 0 rfl ?_
    refine ea_goto (pc := 7) (tgt := 11) dJ9_min_f86c9_7 rfl ?_
    subst EX
    exact ea_lreturn (pc := 11) dJ9_min_f86c9_11 rfl
noncomputable def gJ7_fill_53178 (b0 : Nat) : Nat → Nat → Option Nat → Int32 → Int32 → Int32 → ea_H → Option (Unit × ea_H)
  | 0, _, _, _, _, _, _ => none
  | f + 1, lbl, r0, x1, x2, x3, h =>
    if lbl = 0 then (gd (r0 = some (Option.getD r0 0)) (gd (((Option.getD r0 0) < ea_n h ∧ ea_c h (Option.getD r0 0) = 20)) (gJ7_fill_53178 b0 f 5 (r0 : Option Nat) (x1 : Int32) (0 : Int32) ((Int32.ofNat (ea_l h (Option.getD r0 0))) : Int32) h))) else
    if lbl = 5 then (if x3 ≤ x2 then (some ((), h)) else (gd (r0 = some (Option.getD r0 0)) (gd (((Option.getD r0 0) < ea_n h ∧ ea_c h (Option.getD r0 0) = 20)) (gd (vp_in x2 (ea_l h (Option.getD r0 0))) (gJ7_fill_53178 b0 f 5 (r0 : Option Nat) (x1 : Int32) ((x2 + (1 : Int32)) : Int32) (x3 : Int32) (ea_wi h (Option.getD r0 0) (Int32.toNatClampNeg x2) x1)))))) else none
theorem tJ7_fill_53178 {d : Nat} {b0 : Nat} {h0 : ea_H} (hd : 1 ≤ d) : ∀ (f lbl : Nat) (r0 : Option Nat) (x1 : Int32) (x2 : Int32) (x3 : Int32) (h : ea_H) (r : Unit) (h' : ea_H), gJ7_fill_53178 b0 f lbl r0 x1 x2 x3 h = some (r, h') → ShC b0 h → (lbl = 0 → ea_W mJ7_fill_53178 d h0 none h' 0 [(0, vR r0), (1, vI x1)] [] h) ∧ (lbl = 5 → ea_W mJ7_fill_53178 d h0 none h' 5 [(0, vR r0), (1, vI x1), (2, vI x2), (3, vI x3)] [] h) := by
  intro f
  induction f with
  | zero => intro lbl r0 x1 x2 x3 h r h' E; cases E
  | succ f ih =>
    intro lbl r0 x1 x2 x3 h r h' E hs
    unfold gJ7_fill_53178 at E
    refine ⟨?_, ?_⟩
    · intro el
      subst el
      have E := (if_pos rfl).symm.trans E
      refine ea_iconst (pc := 0) dJ7_fill_53178_0 (v := 0) rfl ?_
      refine ea_istore_n (pc := 1) (lv' := [(0, vR r0), (1, vI x1), (2, vI 0)]) dJ7_fill_53178_1 rfl (Nat.le_of_ble_eq_true rfl) [1, 2, 0] rfl ?_
      refine ea_aload_n (pc := 2) dJ7_fill_53178_2 rfl 0 rfl ?_
      obtain ⟨e1, E⟩ := gd_some E
      obtain ⟨f2, E⟩ := gd_some E
      refine ea_deref0 e1 ?_
      refine ea_alen (pc := 3) dJ7_fill_53178_3 f2.1 f2.2 (by decide) (by decide) ?_
      refine ea_istore_n (pc := 4) (lv' := [(0, vR r0), (1, vI x1), (2, vI 0), (3, vI (Int32.ofNat (ea_l h (Option.getD r0 0))))]) dJ7_fill_53178_4 rfl (Nat.le_of_ble_eq_true rfl) [1, 2, 3, 0] rfl ?_
      exact ((ih 5 (r0 : Option Nat) (x1 : Int32) (0 : Int32) ((Int32.ofNat (ea_l h (Option.getD r0 0))) : Int32) h _ _ E hs).2 rfl)
    intro el
    subst el
    have E := (if_neg (by decide)).symm.trans E
    have E := (if_pos rfl).symm.trans E
    refine ea_iload_n (pc := 5) dJ7_fill_53178_5 rfl 2 rfl ?_
    refine ea_iload_n (pc := 6) dJ7_fill_53178_6 rfl 3 rfl ?_
    refine ea_icmp_ge (pc := 7) (tgt := 20) dJ7_fill_53178_7 rfl (fun c7 => ?_) (fun c7 => ?_)
    · have E := (if_pos c7).symm.trans E
      cases E
      exact ea_return (pc := 20) dJ7_fill_53178_20 rfl
    · have E := (if_neg c7).symm.trans E
      refine ea_aload_n (pc := 10) dJ7_fill_53178_10 rfl 0 rfl ?_
      refine ea_iload_n (pc := 11) dJ7_fill_53178_11 rfl 2 rfl ?_
      refine ea_iload_n (pc := 12) dJ7_fill_53178_12 rfl 1 rfl ?_
      obtain ⟨e3, E⟩ := gd_some E
      obtain ⟨f4, E⟩ := gd_some E
      obtain ⟨z5, E⟩ := gd_some E
      refine ea_deref2 e3 ?_
      refine ea_iast (pc := 13) dJ7_fill_53178_13 f4.1 f4.2 z5 ?_
      have hs6 : ShC b0 (ea_wi h (Option.getD r0 0) (Int32.toNatClampNeg x2) x1) := ShC_wi hs
      refine ea_iinc (pc := 14) (v := 1) (lv' := [(0, vR r0), (1, vI x1), (2, vI (x2 + (1 : Int32))), (3, vI x3)]) dJ7_fill_53178_14 2 rfl rfl (Nat.le_of_ble_eq_true rfl) [1, 2, 0, 3] rfl ?_
      refine ea_goto (pc := 17) (tgt := 5) dJ7_fill_53178_17 rfl ?_
      exact ((ih 5 (r0 : Option Nat) (x1 : Int32) ((x2 + (1 : Int32)) : Int32) (x3 : Int32) (ea_wi h (Option.getD r0 0) (Int32.toNatClampNeg x2) x1) _ _ E hs6).2 rfl)
noncomputable def qJ7_fill_53178 (b0 : Nat) (r0 : Option Nat) (x1 : Int32) (h : ea_H) : Option (Unit × ea_H) := gJ7_fill_53178 b0 1000000000 0 r0 x1 0 0 h
def okJ7_fill_53178 (b0 : Nat) (r0 : Option Nat) (x1 : Int32) (h : ea_H) : Prop := ∃ x, qJ7_fill_53178 b0 r0 x1 h = some x
noncomputable def wJ7_fill_53178 (b0 : Nat) (r0 : Option Nat) (x1 : Int32) (h : ea_H) : ea_H := ((qJ7_fill_53178 b0 r0 x1 h).getD ((), h)).2
theorem sJ7_fill_53178 {d : Nat} {b0 : Nat} {r0 : Option Nat} {x1 : Int32} {h : ea_H} (hd : 1 ≤ d) (hs : ShC b0 h) (K : okJ7_fill_53178 b0 r0 x1 h) : ea_Met mJ7_fill_53178 d [vR r0, vI x1] h none (wJ7_fill_53178 b0 r0 x1 h) := by
  obtain ⟨⟨x, y⟩, K⟩ := K
  unfold wJ7_fill_53178
  rw [K]
  unfold qJ7_fill_53178 at K
  exact ea_enter rfl (Nat.le_of_ble_eq_true rfl) ((tJ7_fill_53178 hd 1000000000 0 r0 x1 0 0 h x y K hs).1 rfl)
theorem zJ7_fill_53178 {b0 : Nat} : ∀ (f lbl : Nat) (r0 : Option Nat) (x1 : Int32) (x2 : Int32) (x3 : Int32) (h : ea_H) (r : Unit) (h' : ea_H), gJ7_fill_53178 b0 f lbl r0 x1 x2 x3 h = some (r, h') → ShC b0 h → ShC b0 h' := by
  intro f
  induction f with
  | zero => intro lbl r0 x1 x2 x3 h r h' E; cases E
  | succ f ih =>
    intro lbl r0 x1 x2 x3 h r h' E hs
    unfold gJ7_fill_53178 at E
    by_cases el0 : lbl = 0
    · have E := (if_pos el0).symm.trans E
      obtain ⟨e1, E⟩ := gd_some E
      obtain ⟨f2, E⟩ := gd_some E
      exact ih 5 (r0 : Option Nat) (x1 : Int32) (0 : Int32) ((Int32.ofNat (ea_l h (Option.getD r0 0))) : Int32) h _ _ E hs
    have E := (if_neg el0).symm.trans E
    by_cases el1 : lbl = 5
    · have E := (if_pos el1).symm.trans E
      by_cases c7 : x3 ≤ x2
      · have E := (if_pos c7).symm.trans E
        cases E
        exact hs
      have E := (if_neg c7).symm.trans E
      obtain ⟨e3, E⟩ := gd_some E
      obtain ⟨f4, E⟩ := gd_some E
      obtain ⟨z5, E⟩ := gd_some E
      exact ih 5 (r0 : Option Nat) (x1 : Int32) ((x2 + (1 : Int32)) : Int32) (x3 : Int32) (ea_wi h (Option.getD r0 0) (Int32.toNatClampNeg x2) x1) _ _ E (ShC_wi hs)
    have E := (if_neg el1).symm.trans E
    cases E
theorem shJ7_fill_53178 {b0 : Nat} {r0 : Option Nat} {x1 : Int32} {h : ea_H} (hs : ShC b0 h) : ShC b0 (wJ7_fill_53178 b0 r0 x1 h) := by
  unfold wJ7_fill_53178
  cases K : qJ7_fill_53178 b0 r0 x1 h with
  | none => exact hs
  | some x => obtain ⟨x, y⟩ := x; unfold qJ7_fill_53178 at K; exact zJ7_fill_53178 _ _ _ _ _ _ _ _ _ K hs
noncomputable def gJ7_fill_d0a16 (b0 : Nat) : Nat → Nat → Option Nat → Int32 → Int32 → Int64 → ea_H → Option (Unit × ea_H)
  | 0, _, _, _, _, _, _ => none
  | f + 1, lbl, r0, x3, x4, y1, h =>
    if lbl = 0 then (gd (r0 = some (Option.getD r0 0)) (gd (((Option.getD r0 0) < ea_n h ∧ ea_c h (Option.getD r0 0) = 22)) (gJ7_fill_d0a16 b0 f 6 (r0 : Option Nat) (0 : Int32) ((Int32.ofNat (ea_l h (Option.getD r0 0))) : Int32) (y1 : Int64) h))) else
    if lbl = 6 then (if x4 ≤ x3 then (some ((), h)) else (gd (r0 = some (Option.getD r0 0)) (gd (((Option.getD r0 0) < ea_n h ∧ ea_c h (Option.getD r0 0) = 22)) (gd (vp_in x3 (ea_l h (Option.getD r0 0))) (gJ7_fill_d0a16 b0 f 6 (r0 : Option Nat) ((x3 + (1 : Int32)) : Int32) (x4 : Int32) (y1 : Int64) (ea_wj h (Option.getD r0 0) (Int32.toNatClampNeg x3) y1)))))) else none
theorem tJ7_fill_d0a16 {d : Nat} {b0 : Nat} {h0 : ea_H} (hd : 1 ≤ d) : ∀ (f lbl : Nat) (r0 : Option Nat) (x3 : Int32) (x4 : Int32) (y1 : Int64) (h : ea_H) (r : Unit) (h' : ea_H), gJ7_fill_d0a16 b0 f lbl r0 x3 x4 y1 h = some (r, h') → ShC b0 h → (lbl = 0 → ea_W mJ7_fill_d0a16 d h0 none h' 0 [(0, vR r0), (1, vJ y1)] [] h) ∧ (lbl = 6 → ea_W mJ7_fill_d0a16 d h0 none h' 6 [(0, vR r0), (1, vJ y1), (3, vI x3), (4, vI x4)] [] h) := by
  intro f
  induction f with
  | zero => intro lbl r0 x3 x4 y1 h r h' E; cases E
  | succ f ih =>
    intro lbl r0 x3 x4 y1 h r h' E hs
    unfold gJ7_fill_d0a16 at E
    refine ⟨?_, ?_⟩
    · intro el
      subst el
      have E := (if_pos rfl).symm.trans E
      refine ea_iconst (pc := 0) dJ7_fill_d0a16_0 (v := 0) rfl ?_
      refine ea_istore_n (pc := 1) (lv' := [(0, vR r0), (1, vJ y1), (3, vI 0)]) dJ7_fill_d0a16_1 rfl (Nat.le_of_ble_eq_true rfl) [1, 2, 0] rfl ?_
      refine ea_aload_n (pc := 2) dJ7_fill_d0a16_2 rfl 0 rfl ?_
      obtain ⟨e1, E⟩ := gd_some E
      obtain ⟨f2, E⟩ := gd_some E
      refine ea_deref0 e1 ?_
      refine ea_alen (pc := 3) dJ7_fill_d0a16_3 f2.1 f2.2 (by decide) (by decide) ?_
      refine ea_istore (pc := 4) (lv' := [(0, vR r0), (1, vJ y1), (3, vI 0), (4, vI (Int32.ofNat (ea_l h (Option.getD r0 0))))]) dJ7_fill_d0a16_4 (Nat.le_of_ble_eq_true rfl) [1, 2, 3, 0] rfl ?_
      exact ((ih 6 (r0 : Option Nat) (0 : Int32) ((Int32.ofNat (ea_l h (Option.getD r0 0))) : Int32) (y1 : Int64) h _ _ E hs).2 rfl)
    intro el
    subst el
    have E := (if_neg (by decide)).symm.trans E
    have E := (if_pos rfl).symm.trans E
    refine ea_iload_n (pc := 6) dJ7_fill_d0a16_6 rfl 2 rfl ?_
    refine ea_iload (pc := 7) dJ7_fill_d0a16_7 3 rfl ?_
    refine ea_icmp_ge (pc := 9) (tgt := 22) dJ7_fill_d0a16_9 rfl (fun c7 => ?_) (fun c7 => ?_)
    · have E := (if_pos c7).symm.trans E
      cases E
      exact ea_return (pc := 22) dJ7_fill_d0a16_22 rfl
    · have E := (if_neg c7).symm.trans E
      refine ea_aload_n (pc := 12) dJ7_fill_d0a16_12 rfl 0 rfl ?_
      refine ea_iload_n (pc := 13) dJ7_fill_d0a16_13 rfl 2 rfl ?_
      refine ea_lload_n (pc := 14) dJ7_fill_d0a16_14 rfl 1 rfl ?_
      obtain ⟨e3, E⟩ := gd_some E
      obtain ⟨f4, E⟩ := gd_some E
      obtain ⟨z5, E⟩ := gd_some E
      refine ea_deref2 e3 ?_
      refine ea_last (pc := 15) dJ7_fill_d0a16_15 f4.1 f4.2 z5 ?_
      have hs6 : ShC b0 (ea_wj h (Option.getD r0 0) (Int32.toNatClampNeg x3) y1) := ShC_wj hs
      refine ea_iinc (pc := 16) (v := 1) (lv' := [(0, vR r0), (1, vJ y1), (3, vI (x3 + (1 : Int32))), (4, vI x4)]) dJ7_fill_d0a16_16 2 rfl rfl (Nat.le_of_ble_eq_true rfl) [1, 2, 0, 3] rfl ?_
      refine ea_goto (pc := 19) (tgt := 6) dJ7_fill_d0a16_19 rfl ?_
      exact ((ih 6 (r0 : Option Nat) ((x3 + (1 : Int32)) : Int32) (x4 : Int32) (y1 : Int64) (ea_wj h (Option.getD r0 0) (Int32.toNatClampNeg x3) y1) _ _ E hs6).2 rfl)
noncomputable def qJ7_fill_d0a16 (b0 : Nat) (r0 : Option Nat) (y1 : Int64) (h : ea_H) : Option (Unit × ea_H) := gJ7_fill_d0a16 b0 1000000000 0 r0 0 0 y1 h
def okJ7_fill_d0a16 (b0 : Nat) (r0 : Option Nat) (y1 : Int64) (h : ea_H) : Prop := ∃ x, qJ7_fill_d0a16 b0 r0 y1 h = some x
noncomputable def wJ7_fill_d0a16 (b0 : Nat) (r0 : Option Nat) (y1 : Int64) (h : ea_H) : ea_H := ((qJ7_fill_d0a16 b0 r0 y1 h).getD ((), h)).2
theorem sJ7_fill_d0a16 {d : Nat} {b0 : Nat} {r0 : Option Nat} {y1 : Int64} {h : ea_H} (hd : 1 ≤ d) (hs : ShC b0 h) (K : okJ7_fill_d0a16 b0 r0 y1 h) : ea_Met mJ7_fill_d0a16 d [vR r0, vJ y1] h none (wJ7_fill_d0a16 b0 r0 y1 h) := by
  obtain ⟨⟨x, y⟩, K⟩ := K
  unfold wJ7_fill_d0a16
  rw [K]
  unfold qJ7_fill_d0a16 at K
  exact ea_enter rfl (Nat.le_of_ble_eq_true rfl) ((tJ7_fill_d0a16 hd 1000000000 0 r0 0 0 y1 h x y K hs).1 rfl)
theorem zJ7_fill_d0a16 {b0 : Nat} : ∀ (f lbl : Nat) (r0 : Option Nat) (x3 : Int32) (x4 : Int32) (y1 : Int64) (h : ea_H) (r : Unit) (h' : ea_H), gJ7_fill_d0a16 b0 f lbl r0 x3 x4 y1 h = some (r, h') → ShC b0 h → ShC b0 h' := by
  intro f
  induction f with
  | zero => intro lbl r0 x3 x4 y1 h r h' E; cases E
  | succ f ih =>
    intro lbl r0 x3 x4 y1 h r h' E hs
    unfold gJ7_fill_d0a16 at E
    by_cases el0 : lbl = 0
    · have E := (if_pos el0).symm.trans E
      obtain ⟨e1, E⟩ := gd_some E
      obtain ⟨f2, E⟩ := gd_some E
      exact ih 6 (r0 : Option Nat) (0 : Int32) ((Int32.ofNat (ea_l h (Option.getD r0 0))) : Int32) (y1 : Int64) h _ _ E hs
    have E := (if_neg el0).symm.trans E
    by_cases el1 : lbl = 6
    · have E := (if_pos el1).symm.trans E
      by_cases c7 : x4 ≤ x3
      · have E := (if_pos c7).symm.trans E
        cases E
        exact hs
      have E := (if_neg c7).symm.trans E
      obtain ⟨e3, E⟩ := gd_some E
      obtain ⟨f4, E⟩ := gd_some E
      obtain ⟨z5, E⟩ := gd_some E
      exact ih 6 (r0 : Option Nat) ((x3 + (1 : Int32)) : Int32) (x4 : Int32) (y1 : Int64) (ea_wj h (Option.getD r0 0) (Int32.toNatClampNeg x3) y1) _ _ E (ShC_wj hs)
    have E := (if_neg el1).symm.trans E
    cases E
theorem shJ7_fill_d0a16 {b0 : Nat} {r0 : Option Nat} {y1 : Int64} {h : ea_H} (hs : ShC b0 h) : ShC b0 (wJ7_fill_d0a16 b0 r0 y1 h) := by
  unfold wJ7_fill_d0a16
  cases K : qJ7_fill_d0a16 b0 r0 y1 h with
  | none => exact hs
  | some x => obtain ⟨x, y⟩ := x; unfold qJ7_fill_d0a16 at K; exact zJ7_fill_d0a16 _ _ _ _ _ _ _ _ _ K hs
noncomputable def vX11_miles (b0 : Nat) (x1 : Int32) (x2 : Int32) (h : ea_H) : Int32 := (if (vX6_has b0 (x1 : Int32) h) = (0 : Int32) then ((-1) : Int32) else (if (vX6_has b0 (x2 : Int32) h) = (0 : Int32) then ((-1) : Int32) else (vX6_between b0 (x1 : Int32) (x2 : Int32) h)))
def okX11_miles (b0 : Nat) (x1 : Int32) (x2 : Int32) (h : ea_H) : Prop := ((vX6_has b0 (x1 : Int32) h) = (0 : Int32) → True) ∧ (¬ (vX6_has b0 (x1 : Int32) h) = (0 : Int32) → ((vX6_has b0 (x2 : Int32) h) = (0 : Int32) → True) ∧ (¬ (vX6_has b0 (x2 : Int32) h) = (0 : Int32) → (okX6_between b0 (x1 : Int32) (x2 : Int32) h)))
theorem sX11_miles {d : Nat} {b0 : Nat} {x1 : Int32} {x2 : Int32} {h : ea_H} (hd : 2 ≤ d) (hs : ShC b0 h) (K : okX11_miles b0 x1 x2 h) : ea_Met mX11_miles d [vR (some (b0 + 0)), vI x1, vI x2] h (some (vI (vX11_miles b0 x1 x2 h))) h := by
  obtain ⟨X, EX⟩ : ∃ z, z = vX11_miles b0 x1 x2 h := ⟨_, rfl⟩
  rw [← EX]
  unfold vX11_miles at EX
  unfold okX11_miles at K
  refine ea_enter rfl (Nat.le_of_ble_eq_true rfl) ?_
  refine ea_aload_n (pc := 0) dX11_miles_0 rfl 0 rfl ?_
  refine ea_getR (pc := 1) dX11_miles_1 ec_11 (k := 0) (Nat.le_of_ble_eq_true rfl) rfl (Or.inl ew_437) (hs.1 0 (by decide)).1 (hs.1 0 (by decide)).2.1 (hs.2 0 0 rfl) ?_
  refine ea_iload_n (pc := 4) dX11_miles_4 rfl 1 rfl ?_
  refine ea_callV (pc := 5) (d' := d - 1) (As := [vI x1]) (st := []) dX11_miles_5 kX6_has (sX6_has (d := d - 1) (by omega) hs) (by omega) rfl (Nat.le_of_ble_eq_true rfl) ew_494 ew_495 ew_496 (ci := 6) rfl (by decide) (hs.1 1 (by decide)).1 (hs.1 1 (by decide)).2.1 ?_
  refine ea_if_eq (pc := 8) (tgt := 22) dX11_miles_8 rfl (fun c5 => ?_) (fun c5 => ?_)
  · have EX := EX.trans (if_pos c5)
    refine ea_iconst (pc := 22) dX11_miles_22 (v := (-1)) rfl ?_
    subst EX
    exact ea_ireturn (pc := 23) dX11_miles_23 rfl rfl
  · have EX := EX.trans (if_neg c5)
    have K := K.2 c5
    refine ea_aload_n (pc := 11) dX11_miles_11 rfl 0 rfl ?_
    refine ea_getR (pc := 12) dX11_miles_12 ec_11 (k := 0) (Nat.le_of_ble_eq_true rfl) rfl (Or.inl ew_437) (hs.1 0 (by decide)).1 (hs.1 0 (by decide)).2.1 (hs.2 0 0 rfl) ?_
    refine ea_iload_n (pc := 15) dX11_miles_15 rfl 2 rfl ?_
    refine ea_callV (pc := 16) (d' := d - 1) (As := [vI x2]) (st := []) dX11_miles_16 kX6_has (sX6_has (d := d - 1) (by omega) hs) (by omega) rfl (Nat.le_of_ble_eq_true rfl) ew_494 ew_495 ew_496 (ci := 6) rfl (by decide) (hs.1 1 (by decide)).1 (hs.1 1 (by decide)).2.1 ?_
    refine ea_if_ne (pc := 19) (tgt := 24) dX11_miles_19 rfl (fun c4 => ?_) (fun c4 => ?_)
    · have EX := EX.trans (if_neg c4)
      have K := K.2 c4
      refine ea_aload_n (pc := 24) dX11_miles_24 rfl 0 rfl ?_
      refine ea_getR (pc := 25) dX11_miles_25 ec_11 (k := 0) (Nat.le_of_ble_eq_true rfl) rfl (Or.inl ew_437) (hs.1 0 (by decide)).1 (hs.1 0 (by decide)).2.1 (hs.2 0 0 rfl) ?_
      refine ea_iload_n (pc := 28) dX11_miles_28 rfl 1 rfl ?_
      refine ea_iload_n (pc := 29) dX11_miles_29 rfl 2 rfl ?_
      have z3 := K
      refine ea_callV (pc := 30) (d' := d - 1) (As := [vI x1, vI x2]) (st := []) dX11_miles_30 kX6_between (sX6_between (d := d - 1) (by omega) hs z3) (by omega) rfl (Nat.le_of_ble_eq_true rfl) ew_506 ew_507 ew_508 (ci := 6) rfl (by decide) (hs.1 1 (by decide)).1 (hs.1 1 (by decide)).2.1 ?_
      subst EX
      exact ea_ireturn (pc := 33) dX11_miles_33 rfl rfl
    · have EX := EX.trans (if_pos c4)
      refine ea_iconst (pc := 22) dX11_miles_22 (v := (-1)) rfl ?_
      subst EX
      exact ea_ireturn (pc := 23) dX11_miles_23 rfl rfl
noncomputable def vX11_stop (b0 : Nat) (x1 : Int32) (x2 : Int32) (x3 : Int32) (x4 : Int32) (x5 : Int32) (h : ea_H) : Int32 := (if (0 : Int32) < (ea_i h (b0 + 0) 11) then ((-1) : Int32) else (if (vX9_has b0 (x1 : Int32) h) = (0 : Int32) then ((-1) : Int32) else (if (vX6_has b0 (x2 : Int32) h) = (0 : Int32) then ((-1) : Int32) else (vX9_add b0 (x1 : Int32) (x2 : Int32) (x3 : Int32) (x4 : Int32) (x5 : Int32) h))))
noncomputable def wX11_stop (b0 : Nat) (x1 : Int32) (x2 : Int32) (x3 : Int32) (x4 : Int32) (x5 : Int32) (h : ea_H) : ea_H := (if (0 : Int32) < (ea_i h (b0 + 0) 11) then h else (if (vX9_has b0 (x1 : Int32) h) = (0 : Int32) then h else (if (vX6_has b0 (x2 : Int32) h) = (0 : Int32) then h else (if (vX9_add b0 (x1 : Int32) (x2 : Int32) (x3 : Int32) (x4 : Int32) (x5 : Int32) h) = ((-1) : Int32) then (wX9_add b0 (x1 : Int32) (x2 : Int32) (x3 : Int32) (x4 : Int32) (x5 : Int32) h) else (wX11_tableChanged b0 (wX9_add b0 (x1 : Int32) (x2 : Int32) (x3 : Int32) (x4 : Int32) (x5 : Int32) h))))))
def okX11_stop (b0 : Nat) (x1 : Int32) (x2 : Int32) (x3 : Int32) (x4 : Int32) (x5 : Int32) (h : ea_H) : Prop := ((0 : Int32) < (ea_i h (b0 + 0) 11) → True) ∧ (¬ (0 : Int32) < (ea_i h (b0 + 0) 11) → ((vX9_has b0 (x1 : Int32) h) = (0 : Int32) → True) ∧ (¬ (vX9_has b0 (x1 : Int32) h) = (0 : Int32) → ((vX6_has b0 (x2 : Int32) h) = (0 : Int32) → True) ∧ (¬ (vX6_has b0 (x2 : Int32) h) = (0 : Int32) → (okX9_add b0 (x1 : Int32) (x2 : Int32) (x3 : Int32) (x4 : Int32) (x5 : Int32) h))))
theorem shX11_stop {b0 : Nat} {x1 : Int32} {x2 : Int32} {x3 : Int32} {x4 : Int32} {x5 : Int32} {h : ea_H} (hs : ShC b0 h) : ShC b0 (wX11_stop b0 x1 x2 x3 x4 x5 h) := (ShC_it hs (ShC_it hs (ShC_it hs (ShC_it (shX9_add hs) (shX11_tableChanged (shX9_add hs))))))
theorem sX11_stop {d : Nat} {b0 : Nat} {x1 : Int32} {x2 : Int32} {x3 : Int32} {x4 : Int32} {x5 : Int32} {h : ea_H} (hd : 2 ≤ d) (hs : ShC b0 h) (K : okX11_stop b0 x1 x2 x3 x4 x5 h) : ea_Met mX11_stop d [vR (some (b0 + 0)), vI x1, vI x2, vI x3, vI x4, vI x5] h (some (vI (vX11_stop b0 x1 x2 x3 x4 x5 h))) (wX11_stop b0 x1 x2 x3 x4 x5 h) := by
  obtain ⟨X, EX⟩ : ∃ z, z = vX11_stop b0 x1 x2 x3 x4 x5 h := ⟨_, rfl⟩
  rw [← EX]
  unfold vX11_stop at EX
  obtain ⟨Y, EY⟩ : ∃ z, z = wX11_stop b0 x1 x2 x3 x4 x5 h := ⟨_, rfl⟩
  rw [← EY]
  unfold wX11_stop at EY
  unfold okX11_stop at K
  refine ea_enter rfl (Nat.le_of_ble_eq_true rfl) ?_
  refine ea_aload_n (pc := 0) dX11_stop_0 rfl 0 rfl ?_
  refine ea_getI (pc := 1) dX11_stop_1 ec_11 (k := 11) (Nat.le_of_ble_eq_true rfl) rfl (Or.inl ew_448) (hs.1 0 (by decide)).1 (hs.1 0 (by decide)).2.1 ?_
  refine ea_if_gt (pc := 4) (tgt := 29) dX11_stop_4 rfl (fun c10 => ?_) (fun c10 => ?_)
  · have EX := EX.trans (if_pos c10)
    have EY := EY.trans (if_pos c10)
    refine ea_iconst (pc := 29) dX11_stop_29 (v := (-1)) rfl ?_
    subst EX
    subst EY
    exact ea_ireturn (pc := 30) dX11_stop_30 rfl rfl
  · have EX := EX.trans (if_neg c10)
    have EY := EY.trans (if_neg c10)
    have K := K.2 c10
    refine ea_aload_n (pc := 7) dX11_stop_7 rfl 0 rfl ?_
    refine ea_getR (pc := 8) dX11_stop_8 ec_11 (k := 1) (Nat.le_of_ble_eq_true rfl) rfl (Or.inl ew_438) (hs.1 0 (by decide)).1 (hs.1 0 (by decide)).2.1 (hs.2 0 1 rfl) ?_
    refine ea_iload_n (pc := 11) dX11_stop_11 rfl 1 rfl ?_
    refine ea_callV (pc := 12) (d' := d - 1) (As := [vI x1]) (st := []) dX11_stop_12 kX9_has (sX9_has (d := d - 1) (by omega) hs) (by omega) rfl (Nat.le_of_ble_eq_true rfl) ew_518 ew_519 ew_520 (ci := 9) rfl (by decide) (hs.1 5 (by decide)).1 (hs.1 5 (by decide)).2.1 ?_
    refine ea_if_eq (pc := 15) (tgt := 29) dX11_stop_15 rfl (fun c9 => ?_) (fun c9 => ?_)
    · have EX := EX.trans (if_pos c9)
      have EY := EY.trans (if_pos c9)
      refine ea_iconst (pc := 29) dX11_stop_29 (v := (-1)) rfl ?_
      subst EX
      subst EY
      exact ea_ireturn (pc := 30) dX11_stop_30 rfl rfl
    · have EX := EX.trans (if_neg c9)
      have EY := EY.trans (if_neg c9)
      have K := K.2 c9
      refine ea_aload_n (pc := 18) dX11_stop_18 rfl 0 rfl ?_
      refine ea_getR (pc := 19) dX11_stop_19 ec_11 (k := 0) (Nat.le_of_ble_eq_true rfl) rfl (Or.inl ew_437) (hs.1 0 (by decide)).1 (hs.1 0 (by decide)).2.1 (hs.2 0 0 rfl) ?_
      refine ea_iload_n (pc := 22) dX11_stop_22 rfl 2 rfl ?_
      refine ea_callV (pc := 23) (d' := d - 1) (As := [vI x2]) (st := []) dX11_stop_23 kX6_has (sX6_has (d := d - 1) (by omega) hs) (by omega) rfl (Nat.le_of_ble_eq_true rfl) ew_494 ew_495 ew_496 (ci := 6) rfl (by decide) (hs.1 1 (by decide)).1 (hs.1 1 (by decide)).2.1 ?_
      refine ea_if_ne (pc := 26) (tgt := 31) dX11_stop_26 rfl (fun c8 => ?_) (fun c8 => ?_)
      · have EX := EX.trans (if_neg c8)
        have EY := EY.trans (if_neg c8)
        have K := K.2 c8
        refine ea_aload_n (pc := 31) dX11_stop_31 rfl 0 rfl ?_
        refine ea_getR (pc := 32) dX11_stop_32 ec_11 (k := 1) (Nat.le_of_ble_eq_true rfl) rfl (Or.inl ew_438) (hs.1 0 (by decide)).1 (hs.1 0 (by decide)).2.1 (hs.2 0 1 rfl) ?_
        refine ea_iload_n (pc := 35) dX11_stop_35 rfl 1 rfl ?_
        refine ea_iload_n (pc := 36) dX11_stop_36 rfl 2 rfl ?_
        refine ea_iload_n (pc := 37) dX11_stop_37 rfl 3 rfl ?_
        refine ea_iload (pc := 38) dX11_stop_38 4 rfl ?_
        refine ea_iload (pc := 40) dX11_stop_40 5 rfl ?_
        have z3 := K
        refine ea_callV (pc := 42) (d' := d - 1) (As := [vI x1, vI x2, vI x3, vI x4, vI x5]) (st := []) dX11_stop_42 kX9_add (sX9_add (d := d - 1) (by omega) hs z3) (by omega) rfl (Nat.le_of_ble_eq_true rfl) ew_522 ew_523 ew_524 (ci := 9) rfl (by decide) (hs.1 5 (by decide)).1 (hs.1 5 (by decide)).2.1 ?_
        have hs4 : ShC b0 (wX9_add b0 (x1 : Int32) (x2 : Int32) (x3 : Int32) (x4 : Int32) (x5 : Int32) h) := shX9_add hs
        refine ea_istore (pc := 45) (lv' := [(0, vR (some (b0 + 0))), (6, vI (vX9_add b0 (x1 : Int32) (x2 : Int32) (x3 : Int32) (x4 : Int32) (x5 : Int32) h))]) dX11_stop_45 (Nat.le_of_ble_eq_true rfl) [1, 0] rfl ?_
        refine ea_iload (pc := 47) dX11_stop_47 1 rfl ?_
        refine ea_iconst (pc := 49) dX11_stop_49 (v := (-1)) rfl ?_
        refine ea_icmp_eq (pc := 50) (tgt := 57) dX11_stop_50 rfl (fun c7 => ?_) (fun c7 => ?_)
        · have EY := EY.trans (if_pos c7)
          refine ea_iload (pc := 57) dX11_stop_57 1 rfl ?_
          subst EX
          subst EY
          exact ea_ireturn (pc := 59) dX11_stop_59 rfl rfl
        · have EY := EY.trans (if_neg c7)
          refine ea_aload_n (pc := 53) dX11_stop_53 rfl 0 rfl ?_
          refine ea_callV (pc := 54) (d' := d - 1) (As := []) (st := []) dX11_stop_54 kX11_tableChanged (sX11_tableChanged (d := d - 1) (by omega) hs4) (by omega) rfl (Nat.le_of_ble_eq_true rfl) ew_526 ew_528 ew_1 (ci := 11) rfl (by decide) (hs4.1 0 (by decide)).1 (hs4.1 0 (by decide)).2.1 ?_
          have hs6 : ShC b0 (wX11_tableChanged b0 (wX9_add b0 (x1 : Int32) (x2 : Int32) (x3 : Int32) (x4 : Int32) (x5 : Int32) h)) := shX11_tableChanged hs4
          refine ea_iload (pc := 57) dX11_stop_57 1 rfl ?_
          subst EX
          subst EY
          exact ea_ireturn (pc := 59) dX11_stop_59 rfl rfl
      · have EX := EX.trans (if_pos c8)
        have EY := EY.trans (if_pos c8)
        refine ea_iconst (pc := 29) dX11_stop_29 (v := (-1)) rfl ?_
        subst EX
        subst EY
        exact ea_ireturn (pc := 30) dX11_stop_30 rfl rfl
noncomputable def vX11_stopOf (b0 : Nat) (x1 : Int32) (x2 : Int32) (x3 : Int32) (h : ea_H) : Int32 := (if (vX9_has b0 (x1 : Int32) h) = (0 : Int32) then ((-1) : Int32) else (if x2 = ((-1) : Int32) then (if x3 = (0 : Int32) then (ea_i h (b0 + 6) (Int32.toNatClampNeg x1)) else ((-1) : Int32)) else (if x2 < (0 : Int32) then ((-1) : Int32) else (if x2 < (ea_i h (b0 + 6) (Int32.toNatClampNeg x1)) then (if Int32.toInt x3 = 0 then (ea_i h (b0 + 7) (Int32.toNatClampNeg (((8 : Int32) * x1) + x2))) else (if Int32.toInt x3 = 1 then (ea_i h (b0 + 8) (Int32.toNatClampNeg (((8 : Int32) * x1) + x2))) else (if Int32.toInt x3 = 2 then (ea_i h (b0 + 9) (Int32.toNatClampNeg (((8 : Int32) * x1) + x2))) else (if Int32.toInt x3 = 3 then (if (ea_i h (b0 + 10) (Int32.toNatClampNeg (((8 : Int32) * x1) + x2))) = (0 : Int32) then (0 : Int32) else (1 : Int32)) else ((-1) : Int32))))) else ((-1) : Int32)))))
def okX11_stopOf (b0 : Nat) (x1 : Int32) (x2 : Int32) (x3 : Int32) (h : ea_H) : Prop := ((vX9_has b0 (x1 : Int32) h) = (0 : Int32) → True) ∧ (¬ (vX9_has b0 (x1 : Int32) h) = (0 : Int32) → (x2 = ((-1) : Int32) → (x3 = (0 : Int32) → vp_in x1 10) ∧ (¬ x3 = (0 : Int32) → True)) ∧ (¬ x2 = ((-1) : Int32) → (x2 < (0 : Int32) → True) ∧ (¬ x2 < (0 : Int32) → vp_in x1 10 ∧ ((x2 < (ea_i h (b0 + 6) (Int32.toNatClampNeg x1)) → (Int32.toInt x3 = 0 → vp_in (((8 : Int32) * x1) + x2) 80) ∧ (¬ Int32.toInt x3 = 0 → (Int32.toInt x3 = 1 → vp_in (((8 : Int32) * x1) + x2) 80) ∧ (¬ Int32.toInt x3 = 1 → (Int32.toInt x3 = 2 → vp_in (((8 : Int32) * x1) + x2) 80) ∧ (¬ Int32.toInt x3 = 2 → (Int32.toInt x3 = 3 → vp_in (((8 : Int32) * x1) + x2) 80) ∧ (¬ Int32.toInt x3 = 3 → True))))) ∧ (¬ x2 < (ea_i h (b0 + 6) (Int32.toNatClampNeg x1)) → True)))))
theorem sX11_stopOf {d : Nat} {b0 : Nat} {x1 : Int32} {x2 : Int32} {x3 : Int32} {h : ea_H} (hd : 2 ≤ d) (hs : ShC b0 h) (K : okX11_stopOf b0 x1 x2 x3 h) : ea_Met mX11_stopOf d [vR (some (b0 + 0)), vI x1, vI x2, vI x3] h (some (vI (vX11_stopOf b0 x1 x2 x3 h))) h := by
  obtain ⟨X, EX⟩ : ∃ z, z = vX11_stopOf b0 x1 x2 x3 h := ⟨_, rfl⟩
  rw [← EX]
  unfold vX11_stopOf at EX
  unfold okX11_stopOf at K
  refine ea_enter rfl (Nat.le_of_ble_eq_true rfl) ?_
  refine ea_aload_n (pc := 0) dX11_stopOf_0 rfl 0 rfl ?_
  refine ea_getR (pc := 1) dX11_stopOf_1 ec_11 (k := 1) (Nat.le_of_ble_eq_true rfl) rfl (Or.inl ew_438) (hs.1 0 (by decide)).1 (hs.1 0 (by decide)).2.1 (hs.2 0 1 rfl) ?_
  refine ea_iload_n (pc := 4) dX11_stopOf_4 rfl 1 rfl ?_
  refine ea_callV (pc := 5) (d' := d - 1) (As := [vI x1]) (st := []) dX11_stopOf_5 kX9_has (sX9_has (d := d - 1) (by omega) hs) (by omega) rfl (Nat.le_of_ble_eq_true rfl) ew_518 ew_519 ew_520 (ci := 9) rfl (by decide) (hs.1 5 (by decide)).1 (hs.1 5 (by decide)).2.1 ?_
  refine ea_if_ne (pc := 8) (tgt := 13) dX11_stopOf_8 rfl (fun c13 => ?_) (fun c13 => ?_)
  · have EX := EX.trans (if_neg c13)
    have K := K.2 c13
    refine ea_iload_n (pc := 13) dX11_stopOf_13 rfl 2 rfl ?_
    refine ea_iconst (pc := 14) dX11_stopOf_14 (v := (-1)) rfl ?_
    refine ea_icmp_ne (pc := 15) (tgt := 36) dX11_stopOf_15 rfl (fun c12 => ?_) (fun c12 => ?_)
    · have EX := EX.trans (if_neg c12)
      have K := K.2 c12
      refine ea_iload_n (pc := 36) dX11_stopOf_36 rfl 2 rfl ?_
      refine ea_if_lt (pc := 37) (tgt := 53) dX11_stopOf_37 rfl (fun c9 => ?_) (fun c9 => ?_)
      · have EX := EX.trans (if_pos c9)
        refine ea_iconst (pc := 53) dX11_stopOf_53 (v := (-1)) rfl ?_
        subst EX
        exact ea_ireturn (pc := 54) dX11_stopOf_54 rfl rfl
      · have EX := EX.trans (if_neg c9)
        have K := K.2 c9
        refine ea_iload_n (pc := 40) dX11_stopOf_40 rfl 2 rfl ?_
        refine ea_aload_n (pc := 41) dX11_stopOf_41 rfl 0 rfl ?_
        refine ea_getR (pc := 42) dX11_stopOf_42 ec_11 (k := 1) (Nat.le_of_ble_eq_true rfl) rfl (Or.inl ew_438) (hs.1 0 (by decide)).1 (hs.1 0 (by decide)).2.1 (hs.2 0 1 rfl) ?_
        refine ea_getR (pc := 45) dX11_stopOf_45 ec_9 (k := 1) (Nat.le_of_ble_eq_true rfl) rfl (Or.inl ew_181) (hs.1 5 (by decide)).1 (hs.1 5 (by decide)).2.1 (hs.2 5 1 rfl) ?_
        refine ea_iload_n (pc := 48) dX11_stopOf_48 rfl 1 rfl ?_
        obtain ⟨z2, K⟩ := K
        refine ea_iald (pc := 49) dX11_stopOf_49 (hs.1 6 (by decide)).1 (hs.1 6 (by decide)).2.1 (ea_vpl (hs.1 6 (by decide)).2.2 z2) ?_
        refine ea_icmp_lt (pc := 50) (tgt := 55) dX11_stopOf_50 rfl (fun c8 => ?_) (fun c8 => ?_)
        · have EX := EX.trans (if_pos c8)
          have K := K.1 c8
          refine ea_bipush (pc := 55) dX11_stopOf_55 (v := 8) rfl ?_
          refine ea_iload_n (pc := 57) dX11_stopOf_57 rfl 1 rfl ?_
          refine ea_imul (pc := 58) dX11_stopOf_58 ?_
          refine ea_iload_n (pc := 59) dX11_stopOf_59 rfl 2 rfl ?_
          refine ea_iadd (pc := 60) dX11_stopOf_60 ?_
          refine ea_istore (pc := 61) (lv' := [(0, vR (some (b0 + 0))), (3, vI x3), (4, vI (((8 : Int32) * x1) + x2))]) dX11_stopOf_61 (Nat.le_of_ble_eq_true rfl) [1, 4, 0] rfl ?_
          refine ea_iload_n (pc := 63) dX11_stopOf_63 rfl 1 rfl ?_
          by_cases qc64_0 : Int32.toInt x3 = 0
          · have EX := EX.trans (if_pos qc64_0)
            have K := K.1 qc64_0
            refine ea_tswIn (pc := 64) (tgt := 96) dX11_stopOf_64 (by rw [qc64_0]; decide) (by rw [qc64_0]; decide) (by rw [qc64_0]; rfl) rfl ?_
            refine ea_aload_n (pc := 96) dX11_stopOf_96 rfl 0 rfl ?_
            refine ea_getR (pc := 97) dX11_stopOf_97 ec_11 (k := 1) (Nat.le_of_ble_eq_true rfl) rfl (Or.inl ew_438) (hs.1 0 (by decide)).1 (hs.1 0 (by decide)).2.1 (hs.2 0 1 rfl) ?_
            refine ea_getR (pc := 100) dX11_stopOf_100 ec_9 (k := 2) (Nat.le_of_ble_eq_true rfl) rfl (Or.inl ew_185) (hs.1 5 (by decide)).1 (hs.1 5 (by decide)).2.1 (hs.2 5 2 rfl) ?_
            refine ea_iload (pc := 103) dX11_stopOf_103 2 rfl ?_
            have z3 := K
            refine ea_iald (pc := 105) dX11_stopOf_105 (hs.1 7 (by decide)).1 (hs.1 7 (by decide)).2.1 (ea_vpl (hs.1 7 (by decide)).2.2 z3) ?_
            subst EX
            exact ea_ireturn (pc := 106) dX11_stopOf_106 rfl rfl
          have EX := EX.trans (if_neg qc64_0)
          have K := K.2 qc64_0
          by_cases qc64_1 : Int32.toInt x3 = 1
          · have EX := EX.trans (if_pos qc64_1)
            have K := K.1 qc64_1
            refine ea_tswIn (pc := 64) (tgt := 107) dX11_stopOf_64 (by rw [qc64_1]; decide) (by rw [qc64_1]; decide) (by rw [qc64_1]; rfl) rfl ?_
            refine ea_aload_n (pc := 107) dX11_stopOf_107 rfl 0 rfl ?_
            refine ea_getR (pc := 108) dX11_stopOf_108 ec_11 (k := 1) (Nat.le_of_ble_eq_true rfl) rfl (Or.inl ew_438) (hs.1 0 (by decide)).1 (hs.1 0 (by decide)).2.1 (hs.2 0 1 rfl) ?_
            refine ea_getR (pc := 111) dX11_stopOf_111 ec_9 (k := 3) (Nat.le_of_ble_eq_true rfl) rfl (Or.inl ew_189) (hs.1 5 (by decide)).1 (hs.1 5 (by decide)).2.1 (hs.2 5 3 rfl) ?_
            refine ea_iload (pc := 114) dX11_stopOf_114 2 rfl ?_
            have z4 := K
            refine ea_iald (pc := 116) dX11_stopOf_116 (hs.1 8 (by decide)).1 (hs.1 8 (by decide)).2.1 (ea_vpl (hs.1 8 (by decide)).2.2 z4) ?_
            subst EX
            exact ea_ireturn (pc := 117) dX11_stopOf_117 rfl rfl
          have EX := EX.trans (if_neg qc64_1)
          have K := K.2 qc64_1
          by_cases qc64_2 : Int32.toInt x3 = 2
          · have EX := EX.trans (if_pos qc64_2)
            have K := K.1 qc64_2
            refine ea_tswIn (pc := 64) (tgt := 118) dX11_stopOf_64 (by rw [qc64_2]; decide) (by rw [qc64_2]; decide) (by rw [qc64_2]; rfl) rfl ?_
            refine ea_aload_n (pc := 118) dX11_stopOf_118 rfl 0 rfl ?_
            refine ea_getR (pc := 119) dX11_stopOf_119 ec_11 (k := 1) (Nat.le_of_ble_eq_true rfl) rfl (Or.inl ew_438) (hs.1 0 (by decide)).1 (hs.1 0 (by decide)).2.1 (hs.2 0 1 rfl) ?_
            refine ea_getR (pc := 122) dX11_stopOf_122 ec_9 (k := 4) (Nat.le_of_ble_eq_true rfl) rfl (Or.inl ew_192) (hs.1 5 (by decide)).1 (hs.1 5 (by decide)).2.1 (hs.2 5 4 rfl) ?_
            refine ea_iload (pc := 125) dX11_stopOf_125 2 rfl ?_
            have z5 := K
            refine ea_iald (pc := 127) dX11_stopOf_127 (hs.1 9 (by decide)).1 (hs.1 9 (by decide)).2.1 (ea_vpl (hs.1 9 (by decide)).2.2 z5) ?_
            subst EX
            exact ea_ireturn (pc := 128) dX11_stopOf_128 rfl rfl
          have EX := EX.trans (if_neg qc64_2)
          have K := K.2 qc64_2
          by_cases qc64_3 : Int32.toInt x3 = 3
          · have EX := EX.trans (if_pos qc64_3)
            have K := K.1 qc64_3
            refine ea_tswIn (pc := 64) (tgt := 129) dX11_stopOf_64 (by rw [qc64_3]; decide) (by rw [qc64_3]; decide) (by rw [qc64_3]; rfl) rfl ?_
            refine ea_aload_n (pc := 129) dX11_stopOf_129 rfl 0 rfl ?_
            refine ea_getR (pc := 130) dX11_stopOf_130 ec_11 (k := 1) (Nat.le_of_ble_eq_true rfl) rfl (Or.inl ew_438) (hs.1 0 (by decide)).1 (hs.1 0 (by decide)).2.1 (hs.2 0 1 rfl) ?_
            refine ea_getR (pc := 133) dX11_stopOf_133 ec_9 (k := 5) (Nat.le_of_ble_eq_true rfl) rfl (Or.inl ew_195) (hs.1 5 (by decide)).1 (hs.1 5 (by decide)).2.1 (hs.2 5 5 rfl) ?_
            refine ea_iload (pc := 136) dX11_stopOf_136 2 rfl ?_
            have z6 := K
            refine ea_zald (pc := 138) dX11_stopOf_138 (hs.1 10 (by decide)).1 (hs.1 10 (by decide)).2.1 (ea_vpl (hs.1 10 (by decide)).2.2 z6) ?_
            refine ea_if_eq (pc := 139) (tgt := 146) dX11_stopOf_139 rfl (fun c7 => ?_) (fun c7 => ?_)
            · have EX := EX.trans (if_pos c7)
              refine ea_iconst (pc := 146) dX11_stopOf_146 (v := 0) rfl ?_
              subst EX
              exact ea_ireturn (pc := 147) dX11_stopOf_147 rfl rfl
            · have EX := EX.trans (if_neg c7)
              refine ea_iconst (pc := 142) dX11_stopOf_142 (v := 1) rfl ?_
              refine ea_goto (pc := 143) (tgt := 147) dX11_stopOf_143 rfl ?_
              subst EX
              exact ea_ireturn (pc := 147) dX11_stopOf_147 rfl rfl
          have EX := EX.trans (if_neg qc64_3)
          have K := K.2 qc64_3
          refine ea_tswOut (pc := 64) (tgt := 148) dX11_stopOf_64 (ec_sw_0_3 qc64_0 qc64_1 qc64_2 qc64_3) rfl ?_
          refine ea_iconst (pc := 148) dX11_stopOf_148 (v := (-1)) rfl ?_
          subst EX
          exact ea_ireturn (pc := 149) dX11_stopOf_149 rfl rfl
        · have EX := EX.trans (if_neg c8)
          refine ea_iconst (pc := 53) dX11_stopOf_53 (v := (-1)) rfl ?_
          subst EX
          exact ea_ireturn (pc := 54) dX11_stopOf_54 rfl rfl
    · have EX := EX.trans (if_pos c12)
      have K := K.1 c12
      refine ea_iload_n (pc := 18) dX11_stopOf_18 rfl 3 rfl ?_
      refine ea_if_ne (pc := 19) (tgt := 34) dX11_stopOf_19 rfl (fun c11 => ?_) (fun c11 => ?_)
      · have EX := EX.trans (if_neg c11)
        refine ea_iconst (pc := 34) dX11_stopOf_34 (v := (-1)) rfl ?_
        subst EX
        exact ea_ireturn (pc := 35) dX11_stopOf_35 rfl rfl
      · have EX := EX.trans (if_pos c11)
        have K := K.1 c11
        refine ea_aload_n (pc := 22) dX11_stopOf_22 rfl 0 rfl ?_
        refine ea_getR (pc := 23) dX11_stopOf_23 ec_11 (k := 1) (Nat.le_of_ble_eq_true rfl) rfl (Or.inl ew_438) (hs.1 0 (by decide)).1 (hs.1 0 (by decide)).2.1 (hs.2 0 1 rfl) ?_
        refine ea_getR (pc := 26) dX11_stopOf_26 ec_9 (k := 1) (Nat.le_of_ble_eq_true rfl) rfl (Or.inl ew_181) (hs.1 5 (by decide)).1 (hs.1 5 (by decide)).2.1 (hs.2 5 1 rfl) ?_
        refine ea_iload_n (pc := 29) dX11_stopOf_29 rfl 1 rfl ?_
        have z10 := K
        refine ea_iald (pc := 30) dX11_stopOf_30 (hs.1 6 (by decide)).1 (hs.1 6 (by decide)).2.1 (ea_vpl (hs.1 6 (by decide)).2.2 z10) ?_
        refine ea_goto (pc := 31) (tgt := 35) dX11_stopOf_31 rfl ?_
        subst EX
        exact ea_ireturn (pc := 35) dX11_stopOf_35 rfl rfl
  · have EX := EX.trans (if_pos c13)
    refine ea_iconst (pc := 11) dX11_stopOf_11 (v := (-1)) rfl ?_
    subst EX
    exact ea_ireturn (pc := 12) dX11_stopOf_12 rfl rfl
noncomputable def vX11_miss (b0 : Nat) (x1 : Int32) (x2 : Int32) (x3 : Int32) (h : ea_H) : Int32 := (if (vX9_hasRun b0 (x1 : Int32) (x2 : Int32) h) = (0 : Int32) then (0 : Int32) else (if x3 < (0 : Int32) then (0 : Int32) else (if x3 < ((ea_i h (b0 + 6) (Int32.toNatClampNeg x1)) - (1 : Int32)) then (if (ea_i h (b0 + 10) (Int32.toNatClampNeg (((8 : Int32) * x1) + x3))) = (0 : Int32) then (0 : Int32) else (if (ea_i h (b0 + 12) (Int32.toNatClampNeg (((8 : Int32) * (((10 : Int32) * x2) + x1)) + x3))) = (0 : Int32) then (if (ea_i h (b0 + 0) 11) < (vX9_comesAt b0 (x1 : Int32) (x2 : Int32) (x3 : Int32) h) then (1 : Int32) else (0 : Int32)) else (0 : Int32))) else (0 : Int32))))
noncomputable def wX11_miss (b0 : Nat) (x1 : Int32) (x2 : Int32) (x3 : Int32) (h : ea_H) : ea_H := (if (vX9_hasRun b0 (x1 : Int32) (x2 : Int32) h) = (0 : Int32) then h else (if x3 < (0 : Int32) then h else (if x3 < ((ea_i h (b0 + 6) (Int32.toNatClampNeg x1)) - (1 : Int32)) then (if (ea_i h (b0 + 10) (Int32.toNatClampNeg (((8 : Int32) * x1) + x3))) = (0 : Int32) then h else (if (ea_i h (b0 + 12) (Int32.toNatClampNeg (((8 : Int32) * (((10 : Int32) * x2) + x1)) + x3))) = (0 : Int32) then (if (ea_i h (b0 + 0) 11) < (vX9_comesAt b0 (x1 : Int32) (x2 : Int32) (x3 : Int32) h) then (ea_wi (ea_wi h (b0 + 12) (Int32.toNatClampNeg (((8 : Int32) * (((10 : Int32) * x2) + x1)) + x3)) 1) (b0 + 0) 12 0) else h) else h)) else h)))
def okX11_miss (b0 : Nat) (x1 : Int32) (x2 : Int32) (x3 : Int32) (h : ea_H) : Prop := ((vX9_hasRun b0 (x1 : Int32) (x2 : Int32) h) = (0 : Int32) → True) ∧ (¬ (vX9_hasRun b0 (x1 : Int32) (x2 : Int32) h) = (0 : Int32) → (x3 < (0 : Int32) → True) ∧ (¬ x3 < (0 : Int32) → vp_in x1 10 ∧ ((x3 < ((ea_i h (b0 + 6) (Int32.toNatClampNeg x1)) - (1 : Int32)) → vp_in (((8 : Int32) * x1) + x3) 80 ∧ (((ea_i h (b0 + 10) (Int32.toNatClampNeg (((8 : Int32) * x1) + x3))) = (0 : Int32) → True) ∧ (¬ (ea_i h (b0 + 10) (Int32.toNatClampNeg (((8 : Int32) * x1) + x3))) = (0 : Int32) → vp_in (((8 : Int32) * (((10 : Int32) * x2) + x1)) + x3) 560 ∧ (((ea_i h (b0 + 12) (Int32.toNatClampNeg (((8 : Int32) * (((10 : Int32) * x2) + x1)) + x3))) = (0 : Int32) → (okX9_comesAt b0 (x1 : Int32) (x2 : Int32) (x3 : Int32) h) ∧ (((ea_i h (b0 + 0) 11) < (vX9_comesAt b0 (x1 : Int32) (x2 : Int32) (x3 : Int32) h) → vp_in (((8 : Int32) * (((10 : Int32) * x2) + x1)) + x3) 560) ∧ (¬ (ea_i h (b0 + 0) 11) < (vX9_comesAt b0 (x1 : Int32) (x2 : Int32) (x3 : Int32) h) → True))) ∧ (¬ (ea_i h (b0 + 12) (Int32.toNatClampNeg (((8 : Int32) * (((10 : Int32) * x2) + x1)) + x3))) = (0 : Int32) → True))))) ∧ (¬ x3 < ((ea_i h (b0 + 6) (Int32.toNatClampNeg x1)) - (1 : Int32)) → True))))
theorem bo_vX11_miss (b0 : Nat) (x1 : Int32) (x2 : Int32) (x3 : Int32) (h : ea_H) : vX11_miss b0 x1 x2 x3 h = 0 ∨ vX11_miss b0 x1 x2 x3 h = 1 := (ea_itB (Or.inl rfl) (ea_itB (Or.inl rfl) (ea_itB (ea_itB (Or.inl rfl) (ea_itB (ea_itB (Or.inr rfl) (Or.inl rfl)) (Or.inl rfl))) (Or.inl rfl))))
theorem shX11_miss {b0 : Nat} {x1 : Int32} {x2 : Int32} {x3 : Int32} {h : ea_H} (hs : ShC b0 h) : ShC b0 (wX11_miss b0 x1 x2 x3 h) := (ShC_it hs (ShC_it hs (ShC_it (ShC_it hs (ShC_it (ShC_it (ShC_wi (ShC_wi hs)) hs) hs)) hs)))
theorem sX11_miss {d : Nat} {b0 : Nat} {x1 : Int32} {x2 : Int32} {x3 : Int32} {h : ea_H} (hd : 3 ≤ d) (hs : ShC b0 h) (K : okX11_miss b0 x1 x2 x3 h) : ea_Met mX11_miss d [vR (some (b0 + 0)), vI x1, vI x2, vI x3] h (some (vI (vX11_miss b0 x1 x2 x3 h))) (wX11_miss b0 x1 x2 x3 h) := by
  obtain ⟨X, EX⟩ : ∃ z, z = vX11_miss b0 x1 x2 x3 h := ⟨_, rfl⟩
  rw [← EX]
  unfold vX11_miss at EX
  obtain ⟨Y, EY⟩ : ∃ z, z = wX11_miss b0 x1 x2 x3 h := ⟨_, rfl⟩
  rw [← EY]
  unfold wX11_miss at EY
  unfold okX11_miss at K
  refine ea_enter rfl (Nat.le_of_ble_eq_true rfl) ?_
  refine ea_aload_n (pc := 0) dX11_miss_0 rfl 0 rfl ?_
  refine ea_getR (pc := 1) dX11_miss_1 ec_11 (k := 1) (Nat.le_of_ble_eq_true rfl) rfl (Or.inl ew_438) (hs.1 0 (by decide)).1 (hs.1 0 (by decide)).2.1 (hs.2 0 1 rfl) ?_
  refine ea_iload_n (pc := 4) dX11_miss_4 rfl 1 rfl ?_
  refine ea_iload_n (pc := 5) dX11_miss_5 rfl 2 rfl ?_
  refine ea_callV (pc := 6) (d' := d - 1) (As := [vI x1, vI x2]) (st := []) dX11_miss_6 kX9_hasRun (sX9_hasRun (d := d - 1) (by omega) hs) (by omega) rfl (Nat.le_of_ble_eq_true rfl) ew_542 ew_543 ew_544 (ci := 9) rfl (by decide) (hs.1 5 (by decide)).1 (hs.1 5 (by decide)).2.1 ?_
  refine ea_if_eq (pc := 9) (tgt := 31) dX11_miss_9 rfl (fun c14 => ?_) (fun c14 => ?_)
  · have EX := EX.trans (if_pos c14)
    have EY := EY.trans (if_pos c14)
    refine ea_iconst (pc := 31) dX11_miss_31 (v := 0) rfl ?_
    subst EX
    subst EY
    exact ea_ireturn (pc := 32) dX11_miss_32 rfl (ea_bn (Or.inl rfl))
  · have EX := EX.trans (if_neg c14)
    have EY := EY.trans (if_neg c14)
    have K := K.2 c14
    refine ea_iload_n (pc := 12) dX11_miss_12 rfl 3 rfl ?_
    refine ea_if_lt (pc := 13) (tgt := 31) dX11_miss_13 rfl (fun c13 => ?_) (fun c13 => ?_)
    · have EX := EX.trans (if_pos c13)
      have EY := EY.trans (if_pos c13)
      refine ea_iconst (pc := 31) dX11_miss_31 (v := 0) rfl ?_
      subst EX
      subst EY
      exact ea_ireturn (pc := 32) dX11_miss_32 rfl (ea_bn (Or.inl rfl))
    · have EX := EX.trans (if_neg c13)
      have EY := EY.trans (if_neg c13)
      have K := K.2 c13
      refine ea_iload_n (pc := 16) dX11_miss_16 rfl 3 rfl ?_
      refine ea_aload_n (pc := 17) dX11_miss_17 rfl 0 rfl ?_
      refine ea_getR (pc := 18) dX11_miss_18 ec_11 (k := 1) (Nat.le_of_ble_eq_true rfl) rfl (Or.inl ew_438) (hs.1 0 (by decide)).1 (hs.1 0 (by decide)).2.1 (hs.2 0 1 rfl) ?_
      refine ea_getR (pc := 21) dX11_miss_21 ec_9 (k := 1) (Nat.le_of_ble_eq_true rfl) rfl (Or.inl ew_181) (hs.1 5 (by decide)).1 (hs.1 5 (by decide)).2.1 (hs.2 5 1 rfl) ?_
      refine ea_iload_n (pc := 24) dX11_miss_24 rfl 1 rfl ?_
      obtain ⟨z2, K⟩ := K
      refine ea_iald (pc := 25) dX11_miss_25 (hs.1 6 (by decide)).1 (hs.1 6 (by decide)).2.1 (ea_vpl (hs.1 6 (by decide)).2.2 z2) ?_
      refine ea_iconst (pc := 26) dX11_miss_26 (v := 1) rfl ?_
      refine ea_isub (pc := 27) dX11_miss_27 ?_
      refine ea_icmp_lt (pc := 28) (tgt := 33) dX11_miss_28 rfl (fun c12 => ?_) (fun c12 => ?_)
      · have EX := EX.trans (if_pos c12)
        have EY := EY.trans (if_pos c12)
        have K := K.1 c12
        refine ea_bipush (pc := 33) dX11_miss_33 (v := 8) rfl ?_
        refine ea_bipush (pc := 35) dX11_miss_35 (v := 10) rfl ?_
        refine ea_iload_n (pc := 37) dX11_miss_37 rfl 2 rfl ?_
        refine ea_imul (pc := 38) dX11_miss_38 ?_
        refine ea_iload_n (pc := 39) dX11_miss_39 rfl 1 rfl ?_
        refine ea_iadd (pc := 40) dX11_miss_40 ?_
        refine ea_imul (pc := 41) dX11_miss_41 ?_
        refine ea_iload_n (pc := 42) dX11_miss_42 rfl 3 rfl ?_
        refine ea_iadd (pc := 43) dX11_miss_43 ?_
        refine ea_istore (pc := 44) (lv' := [(0, vR (some (b0 + 0))), (1, vI x1), (2, vI x2), (3, vI x3), (4, vI (((8 : Int32) * (((10 : Int32) * x2) + x1)) + x3))]) dX11_miss_44 (Nat.le_of_ble_eq_true rfl) [1, 2, 3, 4, 0] rfl ?_
        refine ea_aload_n (pc := 46) dX11_miss_46 rfl 0 rfl ?_
        refine ea_getR (pc := 47) dX11_miss_47 ec_11 (k := 1) (Nat.le_of_ble_eq_true rfl) rfl (Or.inl ew_438) (hs.1 0 (by decide)).1 (hs.1 0 (by decide)).2.1 (hs.2 0 1 rfl) ?_
        refine ea_getR (pc := 50) dX11_miss_50 ec_9 (k := 5) (Nat.le_of_ble_eq_true rfl) rfl (Or.inl ew_195) (hs.1 5 (by decide)).1 (hs.1 5 (by decide)).2.1 (hs.2 5 5 rfl) ?_
        refine ea_bipush (pc := 53) dX11_miss_53 (v := 8) rfl ?_
        refine ea_iload_n (pc := 55) dX11_miss_55 rfl 1 rfl ?_
        refine ea_imul (pc := 56) dX11_miss_56 ?_
        refine ea_iload_n (pc := 57) dX11_miss_57 rfl 3 rfl ?_
        refine ea_iadd (pc := 58) dX11_miss_58 ?_
        obtain ⟨z3, K⟩ := K
        refine ea_zald (pc := 59) dX11_miss_59 (hs.1 10 (by decide)).1 (hs.1 10 (by decide)).2.1 (ea_vpl (hs.1 10 (by decide)).2.2 z3) ?_
        refine ea_if_eq (pc := 60) (tgt := 93) dX11_miss_60 rfl (fun c11 => ?_) (fun c11 => ?_)
        · have EX := EX.trans (if_pos c11)
          have EY := EY.trans (if_pos c11)
          refine ea_iconst (pc := 93) dX11_miss_93 (v := 0) rfl ?_
          subst EX
          subst EY
          exact ea_ireturn (pc := 94) dX11_miss_94 rfl (ea_bn (Or.inl rfl))
        · have EX := EX.trans (if_neg c11)
          have EY := EY.trans (if_neg c11)
          have K := K.2 c11
          refine ea_aload_n (pc := 63) dX11_miss_63 rfl 0 rfl ?_
          refine ea_getR (pc := 64) dX11_miss_64 ec_11 (k := 1) (Nat.le_of_ble_eq_true rfl) rfl (Or.inl ew_438) (hs.1 0 (by decide)).1 (hs.1 0 (by decide)).2.1 (hs.2 0 1 rfl) ?_
          refine ea_getR (pc := 67) dX11_miss_67 ec_9 (k := 7) (Nat.le_of_ble_eq_true rfl) rfl (Or.inl ew_199) (hs.1 5 (by decide)).1 (hs.1 5 (by decide)).2.1 (hs.2 5 7 rfl) ?_
          refine ea_iload (pc := 70) dX11_miss_70 4 rfl ?_
          obtain ⟨z4, K⟩ := K
          refine ea_zald (pc := 72) dX11_miss_72 (hs.1 12 (by decide)).1 (hs.1 12 (by decide)).2.1 (ea_vpl (hs.1 12 (by decide)).2.2 z4) ?_
          refine ea_if_ne (pc := 73) (tgt := 93) dX11_miss_73 rfl (fun c10 => ?_) (fun c10 => ?_)
          · have EX := EX.trans (if_neg c10)
            have EY := EY.trans (if_neg c10)
            refine ea_iconst (pc := 93) dX11_miss_93 (v := 0) rfl ?_
            subst EX
            subst EY
            exact ea_ireturn (pc := 94) dX11_miss_94 rfl (ea_bn (Or.inl rfl))
          · have EX := EX.trans (if_pos c10)
            have EY := EY.trans (if_pos c10)
            have K := K.1 c10
            refine ea_aload_n (pc := 76) dX11_miss_76 rfl 0 rfl ?_
            refine ea_getR (pc := 77) dX11_miss_77 ec_11 (k := 1) (Nat.le_of_ble_eq_true rfl) rfl (Or.inl ew_438) (hs.1 0 (by decide)).1 (hs.1 0 (by decide)).2.1 (hs.2 0 1 rfl) ?_
            refine ea_iload_n (pc := 80) dX11_miss_80 rfl 1 rfl ?_
            refine ea_iload_n (pc := 81) dX11_miss_81 rfl 2 rfl ?_
            refine ea_iload_n (pc := 82) dX11_miss_82 rfl 3 rfl ?_
            obtain ⟨z5, K⟩ := K
            refine ea_callV (pc := 83) (d' := d - 1) (As := [vI x1, vI x2, vI x3]) (st := []) dX11_miss_83 kX9_comesAt (sX9_comesAt (d := d - 1) (by omega) hs z5) (by omega) rfl (Nat.le_of_ble_eq_true rfl) ew_551 ew_552 ew_553 (ci := 9) rfl (by decide) (hs.1 5 (by decide)).1 (hs.1 5 (by decide)).2.1 ?_
            refine ea_aload_n (pc := 86) dX11_miss_86 rfl 0 rfl ?_
            refine ea_getI (pc := 87) dX11_miss_87 ec_11 (k := 11) (Nat.le_of_ble_eq_true rfl) rfl (Or.inl ew_448) (hs.1 0 (by decide)).1 (hs.1 0 (by decide)).2.1 ?_
            refine ea_icmp_gt (pc := 90) (tgt := 95) dX11_miss_90 rfl (fun c9 => ?_) (fun c9 => ?_)
            · have EX := EX.trans (if_pos c9)
              have EY := EY.trans (if_pos c9)
              have K := K.1 c9
              refine ea_aload_n (pc := 95) dX11_miss_95 rfl 0 rfl ?_
              refine ea_getR (pc := 96) dX11_miss_96 ec_11 (k := 1) (Nat.le_of_ble_eq_true rfl) rfl (Or.inl ew_438) (hs.1 0 (by decide)).1 (hs.1 0 (by decide)).2.1 (hs.2 0 1 rfl) ?_
              refine ea_getR (pc := 99) dX11_miss_99 ec_9 (k := 7) (Nat.le_of_ble_eq_true rfl) rfl (Or.inl ew_199) (hs.1 5 (by decide)).1 (hs.1 5 (by decide)).2.1 (hs.2 5 7 rfl) ?_
              refine ea_iload (pc := 102) dX11_miss_102 4 rfl ?_
              refine ea_iconst (pc := 104) dX11_miss_104 (v := 1) rfl ?_
              have z6 := K
              refine ea_zast (pc := 105) dX11_miss_105 (y := 1) (ea_bn (Or.inr rfl)) (hs.1 12 (by decide)).1 (hs.1 12 (by decide)).2.1 (ea_vpl (hs.1 12 (by decide)).2.2 z6) ?_
              have hs7 : ShC b0 (ea_wi h (b0 + 12) (Int32.toNatClampNeg (((8 : Int32) * (((10 : Int32) * x2) + x1)) + x3)) 1) := ShC_wi hs
              refine ea_aload_n (pc := 106) dX11_miss_106 rfl 0 rfl ?_
              refine ea_iconst (pc := 107) dX11_miss_107 (v := 0) rfl ?_
              refine ea_putI (pc := 108) dX11_miss_108 ec_11 (k := 12) (Nat.le_of_ble_eq_true rfl) rfl (Or.inl ⟨rfl, Or.inl ew_449⟩) (ea_bn (Or.inl rfl)) (ea_bf (Or.inl rfl)) (hs7.1 0 (by decide)).1 (hs7.1 0 (by decide)).2.1 ?_
              have hs8 : ShC b0 (ea_wi (ea_wi h (b0 + 12) (Int32.toNatClampNeg (((8 : Int32) * (((10 : Int32) * x2) + x1)) + x3)) 1) (b0 + 0) 12 0) := ShC_wi hs7
              refine ea_iconst (pc := 111) dX11_miss_111 (v := 1) rfl ?_
              subst EX
              subst EY
              exact ea_ireturn (pc := 112) dX11_miss_112 rfl (ea_bn (Or.inr rfl))
            · have EX := EX.trans (if_neg c9)
              have EY := EY.trans (if_neg c9)
              refine ea_iconst (pc := 93) dX11_miss_93 (v := 0) rfl ?_
              subst EX
              subst EY
              exact ea_ireturn (pc := 94) dX11_miss_94 rfl (ea_bn (Or.inl rfl))
      · have EX := EX.trans (if_neg c12)
        have EY := EY.trans (if_neg c12)
        refine ea_iconst (pc := 31) dX11_miss_31 (v := 0) rfl ?_
        subst EX
        subst EY
        exact ea_ireturn (pc := 32) dX11_miss_32 rfl (ea_bn (Or.inl rfl))
noncomputable def vX11_feed (b0 : Nat) (x1 : Int32) (x2 : Int32) (x3 : Int32) (x4 : Int32) (x5 : Int32) (h : ea_H) : Int32 := (if ((ea_i h (b0 + 22) 0) + (20 : Int32)) ≤ (600 : Int32) then (ea_i (wX5_take b0 (x5 : Int32) (wX5_take b0 (x4 : Int32) (wX5_take b0 (x3 : Int32) (wX5_take b0 (x2 : Int32) (wX5_take b0 (x1 : Int32) h))))) (b0 + 22) 0) else ((-1) : Int32))
noncomputable def wX11_feed (b0 : Nat) (x1 : Int32) (x2 : Int32) (x3 : Int32) (x4 : Int32) (x5 : Int32) (h : ea_H) : ea_H := (if ((ea_i h (b0 + 22) 0) + (20 : Int32)) ≤ (600 : Int32) then (wX5_take b0 (x5 : Int32) (wX5_take b0 (x4 : Int32) (wX5_take b0 (x3 : Int32) (wX5_take b0 (x2 : Int32) (wX5_take b0 (x1 : Int32) h))))) else h)
def okX11_feed (b0 : Nat) (x1 : Int32) (x2 : Int32) (x3 : Int32) (x4 : Int32) (x5 : Int32) (h : ea_H) : Prop := (((ea_i h (b0 + 22) 0) + (20 : Int32)) ≤ (600 : Int32) → (okX5_take b0 (x1 : Int32) h) ∧ ((okX5_take b0 (x2 : Int32) (wX5_take b0 (x1 : Int32) h)) ∧ ((okX5_take b0 (x3 : Int32) (wX5_take b0 (x2 : Int32) (wX5_take b0 (x1 : Int32) h))) ∧ ((okX5_take b0 (x4 : Int32) (wX5_take b0 (x3 : Int32) (wX5_take b0 (x2 : Int32) (wX5_take b0 (x1 : Int32) h)))) ∧ ((okX5_take b0 (x5 : Int32) (wX5_take b0 (x4 : Int32) (wX5_take b0 (x3 : Int32) (wX5_take b0 (x2 : Int32) (wX5_take b0 (x1 : Int32) h)))))))))) ∧ (¬ ((ea_i h (b0 + 22) 0) + (20 : Int32)) ≤ (600 : Int32) → True)
theorem shX11_feed {b0 : Nat} {x1 : Int32} {x2 : Int32} {x3 : Int32} {x4 : Int32} {x5 : Int32} {h : ea_H} (hs : ShC b0 h) : ShC b0 (wX11_feed b0 x1 x2 x3 x4 x5 h) := (ShC_it (shX5_take (shX5_take (shX5_take (shX5_take (shX5_take hs))))) hs)
theorem sX11_feed {d : Nat} {b0 : Nat} {x1 : Int32} {x2 : Int32} {x3 : Int32} {x4 : Int32} {x5 : Int32} {h : ea_H} (hd : 2 ≤ d) (hs : ShC b0 h) (K : okX11_feed b0 x1 x2 x3 x4 x5 h) : ea_Met mX11_feed d [vR (some (b0 + 0)), vI x1, vI x2, vI x3, vI x4, vI x5] h (some (vI (vX11_feed b0 x1 x2 x3 x4 x5 h))) (wX11_feed b0 x1 x2 x3 x4 x5 h) := by
  obtain ⟨X, EX⟩ : ∃ z, z = vX11_feed b0 x1 x2 x3 x4 x5 h := ⟨_, rfl⟩
  rw [← EX]
  unfold vX11_feed at EX
  obtain ⟨Y, EY⟩ : ∃ z, z = wX11_feed b0 x1 x2 x3 x4 x5 h := ⟨_, rfl⟩
  rw [← EY]
  unfold wX11_feed at EY
  unfold okX11_feed at K
  refine ea_enter rfl (Nat.le_of_ble_eq_true rfl) ?_
  refine ea_aload_n (pc := 0) dX11_feed_0 rfl 0 rfl ?_
  refine ea_getR (pc := 1) dX11_feed_1 ec_11 (k := 4) (Nat.le_of_ble_eq_true rfl) rfl (Or.inl ew_441) (hs.1 0 (by decide)).1 (hs.1 0 (by decide)).2.1 (hs.2 0 4 rfl) ?_
  refine ea_getR (pc := 4) dX11_feed_4 ec_8 (k := 0) (Nat.le_of_ble_eq_true rfl) rfl (Or.inl ew_334) (hs.1 21 (by decide)).1 (hs.1 21 (by decide)).2.1 (hs.2 21 0 rfl) ?_
  refine ea_astore (pc := 7) (lv' := [(1, vI x1), (2, vI x2), (3, vI x3), (4, vI x4), (5, vI x5), (6, vR (some (b0 + 22)))]) dX11_feed_7 (Nat.le_of_ble_eq_true rfl) [2, 3, 4, 5, 6, 0] rfl ?_
  refine ea_aload (pc := 9) dX11_feed_9 5 rfl ?_
  refine ea_getI (pc := 11) dX11_feed_11 ec_5 (k := 0) (Nat.le_of_ble_eq_true rfl) rfl (Or.inl ew_292) (hs.1 22 (by decide)).1 (hs.1 22 (by decide)).2.1 ?_
  refine ea_bipush (pc := 14) dX11_feed_14 (v := 20) rfl ?_
  refine ea_iadd (pc := 16) dX11_feed_16 ?_
  refine ea_sipush (pc := 17) dX11_feed_17 (v := 600) rfl ?_
  refine ea_icmp_le (pc := 20) (tgt := 25) dX11_feed_20 rfl (fun c11 => ?_) (fun c11 => ?_)
  · have EX := EX.trans (if_pos c11)
    have EY := EY.trans (if_pos c11)
    have K := K.1 c11
    refine ea_aload (pc := 25) dX11_feed_25 5 rfl ?_
    refine ea_iload_n (pc := 27) dX11_feed_27 rfl 0 rfl ?_
    obtain ⟨z1, K⟩ := K
    refine ea_callV (pc := 28) (d' := d - 1) (As := [vI x1]) (st := []) dX11_feed_28 kX5_take (sX5_take (d := d - 1) (by omega) hs z1) (by omega) rfl (Nat.le_of_ble_eq_true rfl) ew_733 ew_734 ew_735 (ci := 5) rfl (by decide) (hs.1 22 (by decide)).1 (hs.1 22 (by decide)).2.1 ?_
    have hs2 : ShC b0 (wX5_take b0 (x1 : Int32) h) := shX5_take hs
    refine ea_aload (pc := 31) dX11_feed_31 5 rfl ?_
    refine ea_iload_n (pc := 33) dX11_feed_33 rfl 1 rfl ?_
    obtain ⟨z3, K⟩ := K
    refine ea_callV (pc := 34) (d' := d - 1) (As := [vI x2]) (st := []) dX11_feed_34 kX5_take (sX5_take (d := d - 1) (by omega) hs2 z3) (by omega) rfl (Nat.le_of_ble_eq_true rfl) ew_733 ew_734 ew_735 (ci := 5) rfl (by decide) (hs2.1 22 (by decide)).1 (hs2.1 22 (by decide)).2.1 ?_
    have hs4 : ShC b0 (wX5_take b0 (x2 : Int32) (wX5_take b0 (x1 : Int32) h)) := shX5_take hs2
    refine ea_aload (pc := 37) dX11_feed_37 5 rfl ?_
    refine ea_iload_n (pc := 39) dX11_feed_39 rfl 2 rfl ?_
    obtain ⟨z5, K⟩ := K
    refine ea_callV (pc := 40) (d' := d - 1) (As := [vI x3]) (st := []) dX11_feed_40 kX5_take (sX5_take (d := d - 1) (by omega) hs4 z5) (by omega) rfl (Nat.le_of_ble_eq_true rfl) ew_733 ew_734 ew_735 (ci := 5) rfl (by decide) (hs4.1 22 (by decide)).1 (hs4.1 22 (by decide)).2.1 ?_
    have hs6 : ShC b0 (wX5_take b0 (x3 : Int32) (wX5_take b0 (x2 : Int32) (wX5_take b0 (x1 : Int32) h))) := shX5_take hs4
    refine ea_aload (pc := 43) dX11_feed_43 5 rfl ?_
    refine ea_iload (pc := 45) dX11_feed_45 3 rfl ?_
    obtain ⟨z7, K⟩ := K
    refine ea_callV (pc := 47) (d' := d - 1) (As := [vI x4]) (st := []) dX11_feed_47 kX5_take (sX5_take (d := d - 1) (by omega) hs6 z7) (by omega) rfl (Nat.le_of_ble_eq_true rfl) ew_733 ew_734 ew_735 (ci := 5) rfl (by decide) (hs6.1 22 (by decide)).1 (hs6.1 22 (by decide)).2.1 ?_
    have hs8 : ShC b0 (wX5_take b0 (x4 : Int32) (wX5_take b0 (x3 : Int32) (wX5_take b0 (x2 : Int32) (wX5_take b0 (x1 : Int32) h)))) := shX5_take hs6
    refine ea_aload (pc := 50) dX11_feed_50 5 rfl ?_
    refine ea_iload (pc := 52) dX11_feed_52 4 rfl ?_
    have z9 := K
    refine ea_callV (pc := 54) (d' := d - 1) (As := [vI x5]) (st := []) dX11_feed_54 kX5_take (sX5_take (d := d - 1) (by omega) hs8 z9) (by omega) rfl (Nat.le_of_ble_eq_true rfl) ew_733 ew_734 ew_735 (ci := 5) rfl (by decide) (hs8.1 22 (by decide)).1 (hs8.1 22 (by decide)).2.1 ?_
    have hs10 : ShC b0 (wX5_take b0 (x5 : Int32) (wX5_take b0 (x4 : Int32) (wX5_take b0 (x3 : Int32) (wX5_take b0 (x2 : Int32) (wX5_take b0 (x1 : Int32) h))))) := shX5_take hs8
    refine ea_aload (pc := 57) dX11_feed_57 5 rfl ?_
    refine ea_getI (pc := 59) dX11_feed_59 ec_5 (k := 0) (Nat.le_of_ble_eq_true rfl) rfl (Or.inl ew_292) (hs10.1 22 (by decide)).1 (hs10.1 22 (by decide)).2.1 ?_
    subst EX
    subst EY
    exact ea_ireturn (pc := 62) dX11_feed_62 rfl rfl
  · have EX := EX.trans (if_neg c11)
    have EY := EY.trans (if_neg c11)
    refine ea_iconst (pc := 23) dX11_feed_23 (v := (-1)) rfl ?_
    subst EX
    subst EY
    exact ea_ireturn (pc := 24) dX11_feed_24 rfl rfl
noncomputable def vX11_inForce (b0 : Nat) (x1 : Int32) (x2 : Int32) (h : ea_H) : Int32 := (if x1 < (0 : Int32) then ((-1) : Int32) else (if x1 < (7 : Int32) then (if (vX8_actOf b0 ((vX8_numberOn b0 (x1 : Int32) h) : Int32) (wX8_numberOn b0 (x1 : Int32) h)) = none then ((-1) : Int32) else (if Int32.toInt x2 = 0 then (vX8_numberOn b0 (x1 : Int32) h) else (if Int32.toInt x2 = 1 then (ea_i (wX8_numberOn b0 (x1 : Int32) h) (Option.getD (vX8_actOf b0 ((vX8_numberOn b0 (x1 : Int32) h) : Int32) (wX8_numberOn b0 (x1 : Int32) h)) 0) 1) else (if Int32.toInt x2 = 2 then (ea_i (wX8_numberOn b0 (x1 : Int32) h) (Option.getD (vX8_actOf b0 ((vX8_numberOn b0 (x1 : Int32) h) : Int32) (wX8_numberOn b0 (x1 : Int32) h)) 0) 2) else (if Int32.toInt x2 = 3 then (ea_i (wX8_numberOn b0 (x1 : Int32) h) (Option.getD (vX8_actOf b0 ((vX8_numberOn b0 (x1 : Int32) h) : Int32) (wX8_numberOn b0 (x1 : Int32) h)) 0) 3) else (if Int32.toInt x2 = 4 then (ea_i (wX8_numberOn b0 (x1 : Int32) h) (Option.getD (vX8_actOf b0 ((vX8_numberOn b0 (x1 : Int32) h) : Int32) (wX8_numberOn b0 (x1 : Int32) h)) 0) 4) else (if Int32.toInt x2 = 5 then (ea_i (wX8_numberOn b0 (x1 : Int32) h) (Option.getD (vX8_actOf b0 ((vX8_numberOn b0 (x1 : Int32) h) : Int32) (wX8_numberOn b0 (x1 : Int32) h)) 0) 5) else (if Int32.toInt x2 = 6 then (ea_i (wX8_numberOn b0 (x1 : Int32) h) (Option.getD (vX8_actOf b0 ((vX8_numberOn b0 (x1 : Int32) h) : Int32) (wX8_numberOn b0 (x1 : Int32) h)) 0) 6) else (if Int32.toInt x2 = 7 then (ea_i (wX8_numberOn b0 (x1 : Int32) h) (Option.getD (vX8_actOf b0 ((vX8_numberOn b0 (x1 : Int32) h) : Int32) (wX8_numberOn b0 (x1 : Int32) h)) 0) 7) else ((-1) : Int32)))))))))) else ((-1) : Int32)))
noncomputable def wX11_inForce (b0 : Nat) (x1 : Int32) (x2 : Int32) (h : ea_H) : ea_H := (if x1 < (0 : Int32) then h else (if x1 < (7 : Int32) then (wX8_numberOn b0 (x1 : Int32) h) else h))
def okX11_inForce (b0 : Nat) (x1 : Int32) (x2 : Int32) (h : ea_H) : Prop := (x1 < (0 : Int32) → True) ∧ (¬ x1 < (0 : Int32) → (x1 < (7 : Int32) → (okX8_numberOn b0 (x1 : Int32) h) ∧ ((okX8_actOf b0 ((vX8_numberOn b0 (x1 : Int32) h) : Int32) (wX8_numberOn b0 (x1 : Int32) h)) ∧ (((vX8_actOf b0 ((vX8_numberOn b0 (x1 : Int32) h) : Int32) (wX8_numberOn b0 (x1 : Int32) h)) = none → True) ∧ (¬ (vX8_actOf b0 ((vX8_numberOn b0 (x1 : Int32) h) : Int32) (wX8_numberOn b0 (x1 : Int32) h)) = none → (Int32.toInt x2 = 0 → True) ∧ (¬ Int32.toInt x2 = 0 → (Int32.toInt x2 = 1 → (vX8_actOf b0 ((vX8_numberOn b0 (x1 : Int32) h) : Int32) (wX8_numberOn b0 (x1 : Int32) h)) = some (Option.getD (vX8_actOf b0 ((vX8_numberOn b0 (x1 : Int32) h) : Int32) (wX8_numberOn b0 (x1 : Int32) h)) 0) ∧ (((Option.getD (vX8_actOf b0 ((vX8_numberOn b0 (x1 : Int32) h) : Int32) (wX8_numberOn b0 (x1 : Int32) h)) 0) < ea_n (wX8_numberOn b0 (x1 : Int32) h) ∧ ea_c (wX8_numberOn b0 (x1 : Int32) h) (Option.getD (vX8_actOf b0 ((vX8_numberOn b0 (x1 : Int32) h) : Int32) (wX8_numberOn b0 (x1 : Int32) h)) 0) = 0))) ∧ (¬ Int32.toInt x2 = 1 → (Int32.toInt x2 = 2 → (vX8_actOf b0 ((vX8_numberOn b0 (x1 : Int32) h) : Int32) (wX8_numberOn b0 (x1 : Int32) h)) = some (Option.getD (vX8_actOf b0 ((vX8_numberOn b0 (x1 : Int32) h) : Int32) (wX8_numberOn b0 (x1 : Int32) h)) 0) ∧ (((Option.getD (vX8_actOf b0 ((vX8_numberOn b0 (x1 : Int32) h) : Int32) (wX8_numberOn b0 (x1 : Int32) h)) 0) < ea_n (wX8_numberOn b0 (x1 : Int32) h) ∧ ea_c (wX8_numberOn b0 (x1 : Int32) h) (Option.getD (vX8_actOf b0 ((vX8_numberOn b0 (x1 : Int32) h) : Int32) (wX8_numberOn b0 (x1 : Int32) h)) 0) = 0))) ∧ (¬ Int32.toInt x2 = 2 → (Int32.toInt x2 = 3 → (vX8_actOf b0 ((vX8_numberOn b0 (x1 : Int32) h) : Int32) (wX8_numberOn b0 (x1 : Int32) h)) = some (Option.getD (vX8_actOf b0 ((vX8_numberOn b0 (x1 : Int32) h) : Int32) (wX8_numberOn b0 (x1 : Int32) h)) 0) ∧ (((Option.getD (vX8_actOf b0 ((vX8_numberOn b0 (x1 : Int32) h) : Int32) (wX8_numberOn b0 (x1 : Int32) h)) 0) < ea_n (wX8_numberOn b0 (x1 : Int32) h) ∧ ea_c (wX8_numberOn b0 (x1 : Int32) h) (Option.getD (vX8_actOf b0 ((vX8_numberOn b0 (x1 : Int32) h) : Int32) (wX8_numberOn b0 (x1 : Int32) h)) 0) = 0))) ∧ (¬ Int32.toInt x2 = 3 → (Int32.toInt x2 = 4 → (vX8_actOf b0 ((vX8_numberOn b0 (x1 : Int32) h) : Int32) (wX8_numberOn b0 (x1 : Int32) h)) = some (Option.getD (vX8_actOf b0 ((vX8_numberOn b0 (x1 : Int32) h) : Int32) (wX8_numberOn b0 (x1 : Int32) h)) 0) ∧ (((Option.getD (vX8_actOf b0 ((vX8_numberOn b0 (x1 : Int32) h) : Int32) (wX8_numberOn b0 (x1 : Int32) h)) 0) < ea_n (wX8_numberOn b0 (x1 : Int32) h) ∧ ea_c (wX8_numberOn b0 (x1 : Int32) h) (Option.getD (vX8_actOf b0 ((vX8_numberOn b0 (x1 : Int32) h) : Int32) (wX8_numberOn b0 (x1 : Int32) h)) 0) = 0))) ∧ (¬ Int32.toInt x2 = 4 → (Int32.toInt x2 = 5 → (vX8_actOf b0 ((vX8_numberOn b0 (x1 : Int32) h) : Int32) (wX8_numberOn b0 (x1 : Int32) h)) = some (Option.getD (vX8_actOf b0 ((vX8_numberOn b0 (x1 : Int32) h) : Int32) (wX8_numberOn b0 (x1 : Int32) h)) 0) ∧ (((Option.getD (vX8_actOf b0 ((vX8_numberOn b0 (x1 : Int32) h) : Int32) (wX8_numberOn b0 (x1 : Int32) h)) 0) < ea_n (wX8_numberOn b0 (x1 : Int32) h) ∧ ea_c (wX8_numberOn b0 (x1 : Int32) h) (Option.getD (vX8_actOf b0 ((vX8_numberOn b0 (x1 : Int32) h) : Int32) (wX8_numberOn b0 (x1 : Int32) h)) 0) = 0))) ∧ (¬ Int32.toInt x2 = 5 → (Int32.toInt x2 = 6 → (vX8_actOf b0 ((vX8_numberOn b0 (x1 : Int32) h) : Int32) (wX8_numberOn b0 (x1 : Int32) h)) = some (Option.getD (vX8_actOf b0 ((vX8_numberOn b0 (x1 : Int32) h) : Int32) (wX8_numberOn b0 (x1 : Int32) h)) 0) ∧ (((Option.getD (vX8_actOf b0 ((vX8_numberOn b0 (x1 : Int32) h) : Int32) (wX8_numberOn b0 (x1 : Int32) h)) 0) < ea_n (wX8_numberOn b0 (x1 : Int32) h) ∧ ea_c (wX8_numberOn b0 (x1 : Int32) h) (Option.getD (vX8_actOf b0 ((vX8_numberOn b0 (x1 : Int32) h) : Int32) (wX8_numberOn b0 (x1 : Int32) h)) 0) = 0))) ∧ (¬ Int32.toInt x2 = 6 → (Int32.toInt x2 = 7 → (vX8_actOf b0 ((vX8_numberOn b0 (x1 : Int32) h) : Int32) (wX8_numberOn b0 (x1 : Int32) h)) = some (Option.getD (vX8_actOf b0 ((vX8_numberOn b0 (x1 : Int32) h) : Int32) (wX8_numberOn b0 (x1 : Int32) h)) 0) ∧ (((Option.getD (vX8_actOf b0 ((vX8_numberOn b0 (x1 : Int32) h) : Int32) (wX8_numberOn b0 (x1 : Int32) h)) 0) < ea_n (wX8_numberOn b0 (x1 : Int32) h) ∧ ea_c (wX8_numberOn b0 (x1 : Int32) h) (Option.getD (vX8_actOf b0 ((vX8_numberOn b0 (x1 : Int32) h) : Int32) (wX8_numberOn b0 (x1 : Int32) h)) 0) = 0))) ∧ (¬ Int32.toInt x2 = 7 → True)))))))))))) ∧ (¬ x1 < (7 : Int32) → True))
theorem shX11_inForce {b0 : Nat} {x1 : Int32} {x2 : Int32} {h : ea_H} (hs : ShC b0 h) : ShC b0 (wX11_inForce b0 x1 x2 h) := (ShC_it hs (ShC_it (shX8_numberOn hs) hs))
theorem sX11_inForce {d : Nat} {b0 : Nat} {x1 : Int32} {x2 : Int32} {h : ea_H} (hd : 2 ≤ d) (hs : ShC b0 h) (K : okX11_inForce b0 x1 x2 h) : ea_Met mX11_inForce d [vR (some (b0 + 0)), vI x1, vI x2] h (some (vI (vX11_inForce b0 x1 x2 h))) (wX11_inForce b0 x1 x2 h) := by
  obtain ⟨X, EX⟩ : ∃ z, z = vX11_inForce b0 x1 x2 h := ⟨_, rfl⟩
  rw [← EX]
  unfold vX11_inForce at EX
  obtain ⟨Y, EY⟩ : ∃ z, z = wX11_inForce b0 x1 x2 h := ⟨_, rfl⟩
  rw [← EY]
  unfold wX11_inForce at EY
  unfold okX11_inForce at K
  refine ea_enter rfl (Nat.le_of_ble_eq_true rfl) ?_
  refine ea_iload_n (pc := 0) dX11_inForce_0 rfl 1 rfl ?_
  refine ea_if_lt (pc := 1) (tgt := 10) dX11_inForce_1 rfl (fun c21 => ?_) (fun c21 => ?_)
  · have EX := EX.trans (if_pos c21)
    have EY := EY.trans (if_pos c21)
    refine ea_iconst (pc := 10) dX11_inForce_10 (v := (-1)) rfl ?_
    subst EX
    subst EY
    exact ea_ireturn (pc := 11) dX11_inForce_11 rfl rfl
  · have EX := EX.trans (if_neg c21)
    have EY := EY.trans (if_neg c21)
    have K := K.2 c21
    refine ea_iload_n (pc := 4) dX11_inForce_4 rfl 1 rfl ?_
    refine ea_bipush (pc := 5) dX11_inForce_5 (v := 7) rfl ?_
    refine ea_icmp_lt (pc := 7) (tgt := 12) dX11_inForce_7 rfl (fun c20 => ?_) (fun c20 => ?_)
    · have EX := EX.trans (if_pos c20)
      have EY := EY.trans (if_pos c20)
      have K := K.1 c20
      refine ea_aload_n (pc := 12) dX11_inForce_12 rfl 0 rfl ?_
      refine ea_getR (pc := 13) dX11_inForce_13 ec_11 (k := 4) (Nat.le_of_ble_eq_true rfl) rfl (Or.inl ew_441) (hs.1 0 (by decide)).1 (hs.1 0 (by decide)).2.1 (hs.2 0 4 rfl) ?_
      refine ea_iload_n (pc := 16) dX11_inForce_16 rfl 1 rfl ?_
      obtain ⟨z1, K⟩ := K
      refine ea_callV (pc := 17) (d' := d - 1) (As := [vI x1]) (st := []) dX11_inForce_17 kX8_numberOn (sX8_numberOn (d := d - 1) (by omega) hs z1) (by omega) rfl (Nat.le_of_ble_eq_true rfl) ew_916 ew_917 ew_918 (ci := 8) rfl (by decide) (hs.1 21 (by decide)).1 (hs.1 21 (by decide)).2.1 ?_
      have hs2 : ShC b0 (wX8_numberOn b0 (x1 : Int32) h) := shX8_numberOn hs
      refine ea_istore_n (pc := 20) (lv' := [(0, vR (some (b0 + 0))), (2, vI x2), (3, vI (vX8_numberOn b0 (x1 : Int32) h))]) dX11_inForce_20 rfl (Nat.le_of_ble_eq_true rfl) [1, 3, 0] rfl ?_
      refine ea_aload_n (pc := 21) dX11_inForce_21 rfl 0 rfl ?_
      refine ea_getR (pc := 22) dX11_inForce_22 ec_11 (k := 4) (Nat.le_of_ble_eq_true rfl) rfl (Or.inl ew_441) (hs2.1 0 (by decide)).1 (hs2.1 0 (by decide)).2.1 (hs2.2 0 4 rfl) ?_
      refine ea_iload_n (pc := 25) dX11_inForce_25 rfl 2 rfl ?_
      obtain ⟨z3, K⟩ := K
      refine ea_callV (pc := 26) (d' := d - 1) (As := [vI (vX8_numberOn b0 (x1 : Int32) h)]) (st := []) dX11_inForce_26 kX8_actOf (sX8_actOf (d := d - 1) (by omega) hs2 z3) (by omega) rfl (Nat.le_of_ble_eq_true rfl) ew_920 ew_921 ew_922 (ci := 8) rfl (by decide) (hs2.1 21 (by decide)).1 (hs2.1 21 (by decide)).2.1 ?_
      refine ea_astore (pc := 29) (lv' := [(2, vI x2), (3, vI (vX8_numberOn b0 (x1 : Int32) h)), (4, vR (vX8_actOf b0 ((vX8_numberOn b0 (x1 : Int32) h) : Int32) (wX8_numberOn b0 (x1 : Int32) h)))]) dX11_inForce_29 (Nat.le_of_ble_eq_true rfl) [2, 3, 0] rfl ?_
      refine ea_aload (pc := 31) dX11_inForce_31 2 rfl ?_
      refine ea_ifnonnull (pc := 33) (tgt := 38) dX11_inForce_33 rfl (fun a19 c18 => ?_) (fun c18 => ?_)
      · have c18n : ¬ (vX8_actOf b0 ((vX8_numberOn b0 (x1 : Int32) h) : Int32) (wX8_numberOn b0 (x1 : Int32) h)) = none := by rw [c18]; exact fun q => nomatch q
        have EX := EX.trans (if_neg c18n)
        have K := K.2 c18n
        refine ea_iload_n (pc := 38) dX11_inForce_38 rfl 0 rfl ?_
        by_cases qc39_0 : Int32.toInt x2 = 0
        · have EX := EX.trans (if_pos qc39_0)
          have K := K.1 qc39_0
          refine ea_tswIn (pc := 39) (tgt := 84) dX11_inForce_39 (by rw [qc39_0]; decide) (by rw [qc39_0]; decide) (by rw [qc39_0]; rfl) rfl ?_
          refine ea_iload_n (pc := 84) dX11_inForce_84 rfl 1 rfl ?_
          subst EX
          subst EY
          exact ea_ireturn (pc := 85) dX11_inForce_85 rfl rfl
        have EX := EX.trans (if_neg qc39_0)
        have K := K.2 qc39_0
        by_cases qc39_1 : Int32.toInt x2 = 1
        · have EX := EX.trans (if_pos qc39_1)
          have K := K.1 qc39_1
          refine ea_tswIn (pc := 39) (tgt := 86) dX11_inForce_39 (by rw [qc39_1]; decide) (by rw [qc39_1]; decide) (by rw [qc39_1]; rfl) rfl ?_
          refine ea_aload (pc := 86) dX11_inForce_86 2 rfl ?_
          obtain ⟨e4, f5⟩ := K
          refine ea_deref0 e4 ?_
          refine ea_getI (pc := 88) dX11_inForce_88 ec_0 (k := 1) (Nat.le_of_ble_eq_true rfl) rfl (Or.inl ew_795) f5.1 f5.2 ?_
          subst EX
          subst EY
          exact ea_ireturn (pc := 91) dX11_inForce_91 rfl rfl
        have EX := EX.trans (if_neg qc39_1)
        have K := K.2 qc39_1
        by_cases qc39_2 : Int32.toInt x2 = 2
        · have EX := EX.trans (if_pos qc39_2)
          have K := K.1 qc39_2
          refine ea_tswIn (pc := 39) (tgt := 92) dX11_inForce_39 (by rw [qc39_2]; decide) (by rw [qc39_2]; decide) (by rw [qc39_2]; rfl) rfl ?_
          refine ea_aload (pc := 92) dX11_inForce_92 2 rfl ?_
          obtain ⟨e6, f7⟩ := K
          refine ea_deref0 e6 ?_
          refine ea_getI (pc := 94) dX11_inForce_94 ec_0 (k := 2) (Nat.le_of_ble_eq_true rfl) rfl (Or.inl ew_798) f7.1 f7.2 ?_
          subst EX
          subst EY
          exact ea_ireturn (pc := 97) dX11_inForce_97 rfl rfl
        have EX := EX.trans (if_neg qc39_2)
        have K := K.2 qc39_2
        by_cases qc39_3 : Int32.toInt x2 = 3
        · have EX := EX.trans (if_pos qc39_3)
          have K := K.1 qc39_3
          refine ea_tswIn (pc := 39) (tgt := 98) dX11_inForce_39 (by rw [qc39_3]; decide) (by rw [qc39_3]; decide) (by rw [qc39_3]; rfl) rfl ?_
          refine ea_aload (pc := 98) dX11_inForce_98 2 rfl ?_
          obtain ⟨e8, f9⟩ := K
          refine ea_deref0 e8 ?_
          refine ea_getI (pc := 100) dX11_inForce_100 ec_0 (k := 3) (Nat.le_of_ble_eq_true rfl) rfl (Or.inl ew_802) f9.1 f9.2 ?_
          subst EX
          subst EY
          exact ea_ireturn (pc := 103) dX11_inForce_103 rfl rfl
        have EX := EX.trans (if_neg qc39_3)
        have K := K.2 qc39_3
        by_cases qc39_4 : Int32.toInt x2 = 4
        · have EX := EX.trans (if_pos qc39_4)
          have K := K.1 qc39_4
          refine ea_tswIn (pc := 39) (tgt := 104) dX11_inForce_39 (by rw [qc39_4]; decide) (by rw [qc39_4]; decide) (by rw [qc39_4]; rfl) rfl ?_
          refine ea_aload (pc := 104) dX11_inForce_104 2 rfl ?_
          obtain ⟨e10, f11⟩ := K
          refine ea_deref0 e10 ?_
          refine ea_getI (pc := 106) dX11_inForce_106 ec_0 (k := 4) (Nat.le_of_ble_eq_true rfl) rfl (Or.inl ew_805) f11.1 f11.2 ?_
          subst EX
          subst EY
          exact ea_ireturn (pc := 109) dX11_inForce_109 rfl rfl
        have EX := EX.trans (if_neg qc39_4)
        have K := K.2 qc39_4
        by_cases qc39_5 : Int32.toInt x2 = 5
        · have EX := EX.trans (if_pos qc39_5)
          have K := K.1 qc39_5
          refine ea_tswIn (pc := 39) (tgt := 110) dX11_inForce_39 (by rw [qc39_5]; decide) (by rw [qc39_5]; decide) (by rw [qc39_5]; rfl) rfl ?_
          refine ea_aload (pc := 110) dX11_inForce_110 2 rfl ?_
          obtain ⟨e12, f13⟩ := K
          refine ea_deref0 e12 ?_
          refine ea_getI (pc := 112) dX11_inForce_112 ec_0 (k := 5) (Nat.le_of_ble_eq_true rfl) rfl (Or.inl ew_808) f13.1 f13.2 ?_
          subst EX
          subst EY
          exact ea_ireturn (pc := 115) dX11_inForce_115 rfl rfl
        have EX := EX.trans (if_neg qc39_5)
        have K := K.2 qc39_5
        by_cases qc39_6 : Int32.toInt x2 = 6
        · have EX := EX.trans (if_pos qc39_6)
          have K := K.1 qc39_6
          refine ea_tswIn (pc := 39) (tgt := 116) dX11_inForce_39 (by rw [qc39_6]; decide) (by rw [qc39_6]; decide) (by rw [qc39_6]; rfl) rfl ?_
          refine ea_aload (pc := 116) dX11_inForce_116 2 rfl ?_
          obtain ⟨e14, f15⟩ := K
          refine ea_deref0 e14 ?_
          refine ea_getI (pc := 118) dX11_inForce_118 ec_0 (k := 6) (Nat.le_of_ble_eq_true rfl) rfl (Or.inl ew_811) f15.1 f15.2 ?_
          subst EX
          subst EY
          exact ea_ireturn (pc := 121) dX11_inForce_121 rfl rfl
        have EX := EX.trans (if_neg qc39_6)
        have K := K.2 qc39_6
        by_cases qc39_7 : Int32.toInt x2 = 7
        · have EX := EX.trans (if_pos qc39_7)
          have K := K.1 qc39_7
          refine ea_tswIn (pc := 39) (tgt := 122) dX11_inForce_39 (by rw [qc39_7]; decide) (by rw [qc39_7]; decide) (by rw [qc39_7]; rfl) rfl ?_
          refine ea_aload (pc := 122) dX11_inForce_122 2 rfl ?_
          obtain ⟨e16, f17⟩ := K
          refine ea_deref0 e16 ?_
          refine ea_getI (pc := 124) dX11_inForce_124 ec_0 (k := 7) (Nat.le_of_ble_eq_true rfl) rfl (Or.inl ew_815) f17.1 f17.2 ?_
          subst EX
          subst EY
          exact ea_ireturn (pc := 127) dX11_inForce_127 rfl rfl
        have EX := EX.trans (if_neg qc39_7)
        have K := K.2 qc39_7
        refine ea_tswOut (pc := 39) (tgt := 128) dX11_inForce_39 (ec_sw_0_7 qc39_0 qc39_1 qc39_2 qc39_3 qc39_4 qc39_5 qc39_6 qc39_7) rfl ?_
        refine ea_iconst (pc := 128) dX11_inForce_128 (v := (-1)) rfl ?_
        subst EX
        subst EY
        exact ea_ireturn (pc := 129) dX11_inForce_129 rfl rfl
      · have EX := EX.trans (if_pos c18)
        refine ea_iconst (pc := 36) dX11_inForce_36 (v := (-1)) rfl ?_
        subst EX
        subst EY
        exact ea_ireturn (pc := 37) dX11_inForce_37 rfl rfl
    · have EX := EX.trans (if_neg c20)
      have EY := EY.trans (if_neg c20)
      refine ea_iconst (pc := 10) dX11_inForce_10 (v := (-1)) rfl ?_
      subst EX
      subst EY
      exact ea_ireturn (pc := 11) dX11_inForce_11 rfl rfl
noncomputable def vX11_of (b0 : Nat) (x1 : Int32) (x2 : Int32) (h : ea_H) : Int32 := (if (vX11_letterOf b0 (x1 : Int32) h) = none then ((-1) : Int32) else (if (ea_i h (b0 + 33) (Int32.toNatClampNeg x1)) = (1 : Int32) then (if Int32.toInt x2 = 0 then (ea_i h (Option.getD (vX11_letterOf b0 (x1 : Int32) h) 0) 0) else (if Int32.toInt x2 = 1 then (ea_i h (Option.getD (vX11_letterOf b0 (x1 : Int32) h) 0) 1) else (if Int32.toInt x2 = 2 then (ea_i h (Option.getD (vX11_letterOf b0 (x1 : Int32) h) 0) 2) else (if Int32.toInt x2 = 3 then (ea_i h (Option.getD (vX11_letterOf b0 (x1 : Int32) h) 0) 3) else (if Int32.toInt x2 = 4 then (ea_i h (Option.getD (vX11_letterOf b0 (x1 : Int32) h) 0) 4) else (if Int32.toInt x2 = 5 then (ea_i h (Option.getD (vX11_letterOf b0 (x1 : Int32) h) 0) 5) else (if Int32.toInt x2 = 6 then (ea_i h (Option.getD (vX11_letterOf b0 (x1 : Int32) h) 0) 6) else (if Int32.toInt x2 = 7 then (ea_i h (b0 + 33) (Int32.toNatClampNeg x1)) else (if Int32.toInt x2 = 8 then (ea_i h (b0 + 34) (Int32.toNatClampNeg x1)) else (if Int32.toInt x2 = 9 then (if (ea_i h (Option.getD (vX11_letterOf b0 (x1 : Int32) h) 0) 8) = (0 : Int32) then (0 : Int32) else (1 : Int32)) else (if Int32.toInt x2 = 10 then (if (1 : Int32) = (0 : Int32) then (0 : Int32) else (if (ea_i h (b0 + 37) (Int32.toNatClampNeg x1)) = (0 : Int32) then (0 : Int32) else (1 : Int32))) else (if Int32.toInt x2 = 11 then (if (1 : Int32) = (0 : Int32) then ((-1) : Int32) else (ea_i h (b0 + 35) (Int32.toNatClampNeg x1))) else (if Int32.toInt x2 = 12 then (ea_i h (b0 + 36) (Int32.toNatClampNeg x1)) else ((-1) : Int32)))))))))))))) else (if Int32.toInt x2 = 0 then (ea_i h (Option.getD (vX11_letterOf b0 (x1 : Int32) h) 0) 0) else (if Int32.toInt x2 = 1 then (ea_i h (Option.getD (vX11_letterOf b0 (x1 : Int32) h) 0) 1) else (if Int32.toInt x2 = 2 then (ea_i h (Option.getD (vX11_letterOf b0 (x1 : Int32) h) 0) 2) else (if Int32.toInt x2 = 3 then (ea_i h (Option.getD (vX11_letterOf b0 (x1 : Int32) h) 0) 3) else (if Int32.toInt x2 = 4 then (ea_i h (Option.getD (vX11_letterOf b0 (x1 : Int32) h) 0) 4) else (if Int32.toInt x2 = 5 then (ea_i h (Option.getD (vX11_letterOf b0 (x1 : Int32) h) 0) 5) else (if Int32.toInt x2 = 6 then (ea_i h (Option.getD (vX11_letterOf b0 (x1 : Int32) h) 0) 6) else (if Int32.toInt x2 = 7 then (ea_i h (b0 + 33) (Int32.toNatClampNeg x1)) else (if Int32.toInt x2 = 8 then (ea_i h (b0 + 34) (Int32.toNatClampNeg x1)) else (if Int32.toInt x2 = 9 then (if (ea_i h (Option.getD (vX11_letterOf b0 (x1 : Int32) h) 0) 8) = (0 : Int32) then (0 : Int32) else (1 : Int32)) else (if Int32.toInt x2 = 10 then (if (0 : Int32) = (0 : Int32) then (0 : Int32) else (if (ea_i h (b0 + 37) (Int32.toNatClampNeg x1)) = (0 : Int32) then (0 : Int32) else (1 : Int32))) else (if Int32.toInt x2 = 11 then (if (0 : Int32) = (0 : Int32) then ((-1) : Int32) else (ea_i h (b0 + 35) (Int32.toNatClampNeg x1))) else (if Int32.toInt x2 = 12 then (ea_i h (b0 + 36) (Int32.toNatClampNeg x1)) else ((-1) : Int32))))))))))))))))
def okX11_of (b0 : Nat) (x1 : Int32) (x2 : Int32) (h : ea_H) : Prop := (okX11_letterOf b0 (x1 : Int32) h) ∧ (((vX11_letterOf b0 (x1 : Int32) h) = none → True) ∧ (¬ (vX11_letterOf b0 (x1 : Int32) h) = none → vp_in x1 120 ∧ (((ea_i h (b0 + 33) (Int32.toNatClampNeg x1)) = (1 : Int32) → (Int32.toInt x2 = 0 → (vX11_letterOf b0 (x1 : Int32) h) = some (Option.getD (vX11_letterOf b0 (x1 : Int32) h) 0) ∧ (((Option.getD (vX11_letterOf b0 (x1 : Int32) h) 0) < ea_n h ∧ ea_c h (Option.getD (vX11_letterOf b0 (x1 : Int32) h) 0) = 4))) ∧ (¬ Int32.toInt x2 = 0 → (Int32.toInt x2 = 1 → (vX11_letterOf b0 (x1 : Int32) h) = some (Option.getD (vX11_letterOf b0 (x1 : Int32) h) 0) ∧ (((Option.getD (vX11_letterOf b0 (x1 : Int32) h) 0) < ea_n h ∧ ea_c h (Option.getD (vX11_letterOf b0 (x1 : Int32) h) 0) = 4))) ∧ (¬ Int32.toInt x2 = 1 → (Int32.toInt x2 = 2 → (vX11_letterOf b0 (x1 : Int32) h) = some (Option.getD (vX11_letterOf b0 (x1 : Int32) h) 0) ∧ (((Option.getD (vX11_letterOf b0 (x1 : Int32) h) 0) < ea_n h ∧ ea_c h (Option.getD (vX11_letterOf b0 (x1 : Int32) h) 0) = 4))) ∧ (¬ Int32.toInt x2 = 2 → (Int32.toInt x2 = 3 → (vX11_letterOf b0 (x1 : Int32) h) = some (Option.getD (vX11_letterOf b0 (x1 : Int32) h) 0) ∧ (((Option.getD (vX11_letterOf b0 (x1 : Int32) h) 0) < ea_n h ∧ ea_c h (Option.getD (vX11_letterOf b0 (x1 : Int32) h) 0) = 4))) ∧ (¬ Int32.toInt x2 = 3 → (Int32.toInt x2 = 4 → (vX11_letterOf b0 (x1 : Int32) h) = some (Option.getD (vX11_letterOf b0 (x1 : Int32) h) 0) ∧ (((Option.getD (vX11_letterOf b0 (x1 : Int32) h) 0) < ea_n h ∧ ea_c h (Option.getD (vX11_letterOf b0 (x1 : Int32) h) 0) = 4))) ∧ (¬ Int32.toInt x2 = 4 → (Int32.toInt x2 = 5 → (vX11_letterOf b0 (x1 : Int32) h) = some (Option.getD (vX11_letterOf b0 (x1 : Int32) h) 0) ∧ (((Option.getD (vX11_letterOf b0 (x1 : Int32) h) 0) < ea_n h ∧ ea_c h (Option.getD (vX11_letterOf b0 (x1 : Int32) h) 0) = 4))) ∧ (¬ Int32.toInt x2 = 5 → (Int32.toInt x2 = 6 → (vX11_letterOf b0 (x1 : Int32) h) = some (Option.getD (vX11_letterOf b0 (x1 : Int32) h) 0) ∧ (((Option.getD (vX11_letterOf b0 (x1 : Int32) h) 0) < ea_n h ∧ ea_c h (Option.getD (vX11_letterOf b0 (x1 : Int32) h) 0) = 4))) ∧ (¬ Int32.toInt x2 = 6 → (Int32.toInt x2 = 7 → vp_in x1 120) ∧ (¬ Int32.toInt x2 = 7 → (Int32.toInt x2 = 8 → vp_in x1 120) ∧ (¬ Int32.toInt x2 = 8 → (Int32.toInt x2 = 9 → (vX11_letterOf b0 (x1 : Int32) h) = some (Option.getD (vX11_letterOf b0 (x1 : Int32) h) 0) ∧ (((Option.getD (vX11_letterOf b0 (x1 : Int32) h) 0) < ea_n h ∧ ea_c h (Option.getD (vX11_letterOf b0 (x1 : Int32) h) 0) = 4))) ∧ (¬ Int32.toInt x2 = 9 → (Int32.toInt x2 = 10 → ((1 : Int32) = (0 : Int32) → True) ∧ (¬ (1 : Int32) = (0 : Int32) → vp_in x1 120)) ∧ (¬ Int32.toInt x2 = 10 → (Int32.toInt x2 = 11 → ((1 : Int32) = (0 : Int32) → True) ∧ (¬ (1 : Int32) = (0 : Int32) → vp_in x1 120)) ∧ (¬ Int32.toInt x2 = 11 → (Int32.toInt x2 = 12 → vp_in x1 120) ∧ (¬ Int32.toInt x2 = 12 → True)))))))))))))) ∧ (¬ (ea_i h (b0 + 33) (Int32.toNatClampNeg x1)) = (1 : Int32) → (Int32.toInt x2 = 0 → (vX11_letterOf b0 (x1 : Int32) h) = some (Option.getD (vX11_letterOf b0 (x1 : Int32) h) 0) ∧ (((Option.getD (vX11_letterOf b0 (x1 : Int32) h) 0) < ea_n h ∧ ea_c h (Option.getD (vX11_letterOf b0 (x1 : Int32) h) 0) = 4))) ∧ (¬ Int32.toInt x2 = 0 → (Int32.toInt x2 = 1 → (vX11_letterOf b0 (x1 : Int32) h) = some (Option.getD (vX11_letterOf b0 (x1 : Int32) h) 0) ∧ (((Option.getD (vX11_letterOf b0 (x1 : Int32) h) 0) < ea_n h ∧ ea_c h (Option.getD (vX11_letterOf b0 (x1 : Int32) h) 0) = 4))) ∧ (¬ Int32.toInt x2 = 1 → (Int32.toInt x2 = 2 → (vX11_letterOf b0 (x1 : Int32) h) = some (Option.getD (vX11_letterOf b0 (x1 : Int32) h) 0) ∧ (((Option.getD (vX11_letterOf b0 (x1 : Int32) h) 0) < ea_n h ∧ ea_c h (Option.getD (vX11_letterOf b0 (x1 : Int32) h) 0) = 4))) ∧ (¬ Int32.toInt x2 = 2 → (Int32.toInt x2 = 3 → (vX11_letterOf b0 (x1 : Int32) h) = some (Option.getD (vX11_letterOf b0 (x1 : Int32) h) 0) ∧ (((Option.getD (vX11_letterOf b0 (x1 : Int32) h) 0) < ea_n h ∧ ea_c h (Option.getD (vX11_letterOf b0 (x1 : Int32) h) 0) = 4))) ∧ (¬ Int32.toInt x2 = 3 → (Int32.toInt x2 = 4 → (vX11_letterOf b0 (x1 : Int32) h) = some (Option.getD (vX11_letterOf b0 (x1 : Int32) h) 0) ∧ (((Option.getD (vX11_letterOf b0 (x1 : Int32) h) 0) < ea_n h ∧ ea_c h (Option.getD (vX11_letterOf b0 (x1 : Int32) h) 0) = 4))) ∧ (¬ Int32.toInt x2 = 4 → (Int32.toInt x2 = 5 → (vX11_letterOf b0 (x1 : Int32) h) = some (Option.getD (vX11_letterOf b0 (x1 : Int32) h) 0) ∧ (((Option.getD (vX11_letterOf b0 (x1 : Int32) h) 0) < ea_n h ∧ ea_c h (Option.getD (vX11_letterOf b0 (x1 : Int32) h) 0) = 4))) ∧ (¬ Int32.toInt x2 = 5 → (Int32.toInt x2 = 6 → (vX11_letterOf b0 (x1 : Int32) h) = some (Option.getD (vX11_letterOf b0 (x1 : Int32) h) 0) ∧ (((Option.getD (vX11_letterOf b0 (x1 : Int32) h) 0) < ea_n h ∧ ea_c h (Option.getD (vX11_letterOf b0 (x1 : Int32) h) 0) = 4))) ∧ (¬ Int32.toInt x2 = 6 → (Int32.toInt x2 = 7 → vp_in x1 120) ∧ (¬ Int32.toInt x2 = 7 → (Int32.toInt x2 = 8 → vp_in x1 120) ∧ (¬ Int32.toInt x2 = 8 → (Int32.toInt x2 = 9 → (vX11_letterOf b0 (x1 : Int32) h) = some (Option.getD (vX11_letterOf b0 (x1 : Int32) h) 0) ∧ (((Option.getD (vX11_letterOf b0 (x1 : Int32) h) 0) < ea_n h ∧ ea_c h (Option.getD (vX11_letterOf b0 (x1 : Int32) h) 0) = 4))) ∧ (¬ Int32.toInt x2 = 9 → (Int32.toInt x2 = 10 → ((0 : Int32) = (0 : Int32) → True) ∧ (¬ (0 : Int32) = (0 : Int32) → vp_in x1 120)) ∧ (¬ Int32.toInt x2 = 10 → (Int32.toInt x2 = 11 → ((0 : Int32) = (0 : Int32) → True) ∧ (¬ (0 : Int32) = (0 : Int32) → vp_in x1 120)) ∧ (¬ Int32.toInt x2 = 11 → (Int32.toInt x2 = 12 → vp_in x1 120) ∧ (¬ Int32.toInt x2 = 12 → True)))))))))))))))))
theorem sX11_of {d : Nat} {b0 : Nat} {x1 : Int32} {x2 : Int32} {h : ea_H} (hd : 2 ≤ d) (hs : ShC b0 h) (K : okX11_of b0 x1 x2 h) : ea_Met mX11_of d [vR (some (b0 + 0)), vI x1, vI x2] h (some (vI (vX11_of b0 x1 x2 h))) h := by
  obtain ⟨X, EX⟩ : ∃ z, z = vX11_of b0 x1 x2 h := ⟨_, rfl⟩
  rw [← EX]
  unfold vX11_of at EX
  unfold okX11_of at K
  refine ea_enter rfl (Nat.le_of_ble_eq_true rfl) ?_
  refine ea_aload_n (pc := 0) dX11_of_0 rfl 0 rfl ?_
  refine ea_iload_n (pc := 1) dX11_of_1 rfl 1 rfl ?_
  obtain ⟨z1, K⟩ := K
  refine ea_callV (pc := 2) (d' := d - 1) (As := [vI x1]) (st := []) dX11_of_2 kX11_letterOf (sX11_letterOf (d := d - 1) (by omega) hs z1) (by omega) rfl (Nat.le_of_ble_eq_true rfl) ew_1076 ew_1078 ew_37 (ci := 11) rfl (by decide) (hs.1 0 (by decide)).1 (hs.1 0 (by decide)).2.1 ?_
  refine ea_astore_n (pc := 5) (lv' := [(0, vR (some (b0 + 0))), (1, vI x1), (2, vI x2), (3, vR (vX11_letterOf b0 (x1 : Int32) h))]) dX11_of_5 rfl (Nat.le_of_ble_eq_true rfl) [1, 2, 3, 0] rfl ?_
  refine ea_aload_n (pc := 6) dX11_of_6 rfl 3 rfl ?_
  refine ea_ifnonnull (pc := 7) (tgt := 12) dX11_of_7 rfl (fun a55 c54 => ?_) (fun c54 => ?_)
  · have c54n : ¬ (vX11_letterOf b0 (x1 : Int32) h) = none := by rw [c54]; exact fun q => nomatch q
    have EX := EX.trans (if_neg c54n)
    have K := K.2 c54n
    refine ea_aload_n (pc := 12) dX11_of_12 rfl 0 rfl ?_
    refine ea_getR (pc := 13) dX11_of_13 ec_11 (k := 6) (Nat.le_of_ble_eq_true rfl) rfl (Or.inl ew_443) (hs.1 0 (by decide)).1 (hs.1 0 (by decide)).2.1 (hs.2 0 6 rfl) ?_
    refine ea_getR (pc := 16) dX11_of_16 ec_1 (k := 1) (Nat.le_of_ble_eq_true rfl) rfl (Or.inl ew_362) (hs.1 32 (by decide)).1 (hs.1 32 (by decide)).2.1 (hs.2 32 1 rfl) ?_
    refine ea_iload_n (pc := 19) dX11_of_19 rfl 1 rfl ?_
    obtain ⟨z2, K⟩ := K
    refine ea_iald (pc := 20) dX11_of_20 (hs.1 33 (by decide)).1 (hs.1 33 (by decide)).2.1 (ea_vpl (hs.1 33 (by decide)).2.2 z2) ?_
    refine ea_iconst (pc := 21) dX11_of_21 (v := 1) rfl ?_
    refine ea_icmp_ne (pc := 22) (tgt := 29) dX11_of_22 rfl (fun c53 => ?_) (fun c53 => ?_)
    · have EX := EX.trans (if_neg c53)
      have K := K.2 c53
      refine ea_iconst (pc := 29) dX11_of_29 (v := 0) rfl ?_
      refine ea_istore (pc := 30) (lv' := [(0, vR (some (b0 + 0))), (1, vI x1), (2, vI x2), (3, vR (vX11_letterOf b0 (x1 : Int32) h)), (4, vI 0)]) dX11_of_30 (Nat.le_of_ble_eq_true rfl) [1, 2, 3, 4, 0] rfl ?_
      refine ea_iload_n (pc := 32) dX11_of_32 rfl 2 rfl ?_
      by_cases qc33_0 : Int32.toInt x2 = 0
      · have EX := EX.trans (if_pos qc33_0)
        have K := K.1 qc33_0
        refine ea_tswIn (pc := 33) (tgt := 100) dX11_of_33 (by rw [qc33_0]; decide) (by rw [qc33_0]; decide) (by rw [qc33_0]; rfl) rfl ?_
        refine ea_aload_n (pc := 100) dX11_of_100 rfl 3 rfl ?_
        obtain ⟨e3, f4⟩ := K
        refine ea_deref0 e3 ?_
        refine ea_getI (pc := 101) dX11_of_101 ec_4 (k := 0) (Nat.le_of_ble_eq_true rfl) rfl (Or.inl ew_935) f4.1 f4.2 ?_
        subst EX
        exact ea_ireturn (pc := 104) dX11_of_104 rfl rfl
      have EX := EX.trans (if_neg qc33_0)
      have K := K.2 qc33_0
      by_cases qc33_1 : Int32.toInt x2 = 1
      · have EX := EX.trans (if_pos qc33_1)
        have K := K.1 qc33_1
        refine ea_tswIn (pc := 33) (tgt := 105) dX11_of_33 (by rw [qc33_1]; decide) (by rw [qc33_1]; decide) (by rw [qc33_1]; rfl) rfl ?_
        refine ea_aload_n (pc := 105) dX11_of_105 rfl 3 rfl ?_
        obtain ⟨e5, f6⟩ := K
        refine ea_deref0 e5 ?_
        refine ea_getI (pc := 106) dX11_of_106 ec_4 (k := 1) (Nat.le_of_ble_eq_true rfl) rfl (Or.inl ew_937) f6.1 f6.2 ?_
        subst EX
        exact ea_ireturn (pc := 109) dX11_of_109 rfl rfl
      have EX := EX.trans (if_neg qc33_1)
      have K := K.2 qc33_1
      by_cases qc33_2 : Int32.toInt x2 = 2
      · have EX := EX.trans (if_pos qc33_2)
        have K := K.1 qc33_2
        refine ea_tswIn (pc := 33) (tgt := 110) dX11_of_33 (by rw [qc33_2]; decide) (by rw [qc33_2]; decide) (by rw [qc33_2]; rfl) rfl ?_
        refine ea_aload_n (pc := 110) dX11_of_110 rfl 3 rfl ?_
        obtain ⟨e7, f8⟩ := K
        refine ea_deref0 e7 ?_
        refine ea_getI (pc := 111) dX11_of_111 ec_4 (k := 2) (Nat.le_of_ble_eq_true rfl) rfl (Or.inl ew_940) f8.1 f8.2 ?_
        subst EX
        exact ea_ireturn (pc := 114) dX11_of_114 rfl rfl
      have EX := EX.trans (if_neg qc33_2)
      have K := K.2 qc33_2
      by_cases qc33_3 : Int32.toInt x2 = 3
      · have EX := EX.trans (if_pos qc33_3)
        have K := K.1 qc33_3
        refine ea_tswIn (pc := 33) (tgt := 115) dX11_of_33 (by rw [qc33_3]; decide) (by rw [qc33_3]; decide) (by rw [qc33_3]; rfl) rfl ?_
        refine ea_aload_n (pc := 115) dX11_of_115 rfl 3 rfl ?_
        obtain ⟨e9, f10⟩ := K
        refine ea_deref0 e9 ?_
        refine ea_getI (pc := 116) dX11_of_116 ec_4 (k := 3) (Nat.le_of_ble_eq_true rfl) rfl (Or.inl ew_943) f10.1 f10.2 ?_
        subst EX
        exact ea_ireturn (pc := 119) dX11_of_119 rfl rfl
      have EX := EX.trans (if_neg qc33_3)
      have K := K.2 qc33_3
      by_cases qc33_4 : Int32.toInt x2 = 4
      · have EX := EX.trans (if_pos qc33_4)
        have K := K.1 qc33_4
        refine ea_tswIn (pc := 33) (tgt := 120) dX11_of_33 (by rw [qc33_4]; decide) (by rw [qc33_4]; decide) (by rw [qc33_4]; rfl) rfl ?_
        refine ea_aload_n (pc := 120) dX11_of_120 rfl 3 rfl ?_
        obtain ⟨e11, f12⟩ := K
        refine ea_deref0 e11 ?_
        refine ea_getI (pc := 121) dX11_of_121 ec_4 (k := 4) (Nat.le_of_ble_eq_true rfl) rfl (Or.inl ew_946) f12.1 f12.2 ?_
        subst EX
        exact ea_ireturn (pc := 124) dX11_of_124 rfl rfl
      have EX := EX.trans (if_neg qc33_4)
      have K := K.2 qc33_4
      by_cases qc33_5 : Int32.toInt x2 = 5
      · have EX := EX.trans (if_pos qc33_5)
        have K := K.1 qc33_5
        refine ea_tswIn (pc := 33) (tgt := 125) dX11_of_33 (by rw [qc33_5]; decide) (by rw [qc33_5]; decide) (by rw [qc33_5]; rfl) rfl ?_
        refine ea_aload_n (pc := 125) dX11_of_125 rfl 3 rfl ?_
        obtain ⟨e13, f14⟩ := K
        refine ea_deref0 e13 ?_
        refine ea_getI (pc := 126) dX11_of_126 ec_4 (k := 5) (Nat.le_of_ble_eq_true rfl) rfl (Or.inl ew_948) f14.1 f14.2 ?_
        subst EX
        exact ea_ireturn (pc := 129) dX11_of_129 rfl rfl
      have EX := EX.trans (if_neg qc33_5)
      have K := K.2 qc33_5
      by_cases qc33_6 : Int32.toInt x2 = 6
      · have EX := EX.trans (if_pos qc33_6)
        have K := K.1 qc33_6
        refine ea_tswIn (pc := 33) (tgt := 130) dX11_of_33 (by rw [qc33_6]; decide) (by rw [qc33_6]; decide) (by rw [qc33_6]; rfl) rfl ?_
        refine ea_aload_n (pc := 130) dX11_of_130 rfl 3 rfl ?_
        obtain ⟨e15, f16⟩ := K
        refine ea_deref0 e15 ?_
        refine ea_getI (pc := 131) dX11_of_131 ec_4 (k := 6) (Nat.le_of_ble_eq_true rfl) rfl (Or.inl ew_951) f16.1 f16.2 ?_
        subst EX
        exact ea_ireturn (pc := 134) dX11_of_134 rfl rfl
      have EX := EX.trans (if_neg qc33_6)
      have K := K.2 qc33_6
      by_cases qc33_7 : Int32.toInt x2 = 7
      · have EX := EX.trans (if_pos qc33_7)
        have K := K.1 qc33_7
        refine ea_tswIn (pc := 33) (tgt := 135) dX11_of_33 (by rw [qc33_7]; decide) (by rw [qc33_7]; decide) (by rw [qc33_7]; rfl) rfl ?_
        refine ea_aload_n (pc := 135) dX11_of_135 rfl 0 rfl ?_
        refine ea_getR (pc := 136) dX11_of_136 ec_11 (k := 6) (Nat.le_of_ble_eq_true rfl) rfl (Or.inl ew_443) (hs.1 0 (by decide)).1 (hs.1 0 (by decide)).2.1 (hs.2 0 6 rfl) ?_
        refine ea_getR (pc := 139) dX11_of_139 ec_1 (k := 1) (Nat.le_of_ble_eq_true rfl) rfl (Or.inl ew_362) (hs.1 32 (by decide)).1 (hs.1 32 (by decide)).2.1 (hs.2 32 1 rfl) ?_
        refine ea_iload_n (pc := 142) dX11_of_142 rfl 1 rfl ?_
        have z17 := K
        refine ea_iald (pc := 143) dX11_of_143 (hs.1 33 (by decide)).1 (hs.1 33 (by decide)).2.1 (ea_vpl (hs.1 33 (by decide)).2.2 z17) ?_
        subst EX
        exact ea_ireturn (pc := 144) dX11_of_144 rfl rfl
      have EX := EX.trans (if_neg qc33_7)
      have K := K.2 qc33_7
      by_cases qc33_8 : Int32.toInt x2 = 8
      · have EX := EX.trans (if_pos qc33_8)
        have K := K.1 qc33_8
        refine ea_tswIn (pc := 33) (tgt := 145) dX11_of_33 (by rw [qc33_8]; decide) (by rw [qc33_8]; decide) (by rw [qc33_8]; rfl) rfl ?_
        refine ea_aload_n (pc := 145) dX11_of_145 rfl 0 rfl ?_
        refine ea_getR (pc := 146) dX11_of_146 ec_11 (k := 6) (Nat.le_of_ble_eq_true rfl) rfl (Or.inl ew_443) (hs.1 0 (by decide)).1 (hs.1 0 (by decide)).2.1 (hs.2 0 6 rfl) ?_
        refine ea_getR (pc := 149) dX11_of_149 ec_1 (k := 2) (Nat.le_of_ble_eq_true rfl) rfl (Or.inl ew_364) (hs.1 32 (by decide)).1 (hs.1 32 (by decide)).2.1 (hs.2 32 2 rfl) ?_
        refine ea_iload_n (pc := 152) dX11_of_152 rfl 1 rfl ?_
        have z18 := K
        refine ea_iald (pc := 153) dX11_of_153 (hs.1 34 (by decide)).1 (hs.1 34 (by decide)).2.1 (ea_vpl (hs.1 34 (by decide)).2.2 z18) ?_
        subst EX
        exact ea_ireturn (pc := 154) dX11_of_154 rfl rfl
      have EX := EX.trans (if_neg qc33_8)
      have K := K.2 qc33_8
      by_cases qc33_9 : Int32.toInt x2 = 9
      · have EX := EX.trans (if_pos qc33_9)
        have K := K.1 qc33_9
        refine ea_tswIn (pc := 33) (tgt := 155) dX11_of_33 (by rw [qc33_9]; decide) (by rw [qc33_9]; decide) (by rw [qc33_9]; rfl) rfl ?_
        refine ea_aload_n (pc := 155) dX11_of_155 rfl 3 rfl ?_
        obtain ⟨e19, f20⟩ := K
        refine ea_deref0 e19 ?_
        refine ea_getI (pc := 156) dX11_of_156 ec_4 (k := 8) (Nat.le_of_ble_eq_true rfl) rfl (Or.inl ew_955) f20.1 f20.2 ?_
        refine ea_if_eq (pc := 159) (tgt := 166) dX11_of_159 rfl (fun c21 => ?_) (fun c21 => ?_)
        · have EX := EX.trans (if_pos c21)
          refine ea_iconst (pc := 166) dX11_of_166 (v := 0) rfl ?_
          subst EX
          exact ea_ireturn (pc := 167) dX11_of_167 rfl rfl
        · have EX := EX.trans (if_neg c21)
          refine ea_iconst (pc := 162) dX11_of_162 (v := 1) rfl ?_
          refine ea_goto (pc := 163) (tgt := 167) dX11_of_163 rfl ?_
          subst EX
          exact ea_ireturn (pc := 167) dX11_of_167 rfl rfl
      have EX := EX.trans (if_neg qc33_9)
      have K := K.2 qc33_9
      by_cases qc33_10 : Int32.toInt x2 = 10
      · have EX := EX.trans (if_pos qc33_10)
        have K := K.1 qc33_10
        refine ea_tswIn (pc := 33) (tgt := 168) dX11_of_33 (by rw [qc33_10]; decide) (by rw [qc33_10]; decide) (by rw [qc33_10]; rfl) rfl ?_
        refine ea_iload (pc := 168) dX11_of_168 4 rfl ?_
        refine ea_if_eq (pc := 170) (tgt := 189) dX11_of_170 rfl (fun c24 => ?_) (fun c24 => ?_)
        · have EX := EX.trans (if_pos c24)
          refine ea_iconst (pc := 189) dX11_of_189 (v := 0) rfl ?_
          subst EX
          exact ea_ireturn (pc := 190) dX11_of_190 rfl rfl
        · have EX := EX.trans (if_neg c24)
          have K := K.2 c24
          refine ea_aload_n (pc := 173) dX11_of_173 rfl 0 rfl ?_
          refine ea_getR (pc := 174) dX11_of_174 ec_11 (k := 6) (Nat.le_of_ble_eq_true rfl) rfl (Or.inl ew_443) (hs.1 0 (by decide)).1 (hs.1 0 (by decide)).2.1 (hs.2 0 6 rfl) ?_
          refine ea_getR (pc := 177) dX11_of_177 ec_1 (k := 5) (Nat.le_of_ble_eq_true rfl) rfl (Or.inl ew_370) (hs.1 32 (by decide)).1 (hs.1 32 (by decide)).2.1 (hs.2 32 5 rfl) ?_
          refine ea_iload_n (pc := 180) dX11_of_180 rfl 1 rfl ?_
          have z22 := K
          refine ea_zald (pc := 181) dX11_of_181 (hs.1 37 (by decide)).1 (hs.1 37 (by decide)).2.1 (ea_vpl (hs.1 37 (by decide)).2.2 z22) ?_
          refine ea_if_eq (pc := 182) (tgt := 189) dX11_of_182 rfl (fun c23 => ?_) (fun c23 => ?_)
          · have EX := EX.trans (if_pos c23)
            refine ea_iconst (pc := 189) dX11_of_189 (v := 0) rfl ?_
            subst EX
            exact ea_ireturn (pc := 190) dX11_of_190 rfl rfl
          · have EX := EX.trans (if_neg c23)
            refine ea_iconst (pc := 185) dX11_of_185 (v := 1) rfl ?_
            refine ea_goto (pc := 186) (tgt := 190) dX11_of_186 rfl ?_
            subst EX
            exact ea_ireturn (pc := 190) dX11_of_190 rfl rfl
      have EX := EX.trans (if_neg qc33_10)
      have K := K.2 qc33_10
      by_cases qc33_11 : Int32.toInt x2 = 11
      · have EX := EX.trans (if_pos qc33_11)
        have K := K.1 qc33_11
        refine ea_tswIn (pc := 33) (tgt := 191) dX11_of_33 (by rw [qc33_11]; decide) (by rw [qc33_11]; decide) (by rw [qc33_11]; rfl) rfl ?_
        refine ea_iload (pc := 191) dX11_of_191 4 rfl ?_
        refine ea_if_eq (pc := 193) (tgt := 208) dX11_of_193 rfl (fun c26 => ?_) (fun c26 => ?_)
        · have EX := EX.trans (if_pos c26)
          refine ea_iconst (pc := 208) dX11_of_208 (v := (-1)) rfl ?_
          subst EX
          exact ea_ireturn (pc := 209) dX11_of_209 rfl rfl
        · have EX := EX.trans (if_neg c26)
          have K := K.2 c26
          refine ea_aload_n (pc := 196) dX11_of_196 rfl 0 rfl ?_
          refine ea_getR (pc := 197) dX11_of_197 ec_11 (k := 6) (Nat.le_of_ble_eq_true rfl) rfl (Or.inl ew_443) (hs.1 0 (by decide)).1 (hs.1 0 (by decide)).2.1 (hs.2 0 6 rfl) ?_
          refine ea_getR (pc := 200) dX11_of_200 ec_1 (k := 3) (Nat.le_of_ble_eq_true rfl) rfl (Or.inl ew_366) (hs.1 32 (by decide)).1 (hs.1 32 (by decide)).2.1 (hs.2 32 3 rfl) ?_
          refine ea_iload_n (pc := 203) dX11_of_203 rfl 1 rfl ?_
          have z25 := K
          refine ea_iald (pc := 204) dX11_of_204 (hs.1 35 (by decide)).1 (hs.1 35 (by decide)).2.1 (ea_vpl (hs.1 35 (by decide)).2.2 z25) ?_
          refine ea_goto (pc := 205) (tgt := 209) dX11_of_205 rfl ?_
          subst EX
          exact ea_ireturn (pc := 209) dX11_of_209 rfl rfl
      have EX := EX.trans (if_neg qc33_11)
      have K := K.2 qc33_11
      by_cases qc33_12 : Int32.toInt x2 = 12
      · have EX := EX.trans (if_pos qc33_12)
        have K := K.1 qc33_12
        refine ea_tswIn (pc := 33) (tgt := 210) dX11_of_33 (by rw [qc33_12]; decide) (by rw [qc33_12]; decide) (by rw [qc33_12]; rfl) rfl ?_
        refine ea_aload_n (pc := 210) dX11_of_210 rfl 0 rfl ?_
        refine ea_getR (pc := 211) dX11_of_211 ec_11 (k := 6) (Nat.le_of_ble_eq_true rfl) rfl (Or.inl ew_443) (hs.1 0 (by decide)).1 (hs.1 0 (by decide)).2.1 (hs.2 0 6 rfl) ?_
        refine ea_getR (pc := 214) dX11_of_214 ec_1 (k := 4) (Nat.le_of_ble_eq_true rfl) rfl (Or.inl ew_368) (hs.1 32 (by decide)).1 (hs.1 32 (by decide)).2.1 (hs.2 32 4 rfl) ?_
        refine ea_iload_n (pc := 217) dX11_of_217 rfl 1 rfl ?_
        have z27 := K
        refine ea_iald (pc := 218) dX11_of_218 (hs.1 36 (by decide)).1 (hs.1 36 (by decide)).2.1 (ea_vpl (hs.1 36 (by decide)).2.2 z27) ?_
        subst EX
        exact ea_ireturn (pc := 219) dX11_of_219 rfl rfl
      have EX := EX.trans (if_neg qc33_12)
      have K := K.2 qc33_12
      refine ea_tswOut (pc := 33) (tgt := 220) dX11_of_33 (ec_sw_0_12 qc33_0 qc33_1 qc33_2 qc33_3 qc33_4 qc33_5 qc33_6 qc33_7 qc33_8 qc33_9 qc33_10 qc33_11 qc33_12) rfl ?_
      refine ea_iconst (pc := 220) dX11_of_220 (v := (-1)) rfl ?_
      subst EX
      exact ea_ireturn (pc := 221) dX11_of_221 rfl rfl
    · have EX := EX.trans (if_pos c53)
      have K := K.1 c53
      refine ea_iconst (pc := 25) dX11_of_25 (v := 1) rfl ?_
      refine ea_goto (pc := 26) (tgt := 30) dX11_of_26 rfl ?_
      refine ea_istore (pc := 30) (lv' := [(0, vR (some (b0 + 0))), (1, vI x1), (2, vI x2), (3, vR (vX11_letterOf b0 (x1 : Int32) h)), (4, vI 1)]) dX11_of_30 (Nat.le_of_ble_eq_true rfl) [1, 2, 3, 4, 0] rfl ?_
      refine ea_iload_n (pc := 32) dX11_of_32 rfl 2 rfl ?_
      by_cases qc33_0 : Int32.toInt x2 = 0
      · have EX := EX.trans (if_pos qc33_0)
        have K := K.1 qc33_0
        refine ea_tswIn (pc := 33) (tgt := 100) dX11_of_33 (by rw [qc33_0]; decide) (by rw [qc33_0]; decide) (by rw [qc33_0]; rfl) rfl ?_
        refine ea_aload_n (pc := 100) dX11_of_100 rfl 3 rfl ?_
        obtain ⟨e28, f29⟩ := K
        refine ea_deref0 e28 ?_
        refine ea_getI (pc := 101) dX11_of_101 ec_4 (k := 0) (Nat.le_of_ble_eq_true rfl) rfl (Or.inl ew_935) f29.1 f29.2 ?_
        subst EX
        exact ea_ireturn (pc := 104) dX11_of_104 rfl rfl
      have EX := EX.trans (if_neg qc33_0)
      have K := K.2 qc33_0
      by_cases qc33_1 : Int32.toInt x2 = 1
      · have EX := EX.trans (if_pos qc33_1)
        have K := K.1 qc33_1
        refine ea_tswIn (pc := 33) (tgt := 105) dX11_of_33 (by rw [qc33_1]; decide) (by rw [qc33_1]; decide) (by rw [qc33_1]; rfl) rfl ?_
        refine ea_aload_n (pc := 105) dX11_of_105 rfl 3 rfl ?_
        obtain ⟨e30, f31⟩ := K
        refine ea_deref0 e30 ?_
        refine ea_getI (pc := 106) dX11_of_106 ec_4 (k := 1) (Nat.le_of_ble_eq_true rfl) rfl (Or.inl ew_937) f31.1 f31.2 ?_
        subst EX
        exact ea_ireturn (pc := 109) dX11_of_109 rfl rfl
      have EX := EX.trans (if_neg qc33_1)
      have K := K.2 qc33_1
      by_cases qc33_2 : Int32.toInt x2 = 2
      · have EX := EX.trans (if_pos qc33_2)
        have K := K.1 qc33_2
        refine ea_tswIn (pc := 33) (tgt := 110) dX11_of_33 (by rw [qc33_2]; decide) (by rw [qc33_2]; decide) (by rw [qc33_2]; rfl) rfl ?_
        refine ea_aload_n (pc := 110) dX11_of_110 rfl 3 rfl ?_
        obtain ⟨e32, f33⟩ := K
        refine ea_deref0 e32 ?_
        refine ea_getI (pc := 111) dX11_of_111 ec_4 (k := 2) (Nat.le_of_ble_eq_true rfl) rfl (Or.inl ew_940) f33.1 f33.2 ?_
        subst EX
        exact ea_ireturn (pc := 114) dX11_of_114 rfl rfl
      have EX := EX.trans (if_neg qc33_2)
      have K := K.2 qc33_2
      by_cases qc33_3 : Int32.toInt x2 = 3
      · have EX := EX.trans (if_pos qc33_3)
        have K := K.1 qc33_3
        refine ea_tswIn (pc := 33) (tgt := 115) dX11_of_33 (by rw [qc33_3]; decide) (by rw [qc33_3]; decide) (by rw [qc33_3]; rfl) rfl ?_
        refine ea_aload_n (pc := 115) dX11_of_115 rfl 3 rfl ?_
        obtain ⟨e34, f35⟩ := K
        refine ea_deref0 e34 ?_
        refine ea_getI (pc := 116) dX11_of_116 ec_4 (k := 3) (Nat.le_of_ble_eq_true rfl) rfl (Or.inl ew_943) f35.1 f35.2 ?_
        subst EX
        exact ea_ireturn (pc := 119) dX11_of_119 rfl rfl
      have EX := EX.trans (if_neg qc33_3)
      have K := K.2 qc33_3
      by_cases qc33_4 : Int32.toInt x2 = 4
      · have EX := EX.trans (if_pos qc33_4)
        have K := K.1 qc33_4
        refine ea_tswIn (pc := 33) (tgt := 120) dX11_of_33 (by rw [qc33_4]; decide) (by rw [qc33_4]; decide) (by rw [qc33_4]; rfl) rfl ?_
        refine ea_aload_n (pc := 120) dX11_of_120 rfl 3 rfl ?_
        obtain ⟨e36, f37⟩ := K
        refine ea_deref0 e36 ?_
        refine ea_getI (pc := 121) dX11_of_121 ec_4 (k := 4) (Nat.le_of_ble_eq_true rfl) rfl (Or.inl ew_946) f37.1 f37.2 ?_
        subst EX
        exact ea_ireturn (pc := 124) dX11_of_124 rfl rfl
      have EX := EX.trans (if_neg qc33_4)
      have K := K.2 qc33_4
      by_cases qc33_5 : Int32.toInt x2 = 5
      · have EX := EX.trans (if_pos qc33_5)
        have K := K.1 qc33_5
        refine ea_tswIn (pc := 33) (tgt := 125) dX11_of_33 (by rw [qc33_5]; decide) (by rw [qc33_5]; decide) (by rw [qc33_5]; rfl) rfl ?_
        refine ea_aload_n (pc := 125) dX11_of_125 rfl 3 rfl ?_
        obtain ⟨e38, f39⟩ := K
        refine ea_deref0 e38 ?_
        refine ea_getI (pc := 126) dX11_of_126 ec_4 (k := 5) (Nat.le_of_ble_eq_true rfl) rfl (Or.inl ew_948) f39.1 f39.2 ?_
        subst EX
        exact ea_ireturn (pc := 129) dX11_of_129 rfl rfl
      have EX := EX.trans (if_neg qc33_5)
      have K := K.2 qc33_5
      by_cases qc33_6 : Int32.toInt x2 = 6
      · have EX := EX.trans (if_pos qc33_6)
        have K := K.1 qc33_6
        refine ea_tswIn (pc := 33) (tgt := 130) dX11_of_33 (by rw [qc33_6]; decide) (by rw [qc33_6]; decide) (by rw [qc33_6]; rfl) rfl ?_
        refine ea_aload_n (pc := 130) dX11_of_130 rfl 3 rfl ?_
        obtain ⟨e40, f41⟩ := K
        refine ea_deref0 e40 ?_
        refine ea_getI (pc := 131) dX11_of_131 ec_4 (k := 6) (Nat.le_of_ble_eq_true rfl) rfl (Or.inl ew_951) f41.1 f41.2 ?_
        subst EX
        exact ea_ireturn (pc := 134) dX11_of_134 rfl rfl
      have EX := EX.trans (if_neg qc33_6)
      have K := K.2 qc33_6
      by_cases qc33_7 : Int32.toInt x2 = 7
      · have EX := EX.trans (if_pos qc33_7)
        have K := K.1 qc33_7
        refine ea_tswIn (pc := 33) (tgt := 135) dX11_of_33 (by rw [qc33_7]; decide) (by rw [qc33_7]; decide) (by rw [qc33_7]; rfl) rfl ?_
        refine ea_aload_n (pc := 135) dX11_of_135 rfl 0 rfl ?_
        refine ea_getR (pc := 136) dX11_of_136 ec_11 (k := 6) (Nat.le_of_ble_eq_true rfl) rfl (Or.inl ew_443) (hs.1 0 (by decide)).1 (hs.1 0 (by decide)).2.1 (hs.2 0 6 rfl) ?_
        refine ea_getR (pc := 139) dX11_of_139 ec_1 (k := 1) (Nat.le_of_ble_eq_true rfl) rfl (Or.inl ew_362) (hs.1 32 (by decide)).1 (hs.1 32 (by decide)).2.1 (hs.2 32 1 rfl) ?_
        refine ea_iload_n (pc := 142) dX11_of_142 rfl 1 rfl ?_
        have z42 := K
        refine ea_iald (pc := 143) dX11_of_143 (hs.1 33 (by decide)).1 (hs.1 33 (by decide)).2.1 (ea_vpl (hs.1 33 (by decide)).2.2 z42) ?_
        subst EX
        exact ea_ireturn (pc := 144) dX11_of_144 rfl rfl
      have EX := EX.trans (if_neg qc33_7)
      have K := K.2 qc33_7
      by_cases qc33_8 : Int32.toInt x2 = 8
      · have EX := EX.trans (if_pos qc33_8)
        have K := K.1 qc33_8
        refine ea_tswIn (pc := 33) (tgt := 145) dX11_of_33 (by rw [qc33_8]; decide) (by rw [qc33_8]; decide) (by rw [qc33_8]; rfl) rfl ?_
        refine ea_aload_n (pc := 145) dX11_of_145 rfl 0 rfl ?_
        refine ea_getR (pc := 146) dX11_of_146 ec_11 (k := 6) (Nat.le_of_ble_eq_true rfl) rfl (Or.inl ew_443) (hs.1 0 (by decide)).1 (hs.1 0 (by decide)).2.1 (hs.2 0 6 rfl) ?_
        refine ea_getR (pc := 149) dX11_of_149 ec_1 (k := 2) (Nat.le_of_ble_eq_true rfl) rfl (Or.inl ew_364) (hs.1 32 (by decide)).1 (hs.1 32 (by decide)).2.1 (hs.2 32 2 rfl) ?_
        refine ea_iload_n (pc := 152) dX11_of_152 rfl 1 rfl ?_
        have z43 := K
        refine ea_iald (pc := 153) dX11_of_153 (hs.1 34 (by decide)).1 (hs.1 34 (by decide)).2.1 (ea_vpl (hs.1 34 (by decide)).2.2 z43) ?_
        subst EX
        exact ea_ireturn (pc := 154) dX11_of_154 rfl rfl
      have EX := EX.trans (if_neg qc33_8)
      have K := K.2 qc33_8
      by_cases qc33_9 : Int32.toInt x2 = 9
      · have EX := EX.trans (if_pos qc33_9)
        have K := K.1 qc33_9
        refine ea_tswIn (pc := 33) (tgt := 155) dX11_of_33 (by rw [qc33_9]; decide) (by rw [qc33_9]; decide) (by rw [qc33_9]; rfl) rfl ?_
        refine ea_aload_n (pc := 155) dX11_of_155 rfl 3 rfl ?_
        obtain ⟨e44, f45⟩ := K
        refine ea_deref0 e44 ?_
        refine ea_getI (pc := 156) dX11_of_156 ec_4 (k := 8) (Nat.le_of_ble_eq_true rfl) rfl (Or.inl ew_955) f45.1 f45.2 ?_
        refine ea_if_eq (pc := 159) (tgt := 166) dX11_of_159 rfl (fun c46 => ?_) (fun c46 => ?_)
        · have EX := EX.trans (if_pos c46)
          refine ea_iconst (pc := 166) dX11_of_166 (v := 0) rfl ?_
          subst EX
          exact ea_ireturn (pc := 167) dX11_of_167 rfl rfl
        · have EX := EX.trans (if_neg c46)
          refine ea_iconst (pc := 162) dX11_of_162 (v := 1) rfl ?_
          refine ea_goto (pc := 163) (tgt := 167) dX11_of_163 rfl ?_
          subst EX
          exact ea_ireturn (pc := 167) dX11_of_167 rfl rfl
      have EX := EX.trans (if_neg qc33_9)
      have K := K.2 qc33_9
      by_cases qc33_10 : Int32.toInt x2 = 10
      · have EX := EX.trans (if_pos qc33_10)
        have K := K.1 qc33_10
        refine ea_tswIn (pc := 33) (tgt := 168) dX11_of_33 (by rw [qc33_10]; decide) (by rw [qc33_10]; decide) (by rw [qc33_10]; rfl) rfl ?_
        refine ea_iload (pc := 168) dX11_of_168 4 rfl ?_
        refine ea_if_eq (pc := 170) (tgt := 189) dX11_of_170 rfl (fun c49 => ?_) (fun c49 => ?_)
        · have EX := EX.trans (if_pos c49)
          refine ea_iconst (pc := 189) dX11_of_189 (v := 0) rfl ?_
          subst EX
          exact ea_ireturn (pc := 190) dX11_of_190 rfl rfl
        · have EX := EX.trans (if_neg c49)
          have K := K.2 c49
          refine ea_aload_n (pc := 173) dX11_of_173 rfl 0 rfl ?_
          refine ea_getR (pc := 174) dX11_of_174 ec_11 (k := 6) (Nat.le_of_ble_eq_true rfl) rfl (Or.inl ew_443) (hs.1 0 (by decide)).1 (hs.1 0 (by decide)).2.1 (hs.2 0 6 rfl) ?_
          refine ea_getR (pc := 177) dX11_of_177 ec_1 (k := 5) (Nat.le_of_ble_eq_true rfl) rfl (Or.inl ew_370) (hs.1 32 (by decide)).1 (hs.1 32 (by decide)).2.1 (hs.2 32 5 rfl) ?_
          refine ea_iload_n (pc := 180) dX11_of_180 rfl 1 rfl ?_
          have z47 := K
          refine ea_zald (pc := 181) dX11_of_181 (hs.1 37 (by decide)).1 (hs.1 37 (by decide)).2.1 (ea_vpl (hs.1 37 (by decide)).2.2 z47) ?_
          refine ea_if_eq (pc := 182) (tgt := 189) dX11_of_182 rfl (fun c48 => ?_) (fun c48 => ?_)
          · have EX := EX.trans (if_pos c48)
            refine ea_iconst (pc := 189) dX11_of_189 (v := 0) rfl ?_
            subst EX
            exact ea_ireturn (pc := 190) dX11_of_190 rfl rfl
          · have EX := EX.trans (if_neg c48)
            refine ea_iconst (pc := 185) dX11_of_185 (v := 1) rfl ?_
            refine ea_goto (pc := 186) (tgt := 190) dX11_of_186 rfl ?_
            subst EX
            exact ea_ireturn (pc := 190) dX11_of_190 rfl rfl
      have EX := EX.trans (if_neg qc33_10)
      have K := K.2 qc33_10
      by_cases qc33_11 : Int32.toInt x2 = 11
      · have EX := EX.trans (if_pos qc33_11)
        have K := K.1 qc33_11
        refine ea_tswIn (pc := 33) (tgt := 191) dX11_of_33 (by rw [qc33_11]; decide) (by rw [qc33_11]; decide) (by rw [qc33_11]; rfl) rfl ?_
        refine ea_iload (pc := 191) dX11_of_191 4 rfl ?_
        refine ea_if_eq (pc := 193) (tgt := 208) dX11_of_193 rfl (fun c51 => ?_) (fun c51 => ?_)
        · have EX := EX.trans (if_pos c51)
          refine ea_iconst (pc := 208) dX11_of_208 (v := (-1)) rfl ?_
          subst EX
          exact ea_ireturn (pc := 209) dX11_of_209 rfl rfl
        · have EX := EX.trans (if_neg c51)
          have K := K.2 c51
          refine ea_aload_n (pc := 196) dX11_of_196 rfl 0 rfl ?_
          refine ea_getR (pc := 197) dX11_of_197 ec_11 (k := 6) (Nat.le_of_ble_eq_true rfl) rfl (Or.inl ew_443) (hs.1 0 (by decide)).1 (hs.1 0 (by decide)).2.1 (hs.2 0 6 rfl) ?_
          refine ea_getR (pc := 200) dX11_of_200 ec_1 (k := 3) (Nat.le_of_ble_eq_true rfl) rfl (Or.inl ew_366) (hs.1 32 (by decide)).1 (hs.1 32 (by decide)).2.1 (hs.2 32 3 rfl) ?_
          refine ea_iload_n (pc := 203) dX11_of_203 rfl 1 rfl ?_
          have z50 := K
          refine ea_iald (pc := 204) dX11_of_204 (hs.1 35 (by decide)).1 (hs.1 35 (by decide)).2.1 (ea_vpl (hs.1 35 (by decide)).2.2 z50) ?_
          refine ea_goto (pc := 205) (tgt := 209) dX11_of_205 rfl ?_
          subst EX
          exact ea_ireturn (pc := 209) dX11_of_209 rfl rfl
      have EX := EX.trans (if_neg qc33_11)
      have K := K.2 qc33_11
      by_cases qc33_12 : Int32.toInt x2 = 12
      · have EX := EX.trans (if_pos qc33_12)
        have K := K.1 qc33_12
        refine ea_tswIn (pc := 33) (tgt := 210) dX11_of_33 (by rw [qc33_12]; decide) (by rw [qc33_12]; decide) (by rw [qc33_12]; rfl) rfl ?_
        refine ea_aload_n (pc := 210) dX11_of_210 rfl 0 rfl ?_
        refine ea_getR (pc := 211) dX11_of_211 ec_11 (k := 6) (Nat.le_of_ble_eq_true rfl) rfl (Or.inl ew_443) (hs.1 0 (by decide)).1 (hs.1 0 (by decide)).2.1 (hs.2 0 6 rfl) ?_
        refine ea_getR (pc := 214) dX11_of_214 ec_1 (k := 4) (Nat.le_of_ble_eq_true rfl) rfl (Or.inl ew_368) (hs.1 32 (by decide)).1 (hs.1 32 (by decide)).2.1 (hs.2 32 4 rfl) ?_
        refine ea_iload_n (pc := 217) dX11_of_217 rfl 1 rfl ?_
        have z52 := K
        refine ea_iald (pc := 218) dX11_of_218 (hs.1 36 (by decide)).1 (hs.1 36 (by decide)).2.1 (ea_vpl (hs.1 36 (by decide)).2.2 z52) ?_
        subst EX
        exact ea_ireturn (pc := 219) dX11_of_219 rfl rfl
      have EX := EX.trans (if_neg qc33_12)
      have K := K.2 qc33_12
      refine ea_tswOut (pc := 33) (tgt := 220) dX11_of_33 (ec_sw_0_12 qc33_0 qc33_1 qc33_2 qc33_3 qc33_4 qc33_5 qc33_6 qc33_7 qc33_8 qc33_9 qc33_10 qc33_11 qc33_12) rfl ?_
      refine ea_iconst (pc := 220) dX11_of_220 (v := (-1)) rfl ?_
      subst EX
      exact ea_ireturn (pc := 221) dX11_of_221 rfl rfl
  · have EX := EX.trans (if_pos c54)
    refine ea_iconst (pc := 10) dX11_of_10 (v := (-1)) rfl ?_
    subst EX
    exact ea_ireturn (pc := 11) dX11_of_11 rfl rfl
noncomputable def vX11_charge (b0 : Nat) (x1 : Int32) (x2 : Int32) (h : ea_H) : Int32 := (if (vX11_letterOf b0 (x1 : Int32) h) = none then ((-1) : Int32) else (if Int32.toInt x2 = 0 then (ea_i h (Option.getD (vX11_letterOf b0 (x1 : Int32) h) 0) 10) else (if Int32.toInt x2 = 1 then (ea_i h (Option.getD (vX11_letterOf b0 (x1 : Int32) h) 0) 11) else (if Int32.toInt x2 = 2 then (ea_i h (Option.getD (vX11_letterOf b0 (x1 : Int32) h) 0) 12) else (if Int32.toInt x2 = 3 then (vX4_owed b0 (Option.getD (vX11_letterOf b0 (x1 : Int32) h) 0) h) else (if Int32.toInt x2 = 4 then ((ea_i h (Option.getD (vX11_letterOf b0 (x1 : Int32) h) 0) 10) - (vX4_owed b0 (Option.getD (vX11_letterOf b0 (x1 : Int32) h) 0) h)) else (if Int32.toInt x2 = 5 then (if (ea_i h (Option.getD (vX11_letterOf b0 (x1 : Int32) h) 0) 13) = (0 : Int32) then (0 : Int32) else (1 : Int32)) else ((-1) : Int32))))))))
def okX11_charge (b0 : Nat) (x1 : Int32) (x2 : Int32) (h : ea_H) : Prop := (okX11_letterOf b0 (x1 : Int32) h) ∧ (((vX11_letterOf b0 (x1 : Int32) h) = none → True) ∧ (¬ (vX11_letterOf b0 (x1 : Int32) h) = none → (Int32.toInt x2 = 0 → (vX11_letterOf b0 (x1 : Int32) h) = some (Option.getD (vX11_letterOf b0 (x1 : Int32) h) 0) ∧ (((Option.getD (vX11_letterOf b0 (x1 : Int32) h) 0) < ea_n h ∧ ea_c h (Option.getD (vX11_letterOf b0 (x1 : Int32) h) 0) = 4))) ∧ (¬ Int32.toInt x2 = 0 → (Int32.toInt x2 = 1 → (vX11_letterOf b0 (x1 : Int32) h) = some (Option.getD (vX11_letterOf b0 (x1 : Int32) h) 0) ∧ (((Option.getD (vX11_letterOf b0 (x1 : Int32) h) 0) < ea_n h ∧ ea_c h (Option.getD (vX11_letterOf b0 (x1 : Int32) h) 0) = 4))) ∧ (¬ Int32.toInt x2 = 1 → (Int32.toInt x2 = 2 → (vX11_letterOf b0 (x1 : Int32) h) = some (Option.getD (vX11_letterOf b0 (x1 : Int32) h) 0) ∧ (((Option.getD (vX11_letterOf b0 (x1 : Int32) h) 0) < ea_n h ∧ ea_c h (Option.getD (vX11_letterOf b0 (x1 : Int32) h) 0) = 4))) ∧ (¬ Int32.toInt x2 = 2 → (Int32.toInt x2 = 3 → (vX11_letterOf b0 (x1 : Int32) h) = some (Option.getD (vX11_letterOf b0 (x1 : Int32) h) 0) ∧ (((Option.getD (vX11_letterOf b0 (x1 : Int32) h) 0) < ea_n h ∧ ea_c h (Option.getD (vX11_letterOf b0 (x1 : Int32) h) 0) = 4) ∧ ((okX4_owed b0 (Option.getD (vX11_letterOf b0 (x1 : Int32) h) 0) h)))) ∧ (¬ Int32.toInt x2 = 3 → (Int32.toInt x2 = 4 → (vX11_letterOf b0 (x1 : Int32) h) = some (Option.getD (vX11_letterOf b0 (x1 : Int32) h) 0) ∧ (((Option.getD (vX11_letterOf b0 (x1 : Int32) h) 0) < ea_n h ∧ ea_c h (Option.getD (vX11_letterOf b0 (x1 : Int32) h) 0) = 4) ∧ ((vX11_letterOf b0 (x1 : Int32) h) = some (Option.getD (vX11_letterOf b0 (x1 : Int32) h) 0) ∧ (((Option.getD (vX11_letterOf b0 (x1 : Int32) h) 0) < ea_n h ∧ ea_c h (Option.getD (vX11_letterOf b0 (x1 : Int32) h) 0) = 4) ∧ ((okX4_owed b0 (Option.getD (vX11_letterOf b0 (x1 : Int32) h) 0) h)))))) ∧ (¬ Int32.toInt x2 = 4 → (Int32.toInt x2 = 5 → (vX11_letterOf b0 (x1 : Int32) h) = some (Option.getD (vX11_letterOf b0 (x1 : Int32) h) 0) ∧ (((Option.getD (vX11_letterOf b0 (x1 : Int32) h) 0) < ea_n h ∧ ea_c h (Option.getD (vX11_letterOf b0 (x1 : Int32) h) 0) = 4))) ∧ (¬ Int32.toInt x2 = 5 → True))))))))
theorem sX11_charge {d : Nat} {b0 : Nat} {x1 : Int32} {x2 : Int32} {h : ea_H} (hd : 2 ≤ d) (hs : ShC b0 h) (K : okX11_charge b0 x1 x2 h) : ea_Met mX11_charge d [vR (some (b0 + 0)), vI x1, vI x2] h (some (vI (vX11_charge b0 x1 x2 h))) h := by
  obtain ⟨X, EX⟩ : ∃ z, z = vX11_charge b0 x1 x2 h := ⟨_, rfl⟩
  rw [← EX]
  unfold vX11_charge at EX
  unfold okX11_charge at K
  refine ea_enter rfl (Nat.le_of_ble_eq_true rfl) ?_
  refine ea_aload_n (pc := 0) dX11_charge_0 rfl 0 rfl ?_
  refine ea_iload_n (pc := 1) dX11_charge_1 rfl 1 rfl ?_
  obtain ⟨z1, K⟩ := K
  refine ea_callV (pc := 2) (d' := d - 1) (As := [vI x1]) (st := []) dX11_charge_2 kX11_letterOf (sX11_letterOf (d := d - 1) (by omega) hs z1) (by omega) rfl (Nat.le_of_ble_eq_true rfl) ew_1076 ew_1078 ew_37 (ci := 11) rfl (by decide) (hs.1 0 (by decide)).1 (hs.1 0 (by decide)).2.1 ?_
  refine ea_astore_n (pc := 5) (lv' := [(2, vI x2), (3, vR (vX11_letterOf b0 (x1 : Int32) h))]) dX11_charge_5 rfl (Nat.le_of_ble_eq_true rfl) [3, 0] rfl ?_
  refine ea_aload_n (pc := 6) dX11_charge_6 rfl 1 rfl ?_
  refine ea_ifnonnull (pc := 7) (tgt := 12) dX11_charge_7 rfl (fun a20 c19 => ?_) (fun c19 => ?_)
  · have c19n : ¬ (vX11_letterOf b0 (x1 : Int32) h) = none := by rw [c19]; exact fun q => nomatch q
    have EX := EX.trans (if_neg c19n)
    have K := K.2 c19n
    refine ea_iload_n (pc := 12) dX11_charge_12 rfl 0 rfl ?_
    by_cases qc13_0 : Int32.toInt x2 = 0
    · have EX := EX.trans (if_pos qc13_0)
      have K := K.1 qc13_0
      refine ea_tswIn (pc := 13) (tgt := 52) dX11_charge_13 (by rw [qc13_0]; decide) (by rw [qc13_0]; decide) (by rw [qc13_0]; rfl) rfl ?_
      refine ea_aload_n (pc := 52) dX11_charge_52 rfl 1 rfl ?_
      obtain ⟨e2, f3⟩ := K
      refine ea_deref0 e2 ?_
      refine ea_getI (pc := 53) dX11_charge_53 ec_4 (k := 10) (Nat.le_of_ble_eq_true rfl) rfl (Or.inl ew_960) f3.1 f3.2 ?_
      subst EX
      exact ea_ireturn (pc := 56) dX11_charge_56 rfl rfl
    have EX := EX.trans (if_neg qc13_0)
    have K := K.2 qc13_0
    by_cases qc13_1 : Int32.toInt x2 = 1
    · have EX := EX.trans (if_pos qc13_1)
      have K := K.1 qc13_1
      refine ea_tswIn (pc := 13) (tgt := 57) dX11_charge_13 (by rw [qc13_1]; decide) (by rw [qc13_1]; decide) (by rw [qc13_1]; rfl) rfl ?_
      refine ea_aload_n (pc := 57) dX11_charge_57 rfl 1 rfl ?_
      obtain ⟨e4, f5⟩ := K
      refine ea_deref0 e4 ?_
      refine ea_getI (pc := 58) dX11_charge_58 ec_4 (k := 11) (Nat.le_of_ble_eq_true rfl) rfl (Or.inl ew_963) f5.1 f5.2 ?_
      subst EX
      exact ea_ireturn (pc := 61) dX11_charge_61 rfl rfl
    have EX := EX.trans (if_neg qc13_1)
    have K := K.2 qc13_1
    by_cases qc13_2 : Int32.toInt x2 = 2
    · have EX := EX.trans (if_pos qc13_2)
      have K := K.1 qc13_2
      refine ea_tswIn (pc := 13) (tgt := 62) dX11_charge_13 (by rw [qc13_2]; decide) (by rw [qc13_2]; decide) (by rw [qc13_2]; rfl) rfl ?_
      refine ea_aload_n (pc := 62) dX11_charge_62 rfl 1 rfl ?_
      obtain ⟨e6, f7⟩ := K
      refine ea_deref0 e6 ?_
      refine ea_getI (pc := 63) dX11_charge_63 ec_4 (k := 12) (Nat.le_of_ble_eq_true rfl) rfl (Or.inl ew_966) f7.1 f7.2 ?_
      subst EX
      exact ea_ireturn (pc := 66) dX11_charge_66 rfl rfl
    have EX := EX.trans (if_neg qc13_2)
    have K := K.2 qc13_2
    by_cases qc13_3 : Int32.toInt x2 = 3
    · have EX := EX.trans (if_pos qc13_3)
      have K := K.1 qc13_3
      refine ea_tswIn (pc := 13) (tgt := 67) dX11_charge_13 (by rw [qc13_3]; decide) (by rw [qc13_3]; decide) (by rw [qc13_3]; rfl) rfl ?_
      refine ea_aload_n (pc := 67) dX11_charge_67 rfl 1 rfl ?_
      obtain ⟨e8, f9, z10⟩ := K
      refine ea_deref0 e8 ?_
      refine ea_callV (pc := 68) (d' := d - 1) (As := []) (st := []) dX11_charge_68 kX4_owed (sX4_owed (d := d - 1) (by omega) hs z10) (by omega) rfl (Nat.le_of_ble_eq_true rfl) ew_1084 ew_1085 ew_1086 (ci := 4) rfl (by decide) f9.1 f9.2 ?_
      subst EX
      exact ea_ireturn (pc := 71) dX11_charge_71 rfl rfl
    have EX := EX.trans (if_neg qc13_3)
    have K := K.2 qc13_3
    by_cases qc13_4 : Int32.toInt x2 = 4
    · have EX := EX.trans (if_pos qc13_4)
      have K := K.1 qc13_4
      refine ea_tswIn (pc := 13) (tgt := 72) dX11_charge_13 (by rw [qc13_4]; decide) (by rw [qc13_4]; decide) (by rw [qc13_4]; rfl) rfl ?_
      refine ea_aload_n (pc := 72) dX11_charge_72 rfl 1 rfl ?_
      obtain ⟨e11, f12, K⟩ := K
      refine ea_deref0 e11 ?_
      refine ea_getI (pc := 73) dX11_charge_73 ec_4 (k := 10) (Nat.le_of_ble_eq_true rfl) rfl (Or.inl ew_960) f12.1 f12.2 ?_
      refine ea_aload_n (pc := 76) dX11_charge_76 rfl 1 rfl ?_
      obtain ⟨e13, f14, z15⟩ := K
      refine ea_deref0 e13 ?_
      refine ea_callV (pc := 77) (d' := d - 1) (As := []) (st := [vI (ea_i h (Option.getD (vX11_letterOf b0 (x1 : Int32) h) 0) 10)]) dX11_charge_77 kX4_owed (sX4_owed (d := d - 1) (by omega) hs z15) (by omega) rfl (Nat.le_of_ble_eq_true rfl) ew_1084 ew_1085 ew_1086 (ci := 4) rfl (by decide) f14.1 f14.2 ?_
      refine ea_isub (pc := 80) dX11_charge_80 ?_
      subst EX
      exact ea_ireturn (pc := 81) dX11_charge_81 rfl rfl
    have EX := EX.trans (if_neg qc13_4)
    have K := K.2 qc13_4
    by_cases qc13_5 : Int32.toInt x2 = 5
    · have EX := EX.trans (if_pos qc13_5)
      have K := K.1 qc13_5
      refine ea_tswIn (pc := 13) (tgt := 82) dX11_charge_13 (by rw [qc13_5]; decide) (by rw [qc13_5]; decide) (by rw [qc13_5]; rfl) rfl ?_
      refine ea_aload_n (pc := 82) dX11_charge_82 rfl 1 rfl ?_
      obtain ⟨e16, f17⟩ := K
      refine ea_deref0 e16 ?_
      refine ea_getI (pc := 83) dX11_charge_83 ec_4 (k := 13) (Nat.le_of_ble_eq_true rfl) rfl (Or.inl ew_968) f17.1 f17.2 ?_
      refine ea_if_eq (pc := 86) (tgt := 93) dX11_charge_86 rfl (fun c18 => ?_) (fun c18 => ?_)
      · have EX := EX.trans (if_pos c18)
        refine ea_iconst (pc := 93) dX11_charge_93 (v := 0) rfl ?_
        subst EX
        exact ea_ireturn (pc := 94) dX11_charge_94 rfl rfl
      · have EX := EX.trans (if_neg c18)
        refine ea_iconst (pc := 89) dX11_charge_89 (v := 1) rfl ?_
        refine ea_goto (pc := 90) (tgt := 94) dX11_charge_90 rfl ?_
        subst EX
        exact ea_ireturn (pc := 94) dX11_charge_94 rfl rfl
    have EX := EX.trans (if_neg qc13_5)
    have K := K.2 qc13_5
    refine ea_tswOut (pc := 13) (tgt := 95) dX11_charge_13 (ec_sw_0_5 qc13_0 qc13_1 qc13_2 qc13_3 qc13_4 qc13_5) rfl ?_
    refine ea_iconst (pc := 95) dX11_charge_95 (v := (-1)) rfl ?_
    subst EX
    exact ea_ireturn (pc := 96) dX11_charge_96 rfl rfl
  · have EX := EX.trans (if_pos c19)
    refine ea_iconst (pc := 10) dX11_charge_10 (v := (-1)) rfl ?_
    subst EX
    exact ea_ireturn (pc := 11) dX11_charge_11 rfl rfl
noncomputable def vX11_lead (b0 : Nat) (x1 : Int32) (x2 : Int32) (x3 : Int32) (h : ea_H) : Int32 := (if (vX11_letterOf b0 (x1 : Int32) h) = none then ((-1) : Int32) else (if x2 < (0 : Int32) then ((-1) : Int32) else (if x2 < (ea_i h (Option.getD (vX11_letterOf b0 (x1 : Int32) h) 0) 16) then (if Int32.toInt x3 = 0 then (vX4_rowMinute b0 (Option.getD (vX11_letterOf b0 (x1 : Int32) h) 0) (x2 : Int32) h) else (if Int32.toInt x3 = 1 then (vX4_rowState b0 (Option.getD (vX11_letterOf b0 (x1 : Int32) h) 0) (x2 : Int32) h) else (if Int32.toInt x3 = 2 then (vX4_rowPlace b0 (Option.getD (vX11_letterOf b0 (x1 : Int32) h) 0) (x2 : Int32) h) else ((-1) : Int32)))) else ((-1) : Int32))))
def okX11_lead (b0 : Nat) (x1 : Int32) (x2 : Int32) (x3 : Int32) (h : ea_H) : Prop := (okX11_letterOf b0 (x1 : Int32) h) ∧ (((vX11_letterOf b0 (x1 : Int32) h) = none → True) ∧ (¬ (vX11_letterOf b0 (x1 : Int32) h) = none → (x2 < (0 : Int32) → True) ∧ (¬ x2 < (0 : Int32) → (vX11_letterOf b0 (x1 : Int32) h) = some (Option.getD (vX11_letterOf b0 (x1 : Int32) h) 0) ∧ (((Option.getD (vX11_letterOf b0 (x1 : Int32) h) 0) < ea_n h ∧ ea_c h (Option.getD (vX11_letterOf b0 (x1 : Int32) h) 0) = 4) ∧ ((x2 < (ea_i h (Option.getD (vX11_letterOf b0 (x1 : Int32) h) 0) 16) → (Int32.toInt x3 = 0 → (vX11_letterOf b0 (x1 : Int32) h) = some (Option.getD (vX11_letterOf b0 (x1 : Int32) h) 0) ∧ (((Option.getD (vX11_letterOf b0 (x1 : Int32) h) 0) < ea_n h ∧ ea_c h (Option.getD (vX11_letterOf b0 (x1 : Int32) h) 0) = 4) ∧ ((okX4_rowMinute b0 (Option.getD (vX11_letterOf b0 (x1 : Int32) h) 0) (x2 : Int32) h)))) ∧ (¬ Int32.toInt x3 = 0 → (Int32.toInt x3 = 1 → (vX11_letterOf b0 (x1 : Int32) h) = some (Option.getD (vX11_letterOf b0 (x1 : Int32) h) 0) ∧ (((Option.getD (vX11_letterOf b0 (x1 : Int32) h) 0) < ea_n h ∧ ea_c h (Option.getD (vX11_letterOf b0 (x1 : Int32) h) 0) = 4) ∧ ((okX4_rowState b0 (Option.getD (vX11_letterOf b0 (x1 : Int32) h) 0) (x2 : Int32) h)))) ∧ (¬ Int32.toInt x3 = 1 → (Int32.toInt x3 = 2 → (vX11_letterOf b0 (x1 : Int32) h) = some (Option.getD (vX11_letterOf b0 (x1 : Int32) h) 0) ∧ (((Option.getD (vX11_letterOf b0 (x1 : Int32) h) 0) < ea_n h ∧ ea_c h (Option.getD (vX11_letterOf b0 (x1 : Int32) h) 0) = 4) ∧ ((okX4_rowPlace b0 (Option.getD (vX11_letterOf b0 (x1 : Int32) h) 0) (x2 : Int32) h)))) ∧ (¬ Int32.toInt x3 = 2 → True)))) ∧ (¬ x2 < (ea_i h (Option.getD (vX11_letterOf b0 (x1 : Int32) h) 0) 16) → True))))))
theorem sX11_lead {d : Nat} {b0 : Nat} {x1 : Int32} {x2 : Int32} {x3 : Int32} {h : ea_H} (hd : 2 ≤ d) (hs : ShC b0 h) (K : okX11_lead b0 x1 x2 x3 h) : ea_Met mX11_lead d [vR (some (b0 + 0)), vI x1, vI x2, vI x3] h (some (vI (vX11_lead b0 x1 x2 x3 h))) h := by
  obtain ⟨X, EX⟩ : ∃ z, z = vX11_lead b0 x1 x2 x3 h := ⟨_, rfl⟩
  rw [← EX]
  unfold vX11_lead at EX
  unfold okX11_lead at K
  refine ea_enter rfl (Nat.le_of_ble_eq_true rfl) ?_
  refine ea_aload_n (pc := 0) dX11_lead_0 rfl 0 rfl ?_
  refine ea_iload_n (pc := 1) dX11_lead_1 rfl 1 rfl ?_
  obtain ⟨z1, K⟩ := K
  refine ea_callV (pc := 2) (d' := d - 1) (As := [vI x1]) (st := []) dX11_lead_2 kX11_letterOf (sX11_letterOf (d := d - 1) (by omega) hs z1) (by omega) rfl (Nat.le_of_ble_eq_true rfl) ew_1076 ew_1078 ew_37 (ci := 11) rfl (by decide) (hs.1 0 (by decide)).1 (hs.1 0 (by decide)).2.1 ?_
  refine ea_astore (pc := 5) (lv' := [(2, vI x2), (3, vI x3), (4, vR (vX11_letterOf b0 (x1 : Int32) h))]) dX11_lead_5 (Nat.le_of_ble_eq_true rfl) [3, 4, 0] rfl ?_
  refine ea_aload (pc := 7) dX11_lead_7 2 rfl ?_
  refine ea_ifnull (pc := 9) (tgt := 25) dX11_lead_9 rfl (fun c15 => ?_) (fun a16 c15 => ?_)
  · have EX := EX.trans (if_pos c15)
    refine ea_iconst (pc := 25) dX11_lead_25 (v := (-1)) rfl ?_
    subst EX
    exact ea_ireturn (pc := 26) dX11_lead_26 rfl rfl
  · have c15n : ¬ (vX11_letterOf b0 (x1 : Int32) h) = none := by rw [c15]; exact fun q => nomatch q
    have EX := EX.trans (if_neg c15n)
    have K := K.2 c15n
    refine ea_iload_n (pc := 12) dX11_lead_12 rfl 0 rfl ?_
    refine ea_if_lt (pc := 13) (tgt := 25) dX11_lead_13 rfl (fun c14 => ?_) (fun c14 => ?_)
    · have EX := EX.trans (if_pos c14)
      refine ea_iconst (pc := 25) dX11_lead_25 (v := (-1)) rfl ?_
      subst EX
      exact ea_ireturn (pc := 26) dX11_lead_26 rfl rfl
    · have EX := EX.trans (if_neg c14)
      have K := K.2 c14
      refine ea_iload_n (pc := 16) dX11_lead_16 rfl 0 rfl ?_
      refine ea_aload (pc := 17) dX11_lead_17 2 rfl ?_
      obtain ⟨e2, f3, K⟩ := K
      refine ea_deref0 e2 ?_
      refine ea_getI (pc := 19) dX11_lead_19 ec_4 (k := 16) (Nat.le_of_ble_eq_true rfl) rfl (Or.inl ew_975) f3.1 f3.2 ?_
      refine ea_icmp_lt (pc := 22) (tgt := 27) dX11_lead_22 rfl (fun c13 => ?_) (fun c13 => ?_)
      · have EX := EX.trans (if_pos c13)
        have K := K.1 c13
        refine ea_iload_n (pc := 27) dX11_lead_27 rfl 1 rfl ?_
        by_cases qc28_0 : Int32.toInt x3 = 0
        · have EX := EX.trans (if_pos qc28_0)
          have K := K.1 qc28_0
          refine ea_tswIn (pc := 28) (tgt := 56) dX11_lead_28 (by rw [qc28_0]; decide) (by rw [qc28_0]; decide) (by rw [qc28_0]; rfl) rfl ?_
          refine ea_aload (pc := 56) dX11_lead_56 2 rfl ?_
          refine ea_iload_n (pc := 58) dX11_lead_58 rfl 0 rfl ?_
          obtain ⟨e4, f5, z6⟩ := K
          refine ea_deref1 e4 ?_
          refine ea_callV (pc := 59) (d' := d - 1) (As := [vI x2]) (st := []) dX11_lead_59 kX4_rowMinute (sX4_rowMinute (d := d - 1) (by omega) hs z6) (by omega) rfl (Nat.le_of_ble_eq_true rfl) ew_1112 ew_1113 ew_1114 (ci := 4) rfl (by decide) f5.1 f5.2 ?_
          subst EX
          exact ea_ireturn (pc := 62) dX11_lead_62 rfl rfl
        have EX := EX.trans (if_neg qc28_0)
        have K := K.2 qc28_0
        by_cases qc28_1 : Int32.toInt x3 = 1
        · have EX := EX.trans (if_pos qc28_1)
          have K := K.1 qc28_1
          refine ea_tswIn (pc := 28) (tgt := 63) dX11_lead_28 (by rw [qc28_1]; decide) (by rw [qc28_1]; decide) (by rw [qc28_1]; rfl) rfl ?_
          refine ea_aload (pc := 63) dX11_lead_63 2 rfl ?_
          refine ea_iload_n (pc := 65) dX11_lead_65 rfl 0 rfl ?_
          obtain ⟨e7, f8, z9⟩ := K
          refine ea_deref1 e7 ?_
          refine ea_callV (pc := 66) (d' := d - 1) (As := [vI x2]) (st := []) dX11_lead_66 kX4_rowState (sX4_rowState (d := d - 1) (by omega) hs z9) (by omega) rfl (Nat.le_of_ble_eq_true rfl) ew_1116 ew_1117 ew_1118 (ci := 4) rfl (by decide) f8.1 f8.2 ?_
          subst EX
          exact ea_ireturn (pc := 69) dX11_lead_69 rfl rfl
        have EX := EX.trans (if_neg qc28_1)
        have K := K.2 qc28_1
        by_cases qc28_2 : Int32.toInt x3 = 2
        · have EX := EX.trans (if_pos qc28_2)
          have K := K.1 qc28_2
          refine ea_tswIn (pc := 28) (tgt := 70) dX11_lead_28 (by rw [qc28_2]; decide) (by rw [qc28_2]; decide) (by rw [qc28_2]; rfl) rfl ?_
          refine ea_aload (pc := 70) dX11_lead_70 2 rfl ?_
          refine ea_iload_n (pc := 72) dX11_lead_72 rfl 0 rfl ?_
          obtain ⟨e10, f11, z12⟩ := K
          refine ea_deref1 e10 ?_
          refine ea_callV (pc := 73) (d' := d - 1) (As := [vI x2]) (st := []) dX11_lead_73 kX4_rowPlace (sX4_rowPlace (d := d - 1) (by omega) hs z12) (by omega) rfl (Nat.le_of_ble_eq_true rfl) ew_1120 ew_1121 ew_1122 (ci := 4) rfl (by decide) f11.1 f11.2 ?_
          subst EX
          exact ea_ireturn (pc := 76) dX11_lead_76 rfl rfl
        have EX := EX.trans (if_neg qc28_2)
        have K := K.2 qc28_2
        refine ea_tswOut (pc := 28) (tgt := 77) dX11_lead_28 (ec_sw_0_2 qc28_0 qc28_1 qc28_2) rfl ?_
        refine ea_iconst (pc := 77) dX11_lead_77 (v := (-1)) rfl ?_
        subst EX
        exact ea_ireturn (pc := 78) dX11_lead_78 rfl rfl
      · have EX := EX.trans (if_neg c13)
        refine ea_iconst (pc := 25) dX11_lead_25 (v := (-1)) rfl ?_
        subst EX
        exact ea_ireturn (pc := 26) dX11_lead_26 rfl rfl
noncomputable def vX11_sorter (b0 : Nat) (x1 : Int32) (x2 : Int32) (h : ea_H) : Int32 := (if x1 < (1 : Int32) then ((-1) : Int32) else (if (99 : Int32) < x1 then ((-1) : Int32) else (if x2 < (0 : Int32) then ((-1) : Int32) else (if x2 < (4096 : Int32) then (vX3_add b0 (x1 : Int32) (x2 : Int32) (ea_wi h (b0 + 0) 12 0)) else ((-1) : Int32)))))
noncomputable def wX11_sorter (b0 : Nat) (x1 : Int32) (x2 : Int32) (h : ea_H) : ea_H := (if x1 < (1 : Int32) then h else (if (99 : Int32) < x1 then h else (if x2 < (0 : Int32) then h else (if x2 < (4096 : Int32) then (wX3_add b0 (x1 : Int32) (x2 : Int32) (ea_wi h (b0 + 0) 12 0)) else h))))
def okX11_sorter (b0 : Nat) (x1 : Int32) (x2 : Int32) (h : ea_H) : Prop := (x1 < (1 : Int32) → True) ∧ (¬ x1 < (1 : Int32) → ((99 : Int32) < x1 → True) ∧ (¬ (99 : Int32) < x1 → (x2 < (0 : Int32) → True) ∧ (¬ x2 < (0 : Int32) → (x2 < (4096 : Int32) → (okX3_add b0 (x1 : Int32) (x2 : Int32) (ea_wi h (b0 + 0) 12 0))) ∧ (¬ x2 < (4096 : Int32) → True))))
theorem shX11_sorter {b0 : Nat} {x1 : Int32} {x2 : Int32} {h : ea_H} (hs : ShC b0 h) : ShC b0 (wX11_sorter b0 x1 x2 h) := (ShC_it hs (ShC_it hs (ShC_it hs (ShC_it (shX3_add (ShC_wi hs)) hs))))
theorem sX11_sorter {d : Nat} {b0 : Nat} {x1 : Int32} {x2 : Int32} {h : ea_H} (hd : 2 ≤ d) (hs : ShC b0 h) (K : okX11_sorter b0 x1 x2 h) : ea_Met mX11_sorter d [vR (some (b0 + 0)), vI x1, vI x2] h (some (vI (vX11_sorter b0 x1 x2 h))) (wX11_sorter b0 x1 x2 h) := by
  obtain ⟨X, EX⟩ : ∃ z, z = vX11_sorter b0 x1 x2 h := ⟨_, rfl⟩
  rw [← EX]
  unfold vX11_sorter at EX
  obtain ⟨Y, EY⟩ : ∃ z, z = wX11_sorter b0 x1 x2 h := ⟨_, rfl⟩
  rw [← EY]
  unfold wX11_sorter at EY
  unfold okX11_sorter at K
  refine ea_enter rfl (Nat.le_of_ble_eq_true rfl) ?_
  refine ea_iload_n (pc := 0) dX11_sorter_0 rfl 1 rfl ?_
  refine ea_iconst (pc := 1) dX11_sorter_1 (v := 1) rfl ?_
  refine ea_icmp_lt (pc := 2) (tgt := 22) dX11_sorter_2 rfl (fun c7 => ?_) (fun c7 => ?_)
  · have EX := EX.trans (if_pos c7)
    have EY := EY.trans (if_pos c7)
    refine ea_iconst (pc := 22) dX11_sorter_22 (v := (-1)) rfl ?_
    subst EX
    subst EY
    exact ea_ireturn (pc := 23) dX11_sorter_23 rfl rfl
  · have EX := EX.trans (if_neg c7)
    have EY := EY.trans (if_neg c7)
    have K := K.2 c7
    refine ea_iload_n (pc := 5) dX11_sorter_5 rfl 1 rfl ?_
    refine ea_bipush (pc := 6) dX11_sorter_6 (v := 99) rfl ?_
    refine ea_icmp_gt (pc := 8) (tgt := 22) dX11_sorter_8 rfl (fun c6 => ?_) (fun c6 => ?_)
    · have EX := EX.trans (if_pos c6)
      have EY := EY.trans (if_pos c6)
      refine ea_iconst (pc := 22) dX11_sorter_22 (v := (-1)) rfl ?_
      subst EX
      subst EY
      exact ea_ireturn (pc := 23) dX11_sorter_23 rfl rfl
    · have EX := EX.trans (if_neg c6)
      have EY := EY.trans (if_neg c6)
      have K := K.2 c6
      refine ea_iload_n (pc := 11) dX11_sorter_11 rfl 2 rfl ?_
      refine ea_if_lt (pc := 12) (tgt := 22) dX11_sorter_12 rfl (fun c5 => ?_) (fun c5 => ?_)
      · have EX := EX.trans (if_pos c5)
        have EY := EY.trans (if_pos c5)
        refine ea_iconst (pc := 22) dX11_sorter_22 (v := (-1)) rfl ?_
        subst EX
        subst EY
        exact ea_ireturn (pc := 23) dX11_sorter_23 rfl rfl
      · have EX := EX.trans (if_neg c5)
        have EY := EY.trans (if_neg c5)
        have K := K.2 c5
        refine ea_iload_n (pc := 15) dX11_sorter_15 rfl 2 rfl ?_
        refine ea_sipush (pc := 16) dX11_sorter_16 (v := 4096) rfl ?_
        refine ea_icmp_lt (pc := 19) (tgt := 24) dX11_sorter_19 rfl (fun c4 => ?_) (fun c4 => ?_)
        · have EX := EX.trans (if_pos c4)
          have EY := EY.trans (if_pos c4)
          have K := K.1 c4
          refine ea_aload_n (pc := 24) dX11_sorter_24 rfl 0 rfl ?_
          refine ea_iconst (pc := 25) dX11_sorter_25 (v := 0) rfl ?_
          refine ea_putI (pc := 26) dX11_sorter_26 ec_11 (k := 12) (Nat.le_of_ble_eq_true rfl) rfl (Or.inl ⟨rfl, Or.inl ew_449⟩) (ea_bn (Or.inl rfl)) (ea_bf (Or.inl rfl)) (hs.1 0 (by decide)).1 (hs.1 0 (by decide)).2.1 ?_
          have hs1 : ShC b0 (ea_wi h (b0 + 0) 12 0) := ShC_wi hs
          refine ea_aload_n (pc := 29) dX11_sorter_29 rfl 0 rfl ?_
          refine ea_getR (pc := 30) dX11_sorter_30 ec_11 (k := 3) (Nat.le_of_ble_eq_true rfl) rfl (Or.inl ew_440) (hs1.1 0 (by decide)).1 (hs1.1 0 (by decide)).2.1 (hs1.2 0 3 rfl) ?_
          refine ea_iload_n (pc := 33) dX11_sorter_33 rfl 1 rfl ?_
          refine ea_iload_n (pc := 34) dX11_sorter_34 rfl 2 rfl ?_
          have z2 := K
          refine ea_callV (pc := 35) (d' := d - 1) (As := [vI x1, vI x2]) (st := []) dX11_sorter_35 kX3_add (sX3_add (d := d - 1) (by omega) hs1 z2) (by omega) rfl (Nat.le_of_ble_eq_true rfl) ew_1137 ew_1138 ew_1139 (ci := 3) rfl (by decide) (hs1.1 16 (by decide)).1 (hs1.1 16 (by decide)).2.1 ?_
          have hs3 : ShC b0 (wX3_add b0 (x1 : Int32) (x2 : Int32) (ea_wi h (b0 + 0) 12 0)) := shX3_add hs1
          subst EX
          subst EY
          exact ea_ireturn (pc := 38) dX11_sorter_38 rfl rfl
        · have EX := EX.trans (if_neg c4)
          have EY := EY.trans (if_neg c4)
          refine ea_iconst (pc := 22) dX11_sorter_22 (v := (-1)) rfl ?_
          subst EX
          subst EY
          exact ea_ireturn (pc := 23) dX11_sorter_23 rfl rfl
noncomputable def vX11_seat (b0 : Nat) (x1 : Int32) (x2 : Int32) (h : ea_H) : Int32 := (if x1 < (0 : Int32) then (0 : Int32) else (if (ea_i h (b0 + 16) 0) ≤ x1 then (0 : Int32) else (if x2 = ((-1) : Int32) then (1 : Int32) else (if (vX9_has b0 (x2 : Int32) h) = (0 : Int32) then (0 : Int32) else (1 : Int32)))))
noncomputable def wX11_seat (b0 : Nat) (x1 : Int32) (x2 : Int32) (h : ea_H) : ea_H := (if x1 < (0 : Int32) then h else (if (ea_i h (b0 + 16) 0) ≤ x1 then h else (if x2 = ((-1) : Int32) then (ea_wi (ea_wi h (b0 + 17) (Int32.toNatClampNeg x1) x2) (b0 + 0) 12 0) else (if (vX9_has b0 (x2 : Int32) h) = (0 : Int32) then h else (ea_wi (ea_wi h (b0 + 17) (Int32.toNatClampNeg x1) x2) (b0 + 0) 12 0)))))
def okX11_seat (b0 : Nat) (x1 : Int32) (x2 : Int32) (h : ea_H) : Prop := (x1 < (0 : Int32) → True) ∧ (¬ x1 < (0 : Int32) → ((ea_i h (b0 + 16) 0) ≤ x1 → True) ∧ (¬ (ea_i h (b0 + 16) 0) ≤ x1 → (x2 = ((-1) : Int32) → vp_in x1 8) ∧ (¬ x2 = ((-1) : Int32) → ((vX9_has b0 (x2 : Int32) h) = (0 : Int32) → True) ∧ (¬ (vX9_has b0 (x2 : Int32) h) = (0 : Int32) → vp_in x1 8))))
theorem bo_vX11_seat (b0 : Nat) (x1 : Int32) (x2 : Int32) (h : ea_H) : vX11_seat b0 x1 x2 h = 0 ∨ vX11_seat b0 x1 x2 h = 1 := (ea_itB (Or.inl rfl) (ea_itB (Or.inl rfl) (ea_itB (Or.inr rfl) (ea_itB (Or.inl rfl) (Or.inr rfl)))))
theorem shX11_seat {b0 : Nat} {x1 : Int32} {x2 : Int32} {h : ea_H} (hs : ShC b0 h) : ShC b0 (wX11_seat b0 x1 x2 h) := (ShC_it hs (ShC_it hs (ShC_it (ShC_wi (ShC_wi hs)) (ShC_it hs (ShC_wi (ShC_wi hs))))))
theorem sX11_seat {d : Nat} {b0 : Nat} {x1 : Int32} {x2 : Int32} {h : ea_H} (hd : 2 ≤ d) (hs : ShC b0 h) (K : okX11_seat b0 x1 x2 h) : ea_Met mX11_seat d [vR (some (b0 + 0)), vI x1, vI x2] h (some (vI (vX11_seat b0 x1 x2 h))) (wX11_seat b0 x1 x2 h) := by
  obtain ⟨X, EX⟩ : ∃ z, z = vX11_seat b0 x1 x2 h := ⟨_, rfl⟩
  rw [← EX]
  unfold vX11_seat at EX
  obtain ⟨Y, EY⟩ : ∃ z, z = wX11_seat b0 x1 x2 h := ⟨_, rfl⟩
  rw [← EY]
  unfold wX11_seat at EY
  unfold okX11_seat at K
  refine ea_enter rfl (Nat.le_of_ble_eq_true rfl) ?_
  refine ea_iload_n (pc := 0) dX11_seat_0 rfl 1 rfl ?_
  refine ea_if_lt (pc := 1) (tgt := 31) dX11_seat_1 rfl (fun c11 => ?_) (fun c11 => ?_)
  · have EX := EX.trans (if_pos c11)
    have EY := EY.trans (if_pos c11)
    refine ea_iconst (pc := 31) dX11_seat_31 (v := 0) rfl ?_
    subst EX
    subst EY
    exact ea_ireturn (pc := 32) dX11_seat_32 rfl (ea_bn (Or.inl rfl))
  · have EX := EX.trans (if_neg c11)
    have EY := EY.trans (if_neg c11)
    have K := K.2 c11
    refine ea_iload_n (pc := 4) dX11_seat_4 rfl 1 rfl ?_
    refine ea_aload_n (pc := 5) dX11_seat_5 rfl 0 rfl ?_
    refine ea_getR (pc := 6) dX11_seat_6 ec_11 (k := 3) (Nat.le_of_ble_eq_true rfl) rfl (Or.inl ew_440) (hs.1 0 (by decide)).1 (hs.1 0 (by decide)).2.1 (hs.2 0 3 rfl) ?_
    refine ea_getI (pc := 9) dX11_seat_9 ec_3 (k := 0) (Nat.le_of_ble_eq_true rfl) rfl (Or.inl ew_262) (hs.1 16 (by decide)).1 (hs.1 16 (by decide)).2.1 ?_
    refine ea_icmp_ge (pc := 12) (tgt := 31) dX11_seat_12 rfl (fun c10 => ?_) (fun c10 => ?_)
    · have EX := EX.trans (if_pos c10)
      have EY := EY.trans (if_pos c10)
      refine ea_iconst (pc := 31) dX11_seat_31 (v := 0) rfl ?_
      subst EX
      subst EY
      exact ea_ireturn (pc := 32) dX11_seat_32 rfl (ea_bn (Or.inl rfl))
    · have EX := EX.trans (if_neg c10)
      have EY := EY.trans (if_neg c10)
      have K := K.2 c10
      refine ea_iload_n (pc := 15) dX11_seat_15 rfl 2 rfl ?_
      refine ea_iconst (pc := 16) dX11_seat_16 (v := (-1)) rfl ?_
      refine ea_icmp_eq (pc := 17) (tgt := 33) dX11_seat_17 rfl (fun c9 => ?_) (fun c9 => ?_)
      · have EX := EX.trans (if_pos c9)
        have EY := EY.trans (if_pos c9)
        have K := K.1 c9
        refine ea_aload_n (pc := 33) dX11_seat_33 rfl 0 rfl ?_
        refine ea_getR (pc := 34) dX11_seat_34 ec_11 (k := 3) (Nat.le_of_ble_eq_true rfl) rfl (Or.inl ew_440) (hs.1 0 (by decide)).1 (hs.1 0 (by decide)).2.1 (hs.2 0 3 rfl) ?_
        refine ea_getR (pc := 37) dX11_seat_37 ec_3 (k := 1) (Nat.le_of_ble_eq_true rfl) rfl (Or.inl ew_264) (hs.1 16 (by decide)).1 (hs.1 16 (by decide)).2.1 (hs.2 16 1 rfl) ?_
        refine ea_iload_n (pc := 40) dX11_seat_40 rfl 1 rfl ?_
        refine ea_iload_n (pc := 41) dX11_seat_41 rfl 2 rfl ?_
        have z1 := K
        refine ea_iast (pc := 42) dX11_seat_42 (hs.1 17 (by decide)).1 (hs.1 17 (by decide)).2.1 (ea_vpl (hs.1 17 (by decide)).2.2 z1) ?_
        have hs2 : ShC b0 (ea_wi h (b0 + 17) (Int32.toNatClampNeg x1) x2) := ShC_wi hs
        refine ea_aload_n (pc := 43) dX11_seat_43 rfl 0 rfl ?_
        refine ea_iconst (pc := 44) dX11_seat_44 (v := 0) rfl ?_
        refine ea_putI (pc := 45) dX11_seat_45 ec_11 (k := 12) (Nat.le_of_ble_eq_true rfl) rfl (Or.inl ⟨rfl, Or.inl ew_449⟩) (ea_bn (Or.inl rfl)) (ea_bf (Or.inl rfl)) (hs2.1 0 (by decide)).1 (hs2.1 0 (by decide)).2.1 ?_
        have hs3 : ShC b0 (ea_wi (ea_wi h (b0 + 17) (Int32.toNatClampNeg x1) x2) (b0 + 0) 12 0) := ShC_wi hs2
        refine ea_iconst (pc := 48) dX11_seat_48 (v := 1) rfl ?_
        subst EX
        subst EY
        exact ea_ireturn (pc := 49) dX11_seat_49 rfl (ea_bn (Or.inr rfl))
      · have EX := EX.trans (if_neg c9)
        have EY := EY.trans (if_neg c9)
        have K := K.2 c9
        refine ea_aload_n (pc := 20) dX11_seat_20 rfl 0 rfl ?_
        refine ea_getR (pc := 21) dX11_seat_21 ec_11 (k := 1) (Nat.le_of_ble_eq_true rfl) rfl (Or.inl ew_438) (hs.1 0 (by decide)).1 (hs.1 0 (by decide)).2.1 (hs.2 0 1 rfl) ?_
        refine ea_iload_n (pc := 24) dX11_seat_24 rfl 2 rfl ?_
        refine ea_callV (pc := 25) (d' := d - 1) (As := [vI x2]) (st := []) dX11_seat_25 kX9_has (sX9_has (d := d - 1) (by omega) hs) (by omega) rfl (Nat.le_of_ble_eq_true rfl) ew_518 ew_519 ew_520 (ci := 9) rfl (by decide) (hs.1 5 (by decide)).1 (hs.1 5 (by decide)).2.1 ?_
        refine ea_if_ne (pc := 28) (tgt := 33) dX11_seat_28 rfl (fun c8 => ?_) (fun c8 => ?_)
        · have EX := EX.trans (if_neg c8)
          have EY := EY.trans (if_neg c8)
          have K := K.2 c8
          refine ea_aload_n (pc := 33) dX11_seat_33 rfl 0 rfl ?_
          refine ea_getR (pc := 34) dX11_seat_34 ec_11 (k := 3) (Nat.le_of_ble_eq_true rfl) rfl (Or.inl ew_440) (hs.1 0 (by decide)).1 (hs.1 0 (by decide)).2.1 (hs.2 0 3 rfl) ?_
          refine ea_getR (pc := 37) dX11_seat_37 ec_3 (k := 1) (Nat.le_of_ble_eq_true rfl) rfl (Or.inl ew_264) (hs.1 16 (by decide)).1 (hs.1 16 (by decide)).2.1 (hs.2 16 1 rfl) ?_
          refine ea_iload_n (pc := 40) dX11_seat_40 rfl 1 rfl ?_
          refine ea_iload_n (pc := 41) dX11_seat_41 rfl 2 rfl ?_
          have z5 := K
          refine ea_iast (pc := 42) dX11_seat_42 (hs.1 17 (by decide)).1 (hs.1 17 (by decide)).2.1 (ea_vpl (hs.1 17 (by decide)).2.2 z5) ?_
          have hs6 : ShC b0 (ea_wi h (b0 + 17) (Int32.toNatClampNeg x1) x2) := ShC_wi hs
          refine ea_aload_n (pc := 43) dX11_seat_43 rfl 0 rfl ?_
          refine ea_iconst (pc := 44) dX11_seat_44 (v := 0) rfl ?_
          refine ea_putI (pc := 45) dX11_seat_45 ec_11 (k := 12) (Nat.le_of_ble_eq_true rfl) rfl (Or.inl ⟨rfl, Or.inl ew_449⟩) (ea_bn (Or.inl rfl)) (ea_bf (Or.inl rfl)) (hs6.1 0 (by decide)).1 (hs6.1 0 (by decide)).2.1 ?_
          have hs7 : ShC b0 (ea_wi (ea_wi h (b0 + 17) (Int32.toNatClampNeg x1) x2) (b0 + 0) 12 0) := ShC_wi hs6
          refine ea_iconst (pc := 48) dX11_seat_48 (v := 1) rfl ?_
          subst EX
          subst EY
          exact ea_ireturn (pc := 49) dX11_seat_49 rfl (ea_bn (Or.inr rfl))
        · have EX := EX.trans (if_pos c8)
          have EY := EY.trans (if_pos c8)
          refine ea_iconst (pc := 31) dX11_seat_31 (v := 0) rfl ?_
          subst EX
          subst EY
          exact ea_ireturn (pc := 32) dX11_seat_32 rfl (ea_bn (Or.inl rfl))
noncomputable def vX11_nobody (b0 : Nat) (x1 : Int32) (h : ea_H) : Int32 := (if (vX11_letterOf b0 (x1 : Int32) h) = none then (0 : Int32) else (if (ea_i h (Option.getD (vX11_letterOf b0 (x1 : Int32) h) 0) 15) = (0 : Int32) then (if (ea_i h (b0 + 33) (Int32.toNatClampNeg x1)) ≤ (1 : Int32) then (1 : Int32) else (0 : Int32)) else (0 : Int32)))
noncomputable def wX11_nobody (b0 : Nat) (x1 : Int32) (h : ea_H) : ea_H := (if (vX11_letterOf b0 (x1 : Int32) h) = none then h else (if (ea_i h (Option.getD (vX11_letterOf b0 (x1 : Int32) h) 0) 15) = (0 : Int32) then (if (ea_i h (b0 + 33) (Int32.toNatClampNeg x1)) ≤ (1 : Int32) then (ea_wi (ea_wi h (Option.getD (vX11_letterOf b0 (x1 : Int32) h) 0) 15 1) (b0 + 0) 12 0) else h) else h))
def okX11_nobody (b0 : Nat) (x1 : Int32) (h : ea_H) : Prop := (okX11_letterOf b0 (x1 : Int32) h) ∧ (((vX11_letterOf b0 (x1 : Int32) h) = none → True) ∧ (¬ (vX11_letterOf b0 (x1 : Int32) h) = none → (vX11_letterOf b0 (x1 : Int32) h) = some (Option.getD (vX11_letterOf b0 (x1 : Int32) h) 0) ∧ (((Option.getD (vX11_letterOf b0 (x1 : Int32) h) 0) < ea_n h ∧ ea_c h (Option.getD (vX11_letterOf b0 (x1 : Int32) h) 0) = 4) ∧ (((ea_i h (Option.getD (vX11_letterOf b0 (x1 : Int32) h) 0) 15) = (0 : Int32) → vp_in x1 120 ∧ (((ea_i h (b0 + 33) (Int32.toNatClampNeg x1)) ≤ (1 : Int32) → (vX11_letterOf b0 (x1 : Int32) h) = some (Option.getD (vX11_letterOf b0 (x1 : Int32) h) 0) ∧ (((Option.getD (vX11_letterOf b0 (x1 : Int32) h) 0) < ea_n h ∧ ea_c h (Option.getD (vX11_letterOf b0 (x1 : Int32) h) 0) = 4))) ∧ (¬ (ea_i h (b0 + 33) (Int32.toNatClampNeg x1)) ≤ (1 : Int32) → True))) ∧ (¬ (ea_i h (Option.getD (vX11_letterOf b0 (x1 : Int32) h) 0) 15) = (0 : Int32) → True)))))
theorem bo_vX11_nobody (b0 : Nat) (x1 : Int32) (h : ea_H) : vX11_nobody b0 x1 h = 0 ∨ vX11_nobody b0 x1 h = 1 := (ea_itB (Or.inl rfl) (ea_itB (ea_itB (Or.inr rfl) (Or.inl rfl)) (Or.inl rfl)))
theorem shX11_nobody {b0 : Nat} {x1 : Int32} {h : ea_H} (hs : ShC b0 h) : ShC b0 (wX11_nobody b0 x1 h) := (ShC_it hs (ShC_it (ShC_it (ShC_wi (ShC_wi hs)) hs) hs))
theorem sX11_nobody {d : Nat} {b0 : Nat} {x1 : Int32} {h : ea_H} (hd : 2 ≤ d) (hs : ShC b0 h) (K : okX11_nobody b0 x1 h) : ea_Met mX11_nobody d [vR (some (b0 + 0)), vI x1] h (some (vI (vX11_nobody b0 x1 h))) (wX11_nobody b0 x1 h) := by
  obtain ⟨X, EX⟩ : ∃ z, z = vX11_nobody b0 x1 h := ⟨_, rfl⟩
  rw [← EX]
  unfold vX11_nobody at EX
  obtain ⟨Y, EY⟩ : ∃ z, z = wX11_nobody b0 x1 h := ⟨_, rfl⟩
  rw [← EY]
  unfold wX11_nobody at EY
  unfold okX11_nobody at K
  refine ea_enter rfl (Nat.le_of_ble_eq_true rfl) ?_
  refine ea_aload_n (pc := 0) dX11_nobody_0 rfl 0 rfl ?_
  refine ea_iload_n (pc := 1) dX11_nobody_1 rfl 1 rfl ?_
  obtain ⟨z1, K⟩ := K
  refine ea_callV (pc := 2) (d' := d - 1) (As := [vI x1]) (st := []) dX11_nobody_2 kX11_letterOf (sX11_letterOf (d := d - 1) (by omega) hs z1) (by omega) rfl (Nat.le_of_ble_eq_true rfl) ew_1076 ew_1078 ew_37 (ci := 11) rfl (by decide) (hs.1 0 (by decide)).1 (hs.1 0 (by decide)).2.1 ?_
  refine ea_astore_n (pc := 5) (lv' := [(0, vR (some (b0 + 0))), (1, vI x1), (2, vR (vX11_letterOf b0 (x1 : Int32) h))]) dX11_nobody_5 rfl (Nat.le_of_ble_eq_true rfl) [1, 2, 0] rfl ?_
  refine ea_aload_n (pc := 6) dX11_nobody_6 rfl 2 rfl ?_
  refine ea_ifnull (pc := 7) (tgt := 30) dX11_nobody_7 rfl (fun c11 => ?_) (fun a12 c11 => ?_)
  · have EX := EX.trans (if_pos c11)
    have EY := EY.trans (if_pos c11)
    refine ea_iconst (pc := 30) dX11_nobody_30 (v := 0) rfl ?_
    subst EX
    subst EY
    exact ea_ireturn (pc := 31) dX11_nobody_31 rfl (ea_bn (Or.inl rfl))
  · have c11n : ¬ (vX11_letterOf b0 (x1 : Int32) h) = none := by rw [c11]; exact fun q => nomatch q
    have EX := EX.trans (if_neg c11n)
    have EY := EY.trans (if_neg c11n)
    have K := K.2 c11n
    refine ea_aload_n (pc := 10) dX11_nobody_10 rfl 2 rfl ?_
    obtain ⟨e2, f3, K⟩ := K
    refine ea_deref0 e2 ?_
    refine ea_getI (pc := 11) dX11_nobody_11 ec_4 (k := 15) (Nat.le_of_ble_eq_true rfl) rfl (Or.inl ew_973) f3.1 f3.2 ?_
    refine ea_if_ne (pc := 14) (tgt := 30) dX11_nobody_14 rfl (fun c10 => ?_) (fun c10 => ?_)
    · have EX := EX.trans (if_neg c10)
      have EY := EY.trans (if_neg c10)
      refine ea_iconst (pc := 30) dX11_nobody_30 (v := 0) rfl ?_
      subst EX
      subst EY
      exact ea_ireturn (pc := 31) dX11_nobody_31 rfl (ea_bn (Or.inl rfl))
    · have EX := EX.trans (if_pos c10)
      have EY := EY.trans (if_pos c10)
      have K := K.1 c10
      refine ea_aload_n (pc := 17) dX11_nobody_17 rfl 0 rfl ?_
      refine ea_getR (pc := 18) dX11_nobody_18 ec_11 (k := 6) (Nat.le_of_ble_eq_true rfl) rfl (Or.inl ew_443) (hs.1 0 (by decide)).1 (hs.1 0 (by decide)).2.1 (hs.2 0 6 rfl) ?_
      refine ea_getR (pc := 21) dX11_nobody_21 ec_1 (k := 1) (Nat.le_of_ble_eq_true rfl) rfl (Or.inl ew_362) (hs.1 32 (by decide)).1 (hs.1 32 (by decide)).2.1 (hs.2 32 1 rfl) ?_
      refine ea_iload_n (pc := 24) dX11_nobody_24 rfl 1 rfl ?_
      obtain ⟨z4, K⟩ := K
      refine ea_iald (pc := 25) dX11_nobody_25 (hs.1 33 (by decide)).1 (hs.1 33 (by decide)).2.1 (ea_vpl (hs.1 33 (by decide)).2.2 z4) ?_
      refine ea_iconst (pc := 26) dX11_nobody_26 (v := 1) rfl ?_
      refine ea_icmp_le (pc := 27) (tgt := 32) dX11_nobody_27 rfl (fun c9 => ?_) (fun c9 => ?_)
      · have EX := EX.trans (if_pos c9)
        have EY := EY.trans (if_pos c9)
        have K := K.1 c9
        refine ea_aload_n (pc := 32) dX11_nobody_32 rfl 2 rfl ?_
        refine ea_iconst (pc := 33) dX11_nobody_33 (v := 1) rfl ?_
        obtain ⟨e5, f6⟩ := K
        refine ea_deref1 e5 ?_
        refine ea_putI (pc := 34) dX11_nobody_34 ec_4 (k := 15) (Nat.le_of_ble_eq_true rfl) rfl (Or.inl ⟨rfl, Or.inl ew_973⟩) (ea_bn (Or.inr rfl)) (ea_bf (Or.inr rfl)) f6.1 f6.2 ?_
        have hs7 : ShC b0 (ea_wi h (Option.getD (vX11_letterOf b0 (x1 : Int32) h) 0) 15 1) := ShC_wi hs
        refine ea_aload_n (pc := 37) dX11_nobody_37 rfl 0 rfl ?_
        refine ea_iconst (pc := 38) dX11_nobody_38 (v := 0) rfl ?_
        refine ea_putI (pc := 39) dX11_nobody_39 ec_11 (k := 12) (Nat.le_of_ble_eq_true rfl) rfl (Or.inl ⟨rfl, Or.inl ew_449⟩) (ea_bn (Or.inl rfl)) (ea_bf (Or.inl rfl)) (hs7.1 0 (by decide)).1 (hs7.1 0 (by decide)).2.1 ?_
        have hs8 : ShC b0 (ea_wi (ea_wi h (Option.getD (vX11_letterOf b0 (x1 : Int32) h) 0) 15 1) (b0 + 0) 12 0) := ShC_wi hs7
        refine ea_iconst (pc := 42) dX11_nobody_42 (v := 1) rfl ?_
        subst EX
        subst EY
        exact ea_ireturn (pc := 43) dX11_nobody_43 rfl (ea_bn (Or.inr rfl))
      · have EX := EX.trans (if_neg c9)
        have EY := EY.trans (if_neg c9)
        refine ea_iconst (pc := 30) dX11_nobody_30 (v := 0) rfl ?_
        subst EX
        subst EY
        exact ea_ireturn (pc := 31) dX11_nobody_31 rfl (ea_bn (Or.inl rfl))
noncomputable def vX11_place (b0 : Nat) (x1 : Int32) (x2 : Int32) (x3 : Int32) (h : ea_H) : Int32 := (if (vX11_letterOf b0 (x1 : Int32) h) = none then (0 : Int32) else (if (ea_i h (b0 + 33) (Int32.toNatClampNeg x1)) = (3 : Int32) then (if (vX6_has b0 (x2 : Int32) h) = (0 : Int32) then (0 : Int32) else (if x2 = (ea_i h (Option.getD (vX11_letterOf b0 (x1 : Int32) h) 0) 2) then (0 : Int32) else (if x3 < (1 : Int32) then (0 : Int32) else (if x3 ≤ (99 : Int32) then (vX4_tell b0 (Option.getD (vX11_letterOf b0 (x1 : Int32) h) 0) (x2 : Int32) (x3 : Int32) h) else (0 : Int32))))) else (0 : Int32)))
noncomputable def wX11_place (b0 : Nat) (x1 : Int32) (x2 : Int32) (x3 : Int32) (h : ea_H) : ea_H := (if (vX11_letterOf b0 (x1 : Int32) h) = none then h else (if (ea_i h (b0 + 33) (Int32.toNatClampNeg x1)) = (3 : Int32) then (if (vX6_has b0 (x2 : Int32) h) = (0 : Int32) then h else (if x2 = (ea_i h (Option.getD (vX11_letterOf b0 (x1 : Int32) h) 0) 2) then h else (if x3 < (1 : Int32) then h else (if x3 ≤ (99 : Int32) then (wX4_tell b0 (Option.getD (vX11_letterOf b0 (x1 : Int32) h) 0) (x2 : Int32) (x3 : Int32) h) else h)))) else h))
def okX11_place (b0 : Nat) (x1 : Int32) (x2 : Int32) (x3 : Int32) (h : ea_H) : Prop := (okX11_letterOf b0 (x1 : Int32) h) ∧ (((vX11_letterOf b0 (x1 : Int32) h) = none → True) ∧ (¬ (vX11_letterOf b0 (x1 : Int32) h) = none → vp_in x1 120 ∧ (((ea_i h (b0 + 33) (Int32.toNatClampNeg x1)) = (3 : Int32) → ((vX6_has b0 (x2 : Int32) h) = (0 : Int32) → True) ∧ (¬ (vX6_has b0 (x2 : Int32) h) = (0 : Int32) → (vX11_letterOf b0 (x1 : Int32) h) = some (Option.getD (vX11_letterOf b0 (x1 : Int32) h) 0) ∧ (((Option.getD (vX11_letterOf b0 (x1 : Int32) h) 0) < ea_n h ∧ ea_c h (Option.getD (vX11_letterOf b0 (x1 : Int32) h) 0) = 4) ∧ ((x2 = (ea_i h (Option.getD (vX11_letterOf b0 (x1 : Int32) h) 0) 2) → True) ∧ (¬ x2 = (ea_i h (Option.getD (vX11_letterOf b0 (x1 : Int32) h) 0) 2) → (x3 < (1 : Int32) → True) ∧ (¬ x3 < (1 : Int32) → (x3 ≤ (99 : Int32) → (vX11_letterOf b0 (x1 : Int32) h) = some (Option.getD (vX11_letterOf b0 (x1 : Int32) h) 0) ∧ (((Option.getD (vX11_letterOf b0 (x1 : Int32) h) 0) < ea_n h ∧ ea_c h (Option.getD (vX11_letterOf b0 (x1 : Int32) h) 0) = 4) ∧ ((okX4_tell b0 (Option.getD (vX11_letterOf b0 (x1 : Int32) h) 0) (x2 : Int32) (x3 : Int32) h) ∧ (((vX4_tell b0 (Option.getD (vX11_letterOf b0 (x1 : Int32) h) 0) (x2 : Int32) (x3 : Int32) h) = 0 ∨ (vX4_tell b0 (Option.getD (vX11_letterOf b0 (x1 : Int32) h) 0) (x2 : Int32) (x3 : Int32) h) = 1))))) ∧ (¬ x3 ≤ (99 : Int32) → True))))))) ∧ (¬ (ea_i h (b0 + 33) (Int32.toNatClampNeg x1)) = (3 : Int32) → True))))
theorem shX11_place {b0 : Nat} {x1 : Int32} {x2 : Int32} {x3 : Int32} {h : ea_H} (hs : ShC b0 h) : ShC b0 (wX11_place b0 x1 x2 x3 h) := (ShC_it hs (ShC_it (ShC_it hs (ShC_it hs (ShC_it hs (ShC_it (shX4_tell hs) hs)))) hs))
theorem sX11_place {d : Nat} {b0 : Nat} {x1 : Int32} {x2 : Int32} {x3 : Int32} {h : ea_H} (hd : 4 ≤ d) (hs : ShC b0 h) (K : okX11_place b0 x1 x2 x3 h) : ea_Met mX11_place d [vR (some (b0 + 0)), vI x1, vI x2, vI x3] h (some (vI (vX11_place b0 x1 x2 x3 h))) (wX11_place b0 x1 x2 x3 h) := by
  obtain ⟨X, EX⟩ : ∃ z, z = vX11_place b0 x1 x2 x3 h := ⟨_, rfl⟩
  rw [← EX]
  unfold vX11_place at EX
  obtain ⟨Y, EY⟩ : ∃ z, z = wX11_place b0 x1 x2 x3 h := ⟨_, rfl⟩
  rw [← EY]
  unfold wX11_place at EY
  unfold okX11_place at K
  refine ea_enter rfl (Nat.le_of_ble_eq_true rfl) ?_
  refine ea_aload_n (pc := 0) dX11_place_0 rfl 0 rfl ?_
  refine ea_iload_n (pc := 1) dX11_place_1 rfl 1 rfl ?_
  obtain ⟨z1, K⟩ := K
  refine ea_callV (pc := 2) (d' := d - 1) (As := [vI x1]) (st := []) dX11_place_2 kX11_letterOf (sX11_letterOf (d := d - 1) (by omega) hs z1) (by omega) rfl (Nat.le_of_ble_eq_true rfl) ew_1076 ew_1078 ew_37 (ci := 11) rfl (by decide) (hs.1 0 (by decide)).1 (hs.1 0 (by decide)).2.1 ?_
  refine ea_astore (pc := 5) (lv' := [(0, vR (some (b0 + 0))), (1, vI x1), (2, vI x2), (3, vI x3), (4, vR (vX11_letterOf b0 (x1 : Int32) h))]) dX11_place_5 (Nat.le_of_ble_eq_true rfl) [1, 2, 3, 4, 0] rfl ?_
  refine ea_aload (pc := 7) dX11_place_7 4 rfl ?_
  refine ea_ifnull (pc := 9) (tgt := 45) dX11_place_9 rfl (fun c16 => ?_) (fun a17 c16 => ?_)
  · have EX := EX.trans (if_pos c16)
    have EY := EY.trans (if_pos c16)
    refine ea_iconst (pc := 45) dX11_place_45 (v := 0) rfl ?_
    subst EX
    subst EY
    exact ea_ireturn (pc := 46) dX11_place_46 rfl (ea_bn (Or.inl rfl))
  · have c16n : ¬ (vX11_letterOf b0 (x1 : Int32) h) = none := by rw [c16]; exact fun q => nomatch q
    have EX := EX.trans (if_neg c16n)
    have EY := EY.trans (if_neg c16n)
    have K := K.2 c16n
    refine ea_aload_n (pc := 12) dX11_place_12 rfl 0 rfl ?_
    refine ea_getR (pc := 13) dX11_place_13 ec_11 (k := 6) (Nat.le_of_ble_eq_true rfl) rfl (Or.inl ew_443) (hs.1 0 (by decide)).1 (hs.1 0 (by decide)).2.1 (hs.2 0 6 rfl) ?_
    refine ea_getR (pc := 16) dX11_place_16 ec_1 (k := 1) (Nat.le_of_ble_eq_true rfl) rfl (Or.inl ew_362) (hs.1 32 (by decide)).1 (hs.1 32 (by decide)).2.1 (hs.2 32 1 rfl) ?_
    refine ea_iload_n (pc := 19) dX11_place_19 rfl 1 rfl ?_
    obtain ⟨z2, K⟩ := K
    refine ea_iald (pc := 20) dX11_place_20 (hs.1 33 (by decide)).1 (hs.1 33 (by decide)).2.1 (ea_vpl (hs.1 33 (by decide)).2.2 z2) ?_
    refine ea_iconst (pc := 21) dX11_place_21 (v := 3) rfl ?_
    refine ea_icmp_ne (pc := 22) (tgt := 45) dX11_place_22 rfl (fun c15 => ?_) (fun c15 => ?_)
    · have EX := EX.trans (if_neg c15)
      have EY := EY.trans (if_neg c15)
      refine ea_iconst (pc := 45) dX11_place_45 (v := 0) rfl ?_
      subst EX
      subst EY
      exact ea_ireturn (pc := 46) dX11_place_46 rfl (ea_bn (Or.inl rfl))
    · have EX := EX.trans (if_pos c15)
      have EY := EY.trans (if_pos c15)
      have K := K.1 c15
      refine ea_aload_n (pc := 25) dX11_place_25 rfl 0 rfl ?_
      refine ea_getR (pc := 26) dX11_place_26 ec_11 (k := 0) (Nat.le_of_ble_eq_true rfl) rfl (Or.inl ew_437) (hs.1 0 (by decide)).1 (hs.1 0 (by decide)).2.1 (hs.2 0 0 rfl) ?_
      refine ea_iload_n (pc := 29) dX11_place_29 rfl 2 rfl ?_
      refine ea_callV (pc := 30) (d' := d - 1) (As := [vI x2]) (st := []) dX11_place_30 kX6_has (sX6_has (d := d - 1) (by omega) hs) (by omega) rfl (Nat.le_of_ble_eq_true rfl) ew_494 ew_495 ew_496 (ci := 6) rfl (by decide) (hs.1 1 (by decide)).1 (hs.1 1 (by decide)).2.1 ?_
      refine ea_if_eq (pc := 33) (tgt := 45) dX11_place_33 rfl (fun c14 => ?_) (fun c14 => ?_)
      · have EX := EX.trans (if_pos c14)
        have EY := EY.trans (if_pos c14)
        refine ea_iconst (pc := 45) dX11_place_45 (v := 0) rfl ?_
        subst EX
        subst EY
        exact ea_ireturn (pc := 46) dX11_place_46 rfl (ea_bn (Or.inl rfl))
      · have EX := EX.trans (if_neg c14)
        have EY := EY.trans (if_neg c14)
        have K := K.2 c14
        refine ea_iload_n (pc := 36) dX11_place_36 rfl 2 rfl ?_
        refine ea_aload (pc := 37) dX11_place_37 4 rfl ?_
        obtain ⟨e4, f5, K⟩ := K
        refine ea_deref0 e4 ?_
        refine ea_getI (pc := 39) dX11_place_39 ec_4 (k := 2) (Nat.le_of_ble_eq_true rfl) rfl (Or.inl ew_940) f5.1 f5.2 ?_
        refine ea_icmp_ne (pc := 42) (tgt := 47) dX11_place_42 rfl (fun c13 => ?_) (fun c13 => ?_)
        · have EX := EX.trans (if_neg c13)
          have EY := EY.trans (if_neg c13)
          have K := K.2 c13
          refine ea_iload_n (pc := 47) dX11_place_47 rfl 3 rfl ?_
          refine ea_iconst (pc := 48) dX11_place_48 (v := 1) rfl ?_
          refine ea_icmp_lt (pc := 49) (tgt := 58) dX11_place_49 rfl (fun c12 => ?_) (fun c12 => ?_)
          · have EX := EX.trans (if_pos c12)
            have EY := EY.trans (if_pos c12)
            refine ea_iconst (pc := 58) dX11_place_58 (v := 0) rfl ?_
            subst EX
            subst EY
            exact ea_ireturn (pc := 59) dX11_place_59 rfl (ea_bn (Or.inl rfl))
          · have EX := EX.trans (if_neg c12)
            have EY := EY.trans (if_neg c12)
            have K := K.2 c12
            refine ea_iload_n (pc := 52) dX11_place_52 rfl 3 rfl ?_
            refine ea_bipush (pc := 53) dX11_place_53 (v := 99) rfl ?_
            refine ea_icmp_le (pc := 55) (tgt := 60) dX11_place_55 rfl (fun c11 => ?_) (fun c11 => ?_)
            · have EX := EX.trans (if_pos c11)
              have EY := EY.trans (if_pos c11)
              have K := K.1 c11
              refine ea_aload (pc := 60) dX11_place_60 4 rfl ?_
              refine ea_iload_n (pc := 62) dX11_place_62 rfl 2 rfl ?_
              refine ea_iload_n (pc := 63) dX11_place_63 rfl 3 rfl ?_
              obtain ⟨e6, f7, z8, K⟩ := K
              refine ea_deref2 e6 ?_
              refine ea_callV (pc := 64) (d' := d - 1) (As := [vI x2, vI x3]) (st := []) dX11_place_64 kX4_tell (sX4_tell (d := d - 1) (by omega) hs z8) (by omega) rfl (Nat.le_of_ble_eq_true rfl) ew_1190 ew_1191 ew_1192 (ci := 4) rfl (by decide) f7.1 f7.2 ?_
              have hs9 : ShC b0 (wX4_tell b0 (Option.getD (vX11_letterOf b0 (x1 : Int32) h) 0) (x2 : Int32) (x3 : Int32) h) := shX4_tell hs
              subst EX
              subst EY
              exact ea_ireturn (pc := 67) dX11_place_67 rfl (ea_bn K)
            · have EX := EX.trans (if_neg c11)
              have EY := EY.trans (if_neg c11)
              refine ea_iconst (pc := 58) dX11_place_58 (v := 0) rfl ?_
              subst EX
              subst EY
              exact ea_ireturn (pc := 59) dX11_place_59 rfl (ea_bn (Or.inl rfl))
        · have EX := EX.trans (if_pos c13)
          have EY := EY.trans (if_pos c13)
          refine ea_iconst (pc := 45) dX11_place_45 (v := 0) rfl ?_
          subst EX
          subst EY
          exact ea_ireturn (pc := 46) dX11_place_46 rfl (ea_bn (Or.inl rfl))
noncomputable def vX11_order (b0 : Nat) (x1 : Int32) (x2 : Int32) (h : ea_H) : Int64 := (if (vX11_letterOf b0 (x1 : Int32) h) = none then ((-1) : Int64) else (if x2 = (0 : Int32) then (Int32.toInt64 (ea_i h (Option.getD (vX11_letterOf b0 (x1 : Int32) h) 0) 18)) else (if x2 = (1 : Int32) then (if (ea_i h (Option.getD (vX11_letterOf b0 (x1 : Int32) h) 0) 18) = (0 : Int32) then ((-1) : Int64) else (if x2 = (1 : Int32) then (vX4_foundByAll b0 (Option.getD (vX11_letterOf b0 (x1 : Int32) h) 0) (1 : Int32) h) else (vX4_foundByAll b0 (Option.getD (vX11_letterOf b0 (x1 : Int32) h) 0) (0 : Int32) h))) else (if x2 = (2 : Int32) then (if (ea_i h (Option.getD (vX11_letterOf b0 (x1 : Int32) h) 0) 18) = (0 : Int32) then ((-1) : Int64) else (if x2 = (1 : Int32) then (vX4_foundByAll b0 (Option.getD (vX11_letterOf b0 (x1 : Int32) h) 0) (1 : Int32) h) else (vX4_foundByAll b0 (Option.getD (vX11_letterOf b0 (x1 : Int32) h) 0) (0 : Int32) h))) else (if x2 < (10 : Int32) then (if x2 < (20 : Int32) then ((-1) : Int64) else (if ((20 : Int32) + (ea_i h (Option.getD (vX11_letterOf b0 (x1 : Int32) h) 0) 18)) ≤ x2 then ((-1) : Int64) else (Int32.toInt64 (vX4_placeChance b0 (Option.getD (vX11_letterOf b0 (x1 : Int32) h) 0) ((x2 - (20 : Int32)) : Int32) h)))) else (if ((10 : Int32) + (ea_i h (Option.getD (vX11_letterOf b0 (x1 : Int32) h) 0) 18)) ≤ x2 then (if x2 < (20 : Int32) then ((-1) : Int64) else (if ((20 : Int32) + (ea_i h (Option.getD (vX11_letterOf b0 (x1 : Int32) h) 0) 18)) ≤ x2 then ((-1) : Int64) else (Int32.toInt64 (vX4_placeChance b0 (Option.getD (vX11_letterOf b0 (x1 : Int32) h) 0) ((x2 - (20 : Int32)) : Int32) h)))) else (Int32.toInt64 (vX4_placeTown b0 (Option.getD (vX11_letterOf b0 (x1 : Int32) h) 0) ((x2 - (10 : Int32)) : Int32) h))))))))
noncomputable def wX11_order (b0 : Nat) (x1 : Int32) (x2 : Int32) (h : ea_H) : ea_H := (if (vX11_letterOf b0 (x1 : Int32) h) = none then h else (if x2 = (0 : Int32) then h else (if x2 = (1 : Int32) then (if (ea_i h (Option.getD (vX11_letterOf b0 (x1 : Int32) h) 0) 18) = (0 : Int32) then h else (if x2 = (1 : Int32) then (wX4_foundByAll b0 (Option.getD (vX11_letterOf b0 (x1 : Int32) h) 0) (1 : Int32) h) else (wX4_foundByAll b0 (Option.getD (vX11_letterOf b0 (x1 : Int32) h) 0) (0 : Int32) h))) else (if x2 = (2 : Int32) then (if (ea_i h (Option.getD (vX11_letterOf b0 (x1 : Int32) h) 0) 18) = (0 : Int32) then h else (if x2 = (1 : Int32) then (wX4_foundByAll b0 (Option.getD (vX11_letterOf b0 (x1 : Int32) h) 0) (1 : Int32) h) else (wX4_foundByAll b0 (Option.getD (vX11_letterOf b0 (x1 : Int32) h) 0) (0 : Int32) h))) else h))))
def okX11_order (b0 : Nat) (x1 : Int32) (x2 : Int32) (h : ea_H) : Prop := (okX11_letterOf b0 (x1 : Int32) h) ∧ (((vX11_letterOf b0 (x1 : Int32) h) = none → True) ∧ (¬ (vX11_letterOf b0 (x1 : Int32) h) = none → (x2 = (0 : Int32) → (vX11_letterOf b0 (x1 : Int32) h) = some (Option.getD (vX11_letterOf b0 (x1 : Int32) h) 0) ∧ (((Option.getD (vX11_letterOf b0 (x1 : Int32) h) 0) < ea_n h ∧ ea_c h (Option.getD (vX11_letterOf b0 (x1 : Int32) h) 0) = 4))) ∧ (¬ x2 = (0 : Int32) → (x2 = (1 : Int32) → (vX11_letterOf b0 (x1 : Int32) h) = some (Option.getD (vX11_letterOf b0 (x1 : Int32) h) 0) ∧ (((Option.getD (vX11_letterOf b0 (x1 : Int32) h) 0) < ea_n h ∧ ea_c h (Option.getD (vX11_letterOf b0 (x1 : Int32) h) 0) = 4) ∧ (((ea_i h (Option.getD (vX11_letterOf b0 (x1 : Int32) h) 0) 18) = (0 : Int32) → True) ∧ (¬ (ea_i h (Option.getD (vX11_letterOf b0 (x1 : Int32) h) 0) 18) = (0 : Int32) → (x2 = (1 : Int32) → (vX11_letterOf b0 (x1 : Int32) h) = some (Option.getD (vX11_letterOf b0 (x1 : Int32) h) 0) ∧ (((Option.getD (vX11_letterOf b0 (x1 : Int32) h) 0) < ea_n h ∧ ea_c h (Option.getD (vX11_letterOf b0 (x1 : Int32) h) 0) = 4) ∧ ((okX4_foundByAll b0 (Option.getD (vX11_letterOf b0 (x1 : Int32) h) 0) (1 : Int32) h)))) ∧ (¬ x2 = (1 : Int32) → (vX11_letterOf b0 (x1 : Int32) h) = some (Option.getD (vX11_letterOf b0 (x1 : Int32) h) 0) ∧ (((Option.getD (vX11_letterOf b0 (x1 : Int32) h) 0) < ea_n h ∧ ea_c h (Option.getD (vX11_letterOf b0 (x1 : Int32) h) 0) = 4) ∧ ((okX4_foundByAll b0 (Option.getD (vX11_letterOf b0 (x1 : Int32) h) 0) (0 : Int32) h)))))))) ∧ (¬ x2 = (1 : Int32) → (x2 = (2 : Int32) → (vX11_letterOf b0 (x1 : Int32) h) = some (Option.getD (vX11_letterOf b0 (x1 : Int32) h) 0) ∧ (((Option.getD (vX11_letterOf b0 (x1 : Int32) h) 0) < ea_n h ∧ ea_c h (Option.getD (vX11_letterOf b0 (x1 : Int32) h) 0) = 4) ∧ (((ea_i h (Option.getD (vX11_letterOf b0 (x1 : Int32) h) 0) 18) = (0 : Int32) → True) ∧ (¬ (ea_i h (Option.getD (vX11_letterOf b0 (x1 : Int32) h) 0) 18) = (0 : Int32) → (x2 = (1 : Int32) → (vX11_letterOf b0 (x1 : Int32) h) = some (Option.getD (vX11_letterOf b0 (x1 : Int32) h) 0) ∧ (((Option.getD (vX11_letterOf b0 (x1 : Int32) h) 0) < ea_n h ∧ ea_c h (Option.getD (vX11_letterOf b0 (x1 : Int32) h) 0) = 4) ∧ ((okX4_foundByAll b0 (Option.getD (vX11_letterOf b0 (x1 : Int32) h) 0) (1 : Int32) h)))) ∧ (¬ x2 = (1 : Int32) → (vX11_letterOf b0 (x1 : Int32) h) = some (Option.getD (vX11_letterOf b0 (x1 : Int32) h) 0) ∧ (((Option.getD (vX11_letterOf b0 (x1 : Int32) h) 0) < ea_n h ∧ ea_c h (Option.getD (vX11_letterOf b0 (x1 : Int32) h) 0) = 4) ∧ ((okX4_foundByAll b0 (Option.getD (vX11_letterOf b0 (x1 : Int32) h) 0) (0 : Int32) h)))))))) ∧ (¬ x2 = (2 : Int32) → (x2 < (10 : Int32) → (x2 < (20 : Int32) → True) ∧ (¬ x2 < (20 : Int32) → (vX11_letterOf b0 (x1 : Int32) h) = some (Option.getD (vX11_letterOf b0 (x1 : Int32) h) 0) ∧ (((Option.getD (vX11_letterOf b0 (x1 : Int32) h) 0) < ea_n h ∧ ea_c h (Option.getD (vX11_letterOf b0 (x1 : Int32) h) 0) = 4) ∧ ((((20 : Int32) + (ea_i h (Option.getD (vX11_letterOf b0 (x1 : Int32) h) 0) 18)) ≤ x2 → True) ∧ (¬ ((20 : Int32) + (ea_i h (Option.getD (vX11_letterOf b0 (x1 : Int32) h) 0) 18)) ≤ x2 → (vX11_letterOf b0 (x1 : Int32) h) = some (Option.getD (vX11_letterOf b0 (x1 : Int32) h) 0) ∧ (((Option.getD (vX11_letterOf b0 (x1 : Int32) h) 0) < ea_n h ∧ ea_c h (Option.getD (vX11_letterOf b0 (x1 : Int32) h) 0) = 4) ∧ ((okX4_placeChance b0 (Option.getD (vX11_letterOf b0 (x1 : Int32) h) 0) ((x2 - (20 : Int32)) : Int32) h)))))))) ∧ (¬ x2 < (10 : Int32) → (vX11_letterOf b0 (x1 : Int32) h) = some (Option.getD (vX11_letterOf b0 (x1 : Int32) h) 0) ∧ (((Option.getD (vX11_letterOf b0 (x1 : Int32) h) 0) < ea_n h ∧ ea_c h (Option.getD (vX11_letterOf b0 (x1 : Int32) h) 0) = 4) ∧ ((((10 : Int32) + (ea_i h (Option.getD (vX11_letterOf b0 (x1 : Int32) h) 0) 18)) ≤ x2 → (x2 < (20 : Int32) → True) ∧ (¬ x2 < (20 : Int32) → (vX11_letterOf b0 (x1 : Int32) h) = some (Option.getD (vX11_letterOf b0 (x1 : Int32) h) 0) ∧ (((Option.getD (vX11_letterOf b0 (x1 : Int32) h) 0) < ea_n h ∧ ea_c h (Option.getD (vX11_letterOf b0 (x1 : Int32) h) 0) = 4) ∧ ((((20 : Int32) + (ea_i h (Option.getD (vX11_letterOf b0 (x1 : Int32) h) 0) 18)) ≤ x2 → True) ∧ (¬ ((20 : Int32) + (ea_i h (Option.getD (vX11_letterOf b0 (x1 : Int32) h) 0) 18)) ≤ x2 → (vX11_letterOf b0 (x1 : Int32) h) = some (Option.getD (vX11_letterOf b0 (x1 : Int32) h) 0) ∧ (((Option.getD (vX11_letterOf b0 (x1 : Int32) h) 0) < ea_n h ∧ ea_c h (Option.getD (vX11_letterOf b0 (x1 : Int32) h) 0) = 4) ∧ ((okX4_placeChance b0 (Option.getD (vX11_letterOf b0 (x1 : Int32) h) 0) ((x2 - (20 : Int32)) : Int32) h)))))))) ∧ (¬ ((10 : Int32) + (ea_i h (Option.getD (vX11_letterOf b0 (x1 : Int32) h) 0) 18)) ≤ x2 → (vX11_letterOf b0 (x1 : Int32) h) = some (Option.getD (vX11_letterOf b0 (x1 : Int32) h) 0) ∧ (((Option.getD (vX11_letterOf b0 (x1 : Int32) h) 0) < ea_n h ∧ ea_c h (Option.getD (vX11_letterOf b0 (x1 : Int32) h) 0) = 4) ∧ ((okX4_placeTown b0 (Option.getD (vX11_letterOf b0 (x1 : Int32) h) 0) ((x2 - (10 : Int32)) : Int32) h))))))))))))
theorem shX11_order {b0 : Nat} {x1 : Int32} {x2 : Int32} {h : ea_H} (hs : ShC b0 h) : ShC b0 (wX11_order b0 x1 x2 h) := (ShC_it hs (ShC_it hs (ShC_it (ShC_it hs (ShC_it (shX4_foundByAll hs) (shX4_foundByAll hs))) (ShC_it (ShC_it hs (ShC_it (shX4_foundByAll hs) (shX4_foundByAll hs))) hs))))
theorem sX11_order {d : Nat} {b0 : Nat} {x1 : Int32} {x2 : Int32} {h : ea_H} (hd : 3 ≤ d) (hs : ShC b0 h) (K : okX11_order b0 x1 x2 h) : ea_Met mX11_order d [vR (some (b0 + 0)), vI x1, vI x2] h (some (vJ (vX11_order b0 x1 x2 h))) (wX11_order b0 x1 x2 h) := by
  obtain ⟨X, EX⟩ : ∃ z, z = vX11_order b0 x1 x2 h := ⟨_, rfl⟩
  rw [← EX]
  unfold vX11_order at EX
  obtain ⟨Y, EY⟩ : ∃ z, z = wX11_order b0 x1 x2 h := ⟨_, rfl⟩
  rw [← EY]
  unfold wX11_order at EY
  unfold okX11_order at K
  refine ea_enter rfl (Nat.le_of_ble_eq_true rfl) ?_
  refine ea_aload_n (pc := 0) dX11_order_0 rfl 0 rfl ?_
  refine ea_iload_n (pc := 1) dX11_order_1 rfl 1 rfl ?_
  obtain ⟨z1, K⟩ := K
  refine ea_callV (pc := 2) (d' := d - 1) (As := [vI x1]) (st := []) dX11_order_2 kX11_letterOf (sX11_letterOf (d := d - 1) (by omega) hs z1) (by omega) rfl (Nat.le_of_ble_eq_true rfl) ew_1076 ew_1078 ew_37 (ci := 11) rfl (by decide) (hs.1 0 (by decide)).1 (hs.1 0 (by decide)).2.1 ?_
  refine ea_astore_n (pc := 5) (lv' := [(2, vI x2), (3, vR (vX11_letterOf b0 (x1 : Int32) h))]) dX11_order_5 rfl (Nat.le_of_ble_eq_true rfl) [3, 0] rfl ?_
  refine ea_aload_n (pc := 6) dX11_order_6 rfl 1 rfl ?_
  refine ea_ifnonnull (pc := 7) (tgt := 14) dX11_order_7 rfl (fun a53 c52 => ?_) (fun c52 => ?_)
  · have c52n : ¬ (vX11_letterOf b0 (x1 : Int32) h) = none := by rw [c52]; exact fun q => nomatch q
    have EX := EX.trans (if_neg c52n)
    have EY := EY.trans (if_neg c52n)
    have K := K.2 c52n
    refine ea_iload_n (pc := 14) dX11_order_14 rfl 0 rfl ?_
    refine ea_if_ne (pc := 15) (tgt := 24) dX11_order_15 rfl (fun c51 => ?_) (fun c51 => ?_)
    · have EX := EX.trans (if_neg c51)
      have EY := EY.trans (if_neg c51)
      have K := K.2 c51
      refine ea_iload_n (pc := 24) dX11_order_24 rfl 0 rfl ?_
      refine ea_iconst (pc := 25) dX11_order_25 (v := 1) rfl ?_
      refine ea_icmp_eq (pc := 26) (tgt := 34) dX11_order_26 rfl (fun c48 => ?_) (fun c48 => ?_)
      · have EX := EX.trans (if_pos c48)
        have EY := EY.trans (if_pos c48)
        have K := K.1 c48
        refine ea_aload_n (pc := 34) dX11_order_34 rfl 1 rfl ?_
        obtain ⟨e2, f3, K⟩ := K
        refine ea_deref0 e2 ?_
        refine ea_getI (pc := 35) dX11_order_35 ec_4 (k := 18) (Nat.le_of_ble_eq_true rfl) rfl (Or.inl ew_978) f3.1 f3.2 ?_
        refine ea_if_ne (pc := 38) (tgt := 47) dX11_order_38 rfl (fun c13 => ?_) (fun c13 => ?_)
        · have EX := EX.trans (if_neg c13)
          have EY := EY.trans (if_neg c13)
          have K := K.2 c13
          refine ea_aload_n (pc := 47) dX11_order_47 rfl 1 rfl ?_
          refine ea_iload_n (pc := 48) dX11_order_48 rfl 0 rfl ?_
          refine ea_iconst (pc := 49) dX11_order_49 (v := 1) rfl ?_
          refine ea_icmp_ne (pc := 50) (tgt := 57) dX11_order_50 rfl (fun c12 => ?_) (fun c12 => ?_)
          · have EX := EX.trans (if_neg c12)
            have EY := EY.trans (if_neg c12)
            have K := K.2 c12
            refine ea_iconst (pc := 57) dX11_order_57 (v := 0) rfl ?_
            obtain ⟨e4, f5, z6⟩ := K
            refine ea_deref1 e4 ?_
            refine ea_callV (pc := 58) (d' := d - 1) (As := [vI 0]) (st := []) dX11_order_58 kX4_foundByAll (sX4_foundByAll (d := d - 1) (by omega) hs z6) (by omega) rfl (Nat.le_of_ble_eq_true rfl) ew_1207 ew_1208 ew_1209 (ci := 4) rfl (by decide) f5.1 f5.2 ?_
            have hs7 : ShC b0 (wX4_foundByAll b0 (Option.getD (vX11_letterOf b0 (x1 : Int32) h) 0) (0 : Int32) h) := shX4_foundByAll hs
            subst EX
            subst EY
            exact ea_lreturn (pc := 61) dX11_order_61 rfl
          · have EX := EX.trans (if_pos c12)
            have EY := EY.trans (if_pos c12)
            have K := K.1 c12
            refine ea_iconst (pc := 53) dX11_order_53 (v := 1) rfl ?_
            refine ea_goto (pc := 54) (tgt := 58) dX11_order_54 rfl ?_
            obtain ⟨e8, f9, z10⟩ := K
            refine ea_deref1 e8 ?_
            refine ea_callV (pc := 58) (d' := d - 1) (As := [vI 1]) (st := []) dX11_order_58 kX4_foundByAll (sX4_foundByAll (d := d - 1) (by omega) hs z10) (by omega) rfl (Nat.le_of_ble_eq_true rfl) ew_1207 ew_1208 ew_1209 (ci := 4) rfl (by decide) f9.1 f9.2 ?_
            have hs11 : ShC b0 (wX4_foundByAll b0 (Option.getD (vX11_letterOf b0 (x1 : Int32) h) 0) (1 : Int32) h) := shX4_foundByAll hs
            subst EX
            subst EY
            exact ea_lreturn (pc := 61) dX11_order_61 rfl
        · have EX := EX.trans (if_pos c13)
          have EY := EY.trans (if_pos c13)
          refine ea_ldc2 (pc := 41) dX11_order_41 ew_1206 ?_
          refine ea_goto (pc := 44) (tgt := 61) dX11_order_44 rfl ?_
          subst EX
          subst EY
          exact ea_lreturn (pc := 61) dX11_order_61 rfl
      · have EX := EX.trans (if_neg c48)
        have EY := EY.trans (if_neg c48)
        have K := K.2 c48
        refine ea_iload_n (pc := 29) dX11_order_29 rfl 0 rfl ?_
        refine ea_iconst (pc := 30) dX11_order_30 (v := 2) rfl ?_
        refine ea_icmp_ne (pc := 31) (tgt := 62) dX11_order_31 rfl (fun c47 => ?_) (fun c47 => ?_)
        · have EX := EX.trans (if_neg c47)
          have EY := EY.trans (if_neg c47)
          have K := K.2 c47
          refine ea_iload_n (pc := 62) dX11_order_62 rfl 0 rfl ?_
          refine ea_bipush (pc := 63) dX11_order_63 (v := 10) rfl ?_
          refine ea_icmp_lt (pc := 65) (tgt := 89) dX11_order_65 rfl (fun c34 => ?_) (fun c34 => ?_)
          · have EX := EX.trans (if_pos c34)
            have K := K.1 c34
            refine ea_iload_n (pc := 89) dX11_order_89 rfl 0 rfl ?_
            refine ea_bipush (pc := 90) dX11_order_90 (v := 20) rfl ?_
            refine ea_icmp_lt (pc := 92) (tgt := 116) dX11_order_92 rfl (fun c20 => ?_) (fun c20 => ?_)
            · have EX := EX.trans (if_pos c20)
              refine ea_ldc2 (pc := 116) dX11_order_116 ew_1206 ?_
              subst EX
              subst EY
              exact ea_lreturn (pc := 119) dX11_order_119 rfl
            · have EX := EX.trans (if_neg c20)
              have K := K.2 c20
              refine ea_iload_n (pc := 95) dX11_order_95 rfl 0 rfl ?_
              refine ea_bipush (pc := 96) dX11_order_96 (v := 20) rfl ?_
              refine ea_aload_n (pc := 98) dX11_order_98 rfl 1 rfl ?_
              obtain ⟨e14, f15, K⟩ := K
              refine ea_deref0 e14 ?_
              refine ea_getI (pc := 99) dX11_order_99 ec_4 (k := 18) (Nat.le_of_ble_eq_true rfl) rfl (Or.inl ew_978) f15.1 f15.2 ?_
              refine ea_iadd (pc := 102) dX11_order_102 ?_
              refine ea_icmp_ge (pc := 103) (tgt := 116) dX11_order_103 rfl (fun c19 => ?_) (fun c19 => ?_)
              · have EX := EX.trans (if_pos c19)
                refine ea_ldc2 (pc := 116) dX11_order_116 ew_1206 ?_
                subst EX
                subst EY
                exact ea_lreturn (pc := 119) dX11_order_119 rfl
              · have EX := EX.trans (if_neg c19)
                have K := K.2 c19
                refine ea_aload_n (pc := 106) dX11_order_106 rfl 1 rfl ?_
                refine ea_iload_n (pc := 107) dX11_order_107 rfl 0 rfl ?_
                refine ea_bipush (pc := 108) dX11_order_108 (v := 20) rfl ?_
                refine ea_isub (pc := 110) dX11_order_110 ?_
                obtain ⟨e16, f17, z18⟩ := K
                refine ea_deref1 e16 ?_
                refine ea_callV (pc := 111) (d' := d - 1) (As := [vI (x2 - (20 : Int32))]) (st := []) dX11_order_111 kX4_placeChance (sX4_placeChance (d := d - 1) (by omega) hs z18) (by omega) rfl (Nat.le_of_ble_eq_true rfl) ew_1218 ew_1213 ew_1214 (ci := 4) rfl (by decide) f17.1 f17.2 ?_
                refine ea_i2l (pc := 114) dX11_order_114 ?_
                subst EX
                subst EY
                exact ea_lreturn (pc := 115) dX11_order_115 rfl
          · have EX := EX.trans (if_neg c34)
            have K := K.2 c34
            refine ea_iload_n (pc := 68) dX11_order_68 rfl 0 rfl ?_
            refine ea_bipush (pc := 69) dX11_order_69 (v := 10) rfl ?_
            refine ea_aload_n (pc := 71) dX11_order_71 rfl 1 rfl ?_
            obtain ⟨e21, f22, K⟩ := K
            refine ea_deref0 e21 ?_
            refine ea_getI (pc := 72) dX11_order_72 ec_4 (k := 18) (Nat.le_of_ble_eq_true rfl) rfl (Or.inl ew_978) f22.1 f22.2 ?_
            refine ea_iadd (pc := 75) dX11_order_75 ?_
            refine ea_icmp_ge (pc := 76) (tgt := 89) dX11_order_76 rfl (fun c33 => ?_) (fun c33 => ?_)
            · have EX := EX.trans (if_pos c33)
              have K := K.1 c33
              refine ea_iload_n (pc := 89) dX11_order_89 rfl 0 rfl ?_
              refine ea_bipush (pc := 90) dX11_order_90 (v := 20) rfl ?_
              refine ea_icmp_lt (pc := 92) (tgt := 116) dX11_order_92 rfl (fun c29 => ?_) (fun c29 => ?_)
              · have EX := EX.trans (if_pos c29)
                refine ea_ldc2 (pc := 116) dX11_order_116 ew_1206 ?_
                subst EX
                subst EY
                exact ea_lreturn (pc := 119) dX11_order_119 rfl
              · have EX := EX.trans (if_neg c29)
                have K := K.2 c29
                refine ea_iload_n (pc := 95) dX11_order_95 rfl 0 rfl ?_
                refine ea_bipush (pc := 96) dX11_order_96 (v := 20) rfl ?_
                refine ea_aload_n (pc := 98) dX11_order_98 rfl 1 rfl ?_
                obtain ⟨e23, f24, K⟩ := K
                refine ea_deref0 e23 ?_
                refine ea_getI (pc := 99) dX11_order_99 ec_4 (k := 18) (Nat.le_of_ble_eq_true rfl) rfl (Or.inl ew_978) f24.1 f24.2 ?_
                refine ea_iadd (pc := 102) dX11_order_102 ?_
                refine ea_icmp_ge (pc := 103) (tgt := 116) dX11_order_103 rfl (fun c28 => ?_) (fun c28 => ?_)
                · have EX := EX.trans (if_pos c28)
                  refine ea_ldc2 (pc := 116) dX11_order_116 ew_1206 ?_
                  subst EX
                  subst EY
                  exact ea_lreturn (pc := 119) dX11_order_119 rfl
                · have EX := EX.trans (if_neg c28)
                  have K := K.2 c28
                  refine ea_aload_n (pc := 106) dX11_order_106 rfl 1 rfl ?_
                  refine ea_iload_n (pc := 107) dX11_order_107 rfl 0 rfl ?_
                  refine ea_bipush (pc := 108) dX11_order_108 (v := 20) rfl ?_
                  refine ea_isub (pc := 110) dX11_order_110 ?_
                  obtain ⟨e25, f26, z27⟩ := K
                  refine ea_deref1 e25 ?_
                  refine ea_callV (pc := 111) (d' := d - 1) (As := [vI (x2 - (20 : Int32))]) (st := []) dX11_order_111 kX4_placeChance (sX4_placeChance (d := d - 1) (by omega) hs z27) (by omega) rfl (Nat.le_of_ble_eq_true rfl) ew_1218 ew_1213 ew_1214 (ci := 4) rfl (by decide) f26.1 f26.2 ?_
                  refine ea_i2l (pc := 114) dX11_order_114 ?_
                  subst EX
                  subst EY
                  exact ea_lreturn (pc := 115) dX11_order_115 rfl
            · have EX := EX.trans (if_neg c33)
              have K := K.2 c33
              refine ea_aload_n (pc := 79) dX11_order_79 rfl 1 rfl ?_
              refine ea_iload_n (pc := 80) dX11_order_80 rfl 0 rfl ?_
              refine ea_bipush (pc := 81) dX11_order_81 (v := 10) rfl ?_
              refine ea_isub (pc := 83) dX11_order_83 ?_
              obtain ⟨e30, f31, z32⟩ := K
              refine ea_deref1 e30 ?_
              refine ea_callV (pc := 84) (d' := d - 1) (As := [vI (x2 - (10 : Int32))]) (st := []) dX11_order_84 kX4_placeTown (sX4_placeTown (d := d - 1) (by omega) hs z32) (by omega) rfl (Nat.le_of_ble_eq_true rfl) ew_1217 ew_1199 ew_1200 (ci := 4) rfl (by decide) f31.1 f31.2 ?_
              refine ea_i2l (pc := 87) dX11_order_87 ?_
              subst EX
              subst EY
              exact ea_lreturn (pc := 88) dX11_order_88 rfl
        · have EX := EX.trans (if_pos c47)
          have EY := EY.trans (if_pos c47)
          have K := K.1 c47
          refine ea_aload_n (pc := 34) dX11_order_34 rfl 1 rfl ?_
          obtain ⟨e35, f36, K⟩ := K
          refine ea_deref0 e35 ?_
          refine ea_getI (pc := 35) dX11_order_35 ec_4 (k := 18) (Nat.le_of_ble_eq_true rfl) rfl (Or.inl ew_978) f36.1 f36.2 ?_
          refine ea_if_ne (pc := 38) (tgt := 47) dX11_order_38 rfl (fun c46 => ?_) (fun c46 => ?_)
          · have EX := EX.trans (if_neg c46)
            have EY := EY.trans (if_neg c46)
            have K := K.2 c46
            refine ea_aload_n (pc := 47) dX11_order_47 rfl 1 rfl ?_
            refine ea_iload_n (pc := 48) dX11_order_48 rfl 0 rfl ?_
            refine ea_iconst (pc := 49) dX11_order_49 (v := 1) rfl ?_
            refine ea_icmp_ne (pc := 50) (tgt := 57) dX11_order_50 rfl (fun c45 => ?_) (fun c45 => ?_)
            · have EX := EX.trans (if_neg c45)
              have EY := EY.trans (if_neg c45)
              have K := K.2 c45
              refine ea_iconst (pc := 57) dX11_order_57 (v := 0) rfl ?_
              obtain ⟨e37, f38, z39⟩ := K
              refine ea_deref1 e37 ?_
              refine ea_callV (pc := 58) (d' := d - 1) (As := [vI 0]) (st := []) dX11_order_58 kX4_foundByAll (sX4_foundByAll (d := d - 1) (by omega) hs z39) (by omega) rfl (Nat.le_of_ble_eq_true rfl) ew_1207 ew_1208 ew_1209 (ci := 4) rfl (by decide) f38.1 f38.2 ?_
              have hs40 : ShC b0 (wX4_foundByAll b0 (Option.getD (vX11_letterOf b0 (x1 : Int32) h) 0) (0 : Int32) h) := shX4_foundByAll hs
              subst EX
              subst EY
              exact ea_lreturn (pc := 61) dX11_order_61 rfl
            · have EX := EX.trans (if_pos c45)
              have EY := EY.trans (if_pos c45)
              have K := K.1 c45
              refine ea_iconst (pc := 53) dX11_order_53 (v := 1) rfl ?_
              refine ea_goto (pc := 54) (tgt := 58) dX11_order_54 rfl ?_
              obtain ⟨e41, f42, z43⟩ := K
              refine ea_deref1 e41 ?_
              refine ea_callV (pc := 58) (d' := d - 1) (As := [vI 1]) (st := []) dX11_order_58 kX4_foundByAll (sX4_foundByAll (d := d - 1) (by omega) hs z43) (by omega) rfl (Nat.le_of_ble_eq_true rfl) ew_1207 ew_1208 ew_1209 (ci := 4) rfl (by decide) f42.1 f42.2 ?_
              have hs44 : ShC b0 (wX4_foundByAll b0 (Option.getD (vX11_letterOf b0 (x1 : Int32) h) 0) (1 : Int32) h) := shX4_foundByAll hs
              subst EX
              subst EY
              exact ea_lreturn (pc := 61) dX11_order_61 rfl
          · have EX := EX.trans (if_pos c46)
            have EY := EY.trans (if_pos c46)
            refine ea_ldc2 (pc := 41) dX11_order_41 ew_1206 ?_
            refine ea_goto (pc := 44) (tgt := 61) dX11_order_44 rfl ?_
            subst EX
            subst EY
            exact ea_lreturn (pc := 61) dX11_order_61 rfl
    · have EX := EX.trans (if_pos c51)
      have EY := EY.trans (if_pos c51)
      have K := K.1 c51
      refine ea_aload_n (pc := 18) dX11_order_18 rfl 1 rfl ?_
      obtain ⟨e49, f50⟩ := K
      refine ea_deref0 e49 ?_
      refine ea_getI (pc := 19) dX11_order_19 ec_4 (k := 18) (Nat.le_of_ble_eq_true rfl) rfl (Or.inl ew_978) f50.1 f50.2 ?_
      refine ea_i2l (pc := 22) dX11_order_22 ?_
      subst EX
      subst EY
      exact ea_lreturn (pc := 23) dX11_order_23 rfl
  · have EX := EX.trans (if_pos c52)
    have EY := EY.trans (if_pos c52)
    refine ea_ldc2 (pc := 10) dX11_order_10 ew_1206 ?_
    subst EX
    subst EY
    exact ea_lreturn (pc := 13) dX11_order_13 rfl
noncomputable def vX11_robbery (b0 : Nat) (x1 : Int32) (x2 : Int32) (h : ea_H) : Int32 := (if x1 < (0 : Int32) then ((-1) : Int32) else (if x1 < (ea_i h (b0 + 0) 10) then (if Int32.toInt x2 = 0 then (ea_i h (Option.getD (ea_r h (b0 + 53) (Int32.toNatClampNeg x1)) 0) 0) else (if Int32.toInt x2 = 1 then (ea_i h (Option.getD (ea_r h (b0 + 53) (Int32.toNatClampNeg x1)) 0) 1) else (if Int32.toInt x2 = 2 then (ea_i h (Option.getD (ea_r h (b0 + 53) (Int32.toNatClampNeg x1)) 0) 2) else (if Int32.toInt x2 = 3 then (ea_i h (Option.getD (ea_r h (b0 + 53) (Int32.toNatClampNeg x1)) 0) 3) else (if (10 : Int32) ≤ x2 then (vX7_letterAt b0 (Option.getD (ea_r h (b0 + 53) (Int32.toNatClampNeg x1)) 0) ((x2 - (10 : Int32)) : Int32) h) else ((-1) : Int32)))))) else ((-1) : Int32)))
def okX11_robbery (b0 : Nat) (x1 : Int32) (x2 : Int32) (h : ea_H) : Prop := (x1 < (0 : Int32) → True) ∧ (¬ x1 < (0 : Int32) → (x1 < (ea_i h (b0 + 0) 10) → vp_in x1 20 ∧ ((Int32.toInt x2 = 0 → (ea_r h (b0 + 53) (Int32.toNatClampNeg x1)) = some (Option.getD (ea_r h (b0 + 53) (Int32.toNatClampNeg x1)) 0) ∧ (((Option.getD (ea_r h (b0 + 53) (Int32.toNatClampNeg x1)) 0) < ea_n h ∧ ea_c h (Option.getD (ea_r h (b0 + 53) (Int32.toNatClampNeg x1)) 0) = 7))) ∧ (¬ Int32.toInt x2 = 0 → (Int32.toInt x2 = 1 → (ea_r h (b0 + 53) (Int32.toNatClampNeg x1)) = some (Option.getD (ea_r h (b0 + 53) (Int32.toNatClampNeg x1)) 0) ∧ (((Option.getD (ea_r h (b0 + 53) (Int32.toNatClampNeg x1)) 0) < ea_n h ∧ ea_c h (Option.getD (ea_r h (b0 + 53) (Int32.toNatClampNeg x1)) 0) = 7))) ∧ (¬ Int32.toInt x2 = 1 → (Int32.toInt x2 = 2 → (ea_r h (b0 + 53) (Int32.toNatClampNeg x1)) = some (Option.getD (ea_r h (b0 + 53) (Int32.toNatClampNeg x1)) 0) ∧ (((Option.getD (ea_r h (b0 + 53) (Int32.toNatClampNeg x1)) 0) < ea_n h ∧ ea_c h (Option.getD (ea_r h (b0 + 53) (Int32.toNatClampNeg x1)) 0) = 7))) ∧ (¬ Int32.toInt x2 = 2 → (Int32.toInt x2 = 3 → (ea_r h (b0 + 53) (Int32.toNatClampNeg x1)) = some (Option.getD (ea_r h (b0 + 53) (Int32.toNatClampNeg x1)) 0) ∧ (((Option.getD (ea_r h (b0 + 53) (Int32.toNatClampNeg x1)) 0) < ea_n h ∧ ea_c h (Option.getD (ea_r h (b0 + 53) (Int32.toNatClampNeg x1)) 0) = 7))) ∧ (¬ Int32.toInt x2 = 3 → ((10 : Int32) ≤ x2 → (ea_r h (b0 + 53) (Int32.toNatClampNeg x1)) = some (Option.getD (ea_r h (b0 + 53) (Int32.toNatClampNeg x1)) 0) ∧ (((Option.getD (ea_r h (b0 + 53) (Int32.toNatClampNeg x1)) 0) < ea_n h ∧ ea_c h (Option.getD (ea_r h (b0 + 53) (Int32.toNatClampNeg x1)) 0) = 7) ∧ ((okX7_letterAt b0 (Option.getD (ea_r h (b0 + 53) (Int32.toNatClampNeg x1)) 0) ((x2 - (10 : Int32)) : Int32) h)))) ∧ (¬ (10 : Int32) ≤ x2 → True))))))) ∧ (¬ x1 < (ea_i h (b0 + 0) 10) → True))
theorem sX11_robbery {d : Nat} {b0 : Nat} {x1 : Int32} {x2 : Int32} {h : ea_H} (hd : 2 ≤ d) (hs : ShC b0 h) (K : okX11_robbery b0 x1 x2 h) : ea_Met mX11_robbery d [vR (some (b0 + 0)), vI x1, vI x2] h (some (vI (vX11_robbery b0 x1 x2 h))) h := by
  obtain ⟨X, EX⟩ : ∃ z, z = vX11_robbery b0 x1 x2 h := ⟨_, rfl⟩
  rw [← EX]
  unfold vX11_robbery at EX
  unfold okX11_robbery at K
  refine ea_enter rfl (Nat.le_of_ble_eq_true rfl) ?_
  refine ea_iload_n (pc := 0) dX11_robbery_0 rfl 1 rfl ?_
  refine ea_if_lt (pc := 1) (tgt := 12) dX11_robbery_1 rfl (fun c15 => ?_) (fun c15 => ?_)
  · have EX := EX.trans (if_pos c15)
    refine ea_iconst (pc := 12) dX11_robbery_12 (v := (-1)) rfl ?_
    subst EX
    exact ea_ireturn (pc := 13) dX11_robbery_13 rfl rfl
  · have EX := EX.trans (if_neg c15)
    have K := K.2 c15
    refine ea_iload_n (pc := 4) dX11_robbery_4 rfl 1 rfl ?_
    refine ea_aload_n (pc := 5) dX11_robbery_5 rfl 0 rfl ?_
    refine ea_getI (pc := 6) dX11_robbery_6 ec_11 (k := 10) (Nat.le_of_ble_eq_true rfl) rfl (Or.inl ew_447) (hs.1 0 (by decide)).1 (hs.1 0 (by decide)).2.1 ?_
    refine ea_icmp_lt (pc := 9) (tgt := 14) dX11_robbery_9 rfl (fun c14 => ?_) (fun c14 => ?_)
    · have EX := EX.trans (if_pos c14)
      have K := K.1 c14
      refine ea_aload_n (pc := 14) dX11_robbery_14 rfl 0 rfl ?_
      refine ea_getR (pc := 15) dX11_robbery_15 ec_11 (k := 9) (Nat.le_of_ble_eq_true rfl) rfl (Or.inl ew_446) (hs.1 0 (by decide)).1 (hs.1 0 (by decide)).2.1 (hs.2 0 9 rfl) ?_
      refine ea_iload_n (pc := 18) dX11_robbery_18 rfl 1 rfl ?_
      obtain ⟨z1, K⟩ := K
      refine ea_aald25 (pc := 19) dX11_robbery_19 (hs.1 53 (by decide)).1 (hs.1 53 (by decide)).2.1 (ea_vpl (hs.1 53 (by decide)).2.2 z1) rfl ?_
      refine ea_astore_n (pc := 20) (lv' := [(2, vI x2), (3, vR (ea_r h (b0 + 53) (Int32.toNatClampNeg x1)))]) dX11_robbery_20 rfl (Nat.le_of_ble_eq_true rfl) [3, 0] rfl ?_
      refine ea_iload_n (pc := 21) dX11_robbery_21 rfl 0 rfl ?_
      by_cases qc22_0 : Int32.toInt x2 = 0
      · have EX := EX.trans (if_pos qc22_0)
        have K := K.1 qc22_0
        refine ea_tswIn (pc := 22) (tgt := 52) dX11_robbery_22 (by rw [qc22_0]; decide) (by rw [qc22_0]; decide) (by rw [qc22_0]; rfl) rfl ?_
        refine ea_aload_n (pc := 52) dX11_robbery_52 rfl 1 rfl ?_
        obtain ⟨e6, f7⟩ := K
        refine ea_deref0 e6 ?_
        refine ea_getI (pc := 53) dX11_robbery_53 ec_7 (k := 0) (Nat.le_of_ble_eq_true rfl) rfl (Or.inl ew_1240) f7.1 f7.2 ?_
        subst EX
        exact ea_ireturn (pc := 56) dX11_robbery_56 rfl rfl
      have EX := EX.trans (if_neg qc22_0)
      have K := K.2 qc22_0
      by_cases qc22_1 : Int32.toInt x2 = 1
      · have EX := EX.trans (if_pos qc22_1)
        have K := K.1 qc22_1
        refine ea_tswIn (pc := 22) (tgt := 57) dX11_robbery_22 (by rw [qc22_1]; decide) (by rw [qc22_1]; decide) (by rw [qc22_1]; rfl) rfl ?_
        refine ea_aload_n (pc := 57) dX11_robbery_57 rfl 1 rfl ?_
        obtain ⟨e8, f9⟩ := K
        refine ea_deref0 e8 ?_
        refine ea_getI (pc := 58) dX11_robbery_58 ec_7 (k := 1) (Nat.le_of_ble_eq_true rfl) rfl (Or.inl ew_1242) f9.1 f9.2 ?_
        subst EX
        exact ea_ireturn (pc := 61) dX11_robbery_61 rfl rfl
      have EX := EX.trans (if_neg qc22_1)
      have K := K.2 qc22_1
      by_cases qc22_2 : Int32.toInt x2 = 2
      · have EX := EX.trans (if_pos qc22_2)
        have K := K.1 qc22_2
        refine ea_tswIn (pc := 22) (tgt := 62) dX11_robbery_22 (by rw [qc22_2]; decide) (by rw [qc22_2]; decide) (by rw [qc22_2]; rfl) rfl ?_
        refine ea_aload_n (pc := 62) dX11_robbery_62 rfl 1 rfl ?_
        obtain ⟨e10, f11⟩ := K
        refine ea_deref0 e10 ?_
        refine ea_getI (pc := 63) dX11_robbery_63 ec_7 (k := 2) (Nat.le_of_ble_eq_true rfl) rfl (Or.inl ew_1244) f11.1 f11.2 ?_
        subst EX
        exact ea_ireturn (pc := 66) dX11_robbery_66 rfl rfl
      have EX := EX.trans (if_neg qc22_2)
      have K := K.2 qc22_2
      by_cases qc22_3 : Int32.toInt x2 = 3
      · have EX := EX.trans (if_pos qc22_3)
        have K := K.1 qc22_3
        refine ea_tswIn (pc := 22) (tgt := 67) dX11_robbery_22 (by rw [qc22_3]; decide) (by rw [qc22_3]; decide) (by rw [qc22_3]; rfl) rfl ?_
        refine ea_aload_n (pc := 67) dX11_robbery_67 rfl 1 rfl ?_
        obtain ⟨e12, f13⟩ := K
        refine ea_deref0 e12 ?_
        refine ea_getI (pc := 68) dX11_robbery_68 ec_7 (k := 3) (Nat.le_of_ble_eq_true rfl) rfl (Or.inl ew_1246) f13.1 f13.2 ?_
        subst EX
        exact ea_ireturn (pc := 71) dX11_robbery_71 rfl rfl
      have EX := EX.trans (if_neg qc22_3)
      have K := K.2 qc22_3
      refine ea_tswOut (pc := 22) (tgt := 72) dX11_robbery_22 (ec_sw_0_3 qc22_0 qc22_1 qc22_2 qc22_3) rfl ?_
      refine ea_iload_n (pc := 72) dX11_robbery_72 rfl 0 rfl ?_
      refine ea_bipush (pc := 73) dX11_robbery_73 (v := 10) rfl ?_
      refine ea_icmp_ge (pc := 75) (tgt := 82) dX11_robbery_75 rfl (fun c5 => ?_) (fun c5 => ?_)
      · have EX := EX.trans (if_pos c5)
        have K := K.1 c5
        refine ea_aload_n (pc := 82) dX11_robbery_82 rfl 1 rfl ?_
        refine ea_iload_n (pc := 83) dX11_robbery_83 rfl 0 rfl ?_
        refine ea_bipush (pc := 84) dX11_robbery_84 (v := 10) rfl ?_
        refine ea_isub (pc := 86) dX11_robbery_86 ?_
        obtain ⟨e2, f3, z4⟩ := K
        refine ea_deref1 e2 ?_
        refine ea_callV (pc := 87) (d' := d - 1) (As := [vI (x2 - (10 : Int32))]) (st := []) dX11_robbery_87 kX7_letterAt (sX7_letterAt (d := d - 1) (by omega) hs z4) (by omega) rfl (Nat.le_of_ble_eq_true rfl) ew_1268 ew_1269 ew_1270 (ci := 7) rfl (by decide) f3.1 f3.2 ?_
        subst EX
        exact ea_ireturn (pc := 90) dX11_robbery_90 rfl rfl
      · have EX := EX.trans (if_neg c5)
        refine ea_iconst (pc := 78) dX11_robbery_78 (v := (-1)) rfl ?_
        refine ea_goto (pc := 79) (tgt := 90) dX11_robbery_79 rfl ?_
        subst EX
        exact ea_ireturn (pc := 90) dX11_robbery_90 rfl rfl
    · have EX := EX.trans (if_neg c14)
      refine ea_iconst (pc := 12) dX11_robbery_12 (v := (-1)) rfl ?_
      subst EX
      exact ea_ireturn (pc := 13) dX11_robbery_13 rfl rfl
noncomputable def vX11_set (b0 : Nat) (x1 : Int32) (h : ea_H) : Int32 := (if (vX9_has b0 (x1 : Int32) h) = (0 : Int32) then (0 : Int32) else (1 : Int32))
noncomputable def wX11_set (b0 : Nat) (x1 : Int32) (h : ea_H) : ea_H := (if (vX9_has b0 (x1 : Int32) h) = (0 : Int32) then h else (ea_wi h (Option.getD (ea_r h (b0 + 52) (Int32.toNatClampNeg x1)) 0) 0 (ea_i h (b0 + 0) 11)))
def okX11_set (b0 : Nat) (x1 : Int32) (h : ea_H) : Prop := ((vX9_has b0 (x1 : Int32) h) = (0 : Int32) → True) ∧ (¬ (vX9_has b0 (x1 : Int32) h) = (0 : Int32) → vp_in x1 10 ∧ ((ea_r h (b0 + 52) (Int32.toNatClampNeg x1)) = some (Option.getD (ea_r h (b0 + 52) (Int32.toNatClampNeg x1)) 0) ∧ (((Option.getD (ea_r h (b0 + 52) (Int32.toNatClampNeg x1)) 0) < ea_n h ∧ ea_c h (Option.getD (ea_r h (b0 + 52) (Int32.toNatClampNeg x1)) 0) = 2))))
theorem bo_vX11_set (b0 : Nat) (x1 : Int32) (h : ea_H) : vX11_set b0 x1 h = 0 ∨ vX11_set b0 x1 h = 1 := (ea_itB (Or.inl rfl) (Or.inr rfl))
theorem shX11_set {b0 : Nat} {x1 : Int32} {h : ea_H} (hs : ShC b0 h) : ShC b0 (wX11_set b0 x1 h) := (ShC_it hs (ShC_wi hs))
theorem sX11_set {d : Nat} {b0 : Nat} {x1 : Int32} {h : ea_H} (hd : 2 ≤ d) (hs : ShC b0 h) (K : okX11_set b0 x1 h) : ea_Met mX11_set d [vR (some (b0 + 0)), vI x1] h (some (vI (vX11_set b0 x1 h))) (wX11_set b0 x1 h) := by
  obtain ⟨X, EX⟩ : ∃ z, z = vX11_set b0 x1 h := ⟨_, rfl⟩
  rw [← EX]
  unfold vX11_set at EX
  obtain ⟨Y, EY⟩ : ∃ z, z = wX11_set b0 x1 h := ⟨_, rfl⟩
  rw [← EY]
  unfold wX11_set at EY
  unfold okX11_set at K
  refine ea_enter rfl (Nat.le_of_ble_eq_true rfl) ?_
  refine ea_aload_n (pc := 0) dX11_set_0 rfl 0 rfl ?_
  refine ea_getR (pc := 1) dX11_set_1 ec_11 (k := 1) (Nat.le_of_ble_eq_true rfl) rfl (Or.inl ew_438) (hs.1 0 (by decide)).1 (hs.1 0 (by decide)).2.1 (hs.2 0 1 rfl) ?_
  refine ea_iload_n (pc := 4) dX11_set_4 rfl 1 rfl ?_
  refine ea_callV (pc := 5) (d' := d - 1) (As := [vI x1]) (st := []) dX11_set_5 kX9_has (sX9_has (d := d - 1) (by omega) hs) (by omega) rfl (Nat.le_of_ble_eq_true rfl) ew_518 ew_519 ew_520 (ci := 9) rfl (by decide) (hs.1 5 (by decide)).1 (hs.1 5 (by decide)).2.1 ?_
  refine ea_if_ne (pc := 8) (tgt := 13) dX11_set_8 rfl (fun c6 => ?_) (fun c6 => ?_)
  · have EX := EX.trans (if_neg c6)
    have EY := EY.trans (if_neg c6)
    have K := K.2 c6
    refine ea_aload_n (pc := 13) dX11_set_13 rfl 0 rfl ?_
    refine ea_getR (pc := 14) dX11_set_14 ec_11 (k := 8) (Nat.le_of_ble_eq_true rfl) rfl (Or.inl ew_445) (hs.1 0 (by decide)).1 (hs.1 0 (by decide)).2.1 (hs.2 0 8 rfl) ?_
    refine ea_iload_n (pc := 17) dX11_set_17 rfl 1 rfl ?_
    obtain ⟨z2, K⟩ := K
    refine ea_aald24 (pc := 18) dX11_set_18 (hs.1 52 (by decide)).1 (hs.1 52 (by decide)).2.1 (ea_vpl (hs.1 52 (by decide)).2.2 z2) rfl ?_
    refine ea_aload_n (pc := 19) dX11_set_19 rfl 0 rfl ?_
    refine ea_getI (pc := 20) dX11_set_20 ec_11 (k := 11) (Nat.le_of_ble_eq_true rfl) rfl (Or.inl ew_448) (hs.1 0 (by decide)).1 (hs.1 0 (by decide)).2.1 ?_
    obtain ⟨e3, f4⟩ := K
    refine ea_deref1 e3 ?_
    refine ea_putI (pc := 23) dX11_set_23 ec_2 (k := 0) (Nat.le_of_ble_eq_true rfl) rfl (Or.inl ⟨rfl, Or.inl ew_425⟩) rfl rfl f4.1 f4.2 ?_
    have hs5 : ShC b0 (ea_wi h (Option.getD (ea_r h (b0 + 52) (Int32.toNatClampNeg x1)) 0) 0 (ea_i h (b0 + 0) 11)) := ShC_wi hs
    refine ea_iconst (pc := 26) dX11_set_26 (v := 1) rfl ?_
    subst EX
    subst EY
    exact ea_ireturn (pc := 27) dX11_set_27 rfl (ea_bn (Or.inr rfl))
  · have EX := EX.trans (if_pos c6)
    have EY := EY.trans (if_pos c6)
    refine ea_iconst (pc := 11) dX11_set_11 (v := 0) rfl ?_
    subst EX
    subst EY
    exact ea_ireturn (pc := 12) dX11_set_12 rfl (ea_bn (Or.inl rfl))
noncomputable def vX11_seen (b0 : Nat) (x1 : Int32) (x2 : Int32) (h : ea_H) : Int32 := (if (vX9_has b0 (x1 : Int32) h) = (0 : Int32) then (0 : Int32) else (if x2 < (0 : Int32) then (0 : Int32) else (if x2 ≤ (10079 : Int32) then (vX2_learn b0 (Option.getD (ea_r h (b0 + 52) (Int32.toNatClampNeg x1)) 0) ((ea_i h (b0 + 0) 11) : Int32) (x2 : Int32) h) else (0 : Int32))))
noncomputable def wX11_seen (b0 : Nat) (x1 : Int32) (x2 : Int32) (h : ea_H) : ea_H := (if (vX9_has b0 (x1 : Int32) h) = (0 : Int32) then h else (if x2 < (0 : Int32) then h else (if x2 ≤ (10079 : Int32) then (wX2_learn b0 (Option.getD (ea_r h (b0 + 52) (Int32.toNatClampNeg x1)) 0) ((ea_i h (b0 + 0) 11) : Int32) (x2 : Int32) h) else h)))
def okX11_seen (b0 : Nat) (x1 : Int32) (x2 : Int32) (h : ea_H) : Prop := ((vX9_has b0 (x1 : Int32) h) = (0 : Int32) → True) ∧ (¬ (vX9_has b0 (x1 : Int32) h) = (0 : Int32) → (x2 < (0 : Int32) → True) ∧ (¬ x2 < (0 : Int32) → (x2 ≤ (10079 : Int32) → vp_in x1 10 ∧ ((ea_r h (b0 + 52) (Int32.toNatClampNeg x1)) = some (Option.getD (ea_r h (b0 + 52) (Int32.toNatClampNeg x1)) 0) ∧ (((Option.getD (ea_r h (b0 + 52) (Int32.toNatClampNeg x1)) 0) < ea_n h ∧ ea_c h (Option.getD (ea_r h (b0 + 52) (Int32.toNatClampNeg x1)) 0) = 2) ∧ ((okX2_learn b0 (Option.getD (ea_r h (b0 + 52) (Int32.toNatClampNeg x1)) 0) ((ea_i h (b0 + 0) 11) : Int32) (x2 : Int32) h) ∧ (((vX2_learn b0 (Option.getD (ea_r h (b0 + 52) (Int32.toNatClampNeg x1)) 0) ((ea_i h (b0 + 0) 11) : Int32) (x2 : Int32) h) = 0 ∨ (vX2_learn b0 (Option.getD (ea_r h (b0 + 52) (Int32.toNatClampNeg x1)) 0) ((ea_i h (b0 + 0) 11) : Int32) (x2 : Int32) h) = 1)))))) ∧ (¬ x2 ≤ (10079 : Int32) → True)))
theorem shX11_seen {b0 : Nat} {x1 : Int32} {x2 : Int32} {h : ea_H} (hs : ShC b0 h) : ShC b0 (wX11_seen b0 x1 x2 h) := (ShC_it hs (ShC_it hs (ShC_it (shX2_learn hs) hs)))
theorem sX11_seen {d : Nat} {b0 : Nat} {x1 : Int32} {x2 : Int32} {h : ea_H} (hd : 3 ≤ d) (hs : ShC b0 h) (K : okX11_seen b0 x1 x2 h) : ea_Met mX11_seen d [vR (some (b0 + 0)), vI x1, vI x2] h (some (vI (vX11_seen b0 x1 x2 h))) (wX11_seen b0 x1 x2 h) := by
  obtain ⟨X, EX⟩ : ∃ z, z = vX11_seen b0 x1 x2 h := ⟨_, rfl⟩
  rw [← EX]
  unfold vX11_seen at EX
  obtain ⟨Y, EY⟩ : ∃ z, z = wX11_seen b0 x1 x2 h := ⟨_, rfl⟩
  rw [← EY]
  unfold wX11_seen at EY
  unfold okX11_seen at K
  refine ea_enter rfl (Nat.le_of_ble_eq_true rfl) ?_
  refine ea_aload_n (pc := 0) dX11_seen_0 rfl 0 rfl ?_
  refine ea_getR (pc := 1) dX11_seen_1 ec_11 (k := 1) (Nat.le_of_ble_eq_true rfl) rfl (Or.inl ew_438) (hs.1 0 (by decide)).1 (hs.1 0 (by decide)).2.1 (hs.2 0 1 rfl) ?_
  refine ea_iload_n (pc := 4) dX11_seen_4 rfl 1 rfl ?_
  refine ea_callV (pc := 5) (d' := d - 1) (As := [vI x1]) (st := []) dX11_seen_5 kX9_has (sX9_has (d := d - 1) (by omega) hs) (by omega) rfl (Nat.le_of_ble_eq_true rfl) ew_518 ew_519 ew_520 (ci := 9) rfl (by decide) (hs.1 5 (by decide)).1 (hs.1 5 (by decide)).2.1 ?_
  refine ea_if_eq (pc := 8) (tgt := 22) dX11_seen_8 rfl (fun c10 => ?_) (fun c10 => ?_)
  · have EX := EX.trans (if_pos c10)
    have EY := EY.trans (if_pos c10)
    refine ea_iconst (pc := 22) dX11_seen_22 (v := 0) rfl ?_
    subst EX
    subst EY
    exact ea_ireturn (pc := 23) dX11_seen_23 rfl (ea_bn (Or.inl rfl))
  · have EX := EX.trans (if_neg c10)
    have EY := EY.trans (if_neg c10)
    have K := K.2 c10
    refine ea_iload_n (pc := 11) dX11_seen_11 rfl 2 rfl ?_
    refine ea_if_lt (pc := 12) (tgt := 22) dX11_seen_12 rfl (fun c9 => ?_) (fun c9 => ?_)
    · have EX := EX.trans (if_pos c9)
      have EY := EY.trans (if_pos c9)
      refine ea_iconst (pc := 22) dX11_seen_22 (v := 0) rfl ?_
      subst EX
      subst EY
      exact ea_ireturn (pc := 23) dX11_seen_23 rfl (ea_bn (Or.inl rfl))
    · have EX := EX.trans (if_neg c9)
      have EY := EY.trans (if_neg c9)
      have K := K.2 c9
      refine ea_iload_n (pc := 15) dX11_seen_15 rfl 2 rfl ?_
      refine ea_sipush (pc := 16) dX11_seen_16 (v := 10079) rfl ?_
      refine ea_icmp_le (pc := 19) (tgt := 24) dX11_seen_19 rfl (fun c8 => ?_) (fun c8 => ?_)
      · have EX := EX.trans (if_pos c8)
        have EY := EY.trans (if_pos c8)
        have K := K.1 c8
        refine ea_aload_n (pc := 24) dX11_seen_24 rfl 0 rfl ?_
        refine ea_getR (pc := 25) dX11_seen_25 ec_11 (k := 8) (Nat.le_of_ble_eq_true rfl) rfl (Or.inl ew_445) (hs.1 0 (by decide)).1 (hs.1 0 (by decide)).2.1 (hs.2 0 8 rfl) ?_
        refine ea_iload_n (pc := 28) dX11_seen_28 rfl 1 rfl ?_
        obtain ⟨z2, K⟩ := K
        refine ea_aald24 (pc := 29) dX11_seen_29 (hs.1 52 (by decide)).1 (hs.1 52 (by decide)).2.1 (ea_vpl (hs.1 52 (by decide)).2.2 z2) rfl ?_
        refine ea_aload_n (pc := 30) dX11_seen_30 rfl 0 rfl ?_
        refine ea_getI (pc := 31) dX11_seen_31 ec_11 (k := 11) (Nat.le_of_ble_eq_true rfl) rfl (Or.inl ew_448) (hs.1 0 (by decide)).1 (hs.1 0 (by decide)).2.1 ?_
        refine ea_iload_n (pc := 34) dX11_seen_34 rfl 2 rfl ?_
        obtain ⟨e3, f4, z5, K⟩ := K
        refine ea_deref2 e3 ?_
        refine ea_callV (pc := 35) (d' := d - 1) (As := [vI (ea_i h (b0 + 0) 11), vI x2]) (st := []) dX11_seen_35 kX2_learn (sX2_learn (d := d - 1) (by omega) hs z5) (by omega) rfl (Nat.le_of_ble_eq_true rfl) ew_1280 ew_1281 ew_1282 (ci := 2) rfl (by decide) f4.1 f4.2 ?_
        have hs6 : ShC b0 (wX2_learn b0 (Option.getD (ea_r h (b0 + 52) (Int32.toNatClampNeg x1)) 0) ((ea_i h (b0 + 0) 11) : Int32) (x2 : Int32) h) := shX2_learn hs
        subst EX
        subst EY
        exact ea_ireturn (pc := 38) dX11_seen_38 rfl (ea_bn K)
      · have EX := EX.trans (if_neg c8)
        have EY := EY.trans (if_neg c8)
        refine ea_iconst (pc := 22) dX11_seen_22 (v := 0) rfl ?_
        subst EX
        subst EY
        exact ea_ireturn (pc := 23) dX11_seen_23 rfl (ea_bn (Or.inl rfl))
noncomputable def vX11_clock (b0 : Nat) (x1 : Int32) (x2 : Int32) (h : ea_H) : Int32 := (if (vX9_has b0 (x1 : Int32) h) = (0 : Int32) then ((-1000) : Int32) else (if Int32.toInt x2 = 0 then (ea_i h (Option.getD (ea_r h (b0 + 52) (Int32.toNatClampNeg x1)) 0) 1) else (if Int32.toInt x2 = 1 then (ea_i h (Option.getD (ea_r h (b0 + 52) (Int32.toNatClampNeg x1)) 0) 2) else (if Int32.toInt x2 = 2 then (ea_i h (Option.getD (ea_r h (b0 + 52) (Int32.toNatClampNeg x1)) 0) 0) else ((-1000) : Int32)))))
def okX11_clock (b0 : Nat) (x1 : Int32) (x2 : Int32) (h : ea_H) : Prop := ((vX9_has b0 (x1 : Int32) h) = (0 : Int32) → True) ∧ (¬ (vX9_has b0 (x1 : Int32) h) = (0 : Int32) → (Int32.toInt x2 = 0 → vp_in x1 10 ∧ ((ea_r h (b0 + 52) (Int32.toNatClampNeg x1)) = some (Option.getD (ea_r h (b0 + 52) (Int32.toNatClampNeg x1)) 0) ∧ (((Option.getD (ea_r h (b0 + 52) (Int32.toNatClampNeg x1)) 0) < ea_n h ∧ ea_c h (Option.getD (ea_r h (b0 + 52) (Int32.toNatClampNeg x1)) 0) = 2)))) ∧ (¬ Int32.toInt x2 = 0 → (Int32.toInt x2 = 1 → vp_in x1 10 ∧ ((ea_r h (b0 + 52) (Int32.toNatClampNeg x1)) = some (Option.getD (ea_r h (b0 + 52) (Int32.toNatClampNeg x1)) 0) ∧ (((Option.getD (ea_r h (b0 + 52) (Int32.toNatClampNeg x1)) 0) < ea_n h ∧ ea_c h (Option.getD (ea_r h (b0 + 52) (Int32.toNatClampNeg x1)) 0) = 2)))) ∧ (¬ Int32.toInt x2 = 1 → (Int32.toInt x2 = 2 → vp_in x1 10 ∧ ((ea_r h (b0 + 52) (Int32.toNatClampNeg x1)) = some (Option.getD (ea_r h (b0 + 52) (Int32.toNatClampNeg x1)) 0) ∧ (((Option.getD (ea_r h (b0 + 52) (Int32.toNatClampNeg x1)) 0) < ea_n h ∧ ea_c h (Option.getD (ea_r h (b0 + 52) (Int32.toNatClampNeg x1)) 0) = 2)))) ∧ (¬ Int32.toInt x2 = 2 → True))))
theorem sX11_clock {d : Nat} {b0 : Nat} {x1 : Int32} {x2 : Int32} {h : ea_H} (hd : 2 ≤ d) (hs : ShC b0 h) (K : okX11_clock b0 x1 x2 h) : ea_Met mX11_clock d [vR (some (b0 + 0)), vI x1, vI x2] h (some (vI (vX11_clock b0 x1 x2 h))) h := by
  obtain ⟨X, EX⟩ : ∃ z, z = vX11_clock b0 x1 x2 h := ⟨_, rfl⟩
  rw [← EX]
  unfold vX11_clock at EX
  unfold okX11_clock at K
  refine ea_enter rfl (Nat.le_of_ble_eq_true rfl) ?_
  refine ea_aload_n (pc := 0) dX11_clock_0 rfl 0 rfl ?_
  refine ea_getR (pc := 1) dX11_clock_1 ec_11 (k := 1) (Nat.le_of_ble_eq_true rfl) rfl (Or.inl ew_438) (hs.1 0 (by decide)).1 (hs.1 0 (by decide)).2.1 (hs.2 0 1 rfl) ?_
  refine ea_iload_n (pc := 4) dX11_clock_4 rfl 1 rfl ?_
  refine ea_callV (pc := 5) (d' := d - 1) (As := [vI x1]) (st := []) dX11_clock_5 kX9_has (sX9_has (d := d - 1) (by omega) hs) (by omega) rfl (Nat.le_of_ble_eq_true rfl) ew_518 ew_519 ew_520 (ci := 9) rfl (by decide) (hs.1 5 (by decide)).1 (hs.1 5 (by decide)).2.1 ?_
  refine ea_if_ne (pc := 8) (tgt := 15) dX11_clock_8 rfl (fun c11 => ?_) (fun c11 => ?_)
  · have EX := EX.trans (if_neg c11)
    have K := K.2 c11
    refine ea_iload_n (pc := 15) dX11_clock_15 rfl 2 rfl ?_
    by_cases qc16_0 : Int32.toInt x2 = 0
    · have EX := EX.trans (if_pos qc16_0)
      have K := K.1 qc16_0
      refine ea_tswIn (pc := 16) (tgt := 44) dX11_clock_16 (by rw [qc16_0]; decide) (by rw [qc16_0]; decide) (by rw [qc16_0]; rfl) rfl ?_
      refine ea_aload_n (pc := 44) dX11_clock_44 rfl 0 rfl ?_
      refine ea_getR (pc := 45) dX11_clock_45 ec_11 (k := 8) (Nat.le_of_ble_eq_true rfl) rfl (Or.inl ew_445) (hs.1 0 (by decide)).1 (hs.1 0 (by decide)).2.1 (hs.2 0 8 rfl) ?_
      refine ea_iload_n (pc := 48) dX11_clock_48 rfl 1 rfl ?_
      obtain ⟨z2, K⟩ := K
      refine ea_aald24 (pc := 49) dX11_clock_49 (hs.1 52 (by decide)).1 (hs.1 52 (by decide)).2.1 (ea_vpl (hs.1 52 (by decide)).2.2 z2) rfl ?_
      obtain ⟨e3, f4⟩ := K
      refine ea_deref0 e3 ?_
      refine ea_getI (pc := 50) dX11_clock_50 ec_2 (k := 1) (Nat.le_of_ble_eq_true rfl) rfl (Or.inl ew_427) f4.1 f4.2 ?_
      subst EX
      exact ea_ireturn (pc := 53) dX11_clock_53 rfl rfl
    have EX := EX.trans (if_neg qc16_0)
    have K := K.2 qc16_0
    by_cases qc16_1 : Int32.toInt x2 = 1
    · have EX := EX.trans (if_pos qc16_1)
      have K := K.1 qc16_1
      refine ea_tswIn (pc := 16) (tgt := 54) dX11_clock_16 (by rw [qc16_1]; decide) (by rw [qc16_1]; decide) (by rw [qc16_1]; rfl) rfl ?_
      refine ea_aload_n (pc := 54) dX11_clock_54 rfl 0 rfl ?_
      refine ea_getR (pc := 55) dX11_clock_55 ec_11 (k := 8) (Nat.le_of_ble_eq_true rfl) rfl (Or.inl ew_445) (hs.1 0 (by decide)).1 (hs.1 0 (by decide)).2.1 (hs.2 0 8 rfl) ?_
      refine ea_iload_n (pc := 58) dX11_clock_58 rfl 1 rfl ?_
      obtain ⟨z5, K⟩ := K
      refine ea_aald24 (pc := 59) dX11_clock_59 (hs.1 52 (by decide)).1 (hs.1 52 (by decide)).2.1 (ea_vpl (hs.1 52 (by decide)).2.2 z5) rfl ?_
      obtain ⟨e6, f7⟩ := K
      refine ea_deref0 e6 ?_
      refine ea_getI (pc := 60) dX11_clock_60 ec_2 (k := 2) (Nat.le_of_ble_eq_true rfl) rfl (Or.inl ew_429) f7.1 f7.2 ?_
      subst EX
      exact ea_ireturn (pc := 63) dX11_clock_63 rfl rfl
    have EX := EX.trans (if_neg qc16_1)
    have K := K.2 qc16_1
    by_cases qc16_2 : Int32.toInt x2 = 2
    · have EX := EX.trans (if_pos qc16_2)
      have K := K.1 qc16_2
      refine ea_tswIn (pc := 16) (tgt := 64) dX11_clock_16 (by rw [qc16_2]; decide) (by rw [qc16_2]; decide) (by rw [qc16_2]; rfl) rfl ?_
      refine ea_aload_n (pc := 64) dX11_clock_64 rfl 0 rfl ?_
      refine ea_getR (pc := 65) dX11_clock_65 ec_11 (k := 8) (Nat.le_of_ble_eq_true rfl) rfl (Or.inl ew_445) (hs.1 0 (by decide)).1 (hs.1 0 (by decide)).2.1 (hs.2 0 8 rfl) ?_
      refine ea_iload_n (pc := 68) dX11_clock_68 rfl 1 rfl ?_
      obtain ⟨z8, K⟩ := K
      refine ea_aald24 (pc := 69) dX11_clock_69 (hs.1 52 (by decide)).1 (hs.1 52 (by decide)).2.1 (ea_vpl (hs.1 52 (by decide)).2.2 z8) rfl ?_
      obtain ⟨e9, f10⟩ := K
      refine ea_deref0 e9 ?_
      refine ea_getI (pc := 70) dX11_clock_70 ec_2 (k := 0) (Nat.le_of_ble_eq_true rfl) rfl (Or.inl ew_425) f10.1 f10.2 ?_
      subst EX
      exact ea_ireturn (pc := 73) dX11_clock_73 rfl rfl
    have EX := EX.trans (if_neg qc16_2)
    have K := K.2 qc16_2
    refine ea_tswOut (pc := 16) (tgt := 74) dX11_clock_16 (ec_sw_0_2 qc16_0 qc16_1 qc16_2) rfl ?_
    refine ea_sipush (pc := 74) dX11_clock_74 (v := (-1000)) rfl ?_
    subst EX
    exact ea_ireturn (pc := 77) dX11_clock_77 rfl rfl
  · have EX := EX.trans (if_pos c11)
    refine ea_sipush (pc := 11) dX11_clock_11 (v := (-1000)) rfl ?_
    subst EX
    exact ea_ireturn (pc := 14) dX11_clock_14 rfl rfl
noncomputable def vX11_mayBeTold (b0 : Nat) (x1 : Int32) (x2 : Int32) (x3 : Int32) (h : ea_H) : Int32 := (if (vX9_hasRun b0 (x1 : Int32) (x2 : Int32) h) = (0 : Int32) then (0 : Int32) else (if x3 < (0 : Int32) then (0 : Int32) else (if (300 : Int32) < x3 then (0 : Int32) else (if (ea_i h (b0 + 6) (Int32.toNatClampNeg x1)) ≤ (0 : Int32) then (0 : Int32) else (if (((1440 : Int32) * x2) + (ea_i h (b0 + 9) (Int32.toNatClampNeg ((8 : Int32) * x1)))) ≤ (ea_i h (b0 + 0) 11) then (0 : Int32) else (1 : Int32))))))
def okX11_mayBeTold (b0 : Nat) (x1 : Int32) (x2 : Int32) (x3 : Int32) (h : ea_H) : Prop := ((vX9_hasRun b0 (x1 : Int32) (x2 : Int32) h) = (0 : Int32) → True) ∧ (¬ (vX9_hasRun b0 (x1 : Int32) (x2 : Int32) h) = (0 : Int32) → (x3 < (0 : Int32) → True) ∧ (¬ x3 < (0 : Int32) → ((300 : Int32) < x3 → True) ∧ (¬ (300 : Int32) < x3 → vp_in x1 10 ∧ (((ea_i h (b0 + 6) (Int32.toNatClampNeg x1)) ≤ (0 : Int32) → True) ∧ (¬ (ea_i h (b0 + 6) (Int32.toNatClampNeg x1)) ≤ (0 : Int32) → vp_in ((8 : Int32) * x1) 80)))))
theorem bo_vX11_mayBeTold (b0 : Nat) (x1 : Int32) (x2 : Int32) (x3 : Int32) (h : ea_H) : vX11_mayBeTold b0 x1 x2 x3 h = 0 ∨ vX11_mayBeTold b0 x1 x2 x3 h = 1 := (ea_itB (Or.inl rfl) (ea_itB (Or.inl rfl) (ea_itB (Or.inl rfl) (ea_itB (Or.inl rfl) (ea_itB (Or.inl rfl) (Or.inr rfl))))))
theorem sX11_mayBeTold {d : Nat} {b0 : Nat} {x1 : Int32} {x2 : Int32} {x3 : Int32} {h : ea_H} (hd : 3 ≤ d) (hs : ShC b0 h) (K : okX11_mayBeTold b0 x1 x2 x3 h) : ea_Met mX11_mayBeTold d [vR (some (b0 + 0)), vI x1, vI x2, vI x3] h (some (vI (vX11_mayBeTold b0 x1 x2 x3 h))) h := by
  obtain ⟨X, EX⟩ : ∃ z, z = vX11_mayBeTold b0 x1 x2 x3 h := ⟨_, rfl⟩
  rw [← EX]
  unfold vX11_mayBeTold at EX
  unfold okX11_mayBeTold at K
  refine ea_enter rfl (Nat.le_of_ble_eq_true rfl) ?_
  refine ea_aload_n (pc := 0) dX11_mayBeTold_0 rfl 0 rfl ?_
  refine ea_getR (pc := 1) dX11_mayBeTold_1 ec_11 (k := 1) (Nat.le_of_ble_eq_true rfl) rfl (Or.inl ew_438) (hs.1 0 (by decide)).1 (hs.1 0 (by decide)).2.1 (hs.2 0 1 rfl) ?_
  refine ea_iload_n (pc := 4) dX11_mayBeTold_4 rfl 1 rfl ?_
  refine ea_iload_n (pc := 5) dX11_mayBeTold_5 rfl 2 rfl ?_
  refine ea_callV (pc := 6) (d' := d - 1) (As := [vI x1, vI x2]) (st := []) dX11_mayBeTold_6 kX9_hasRun (sX9_hasRun (d := d - 1) (by omega) hs) (by omega) rfl (Nat.le_of_ble_eq_true rfl) ew_542 ew_543 ew_544 (ci := 9) rfl (by decide) (hs.1 5 (by decide)).1 (hs.1 5 (by decide)).2.1 ?_
  refine ea_if_eq (pc := 9) (tgt := 64) dX11_mayBeTold_9 rfl (fun c8 => ?_) (fun c8 => ?_)
  · have EX := EX.trans (if_pos c8)
    refine ea_iconst (pc := 64) dX11_mayBeTold_64 (v := 0) rfl ?_
    subst EX
    exact ea_ireturn (pc := 65) dX11_mayBeTold_65 rfl (ea_bn (Or.inl rfl))
  · have EX := EX.trans (if_neg c8)
    have K := K.2 c8
    refine ea_iload_n (pc := 12) dX11_mayBeTold_12 rfl 3 rfl ?_
    refine ea_if_lt (pc := 13) (tgt := 64) dX11_mayBeTold_13 rfl (fun c7 => ?_) (fun c7 => ?_)
    · have EX := EX.trans (if_pos c7)
      refine ea_iconst (pc := 64) dX11_mayBeTold_64 (v := 0) rfl ?_
      subst EX
      exact ea_ireturn (pc := 65) dX11_mayBeTold_65 rfl (ea_bn (Or.inl rfl))
    · have EX := EX.trans (if_neg c7)
      have K := K.2 c7
      refine ea_iload_n (pc := 16) dX11_mayBeTold_16 rfl 3 rfl ?_
      refine ea_sipush (pc := 17) dX11_mayBeTold_17 (v := 300) rfl ?_
      refine ea_icmp_gt (pc := 20) (tgt := 64) dX11_mayBeTold_20 rfl (fun c6 => ?_) (fun c6 => ?_)
      · have EX := EX.trans (if_pos c6)
        refine ea_iconst (pc := 64) dX11_mayBeTold_64 (v := 0) rfl ?_
        subst EX
        exact ea_ireturn (pc := 65) dX11_mayBeTold_65 rfl (ea_bn (Or.inl rfl))
      · have EX := EX.trans (if_neg c6)
        have K := K.2 c6
        refine ea_aload_n (pc := 23) dX11_mayBeTold_23 rfl 0 rfl ?_
        refine ea_getR (pc := 24) dX11_mayBeTold_24 ec_11 (k := 1) (Nat.le_of_ble_eq_true rfl) rfl (Or.inl ew_438) (hs.1 0 (by decide)).1 (hs.1 0 (by decide)).2.1 (hs.2 0 1 rfl) ?_
        refine ea_getR (pc := 27) dX11_mayBeTold_27 ec_9 (k := 1) (Nat.le_of_ble_eq_true rfl) rfl (Or.inl ew_181) (hs.1 5 (by decide)).1 (hs.1 5 (by decide)).2.1 (hs.2 5 1 rfl) ?_
        refine ea_iload_n (pc := 30) dX11_mayBeTold_30 rfl 1 rfl ?_
        obtain ⟨z2, K⟩ := K
        refine ea_iald (pc := 31) dX11_mayBeTold_31 (hs.1 6 (by decide)).1 (hs.1 6 (by decide)).2.1 (ea_vpl (hs.1 6 (by decide)).2.2 z2) ?_
        refine ea_if_le (pc := 32) (tgt := 64) dX11_mayBeTold_32 rfl (fun c5 => ?_) (fun c5 => ?_)
        · have EX := EX.trans (if_pos c5)
          refine ea_iconst (pc := 64) dX11_mayBeTold_64 (v := 0) rfl ?_
          subst EX
          exact ea_ireturn (pc := 65) dX11_mayBeTold_65 rfl (ea_bn (Or.inl rfl))
        · have EX := EX.trans (if_neg c5)
          have K := K.2 c5
          refine ea_sipush (pc := 35) dX11_mayBeTold_35 (v := 1440) rfl ?_
          refine ea_iload_n (pc := 38) dX11_mayBeTold_38 rfl 2 rfl ?_
          refine ea_imul (pc := 39) dX11_mayBeTold_39 ?_
          refine ea_aload_n (pc := 40) dX11_mayBeTold_40 rfl 0 rfl ?_
          refine ea_getR (pc := 41) dX11_mayBeTold_41 ec_11 (k := 1) (Nat.le_of_ble_eq_true rfl) rfl (Or.inl ew_438) (hs.1 0 (by decide)).1 (hs.1 0 (by decide)).2.1 (hs.2 0 1 rfl) ?_
          refine ea_getR (pc := 44) dX11_mayBeTold_44 ec_9 (k := 4) (Nat.le_of_ble_eq_true rfl) rfl (Or.inl ew_192) (hs.1 5 (by decide)).1 (hs.1 5 (by decide)).2.1 (hs.2 5 4 rfl) ?_
          refine ea_bipush (pc := 47) dX11_mayBeTold_47 (v := 8) rfl ?_
          refine ea_iload_n (pc := 49) dX11_mayBeTold_49 rfl 1 rfl ?_
          refine ea_imul (pc := 50) dX11_mayBeTold_50 ?_
          have z3 := K
          refine ea_iald (pc := 51) dX11_mayBeTold_51 (hs.1 9 (by decide)).1 (hs.1 9 (by decide)).2.1 (ea_vpl (hs.1 9 (by decide)).2.2 z3) ?_
          refine ea_iadd (pc := 52) dX11_mayBeTold_52 ?_
          refine ea_aload_n (pc := 53) dX11_mayBeTold_53 rfl 0 rfl ?_
          refine ea_getI (pc := 54) dX11_mayBeTold_54 ec_11 (k := 11) (Nat.le_of_ble_eq_true rfl) rfl (Or.inl ew_448) (hs.1 0 (by decide)).1 (hs.1 0 (by decide)).2.1 ?_
          refine ea_icmp_le (pc := 57) (tgt := 64) dX11_mayBeTold_57 rfl (fun c4 => ?_) (fun c4 => ?_)
          · have EX := EX.trans (if_pos c4)
            refine ea_iconst (pc := 64) dX11_mayBeTold_64 (v := 0) rfl ?_
            subst EX
            exact ea_ireturn (pc := 65) dX11_mayBeTold_65 rfl (ea_bn (Or.inl rfl))
          · have EX := EX.trans (if_neg c4)
            refine ea_iconst (pc := 60) dX11_mayBeTold_60 (v := 1) rfl ?_
            refine ea_goto (pc := 61) (tgt := 65) dX11_mayBeTold_61 rfl ?_
            subst EX
            exact ea_ireturn (pc := 65) dX11_mayBeTold_65 rfl (ea_bn (Or.inr rfl))
noncomputable def gX11_franksAhead (b0 : Nat) : Nat → Nat → Option Nat → Int32 → Int32 → ea_H → Option (Int32 × ea_H)
  | 0, _, _, _, _, _ => none
  | f + 1, lbl, r1, x2, x3, h =>
    if lbl = 0 then (gX11_franksAhead b0 f 4 (r1 : Option Nat) (0 : Int32) (0 : Int32) h) else
    if lbl = 4 then (if (ea_i h (b0 + 32) 0) ≤ x3 then (some (x2, h)) else (gd (vp_in x3 120) (gd ((ea_r h (b0 + 31) (Int32.toNatClampNeg x3)) = some (Option.getD (ea_r h (b0 + 31) (Int32.toNatClampNeg x3)) 0)) (gd (((Option.getD (ea_r h (b0 + 31) (Int32.toNatClampNeg x3)) 0) < ea_n h ∧ ea_c h (Option.getD (ea_r h (b0 + 31) (Int32.toNatClampNeg x3)) 0) = 4)) (if (ea_i h (Option.getD (ea_r h (b0 + 31) (Int32.toNatClampNeg x3)) 0) 0) = (2 : Int32) then (gd ((ea_r h (b0 + 31) (Int32.toNatClampNeg x3)) = some (Option.getD (ea_r h (b0 + 31) (Int32.toNatClampNeg x3)) 0)) (gd (((Option.getD (ea_r h (b0 + 31) (Int32.toNatClampNeg x3)) 0) < ea_n h ∧ ea_c h (Option.getD (ea_r h (b0 + 31) (Int32.toNatClampNeg x3)) 0) = 4)) (gd (r1 = some (Option.getD r1 0)) (gd (((Option.getD r1 0) < ea_n h ∧ ea_c h (Option.getD r1 0) = 4)) (if (ea_i h (Option.getD (ea_r h (b0 + 31) (Int32.toNatClampNeg x3)) 0) 5) = (ea_i h (Option.getD r1 0) 5) then (gd ((ea_r h (b0 + 31) (Int32.toNatClampNeg x3)) = some (Option.getD (ea_r h (b0 + 31) (Int32.toNatClampNeg x3)) 0)) (gd (((Option.getD (ea_r h (b0 + 31) (Int32.toNatClampNeg x3)) 0) < ea_n h ∧ ea_c h (Option.getD (ea_r h (b0 + 31) (Int32.toNatClampNeg x3)) 0) = 4)) (gd ((okX4_dayOf b0 (Option.getD (ea_r h (b0 + 31) (Int32.toNatClampNeg x3)) 0) h)) (gd (r1 = some (Option.getD r1 0)) (gd (((Option.getD r1 0) < ea_n h ∧ ea_c h (Option.getD r1 0) = 4)) (gd ((okX4_dayOf b0 (Option.getD r1 0) h)) (if (vX4_dayOf b0 (Option.getD (ea_r h (b0 + 31) (Int32.toNatClampNeg x3)) 0) h) = (vX4_dayOf b0 (Option.getD r1 0) h) then (gX11_franksAhead b0 f 4 (r1 : Option Nat) ((x2 + (1 : Int32)) : Int32) ((x3 + (1 : Int32)) : Int32) h) else (gX11_franksAhead b0 f 4 (r1 : Option Nat) (x2 : Int32) ((x3 + (1 : Int32)) : Int32) h)))))))) else (gX11_franksAhead b0 f 4 (r1 : Option Nat) (x2 : Int32) ((x3 + (1 : Int32)) : Int32) h)))))) else (gX11_franksAhead b0 f 4 (r1 : Option Nat) (x2 : Int32) ((x3 + (1 : Int32)) : Int32) h)))))) else none
theorem tX11_franksAhead {d : Nat} {b0 : Nat} {h0 : ea_H} (hd : 2 ≤ d) : ∀ (f lbl : Nat) (r1 : Option Nat) (x2 : Int32) (x3 : Int32) (h : ea_H) (r : Int32) (h' : ea_H), gX11_franksAhead b0 f lbl r1 x2 x3 h = some (r, h') → ShC b0 h → (lbl = 0 → ea_W mX11_franksAhead d h0 (some (vI r)) h' 0 [(0, vR (some (b0 + 0))), (1, vR r1)] [] h) ∧ (lbl = 4 → ea_W mX11_franksAhead d h0 (some (vI r)) h' 4 [(0, vR (some (b0 + 0))), (1, vR r1), (2, vI x2), (3, vI x3)] [] h) := by
  intro f
  induction f with
  | zero => intro lbl r1 x2 x3 h r h' E; cases E
  | succ f ih =>
    intro lbl r1 x2 x3 h r h' E hs
    unfold gX11_franksAhead at E
    refine ⟨?_, ?_⟩
    · intro el
      subst el
      have E := (if_pos rfl).symm.trans E
      refine ea_iconst (pc := 0) dX11_franksAhead_0 (v := 0) rfl ?_
      refine ea_istore_n (pc := 1) (lv' := [(0, vR (some (b0 + 0))), (1, vR r1), (2, vI 0)]) dX11_franksAhead_1 rfl (Nat.le_of_ble_eq_true rfl) [1, 2, 0] rfl ?_
      refine ea_iconst (pc := 2) dX11_franksAhead_2 (v := 0) rfl ?_
      refine ea_istore_n (pc := 3) (lv' := [(0, vR (some (b0 + 0))), (1, vR r1), (2, vI 0), (3, vI 0)]) dX11_franksAhead_3 rfl (Nat.le_of_ble_eq_true rfl) [1, 2, 3, 0] rfl ?_
      exact ((ih 4 (r1 : Option Nat) (0 : Int32) (0 : Int32) h _ _ E hs).2 rfl)
    intro el
    subst el
    have E := (if_neg (by decide)).symm.trans E
    have E := (if_pos rfl).symm.trans E
    refine ea_iload_n (pc := 4) dX11_franksAhead_4 rfl 3 rfl ?_
    refine ea_aload_n (pc := 5) dX11_franksAhead_5 rfl 0 rfl ?_
    refine ea_getR (pc := 6) dX11_franksAhead_6 ec_11 (k := 6) (Nat.le_of_ble_eq_true rfl) rfl (Or.inl ew_443) (hs.1 0 (by decide)).1 (hs.1 0 (by decide)).2.1 (hs.2 0 6 rfl) ?_
    refine ea_getI (pc := 9) dX11_franksAhead_9 ec_1 (k := 0) (Nat.le_of_ble_eq_true rfl) rfl (Or.inl ew_360) (hs.1 32 (by decide)).1 (hs.1 32 (by decide)).2.1 ?_
    refine ea_icmp_ge (pc := 12) (tgt := 65) dX11_franksAhead_12 rfl (fun c17 => ?_) (fun c17 => ?_)
    · have E := (if_pos c17).symm.trans E
      refine ea_iload_n (pc := 65) dX11_franksAhead_65 rfl 2 rfl ?_
      cases E
      exact ea_ireturn (pc := 66) dX11_franksAhead_66 rfl rfl
    · have E := (if_neg c17).symm.trans E
      refine ea_aload_n (pc := 15) dX11_franksAhead_15 rfl 0 rfl ?_
      refine ea_getR (pc := 16) dX11_franksAhead_16 ec_11 (k := 5) (Nat.le_of_ble_eq_true rfl) rfl (Or.inl ew_442) (hs.1 0 (by decide)).1 (hs.1 0 (by decide)).2.1 (hs.2 0 5 rfl) ?_
      refine ea_iload_n (pc := 19) dX11_franksAhead_19 rfl 3 rfl ?_
      obtain ⟨z1, E⟩ := gd_some E
      refine ea_aald23 (pc := 20) dX11_franksAhead_20 (hs.1 31 (by decide)).1 (hs.1 31 (by decide)).2.1 (ea_vpl (hs.1 31 (by decide)).2.2 z1) rfl ?_
      refine ea_astore (pc := 21) (lv' := [(0, vR (some (b0 + 0))), (1, vR r1), (2, vI x2), (3, vI x3), (4, vR (ea_r h (b0 + 31) (Int32.toNatClampNeg x3)))]) dX11_franksAhead_21 (Nat.le_of_ble_eq_true rfl) [1, 2, 3, 4, 0] rfl ?_
      refine ea_aload (pc := 23) dX11_franksAhead_23 4 rfl ?_
      obtain ⟨e2, E⟩ := gd_some E
      obtain ⟨f3, E⟩ := gd_some E
      refine ea_deref0 e2 ?_
      refine ea_getI (pc := 25) dX11_franksAhead_25 ec_4 (k := 0) (Nat.le_of_ble_eq_true rfl) rfl (Or.inl ew_935) f3.1 f3.2 ?_
      refine ea_iconst (pc := 28) dX11_franksAhead_28 (v := 2) rfl ?_
      refine ea_icmp_ne (pc := 29) (tgt := 59) dX11_franksAhead_29 rfl (fun c16 => ?_) (fun c16 => ?_)
      · have E := (if_neg c16).symm.trans E
        refine ea_iinc (pc := 59) (v := 1) (lv' := [(0, vR (some (b0 + 0))), (1, vR r1), (2, vI x2), (3, vI (x3 + (1 : Int32)))]) dX11_franksAhead_59 3 rfl rfl (Nat.le_of_ble_eq_true rfl) [1, 2, 3, 0] rfl ?_
        refine ea_goto (pc := 62) (tgt := 4) dX11_franksAhead_62 rfl ?_
        exact ((ih 4 (r1 : Option Nat) (x2 : Int32) ((x3 + (1 : Int32)) : Int32) h _ _ E hs).2 rfl)
      · have E := (if_pos c16).symm.trans E
        refine ea_aload (pc := 32) dX11_franksAhead_32 4 rfl ?_
        obtain ⟨e4, E⟩ := gd_some E
        obtain ⟨f5, E⟩ := gd_some E
        refine ea_deref0 e4 ?_
        refine ea_getI (pc := 34) dX11_franksAhead_34 ec_4 (k := 5) (Nat.le_of_ble_eq_true rfl) rfl (Or.inl ew_948) f5.1 f5.2 ?_
        refine ea_aload_n (pc := 37) dX11_franksAhead_37 rfl 1 rfl ?_
        obtain ⟨e6, E⟩ := gd_some E
        obtain ⟨f7, E⟩ := gd_some E
        refine ea_deref0 e6 ?_
        refine ea_getI (pc := 38) dX11_franksAhead_38 ec_4 (k := 5) (Nat.le_of_ble_eq_true rfl) rfl (Or.inl ew_948) f7.1 f7.2 ?_
        refine ea_icmp_ne (pc := 41) (tgt := 59) dX11_franksAhead_41 rfl (fun c15 => ?_) (fun c15 => ?_)
        · have E := (if_neg c15).symm.trans E
          refine ea_iinc (pc := 59) (v := 1) (lv' := [(0, vR (some (b0 + 0))), (1, vR r1), (2, vI x2), (3, vI (x3 + (1 : Int32)))]) dX11_franksAhead_59 3 rfl rfl (Nat.le_of_ble_eq_true rfl) [1, 2, 3, 0] rfl ?_
          refine ea_goto (pc := 62) (tgt := 4) dX11_franksAhead_62 rfl ?_
          exact ((ih 4 (r1 : Option Nat) (x2 : Int32) ((x3 + (1 : Int32)) : Int32) h _ _ E hs).2 rfl)
        · have E := (if_pos c15).symm.trans E
          refine ea_aload (pc := 44) dX11_franksAhead_44 4 rfl ?_
          obtain ⟨e8, E⟩ := gd_some E
          obtain ⟨f9, E⟩ := gd_some E
          obtain ⟨z10, E⟩ := gd_some E
          refine ea_deref0 e8 ?_
          refine ea_callV (pc := 46) (d' := d - 1) (As := []) (st := []) dX11_franksAhead_46 kX4_dayOf (sX4_dayOf (d := d - 1) (by omega) hs z10) (by omega) rfl (Nat.le_of_ble_eq_true rfl) ew_1032 ew_1033 ew_1034 (ci := 4) rfl (by decide) f9.1 f9.2 ?_
          refine ea_aload_n (pc := 49) dX11_franksAhead_49 rfl 1 rfl ?_
          obtain ⟨e11, E⟩ := gd_some E
          obtain ⟨f12, E⟩ := gd_some E
          obtain ⟨z13, E⟩ := gd_some E
          refine ea_deref0 e11 ?_
          refine ea_callV (pc := 50) (d' := d - 1) (As := []) (st := [vI (vX4_dayOf b0 (Option.getD (ea_r h (b0 + 31) (Int32.toNatClampNeg x3)) 0) h)]) dX11_franksAhead_50 kX4_dayOf (sX4_dayOf (d := d - 1) (by omega) hs z13) (by omega) rfl (Nat.le_of_ble_eq_true rfl) ew_1032 ew_1033 ew_1034 (ci := 4) rfl (by decide) f12.1 f12.2 ?_
          refine ea_icmp_ne (pc := 53) (tgt := 59) dX11_franksAhead_53 rfl (fun c14 => ?_) (fun c14 => ?_)
          · have E := (if_neg c14).symm.trans E
            refine ea_iinc (pc := 59) (v := 1) (lv' := [(0, vR (some (b0 + 0))), (1, vR r1), (2, vI x2), (3, vI (x3 + (1 : Int32)))]) dX11_franksAhead_59 3 rfl rfl (Nat.le_of_ble_eq_true rfl) [1, 2, 3, 0] rfl ?_
            refine ea_goto (pc := 62) (tgt := 4) dX11_franksAhead_62 rfl ?_
            exact ((ih 4 (r1 : Option Nat) (x2 : Int32) ((x3 + (1 : Int32)) : Int32) h _ _ E hs).2 rfl)
          · have E := (if_pos c14).symm.trans E
            refine ea_iinc (pc := 56) (v := 1) (lv' := [(0, vR (some (b0 + 0))), (1, vR r1), (2, vI (x2 + (1 : Int32))), (3, vI x3)]) dX11_franksAhead_56 2 rfl rfl (Nat.le_of_ble_eq_true rfl) [1, 2, 0, 3] rfl ?_
            refine ea_iinc (pc := 59) (v := 1) (lv' := [(0, vR (some (b0 + 0))), (1, vR r1), (2, vI (x2 + (1 : Int32))), (3, vI (x3 + (1 : Int32)))]) dX11_franksAhead_59 3 rfl rfl (Nat.le_of_ble_eq_true rfl) [1, 2, 3, 0] rfl ?_
            refine ea_goto (pc := 62) (tgt := 4) dX11_franksAhead_62 rfl ?_
            exact ((ih 4 (r1 : Option Nat) ((x2 + (1 : Int32)) : Int32) ((x3 + (1 : Int32)) : Int32) h _ _ E hs).2 rfl)
noncomputable def qX11_franksAhead (b0 : Nat) (r1 : Option Nat) (h : ea_H) : Option (Int32 × ea_H) := gX11_franksAhead b0 1000000000 0 r1 0 0 h
def okX11_franksAhead (b0 : Nat) (r1 : Option Nat) (h : ea_H) : Prop := ∃ x, qX11_franksAhead b0 r1 h = some x
noncomputable def vX11_franksAhead (b0 : Nat) (r1 : Option Nat) (h : ea_H) : Int32 := ((qX11_franksAhead b0 r1 h).getD (0, h)).1
noncomputable def wX11_franksAhead (b0 : Nat) (r1 : Option Nat) (h : ea_H) : ea_H := ((qX11_franksAhead b0 r1 h).getD (0, h)).2
theorem sX11_franksAhead {d : Nat} {b0 : Nat} {r1 : Option Nat} {h : ea_H} (hd : 2 ≤ d) (hs : ShC b0 h) (K : okX11_franksAhead b0 r1 h) : ea_Met mX11_franksAhead d [vR (some (b0 + 0)), vR r1] h (some (vI (vX11_franksAhead b0 r1 h))) (wX11_franksAhead b0 r1 h) := by
  obtain ⟨⟨x, y⟩, K⟩ := K
  unfold wX11_franksAhead vX11_franksAhead
  rw [K]
  unfold qX11_franksAhead at K
  exact ea_enter rfl (Nat.le_of_ble_eq_true rfl) ((tX11_franksAhead hd 1000000000 0 r1 0 0 h x y K hs).1 rfl)
theorem zX11_franksAhead {b0 : Nat} : ∀ (f lbl : Nat) (r1 : Option Nat) (x2 : Int32) (x3 : Int32) (h : ea_H) (r : Int32) (h' : ea_H), gX11_franksAhead b0 f lbl r1 x2 x3 h = some (r, h') → ShC b0 h → ShC b0 h' := by
  intro f
  induction f with
  | zero => intro lbl r1 x2 x3 h r h' E; cases E
  | succ f ih =>
    intro lbl r1 x2 x3 h r h' E hs
    unfold gX11_franksAhead at E
    by_cases el0 : lbl = 0
    · have E := (if_pos el0).symm.trans E
      exact ih 4 (r1 : Option Nat) (0 : Int32) (0 : Int32) h _ _ E hs
    have E := (if_neg el0).symm.trans E
    by_cases el1 : lbl = 4
    · have E := (if_pos el1).symm.trans E
      by_cases c17 : (ea_i h (b0 + 32) 0) ≤ x3
      · have E := (if_pos c17).symm.trans E
        cases E
        exact hs
      have E := (if_neg c17).symm.trans E
      obtain ⟨z1, E⟩ := gd_some E
      obtain ⟨e2, E⟩ := gd_some E
      obtain ⟨f3, E⟩ := gd_some E
      by_cases c16 : (ea_i h (Option.getD (ea_r h (b0 + 31) (Int32.toNatClampNeg x3)) 0) 0) = (2 : Int32)
      · have E := (if_pos c16).symm.trans E
        obtain ⟨e4, E⟩ := gd_some E
        obtain ⟨f5, E⟩ := gd_some E
        obtain ⟨e6, E⟩ := gd_some E
        obtain ⟨f7, E⟩ := gd_some E
        by_cases c15 : (ea_i h (Option.getD (ea_r h (b0 + 31) (Int32.toNatClampNeg x3)) 0) 5) = (ea_i h (Option.getD r1 0) 5)
        · have E := (if_pos c15).symm.trans E
          obtain ⟨e8, E⟩ := gd_some E
          obtain ⟨f9, E⟩ := gd_some E
          obtain ⟨z10, E⟩ := gd_some E
          obtain ⟨e11, E⟩ := gd_some E
          obtain ⟨f12, E⟩ := gd_some E
          obtain ⟨z13, E⟩ := gd_some E
          by_cases c14 : (vX4_dayOf b0 (Option.getD (ea_r h (b0 + 31) (Int32.toNatClampNeg x3)) 0) h) = (vX4_dayOf b0 (Option.getD r1 0) h)
          · have E := (if_pos c14).symm.trans E
            exact ih 4 (r1 : Option Nat) ((x2 + (1 : Int32)) : Int32) ((x3 + (1 : Int32)) : Int32) h _ _ E hs
          have E := (if_neg c14).symm.trans E
          exact ih 4 (r1 : Option Nat) (x2 : Int32) ((x3 + (1 : Int32)) : Int32) h _ _ E hs
        have E := (if_neg c15).symm.trans E
        exact ih 4 (r1 : Option Nat) (x2 : Int32) ((x3 + (1 : Int32)) : Int32) h _ _ E hs
      have E := (if_neg c16).symm.trans E
      exact ih 4 (r1 : Option Nat) (x2 : Int32) ((x3 + (1 : Int32)) : Int32) h _ _ E hs
    have E := (if_neg el1).symm.trans E
    cases E
theorem shX11_franksAhead {b0 : Nat} {r1 : Option Nat} {h : ea_H} (hs : ShC b0 h) : ShC b0 (wX11_franksAhead b0 r1 h) := by
  unfold wX11_franksAhead
  cases K : qX11_franksAhead b0 r1 h with
  | none => exact hs
  | some x => obtain ⟨x, y⟩ := x; unfold qX11_franksAhead at K; exact zX11_franksAhead _ _ _ _ _ _ _ _ K hs
noncomputable def gX11_owedBetween (b0 : Nat) : Nat → Nat → Int32 → Int32 → Int32 → Int32 → Int32 → ea_H → Option (Int32 × ea_H)
  | 0, _, _, _, _, _, _, _ => none
  | f + 1, lbl, x1, x2, x3, x4, x5, h =>
    if lbl = 0 then (gX11_owedBetween b0 f 6 (x1 : Int32) (x2 : Int32) (x3 : Int32) (0 : Int32) (0 : Int32) h) else
    if lbl = 6 then (if (ea_i h (b0 + 32) 0) ≤ x5 then (some (x4, h)) else (gd ((okX11_isBetween b0 (x5 : Int32) (x1 : Int32) (x2 : Int32) h)) (if (vX11_isBetween b0 (x5 : Int32) (x1 : Int32) (x2 : Int32) h) = (0 : Int32) then (gX11_owedBetween b0 f 6 (x1 : Int32) (x2 : Int32) (x3 : Int32) (x4 : Int32) ((x5 + (1 : Int32)) : Int32) h) else (if x3 = (0 : Int32) then (gX11_owedBetween b0 f 47 (x1 : Int32) (x2 : Int32) (x3 : Int32) (x4 : Int32) (x5 : Int32) h) else (gd (vp_in x5 120) (if (ea_i h (b0 + 33) (Int32.toNatClampNeg x5)) = (2 : Int32) then (gX11_owedBetween b0 f 47 (x1 : Int32) (x2 : Int32) (x3 : Int32) (x4 : Int32) (x5 : Int32) h) else (gX11_owedBetween b0 f 6 (x1 : Int32) (x2 : Int32) (x3 : Int32) (x4 : Int32) ((x5 + (1 : Int32)) : Int32) h))))))) else
    if lbl = 47 then (gd (vp_in x5 120) (gd ((ea_r h (b0 + 31) (Int32.toNatClampNeg x5)) = some (Option.getD (ea_r h (b0 + 31) (Int32.toNatClampNeg x5)) 0)) (gd (((Option.getD (ea_r h (b0 + 31) (Int32.toNatClampNeg x5)) 0) < ea_n h ∧ ea_c h (Option.getD (ea_r h (b0 + 31) (Int32.toNatClampNeg x5)) 0) = 4)) (gd ((okX4_owed b0 (Option.getD (ea_r h (b0 + 31) (Int32.toNatClampNeg x5)) 0) h)) (gX11_owedBetween b0 f 6 (x1 : Int32) (x2 : Int32) (x3 : Int32) ((x4 + (vX4_owed b0 (Option.getD (ea_r h (b0 + 31) (Int32.toNatClampNeg x5)) 0) h)) : Int32) ((x5 + (1 : Int32)) : Int32) h))))) else none
theorem tX11_owedBetween {d : Nat} {b0 : Nat} {h0 : ea_H} (hd : 2 ≤ d) : ∀ (f lbl : Nat) (x1 : Int32) (x2 : Int32) (x3 : Int32) (x4 : Int32) (x5 : Int32) (h : ea_H) (r : Int32) (h' : ea_H), gX11_owedBetween b0 f lbl x1 x2 x3 x4 x5 h = some (r, h') → ShC b0 h → (lbl = 0 → ea_W mX11_owedBetween d h0 (some (vI r)) h' 0 [(0, vR (some (b0 + 0))), (1, vI x1), (2, vI x2), (3, vI x3)] [] h) ∧ (lbl = 6 → ea_W mX11_owedBetween d h0 (some (vI r)) h' 6 [(0, vR (some (b0 + 0))), (1, vI x1), (2, vI x2), (3, vI x3), (4, vI x4), (5, vI x5)] [] h) ∧ (lbl = 47 → ea_W mX11_owedBetween d h0 (some (vI r)) h' 47 [(0, vR (some (b0 + 0))), (1, vI x1), (2, vI x2), (3, vI x3), (4, vI x4), (5, vI x5)] [] h) := by
  intro f
  induction f with
  | zero => intro lbl x1 x2 x3 x4 x5 h r h' E; cases E
  | succ f ih =>
    intro lbl x1 x2 x3 x4 x5 h r h' E hs
    unfold gX11_owedBetween at E
    refine ⟨?_, ?_⟩
    · intro el
      subst el
      have E := (if_pos rfl).symm.trans E
      refine ea_iconst (pc := 0) dX11_owedBetween_0 (v := 0) rfl ?_
      refine ea_istore (pc := 1) (lv' := [(0, vR (some (b0 + 0))), (1, vI x1), (2, vI x2), (3, vI x3), (4, vI 0)]) dX11_owedBetween_1 (Nat.le_of_ble_eq_true rfl) [1, 2, 3, 4, 0] rfl ?_
      refine ea_iconst (pc := 3) dX11_owedBetween_3 (v := 0) rfl ?_
      refine ea_istore (pc := 4) (lv' := [(0, vR (some (b0 + 0))), (1, vI x1), (2, vI x2), (3, vI x3), (4, vI 0), (5, vI 0)]) dX11_owedBetween_4 (Nat.le_of_ble_eq_true rfl) [1, 2, 3, 4, 5, 0] rfl ?_
      exact ((ih 6 (x1 : Int32) (x2 : Int32) (x3 : Int32) (0 : Int32) (0 : Int32) h _ _ E hs).2.1 rfl)
    refine ⟨?_, ?_⟩
    · intro el
      subst el
      have E := (if_neg (by decide)).symm.trans E
      have E := (if_pos rfl).symm.trans E
      refine ea_iload (pc := 6) dX11_owedBetween_6 5 rfl ?_
      refine ea_aload_n (pc := 8) dX11_owedBetween_8 rfl 0 rfl ?_
      refine ea_getR (pc := 9) dX11_owedBetween_9 ec_11 (k := 6) (Nat.le_of_ble_eq_true rfl) rfl (Or.inl ew_443) (hs.1 0 (by decide)).1 (hs.1 0 (by decide)).2.1 (hs.2 0 6 rfl) ?_
      refine ea_getI (pc := 12) dX11_owedBetween_12 ec_1 (k := 0) (Nat.le_of_ble_eq_true rfl) rfl (Or.inl ew_360) (hs.1 32 (by decide)).1 (hs.1 32 (by decide)).2.1 ?_
      refine ea_icmp_ge (pc := 15) (tgt := 68) dX11_owedBetween_15 rfl (fun c6 => ?_) (fun c6 => ?_)
      · have E := (if_pos c6).symm.trans E
        refine ea_iload (pc := 68) dX11_owedBetween_68 4 rfl ?_
        cases E
        exact ea_ireturn (pc := 70) dX11_owedBetween_70 rfl rfl
      · have E := (if_neg c6).symm.trans E
        refine ea_aload_n (pc := 18) dX11_owedBetween_18 rfl 0 rfl ?_
        refine ea_iload (pc := 19) dX11_owedBetween_19 5 rfl ?_
        refine ea_iload_n (pc := 21) dX11_owedBetween_21 rfl 1 rfl ?_
        refine ea_iload_n (pc := 22) dX11_owedBetween_22 rfl 2 rfl ?_
        obtain ⟨z1, E⟩ := gd_some E
        refine ea_callV (pc := 23) (d' := d - 1) (As := [vI x5, vI x1, vI x2]) (st := []) dX11_owedBetween_23 kX11_isBetween (sX11_isBetween (d := d - 1) (by omega) hs z1) (by omega) rfl (Nat.le_of_ble_eq_true rfl) ew_1166 ew_1168 ew_39 (ci := 11) rfl (by decide) (hs.1 0 (by decide)).1 (hs.1 0 (by decide)).2.1 ?_
        refine ea_if_eq (pc := 26) (tgt := 62) dX11_owedBetween_26 rfl (fun c5 => ?_) (fun c5 => ?_)
        · have E := (if_pos c5).symm.trans E
          refine ea_iinc (pc := 62) (v := 1) (lv' := [(0, vR (some (b0 + 0))), (1, vI x1), (2, vI x2), (3, vI x3), (4, vI x4), (5, vI (x5 + (1 : Int32)))]) dX11_owedBetween_62 5 rfl rfl (Nat.le_of_ble_eq_true rfl) [1, 2, 3, 4, 5, 0] rfl ?_
          refine ea_goto (pc := 65) (tgt := 6) dX11_owedBetween_65 rfl ?_
          exact ((ih 6 (x1 : Int32) (x2 : Int32) (x3 : Int32) (x4 : Int32) ((x5 + (1 : Int32)) : Int32) h _ _ E hs).2.1 rfl)
        · have E := (if_neg c5).symm.trans E
          refine ea_iload_n (pc := 29) dX11_owedBetween_29 rfl 3 rfl ?_
          refine ea_if_eq (pc := 30) (tgt := 47) dX11_owedBetween_30 rfl (fun c4 => ?_) (fun c4 => ?_)
          · have E := (if_pos c4).symm.trans E
            exact ((ih 47 (x1 : Int32) (x2 : Int32) (x3 : Int32) (x4 : Int32) (x5 : Int32) h _ _ E hs).2.2 rfl)
          · have E := (if_neg c4).symm.trans E
            refine ea_aload_n (pc := 33) dX11_owedBetween_33 rfl 0 rfl ?_
            refine ea_getR (pc := 34) dX11_owedBetween_34 ec_11 (k := 6) (Nat.le_of_ble_eq_true rfl) rfl (Or.inl ew_443) (hs.1 0 (by decide)).1 (hs.1 0 (by decide)).2.1 (hs.2 0 6 rfl) ?_
            refine ea_getR (pc := 37) dX11_owedBetween_37 ec_1 (k := 1) (Nat.le_of_ble_eq_true rfl) rfl (Or.inl ew_362) (hs.1 32 (by decide)).1 (hs.1 32 (by decide)).2.1 (hs.2 32 1 rfl) ?_
            refine ea_iload (pc := 40) dX11_owedBetween_40 5 rfl ?_
            obtain ⟨z2, E⟩ := gd_some E
            refine ea_iald (pc := 42) dX11_owedBetween_42 (hs.1 33 (by decide)).1 (hs.1 33 (by decide)).2.1 (ea_vpl (hs.1 33 (by decide)).2.2 z2) ?_
            refine ea_iconst (pc := 43) dX11_owedBetween_43 (v := 2) rfl ?_
            refine ea_icmp_ne (pc := 44) (tgt := 62) dX11_owedBetween_44 rfl (fun c3 => ?_) (fun c3 => ?_)
            · have E := (if_neg c3).symm.trans E
              refine ea_iinc (pc := 62) (v := 1) (lv' := [(0, vR (some (b0 + 0))), (1, vI x1), (2, vI x2), (3, vI x3), (4, vI x4), (5, vI (x5 + (1 : Int32)))]) dX11_owedBetween_62 5 rfl rfl (Nat.le_of_ble_eq_true rfl) [1, 2, 3, 4, 5, 0] rfl ?_
              refine ea_goto (pc := 65) (tgt := 6) dX11_owedBetween_65 rfl ?_
              exact ((ih 6 (x1 : Int32) (x2 : Int32) (x3 : Int32) (x4 : Int32) ((x5 + (1 : Int32)) : Int32) h _ _ E hs).2.1 rfl)
            · have E := (if_pos c3).symm.trans E
              exact ((ih 47 (x1 : Int32) (x2 : Int32) (x3 : Int32) (x4 : Int32) (x5 : Int32) h _ _ E hs).2.2 rfl)
    intro el
    subst el
    have E := (if_neg (by decide)).symm.trans E
    have E := (if_neg (by decide)).symm.trans E
    have E := (if_pos rfl).symm.trans E
    refine ea_iload (pc := 47) dX11_owedBetween_47 4 rfl ?_
    refine ea_aload_n (pc := 49) dX11_owedBetween_49 rfl 0 rfl ?_
    refine ea_getR (pc := 50) dX11_owedBetween_50 ec_11 (k := 5) (Nat.le_of_ble_eq_true rfl) rfl (Or.inl ew_442) (hs.1 0 (by decide)).1 (hs.1 0 (by decide)).2.1 (hs.2 0 5 rfl) ?_
    refine ea_iload (pc := 53) dX11_owedBetween_53 5 rfl ?_
    obtain ⟨z7, E⟩ := gd_some E
    refine ea_aald23 (pc := 55) dX11_owedBetween_55 (hs.1 31 (by decide)).1 (hs.1 31 (by decide)).2.1 (ea_vpl (hs.1 31 (by decide)).2.2 z7) rfl ?_
    obtain ⟨e8, E⟩ := gd_some E
    obtain ⟨f9, E⟩ := gd_some E
    obtain ⟨z10, E⟩ := gd_some E
    refine ea_deref0 e8 ?_
    refine ea_callV (pc := 56) (d' := d - 1) (As := []) (st := [vI x4]) dX11_owedBetween_56 kX4_owed (sX4_owed (d := d - 1) (by omega) hs z10) (by omega) rfl (Nat.le_of_ble_eq_true rfl) ew_1084 ew_1085 ew_1086 (ci := 4) rfl (by decide) f9.1 f9.2 ?_
    refine ea_iadd (pc := 59) dX11_owedBetween_59 ?_
    refine ea_istore (pc := 60) (lv' := [(0, vR (some (b0 + 0))), (1, vI x1), (2, vI x2), (3, vI x3), (4, vI (x4 + (vX4_owed b0 (Option.getD (ea_r h (b0 + 31) (Int32.toNatClampNeg x5)) 0) h))), (5, vI x5)]) dX11_owedBetween_60 (Nat.le_of_ble_eq_true rfl) [1, 2, 3, 4, 0, 5] rfl ?_
    refine ea_iinc (pc := 62) (v := 1) (lv' := [(0, vR (some (b0 + 0))), (1, vI x1), (2, vI x2), (3, vI x3), (4, vI (x4 + (vX4_owed b0 (Option.getD (ea_r h (b0 + 31) (Int32.toNatClampNeg x5)) 0) h))), (5, vI (x5 + (1 : Int32)))]) dX11_owedBetween_62 5 rfl rfl (Nat.le_of_ble_eq_true rfl) [1, 2, 3, 4, 5, 0] rfl ?_
    refine ea_goto (pc := 65) (tgt := 6) dX11_owedBetween_65 rfl ?_
    exact ((ih 6 (x1 : Int32) (x2 : Int32) (x3 : Int32) ((x4 + (vX4_owed b0 (Option.getD (ea_r h (b0 + 31) (Int32.toNatClampNeg x5)) 0) h)) : Int32) ((x5 + (1 : Int32)) : Int32) h _ _ E hs).2.1 rfl)
noncomputable def qX11_owedBetween (b0 : Nat) (x1 : Int32) (x2 : Int32) (x3 : Int32) (h : ea_H) : Option (Int32 × ea_H) := gX11_owedBetween b0 1000000000 0 x1 x2 x3 0 0 h
def okX11_owedBetween (b0 : Nat) (x1 : Int32) (x2 : Int32) (x3 : Int32) (h : ea_H) : Prop := ∃ x, qX11_owedBetween b0 x1 x2 x3 h = some x
noncomputable def vX11_owedBetween (b0 : Nat) (x1 : Int32) (x2 : Int32) (x3 : Int32) (h : ea_H) : Int32 := ((qX11_owedBetween b0 x1 x2 x3 h).getD (0, h)).1
noncomputable def wX11_owedBetween (b0 : Nat) (x1 : Int32) (x2 : Int32) (x3 : Int32) (h : ea_H) : ea_H := ((qX11_owedBetween b0 x1 x2 x3 h).getD (0, h)).2
theorem sX11_owedBetween {d : Nat} {b0 : Nat} {x1 : Int32} {x2 : Int32} {x3 : Int32} {h : ea_H} (hd : 2 ≤ d) (hs : ShC b0 h) (K : okX11_owedBetween b0 x1 x2 x3 h) : ea_Met mX11_owedBetween d [vR (some (b0 + 0)), vI x1, vI x2, vI x3] h (some (vI (vX11_owedBetween b0 x1 x2 x3 h))) (wX11_owedBetween b0 x1 x2 x3 h) := by
  obtain ⟨⟨x, y⟩, K⟩ := K
  unfold wX11_owedBetween vX11_owedBetween
  rw [K]
  unfold qX11_owedBetween at K
  exact ea_enter rfl (Nat.le_of_ble_eq_true rfl) ((tX11_owedBetween hd 1000000000 0 x1 x2 x3 0 0 h x y K hs).1 rfl)
theorem zX11_owedBetween {b0 : Nat} : ∀ (f lbl : Nat) (x1 : Int32) (x2 : Int32) (x3 : Int32) (x4 : Int32) (x5 : Int32) (h : ea_H) (r : Int32) (h' : ea_H), gX11_owedBetween b0 f lbl x1 x2 x3 x4 x5 h = some (r, h') → ShC b0 h → ShC b0 h' := by
  intro f
  induction f with
  | zero => intro lbl x1 x2 x3 x4 x5 h r h' E; cases E
  | succ f ih =>
    intro lbl x1 x2 x3 x4 x5 h r h' E hs
    unfold gX11_owedBetween at E
    by_cases el0 : lbl = 0
    · have E := (if_pos el0).symm.trans E
      exact ih 6 (x1 : Int32) (x2 : Int32) (x3 : Int32) (0 : Int32) (0 : Int32) h _ _ E hs
    have E := (if_neg el0).symm.trans E
    by_cases el1 : lbl = 6
    · have E := (if_pos el1).symm.trans E
      by_cases c6 : (ea_i h (b0 + 32) 0) ≤ x5
      · have E := (if_pos c6).symm.trans E
        cases E
        exact hs
      have E := (if_neg c6).symm.trans E
      obtain ⟨z1, E⟩ := gd_some E
      by_cases c5 : (vX11_isBetween b0 (x5 : Int32) (x1 : Int32) (x2 : Int32) h) = (0 : Int32)
      · have E := (if_pos c5).symm.trans E
        exact ih 6 (x1 : Int32) (x2 : Int32) (x3 : Int32) (x4 : Int32) ((x5 + (1 : Int32)) : Int32) h _ _ E hs
      have E := (if_neg c5).symm.trans E
      by_cases c4 : x3 = (0 : Int32)
      · have E := (if_pos c4).symm.trans E
        exact ih 47 (x1 : Int32) (x2 : Int32) (x3 : Int32) (x4 : Int32) (x5 : Int32) h _ _ E hs
      have E := (if_neg c4).symm.trans E
      obtain ⟨z2, E⟩ := gd_some E
      by_cases c3 : (ea_i h (b0 + 33) (Int32.toNatClampNeg x5)) = (2 : Int32)
      · have E := (if_pos c3).symm.trans E
        exact ih 47 (x1 : Int32) (x2 : Int32) (x3 : Int32) (x4 : Int32) (x5 : Int32) h _ _ E hs
      have E := (if_neg c3).symm.trans E
      exact ih 6 (x1 : Int32) (x2 : Int32) (x3 : Int32) (x4 : Int32) ((x5 + (1 : Int32)) : Int32) h _ _ E hs
    have E := (if_neg el1).symm.trans E
    by_cases el2 : lbl = 47
    · have E := (if_pos el2).symm.trans E
      obtain ⟨z7, E⟩ := gd_some E
      obtain ⟨e8, E⟩ := gd_some E
      obtain ⟨f9, E⟩ := gd_some E
      obtain ⟨z10, E⟩ := gd_some E
      exact ih 6 (x1 : Int32) (x2 : Int32) (x3 : Int32) ((x4 + (vX4_owed b0 (Option.getD (ea_r h (b0 + 31) (Int32.toNatClampNeg x5)) 0) h)) : Int32) ((x5 + (1 : Int32)) : Int32) h _ _ E hs
    have E := (if_neg el2).symm.trans E
    cases E
theorem shX11_owedBetween {b0 : Nat} {x1 : Int32} {x2 : Int32} {x3 : Int32} {h : ea_H} (hs : ShC b0 h) : ShC b0 (wX11_owedBetween b0 x1 x2 x3 h) := by
  unfold wX11_owedBetween
  cases K : qX11_owedBetween b0 x1 x2 x3 h with
  | none => exact hs
  | some x => obtain ⟨x, y⟩ := x; unfold qX11_owedBetween at K; exact zX11_owedBetween _ _ _ _ _ _ _ _ _ _ K hs
noncomputable def vX11_differs (b0 : Nat) (x1 : Int32) (x2 : Int32) (x3 : Int32) (h : ea_H) : Int32 := (if (vX11_isBetween b0 (x1 : Int32) (x2 : Int32) (x3 : Int32) h) = (0 : Int32) then (0 : Int32) else (if (vX4_owed b0 (Option.getD (ea_r h (b0 + 31) (Int32.toNatClampNeg x1)) 0) h) ≤ (0 : Int32) then (0 : Int32) else (if (ea_i h (b0 + 33) (Int32.toNatClampNeg x1)) = (2 : Int32) then (0 : Int32) else (1 : Int32))))
def okX11_differs (b0 : Nat) (x1 : Int32) (x2 : Int32) (x3 : Int32) (h : ea_H) : Prop := (okX11_isBetween b0 (x1 : Int32) (x2 : Int32) (x3 : Int32) h) ∧ (((vX11_isBetween b0 (x1 : Int32) (x2 : Int32) (x3 : Int32) h) = (0 : Int32) → True) ∧ (¬ (vX11_isBetween b0 (x1 : Int32) (x2 : Int32) (x3 : Int32) h) = (0 : Int32) → vp_in x1 120 ∧ ((ea_r h (b0 + 31) (Int32.toNatClampNeg x1)) = some (Option.getD (ea_r h (b0 + 31) (Int32.toNatClampNeg x1)) 0) ∧ (((Option.getD (ea_r h (b0 + 31) (Int32.toNatClampNeg x1)) 0) < ea_n h ∧ ea_c h (Option.getD (ea_r h (b0 + 31) (Int32.toNatClampNeg x1)) 0) = 4) ∧ ((okX4_owed b0 (Option.getD (ea_r h (b0 + 31) (Int32.toNatClampNeg x1)) 0) h) ∧ (((vX4_owed b0 (Option.getD (ea_r h (b0 + 31) (Int32.toNatClampNeg x1)) 0) h) ≤ (0 : Int32) → True) ∧ (¬ (vX4_owed b0 (Option.getD (ea_r h (b0 + 31) (Int32.toNatClampNeg x1)) 0) h) ≤ (0 : Int32) → vp_in x1 120)))))))
theorem bo_vX11_differs (b0 : Nat) (x1 : Int32) (x2 : Int32) (x3 : Int32) (h : ea_H) : vX11_differs b0 x1 x2 x3 h = 0 ∨ vX11_differs b0 x1 x2 x3 h = 1 := (ea_itB (Or.inl rfl) (ea_itB (Or.inl rfl) (ea_itB (Or.inl rfl) (Or.inr rfl))))
theorem sX11_differs {d : Nat} {b0 : Nat} {x1 : Int32} {x2 : Int32} {x3 : Int32} {h : ea_H} (hd : 2 ≤ d) (hs : ShC b0 h) (K : okX11_differs b0 x1 x2 x3 h) : ea_Met mX11_differs d [vR (some (b0 + 0)), vI x1, vI x2, vI x3] h (some (vI (vX11_differs b0 x1 x2 x3 h))) h := by
  obtain ⟨X, EX⟩ : ∃ z, z = vX11_differs b0 x1 x2 x3 h := ⟨_, rfl⟩
  rw [← EX]
  unfold vX11_differs at EX
  unfold okX11_differs at K
  refine ea_enter rfl (Nat.le_of_ble_eq_true rfl) ?_
  refine ea_aload_n (pc := 0) dX11_differs_0 rfl 0 rfl ?_
  refine ea_iload_n (pc := 1) dX11_differs_1 rfl 1 rfl ?_
  refine ea_iload_n (pc := 2) dX11_differs_2 rfl 2 rfl ?_
  refine ea_iload_n (pc := 3) dX11_differs_3 rfl 3 rfl ?_
  obtain ⟨z1, K⟩ := K
  refine ea_callV (pc := 4) (d' := d - 1) (As := [vI x1, vI x2, vI x3]) (st := []) dX11_differs_4 kX11_isBetween (sX11_isBetween (d := d - 1) (by omega) hs z1) (by omega) rfl (Nat.le_of_ble_eq_true rfl) ew_1166 ew_1168 ew_39 (ci := 11) rfl (by decide) (hs.1 0 (by decide)).1 (hs.1 0 (by decide)).2.1 ?_
  refine ea_if_eq (pc := 7) (tgt := 39) dX11_differs_7 rfl (fun c9 => ?_) (fun c9 => ?_)
  · have EX := EX.trans (if_pos c9)
    refine ea_iconst (pc := 39) dX11_differs_39 (v := 0) rfl ?_
    subst EX
    exact ea_ireturn (pc := 40) dX11_differs_40 rfl (ea_bn (Or.inl rfl))
  · have EX := EX.trans (if_neg c9)
    have K := K.2 c9
    refine ea_aload_n (pc := 10) dX11_differs_10 rfl 0 rfl ?_
    refine ea_getR (pc := 11) dX11_differs_11 ec_11 (k := 5) (Nat.le_of_ble_eq_true rfl) rfl (Or.inl ew_442) (hs.1 0 (by decide)).1 (hs.1 0 (by decide)).2.1 (hs.2 0 5 rfl) ?_
    refine ea_iload_n (pc := 14) dX11_differs_14 rfl 1 rfl ?_
    obtain ⟨z2, K⟩ := K
    refine ea_aald23 (pc := 15) dX11_differs_15 (hs.1 31 (by decide)).1 (hs.1 31 (by decide)).2.1 (ea_vpl (hs.1 31 (by decide)).2.2 z2) rfl ?_
    obtain ⟨e3, f4, z5, K⟩ := K
    refine ea_deref0 e3 ?_
    refine ea_callV (pc := 16) (d' := d - 1) (As := []) (st := []) dX11_differs_16 kX4_owed (sX4_owed (d := d - 1) (by omega) hs z5) (by omega) rfl (Nat.le_of_ble_eq_true rfl) ew_1084 ew_1085 ew_1086 (ci := 4) rfl (by decide) f4.1 f4.2 ?_
    refine ea_if_le (pc := 19) (tgt := 39) dX11_differs_19 rfl (fun c8 => ?_) (fun c8 => ?_)
    · have EX := EX.trans (if_pos c8)
      refine ea_iconst (pc := 39) dX11_differs_39 (v := 0) rfl ?_
      subst EX
      exact ea_ireturn (pc := 40) dX11_differs_40 rfl (ea_bn (Or.inl rfl))
    · have EX := EX.trans (if_neg c8)
      have K := K.2 c8
      refine ea_aload_n (pc := 22) dX11_differs_22 rfl 0 rfl ?_
      refine ea_getR (pc := 23) dX11_differs_23 ec_11 (k := 6) (Nat.le_of_ble_eq_true rfl) rfl (Or.inl ew_443) (hs.1 0 (by decide)).1 (hs.1 0 (by decide)).2.1 (hs.2 0 6 rfl) ?_
      refine ea_getR (pc := 26) dX11_differs_26 ec_1 (k := 1) (Nat.le_of_ble_eq_true rfl) rfl (Or.inl ew_362) (hs.1 32 (by decide)).1 (hs.1 32 (by decide)).2.1 (hs.2 32 1 rfl) ?_
      refine ea_iload_n (pc := 29) dX11_differs_29 rfl 1 rfl ?_
      have z6 := K
      refine ea_iald (pc := 30) dX11_differs_30 (hs.1 33 (by decide)).1 (hs.1 33 (by decide)).2.1 (ea_vpl (hs.1 33 (by decide)).2.2 z6) ?_
      refine ea_iconst (pc := 31) dX11_differs_31 (v := 2) rfl ?_
      refine ea_icmp_eq (pc := 32) (tgt := 39) dX11_differs_32 rfl (fun c7 => ?_) (fun c7 => ?_)
      · have EX := EX.trans (if_pos c7)
        refine ea_iconst (pc := 39) dX11_differs_39 (v := 0) rfl ?_
        subst EX
        exact ea_ireturn (pc := 40) dX11_differs_40 rfl (ea_bn (Or.inl rfl))
      · have EX := EX.trans (if_neg c7)
        refine ea_iconst (pc := 35) dX11_differs_35 (v := 1) rfl ?_
        refine ea_goto (pc := 36) (tgt := 40) dX11_differs_36 rfl ?_
        subst EX
        exact ea_ireturn (pc := 40) dX11_differs_40 rfl (ea_bn (Or.inr rfl))
