/-! call miss -/
theorem b_get : ∀ M, M < 256 → ∀ i, i < 8 → (((Int32.ofNat M) >>> (Int32.ofNat i &&& 31)) &&& 1).toInt = ((M / 2 ^ i % 2 : Nat) : Int) := by decide +kernel
theorem b_set : ∀ M, M < 256 → ∀ i, i < 8 → ((Int32.ofNat M) ||| ((1 : Int32) <<< (Int32.ofNat i &&& 31))).toInt = ((M ||| 2 ^ i : Nat) : Int) ∧ (M ||| 2 ^ i) < 256 := by decide +kernel
theorem b_or : ∀ M, M < 256 → ∀ i, i < 8 → ∀ j, j < 8 → (M ||| 2 ^ i) / 2 ^ j % 2 = if j = i then 1 else M / 2 ^ j % 2 := by decide +kernel
theorem c_isMissed {x1 x2 : Int32} {r i M : Nat} (e1 : x1.toInt = r) (e2 : x2.toInt = i) {h : ea_H} (hr : r < 70) (hi : i < 8) (hM : hI h 12 r = M) (hM2 : M < 256) : ∃ v, qX9_isMissed x1 x2 h = some (v, h) ∧ ((v = 1 ∧ M / 2 ^ i % 2 = 1) ∨ (v = 0 ∧ M / 2 ^ i % 2 = 0)) := by
  have ic : x1.toNatClampNeg = r := by
    rw [n_idx, e1]
    rfl
  have hv : ea_i h 12 r = Int32.ofNat M := i32_of hM (by omega)
  have hx : x2 = Int32.ofNat i := i32_of e2 (by omega)
  unfold qX9_isMissed BX9_isMissed_0
  rw [gd_pos (vp80 e1 hr), ic, hv, hx]
  have hg := b_get M hM2 i hi
  by_cases c : ((Int32.ofNat M) >>> (Int32.ofNat i &&& 31)) &&& 1 = (1 : Int32)
  · refine ⟨1, if_pos c, Or.inl ⟨rfl, ?_⟩⟩
    rw [c] at hg
    have : (1 : Int) = ((M / 2 ^ i % 2 : Nat) : Int) := hg
    omega
  · refine ⟨0, if_neg c, Or.inr ⟨rfl, ?_⟩⟩
    have : M / 2 ^ i % 2 ≠ 1 := fun z => c (n_eq.mpr (by rw [hg, z]; rfl))
    have := Nat.mod_lt (M / 2 ^ i) (show 2 > 0 by decide)
    omega
theorem call_miss {h : ea_H} {n : Nat} {T : Nat → Nat → Nat → Nat} (bs : SBas h n) (b : STb h T) (m : SMis h) (x1 x2 x3 : Int32) : tw (qX11_miss x1 x2 x3 h) (qX12_miss x1 x2 x3) fun h' => fq [(12, 12), (334, 334)] [((0, 0), 15, 15)] h h' ∧ (h' = h ∨ SMis h' ∧ hI h' 0 15 = 0) := by
  obtain ⟨b1, -⟩ := bs
  obtain ⟨ok, cC, cM⟩ := b
  have ok1 := ok.1
  have refno : ¬ ((0 ≤ x1.toInt ∧ x1.toInt < tN T) ∧ (0 ≤ x2.toInt ∧ x2.toInt < 7) ∧ 0 ≤ x3.toInt ∧ x3.toInt + 1 < tS T x1.toInt.toNat) → sat (qX12_miss x1 x2 x3 h) fun z => (0 : Int32) = z.1 ∧ fq [(12, 12), (334, 334)] [((0, 0), 15, 15)] h z.2 ∧ (z.2 = h ∨ SMis z.2 ∧ hI z.2 0 15 = 0) := by
    intro hB
    have K : sat (some ((0 : Int32), h)) fun z => (0 : Int32) = z.1 ∧ fq [(12, 12), (334, 334)] [((0, 0), 15, 15)] h z.2 ∧ (z.2 = h ∨ SMis z.2 ∧ hI z.2 0 15 = 0) := sat_ret ⟨rfl, fq_rfl _ _ _, Or.inl rfl⟩
    obtain ⟨d1, d2, d3, d4⟩ := cM
    unfold qX12_miss BX12_miss_0
    obtain ⟨v1, q1, s1⟩ := m_isTrain x1 (h := h) (by omega)
    refine sat_call q1 ?_
    rcases s1 with ⟨r1, s1⟩ | ⟨r1, s1⟩
    · exact sat_pos r1 (K)
    refine sat_neg (by rw [r1]; exact i1_ne_0) ?_
    dsimp only
    obtain ⟨v2, q2, s2⟩ := m_isDay x2 h
    refine sat_call q2 ?_
    rcases s2 with ⟨r2, s2⟩ | ⟨r2, s2⟩
    · exact sat_pos r2 (K)
    refine sat_neg (by rw [r2]; exact i1_ne_0) ?_
    dsimp only
    have e1 : x1.toInt = (x1.toInt.toNat : Int) := by omega
    have ht : x1.toInt.toNat < 10 := by omega
    generalize x1.toInt.toNat = t at *
    have ic1 : x1.toNatClampNeg = t := by
      rw [n_idx, e1]
      rfl
    have hs := ok.2.1 t ht
    have v6 : (ea_i h 328 t).toInt = tS T t := d2 t ht
    have v61 : (ea_i h 328 t - (2 : Int32)).toInt = (tS T t : Int) - 2 := by
      rw [n_sub, v6, l_2, n_bm (by omega) (by omega)]
    rw [ic1]
    refine sat_gd (vp80 e1 ht) ?_
    obtain ⟨vi, qi, si⟩ := m_isIn x3 0 (ea_i h 328 t - 2) h
    rw [v61, l_0] at si
    refine sat_call qi ?_
    rcases si with ⟨ri, si⟩ | ⟨ri, si⟩
    · exact sat_pos ri K
    omega
  have K : ∀ Q : Prop, Q → (Q → sat (qX12_miss x1 x2 x3 h) fun z => (0 : Int32) = z.1 ∧ fq [(12, 12), (334, 334)] [((0, 0), 15, 15)] h z.2 ∧ (z.2 = h ∨ SMis z.2 ∧ hI z.2 0 15 = 0)) → sat (some ((0 : Int32), h)) fun y => sat (qX12_miss x1 x2 x3 y.2) fun z => y.1 = z.1 ∧ fq [(12, 12), (334, 334)] [((0, 0), 15, 15)] h z.2 ∧ (z.2 = h ∨ SMis z.2 ∧ hI z.2 0 15 = 0) := fun Q q f => sat_ret (f q)
  obtain ⟨z1, z2, z3, z4⟩ := cC
  unfold tw qX11_miss BX11_miss_0
  obtain ⟨v1, q1, s1⟩ := c_hasRun x1 x2 h
  refine sat_call q1 ?_
  rcases s1 with ⟨r1, s1⟩ | ⟨r1, s1⟩
  · exact sat_pos r1 (K _ (show ¬ _ by omega) refno)
  refine sat_neg (by rw [r1]; exact i1_ne_0) ?_
  dsimp only
  refine sat_ite (fun c2 => ?_) fun c2 => ?_
  · simp only [n_lt, n_le, n_eq, hI_eq, l_m1000, l_m100, l_m60, l_m19, l_m18, l_m17, l_m16, l_m15, l_m14, l_m13, l_m12, l_m11, l_m10, l_m8, l_m1, l_0, l_1, l_2, l_3, l_4, l_5, l_6, l_7, l_8, l_9, l_10, l_11, l_12, l_13, l_14, l_15, l_16, l_17, l_18, l_19, l_20, l_21, l_24, l_25, l_32, l_40, l_41, l_42, l_43, l_45, l_47, l_48, l_57, l_59, l_60, l_61, l_62, l_63, l_64, l_65, l_70, l_80, l_90, l_97, l_99, l_100, l_120, l_122, l_127, l_144, l_150, l_201, l_202, l_203, l_204, l_205, l_206, l_207, l_255, l_300, l_364, l_480, l_560, l_600, l_601, l_620, l_840, l_900, l_980, l_999, l_1000, l_1023, l_1024, l_1220, l_1439, l_1440, l_2240, l_2400, l_3000, l_3600, l_4095, l_4096, l_7320, l_9999, l_10079, l_10080, l_12000, l_99999, l_120000, l_1000000, l_2147483647] at c2
    exact K _ (show ¬ _ by omega) refno
  simp only [n_lt, n_le, n_eq, hI_eq, l_m1000, l_m100, l_m60, l_m19, l_m18, l_m17, l_m16, l_m15, l_m14, l_m13, l_m12, l_m11, l_m10, l_m8, l_m1, l_0, l_1, l_2, l_3, l_4, l_5, l_6, l_7, l_8, l_9, l_10, l_11, l_12, l_13, l_14, l_15, l_16, l_17, l_18, l_19, l_20, l_21, l_24, l_25, l_32, l_40, l_41, l_42, l_43, l_45, l_47, l_48, l_57, l_59, l_60, l_61, l_62, l_63, l_64, l_65, l_70, l_80, l_90, l_97, l_99, l_100, l_120, l_122, l_127, l_144, l_150, l_201, l_202, l_203, l_204, l_205, l_206, l_207, l_255, l_300, l_364, l_480, l_560, l_600, l_601, l_620, l_840, l_900, l_980, l_999, l_1000, l_1023, l_1024, l_1220, l_1439, l_1440, l_2240, l_2400, l_3000, l_3600, l_4095, l_4096, l_7320, l_9999, l_10079, l_10080, l_12000, l_99999, l_120000, l_1000000, l_2147483647] at c2
  have e1 : x1.toInt = (x1.toInt.toNat : Int) := by omega
  have e2 : x2.toInt = (x2.toInt.toNat : Int) := by omega
  have ht : x1.toInt.toNat < 10 := by omega
  have hd : x2.toInt.toNat < 7 := by omega
  generalize x1.toInt.toNat = t at *
  generalize x2.toInt.toNat = d at *
  have ic1 : x1.toNatClampNeg = t := by
    rw [n_idx, e1]
    rfl
  have hs := ok.2.1 t ht
  have v6 : (ea_i h 6 t).toInt = tS T t := z2 t ht
  have v61 := n_pred (x := ea_i h 6 t) (by omega)
  rw [v6] at v61
  rw [ic1]
  refine sat_gd (vp80 e1 ht) ?_
  refine sat_eti (fun c3 => ?_) fun c3 => ?_
  · rw [n_lt, v61] at c3
    exact K _ (show ¬ _ by omega) refno
  rw [n_lt, v61] at c3
  have e3 : x3.toInt = (x3.toInt.toNat : Int) := by omega
  have hi : x3.toInt.toNat + 1 < tS T t := by omega
  generalize x3.toInt.toNat = i at *
  have j0 : ((10 : Int32) * x2 + x1).toInt = 10 * (d : Int) + t := by simp (disch := omega) only [n_add, n_sub, n_mul, n_neg, n_bm, n_idx, n_if, hI_eq, l_m1000, l_m100, l_m60, l_m19, l_m18, l_m17, l_m16, l_m15, l_m14, l_m13, l_m12, l_m11, l_m10, l_m8, l_m1, l_0, l_1, l_2, l_3, l_4, l_5, l_6, l_7, l_8, l_9, l_10, l_11, l_12, l_13, l_14, l_15, l_16, l_17, l_18, l_19, l_20, l_21, l_24, l_25, l_32, l_40, l_41, l_42, l_43, l_45, l_47, l_48, l_57, l_59, l_60, l_61, l_62, l_63, l_64, l_65, l_70, l_80, l_90, l_97, l_99, l_100, l_120, l_122, l_127, l_144, l_150, l_201, l_202, l_203, l_204, l_205, l_206, l_207, l_255, l_300, l_364, l_480, l_560, l_600, l_601, l_620, l_840, l_900, l_980, l_999, l_1000, l_1023, l_1024, l_1220, l_1439, l_1440, l_2240, l_2400, l_3000, l_3600, l_4095, l_4096, l_7320, l_9999, l_10079, l_10080, l_12000, l_99999, l_120000, l_1000000, l_2147483647, e1, e2]
  have j1 : ((10 : Int32) * x2 + x1).toInt = ((10 * d + t : Nat) : Int) := by
    rw [j0]
    omega
  have jc : ((10 : Int32) * x2 + x1).toNatClampNeg = 10 * d + t := by
    rw [n_idx, j1]
    rfl
  have k0 : ((7 : Int32) * x1 + x2).toInt = 7 * (t : Int) + d := by simp (disch := omega) only [n_add, n_sub, n_mul, n_neg, n_bm, n_idx, n_if, hI_eq, l_m1000, l_m100, l_m60, l_m19, l_m18, l_m17, l_m16, l_m15, l_m14, l_m13, l_m12, l_m11, l_m10, l_m8, l_m1, l_0, l_1, l_2, l_3, l_4, l_5, l_6, l_7, l_8, l_9, l_10, l_11, l_12, l_13, l_14, l_15, l_16, l_17, l_18, l_19, l_20, l_21, l_24, l_25, l_32, l_40, l_41, l_42, l_43, l_45, l_47, l_48, l_57, l_59, l_60, l_61, l_62, l_63, l_64, l_65, l_70, l_80, l_90, l_97, l_99, l_100, l_120, l_122, l_127, l_144, l_150, l_201, l_202, l_203, l_204, l_205, l_206, l_207, l_255, l_300, l_364, l_480, l_560, l_600, l_601, l_620, l_840, l_900, l_980, l_999, l_1000, l_1023, l_1024, l_1220, l_1439, l_1440, l_2240, l_2400, l_3000, l_3600, l_4095, l_4096, l_7320, l_9999, l_10079, l_10080, l_12000, l_99999, l_120000, l_1000000, l_2147483647, e1, e2]
  have k1 : ((7 : Int32) * x1 + x2).toInt = ((7 * t + d : Nat) : Int) := by
    rw [k0]
    omega
  have p0 : ((8 : Int32) * x1 + x3).toInt = 8 * (t : Int) + i := by simp (disch := omega) only [n_add, n_sub, n_mul, n_neg, n_bm, n_idx, n_if, hI_eq, l_m1000, l_m100, l_m60, l_m19, l_m18, l_m17, l_m16, l_m15, l_m14, l_m13, l_m12, l_m11, l_m10, l_m8, l_m1, l_0, l_1, l_2, l_3, l_4, l_5, l_6, l_7, l_8, l_9, l_10, l_11, l_12, l_13, l_14, l_15, l_16, l_17, l_18, l_19, l_20, l_21, l_24, l_25, l_32, l_40, l_41, l_42, l_43, l_45, l_47, l_48, l_57, l_59, l_60, l_61, l_62, l_63, l_64, l_65, l_70, l_80, l_90, l_97, l_99, l_100, l_120, l_122, l_127, l_144, l_150, l_201, l_202, l_203, l_204, l_205, l_206, l_207, l_255, l_300, l_364, l_480, l_560, l_600, l_601, l_620, l_840, l_900, l_980, l_999, l_1000, l_1023, l_1024, l_1220, l_1439, l_1440, l_2240, l_2400, l_3000, l_3600, l_4095, l_4096, l_7320, l_9999, l_10079, l_10080, l_12000, l_99999, l_120000, l_1000000, l_2147483647, e1, e3]
  have p1 : ((8 : Int32) * x1 + x3).toInt = ((8 * t + i : Nat) : Int) := by
    rw [p0]
    omega
  have pc : ((8 : Int32) * x1 + x3).toNatClampNeg = 8 * t + i := by
    rw [n_idx, p1]
    rfl
  have r0 : ((8 : Int32) * ((7 : Int32) * x1 + x2) + x3).toInt = 8 * (7 * (t : Int) + d) + i := by simp (disch := omega) only [n_add, n_sub, n_mul, n_neg, n_bm, n_idx, n_if, hI_eq, l_m1000, l_m100, l_m60, l_m19, l_m18, l_m17, l_m16, l_m15, l_m14, l_m13, l_m12, l_m11, l_m10, l_m8, l_m1, l_0, l_1, l_2, l_3, l_4, l_5, l_6, l_7, l_8, l_9, l_10, l_11, l_12, l_13, l_14, l_15, l_16, l_17, l_18, l_19, l_20, l_21, l_24, l_25, l_32, l_40, l_41, l_42, l_43, l_45, l_47, l_48, l_57, l_59, l_60, l_61, l_62, l_63, l_64, l_65, l_70, l_80, l_90, l_97, l_99, l_100, l_120, l_122, l_127, l_144, l_150, l_201, l_202, l_203, l_204, l_205, l_206, l_207, l_255, l_300, l_364, l_480, l_560, l_600, l_601, l_620, l_840, l_900, l_980, l_999, l_1000, l_1023, l_1024, l_1220, l_1439, l_1440, l_2240, l_2400, l_3000, l_3600, l_4095, l_4096, l_7320, l_9999, l_10079, l_10080, l_12000, l_99999, l_120000, l_1000000, l_2147483647, e1, e2, e3]
  have r1 : ((8 : Int32) * ((7 : Int32) * x1 + x2) + x3).toInt = ((8 * (7 * t + d) + i : Nat) : Int) := by
    rw [r0]
    omega
  have rc : ((8 : Int32) * ((7 : Int32) * x1 + x2) + x3).toNatClampNeg = 8 * (7 * t + d) + i := by
    rw [n_idx, r1]
    rfl
  have gp := vp80 p1 (show 8 * t + i < 80 by omega)
  obtain ⟨M, hM, hM2, hM3⟩ := m.2 t d ht hd
  obtain ⟨m1, m2⟩ := m.1 (8 * t + i) (by omega)
  have hbit := hM3 i (by omega)
  -- the reference, as far as the conditions go
  have ref : ∀ (h1 : ea_H) (Q : Int32 × ea_H → Prop), MTab h1 T → (∀ k, hI h1 333 k = hI h 333 k) → (∀ k, hI h1 334 k = hI h 334 k) → hI h1 326 0 = hI h 326 0 → (¬ (hI h 333 (8 * t + i) ≠ 0 ∧ M / 2 ^ i % 2 = 0 ∧ hI h 326 0 < tCm T t d i) → sat (some ((0 : Int32), h1)) Q) → (hI h 333 (8 * t + i) ≠ 0 → M / 2 ^ i % 2 = 0 → hI h 326 0 < tCm T t d i → sat (some ((1 : Int32), ea_wi h1 334 (8 * (7 * t + d) + i) 1)) Q) → sat (qX12_miss x1 x2 x3 h1) Q := by
    intro h1 Q dM g1 g2 g3 Kn Ky
    have v61 : (ea_i h1 328 t - (2 : Int32)).toInt = (tS T t : Int) - 2 := by
      have : (ea_i h1 328 t).toInt = tS T t := dM.2.1 t ht
      rw [n_sub, this, l_2, n_bm (by omega) (by omega)]
    have hN : hI h1 326 2 = tN T := dM.1
    unfold qX12_miss BX12_miss_0
    obtain ⟨v4, q4, s4⟩ := m_isTrain x1 (h := h1) (by omega)
    refine sat_call q4 ?_
    rcases s4 with ⟨r4, s4⟩ | ⟨r4, s4⟩
    · exact sat_pos r4 (absurd s4 (by omega))
    refine sat_neg (by rw [r4]; exact i1_ne_0) ?_
    dsimp only
    obtain ⟨v5, q5, s5⟩ := m_isDay x2 h1
    refine sat_call q5 ?_
    rcases s5 with ⟨r5, s5⟩ | ⟨r5, s5⟩
    · exact sat_pos r5 (absurd s5 (by omega))
    refine sat_neg (by rw [r5]; exact i1_ne_0) ?_
    dsimp only
    rw [ic1, pc]
    refine sat_gd (vp80 e1 ht) ?_
    obtain ⟨vi, qi, si⟩ := m_isIn x3 0 (ea_i h1 328 t - 2) h1
    rw [v61, l_0] at si
    refine sat_call qi ?_
    rcases si with ⟨ri, si⟩ | ⟨ri, si⟩
    · exact absurd si (by omega)
    refine sat_neg (by rw [ri]; exact i1_ne_0) (sat_gd gp ?_)
    dsimp only
    refine sat_ite (fun c => ?_) fun c => ?_
    · rw [n_eq, hI_eq, g1, l_0] at c
      exact Kn (fun z => z.1 c)
    rw [n_eq, hI_eq, g1, l_0] at c
    unfold qX12_run BX12_run_0
    refine bd_ret ?_
    dsimp only
    rw [rc]
    refine sat_gd (vp80 r1 (by omega)) ?_
    refine sat_eti (fun c2 => ?_) fun c2 => ?_
    · rw [n_eq, hI_eq, g2, hbit, l_0] at c2
      exact Kn (fun z => c2 (by omega))
    rw [n_eq, hI_eq, g2, hbit, l_0] at c2
    refine bd_ret ?_
    dsimp only
    obtain ⟨vc, qc, sc⟩ := m_comesAt k1 e3 dM ok ht hd (by omega)
    refine sat_call qc ?_
    dsimp only
    refine sat_eti (fun c4 => ?_) fun c4 => ?_
    · rw [n_lt, hI_eq, g3, sc] at c4
      exact Kn (fun z => c4 z.2.2)
    rw [n_lt, hI_eq, g3, sc] at c4
    refine bd_ret ?_
    dsimp only
    rw [rc]
    exact sat_gd (vp80 r1 (by omega)) (sat_sub (Ky c (by omega) c4))
  have cno : ¬ (hI h 333 (8 * t + i) ≠ 0 ∧ M / 2 ^ i % 2 = 0 ∧ hI h 326 0 < tCm T t d i) → sat (some ((0 : Int32), h)) fun y => sat (qX12_miss x1 x2 x3 y.2) fun z => y.1 = z.1 ∧ fq [(12, 12), (334, 334)] [((0, 0), 15, 15)] h z.2 ∧ (z.2 = h ∨ SMis z.2 ∧ hI z.2 0 15 = 0) := by
    intro hc
    refine sat_ret (ref h _ cM (fun _ => rfl) (fun _ => rfl) rfl (fun _ => sat_ret ⟨rfl, fq_rfl _ _ _, Or.inl rfl⟩) fun a b c => absurd ⟨a, b, c⟩ hc)
  refine sat_sub (sat_gd ?_ ?_)
  · exact gp
  rw [pc]
  refine sat_ite (fun c => ?_) fun c => ?_
  · rw [n_eq, hI_eq, m1, l_0] at c
    exact cno fun z => z.1 c
  rw [n_eq, hI_eq, m1, l_0] at c
  obtain ⟨vm, qm, sm⟩ := c_isMissed j1 e3 (h := h) (by omega) (by omega) hM hM2
  refine sat_call qm ?_
  dsimp only
  refine sat_eti (fun c4 => ?_) fun c4 => ?_
  · refine cno fun z => ?_
    rcases sm with ⟨s1, s2⟩ | ⟨s1, s2⟩
    · omega
    · exact c4 s1
  have hb0 : M / 2 ^ i % 2 = 0 := by
    rcases sm with ⟨s1, s2⟩ | ⟨s1, s2⟩
    · rw [c4] at s1
      exact absurd s1 (by decide)
    · exact s2
  obtain ⟨vc, qc, sc⟩ := c_comesAt e1 e2 e3 (h := h) ⟨z1, z2, z3, z4⟩ ok ht hd (by omega)
  refine sat_call qc ?_
  dsimp only
  refine sat_eti (fun c5 => ?_) fun c5 => ?_
  · rw [n_lt, hI_eq, b1, sc] at c5
    exact cno fun z => c5 z.2.2
  rw [n_lt, hI_eq, b1, sc] at c5
  rw [jc]
  have gj := vp80 j1 (show 10 * d + t < 70 by omega)
  refine sat_gd gj (sat_gd gj (sat_let fun H9 q9 => sat_let fun H10 q10 => sat_ret ?_))
  show sat (qX12_miss x1 x2 x3 H10) _
  have f : fq [(12, 12)] [((0, 0), 15, 15)] h H10 := (q9 ▸ fq_wi rfl : fq [(12, 12)] [((0, 0), 15, 15)] h H9).tr (q10 ▸ fq_wf rfl)
  refine ref H10 _ (MTab.fq f rfl rfl ⟨rfl, rfl⟩ ⟨rfl, rfl⟩ ⟨rfl, rfl⟩ ⟨rfl, rfl⟩ ⟨rfl, rfl⟩ cM) (fun k => f.C 333 rfl rfl k) (fun k => f.C 334 rfl rfl k) (f.I 326 rfl 0 rfl) (fun z => absurd ⟨c, hb0, c5⟩ z) fun _ _ _ => sat_ret ⟨rfl, (f.up rfl rfl).tr (fq_wi rfl), Or.inr ⟨⟨fun k hk => ?_, fun t' d' ht' hd' => ?_⟩, ?_⟩⟩
  · show hI (ea_wi H10 334 (8 * (7 * t + d) + i) 1) 10 k = hI (ea_wi H10 334 (8 * (7 * t + d) + i) 1) 333 k ∧ (hI (ea_wi H10 334 (8 * (7 * t + d) + i) 1) 333 k = 0 ∨ hI (ea_wi H10 334 (8 * (7 * t + d) + i) 1) 333 k = 1)
    rw [hI_ne (by decide), hI_ne (by decide), f.C 10 rfl rfl, f.C 333 rfl rfl]
    exact m.1 k hk
  · by_cases q : t' = t ∧ d' = d
    · obtain ⟨rfl, rfl⟩ := q
      have hv : ea_i h 12 (10 * d' + t') = Int32.ofNat M := i32_of hM (by omega)
      have hx : x3 = Int32.ofNat i := i32_of e3 (by omega)
      obtain ⟨w1, w2⟩ := b_set M hM2 i (by omega)
      refine ⟨M ||| 2 ^ i, ?_, w2, fun j hj => ?_⟩
      · show hI (ea_wi H10 334 _ 1) 12 (10 * d' + t') = _
        rw [hI_ne (by decide), q10, hI_ne (by decide), q9, hI_at, hv, hx]
        exact w1
      · show hI (ea_wi H10 334 (8 * (7 * t' + d') + i) 1) 334 (8 * (7 * t' + d') + j) = _
        rw [hI_row, b_or M hM2 i (by omega) j hj, f.C 334 rfl rfl, hM3 j hj]
        by_cases w : j = i
        · rw [w, if_pos rfl, if_pos rfl]
          rfl
        · rw [if_neg (by omega), if_neg w]
    · obtain ⟨M', n1, n2, n3⟩ := m.2 t' d' ht' hd'
      refine ⟨M', ?_, n2, fun j hj => ?_⟩
      · show hI (ea_wi H10 334 _ 1) 12 (10 * d' + t') = _
        rw [hI_ne (by decide), q10, hI_ne (by decide), q9, hI_nk (by omega)]
        exact n1
      · show hI (ea_wi H10 334 (8 * (7 * t + d) + i) 1) 334 (8 * (7 * t' + d') + j) = _
        rw [hI_nk (by omega), f.C 334 rfl rfl]
        exact n3 j hj
  · show hI (ea_wi H10 334 _ 1) 0 15 = 0
    rw [hI_ne (by decide), q10, hI_at]
    rfl
