/-! the class's table and keys: small methods -/
def CTab (h : ea_H) (T : Nat → Nat → Nat → Nat) : Prop :=
  hI h 5 0 = tN T ∧ (∀ t, t < 10 → hI h 6 t = tS T t) ∧ (∀ t i, t < 10 → i < 8 → hI h 7 (8 * t + i) = tW T t i ∧ hI h 8 (8 * t + i) = tC T t i ∧ hI h 9 (8 * t + i) = tG T t i) ∧ ∀ t d, t < 10 → d < 7 → hI h 11 (10 * d + t) = tD T t d
theorem CTab.fr {A : List (Nat × Nat)} {h h' : ea_H} {T : Nat → Nat → Nat → Nat} (f : fr A h h') (h5 : inB A 5 = false) (h6 : inB A 6 = false) (h7 : inB A 7 = false) (h8 : inB A 8 = false) (h9 : inB A 9 = false) (h11 : inB A 11 = false) (c : CTab h T) : CTab h' T := by
  obtain ⟨c1, c2, c3, c4⟩ := c
  refine ⟨by rw [f.I 5 h5]; exact c1, fun t ht => by rw [f.I 6 h6]; exact c2 t ht, fun t i ht hi => ?_, fun t d ht hd => by rw [f.I 11 h11]; exact c4 t d ht hd⟩
  rw [f.I 7 h7, f.I 8 h8, f.I 9 h9]
  exact c3 t i ht hi
theorem c_minuteIn {x1 : Int32} {x : Nat} (e : x1.toInt = x) (h : ea_H) : ∃ v, qX10_minuteIn x1 h = some (v, h) ∧ v.toInt = kMin x := ⟨_, rfl, by rw [s_shr_11, e]; unfold kMin; omega⟩
theorem c_trainIn {x1 : Int32} {x : Nat} (e : x1.toInt = x) (h : ea_H) : ∃ v, qX10_trainIn x1 h = some (v, h) ∧ v.toInt = kT x := ⟨_, rfl, by rw [s_and_15 (by rw [s_shr_6, e]; omega), s_shr_6, e]; unfold kT; omega⟩
theorem c_dayIn {x1 : Int32} {x : Nat} (e : x1.toInt = x) (h : ea_H) : ∃ v, qX10_dayIn x1 h = some (v, h) ∧ v.toInt = kD x := ⟨_, rfl, by rw [s_and_7 (by rw [s_shr_3, e]; omega), s_shr_3, e]; unfold kD; omega⟩
theorem c_stopIn {x1 : Int32} {x : Nat} (e : x1.toInt = x) (h : ea_H) : ∃ v, qX10_stopIn x1 h = some (v, h) ∧ v.toInt = kI x := ⟨_, rfl, by rw [s_and_7 (by omega), e]; unfold kI; omega⟩
theorem s_bit10 {y : Int32} {n : Nat} (hy : y.toInt = n) : (y &&& (1024 : Int32)) = 0 ↔ kGo n = 0 := by
  obtain ⟨a1, a2⟩ := s_nat (x := y) (by omega)
  have h1 : (y &&& (1024 : Int32)).toBitVec.toNat = n / 1024 % 2 * 1024 := by
    rw [Int32.toBitVec_and, BitVec.toNat_and]
    have e1 : y.toBitVec.toNat = n := by omega
    rw [e1, show (1024 : Int32).toBitVec.toNat = 2 ^ 10 from rfl]
    have a3 : (n &&& 2 ^ 10) / 2 ^ 10 = n / 1024 % 2 := by
      rw [Nat.and_div_two_pow, show (2 ^ 10 / 2 ^ 10 : Nat) = 2 ^ 1 - 1 by decide, Nat.and_two_pow_sub_one_eq_mod]
    have a4 : (n &&& 2 ^ 10) % 2 ^ 10 = 0 := by
      rw [Nat.and_mod_two_pow, Nat.mod_self, Nat.and_zero]
    omega
  rw [n_eq, s_of h1 (by omega)]
  show _ = (0 : Int) ↔ _
  unfold kGo
  omega
theorem c_isGoing {x1 : Int32} {x : Nat} (e : x1.toInt = x) (h : ea_H) : ∃ v, qX10_isGoing x1 h = some (v, h) ∧ v.toInt = kGo x := by
  by_cases hg : kGo x = 0
  · refine ⟨0, ?_, by rw [hg]; rfl⟩
    show (if (x1 &&& (1024 : Int32)) = 0 then _ else _) = _
    rw [if_pos ((s_bit10 e).mpr hg)]
  · refine ⟨1, ?_, ?_⟩
    · show (if (x1 &&& (1024 : Int32)) = 0 then _ else _) = _
      rw [if_neg fun q => hg ((s_bit10 e).mp q)]
    · have : kGo x = 1 := by
        unfold kGo at hg ⊢
        omega
      rw [this]
      rfl
theorem c_slotIn {x1 : Int32} {x : Nat} (e : x1.toInt = x) (h : ea_H) (hT : kT x < 10) (hD : kD x < 7) : ∃ v, qX10_slotIn x1 h = some (v, h) ∧ v.toInt = kS x := by
  refine ⟨_, rfl, ?_⟩
  have a1 : ((x1 >>> ((3 : Int32) &&& 31)) &&& (7 : Int32)).toInt = kD x := by
    rw [s_and_7 (by rw [s_shr_3, e]; omega), s_shr_3, e]
    unfold kD
    omega
  have a2 : ((x1 >>> ((6 : Int32) &&& 31)) &&& (15 : Int32)).toInt = kT x := by
    rw [s_and_15 (by rw [s_shr_6, e]; omega), s_shr_6, e]
    unfold kT
    omega
  have a3 : (x1 &&& (7 : Int32)).toInt = kI x := by
    rw [s_and_7 (by omega), e]
    unfold kI
    omega
  have a4 := kI_lt x
  simp (disch := omega) only [n_add, n_sub, n_mul, n_neg, n_bm, n_idx, n_if, hI_eq, l_m1000, l_m100, l_m60, l_m19, l_m18, l_m17, l_m16, l_m15, l_m14, l_m13, l_m12, l_m11, l_m10, l_m8, l_m1, l_0, l_1, l_2, l_3, l_4, l_5, l_6, l_7, l_8, l_9, l_10, l_11, l_12, l_13, l_14, l_15, l_16, l_17, l_18, l_19, l_20, l_21, l_24, l_25, l_32, l_40, l_41, l_42, l_43, l_45, l_47, l_48, l_57, l_59, l_60, l_61, l_62, l_63, l_64, l_65, l_70, l_80, l_90, l_97, l_99, l_100, l_120, l_122, l_127, l_144, l_150, l_201, l_202, l_203, l_204, l_205, l_206, l_207, l_255, l_300, l_364, l_480, l_560, l_600, l_601, l_620, l_840, l_900, l_980, l_999, l_1000, l_1023, l_1024, l_1220, l_1439, l_1440, l_2240, l_2400, l_3000, l_3600, l_4095, l_4096, l_7320, l_9999, l_10079, l_10080, l_12000, l_99999, l_120000, l_1000000, l_2147483647, a1, a2, a3]
  unfold kS kR
  omega
theorem c_legOf {x1 : Int32} {x : Nat} (e : x1.toInt = x) (h : ea_H) (hT : kT x < 10) (hD : kD x < 7) : ∃ v, qX10_legOf x1 h = some (v, h) ∧ v.toInt = kLeg x := by
  obtain ⟨v1, q1, r1⟩ := c_trainIn e h
  obtain ⟨v2, q2, r2⟩ := c_dayIn e h
  refine ⟨(v1 <<< ((9 : Int32) &&& 31)) ||| (v2 <<< ((6 : Int32) &&& 31)), ?_, ?_⟩
  · unfold qX10_legOf BX10_legOf_0
    simp only [q1, q2, Option.bind_some]
  · have b1 : (v1 <<< ((9 : Int32) &&& 31)).toInt = kT x * 512 := by
      rw [s_shl (k := 9) (by omega) rfl (by decide) (by rw [r1]; show (kT x : Int) * 512 < _; omega), r1]
      rfl
    have b2 : (v2 <<< ((6 : Int32) &&& 31)).toInt = kD x * 64 := by rw [s_shl_6 (by omega) (by omega), r2]
    rw [s_or 9 (by omega) (by rw [b1]; show ((kT x : Int) * 512) % 512 = 0; omega) (by omega) (by rw [b2]; show (kD x : Int) * 64 < 512; omega), b1, b2]
    unfold kLeg
    omega
theorem vp80 {x : Int32} {n m : Nat} (e : x.toInt = n) (h : n < m) : vp_in x m := n_in (by omega) (by omega)
theorem sat_ex {h : ea_H} {n : Int} {A : Option (Int32 × ea_H)} (H : sat A fun y => y.2 = h ∧ y.1.toInt = n) : ∃ v, A = some (v, h) ∧ v.toInt = n := by
  obtain ⟨⟨v, h'⟩, e, e1, e2⟩ := H
  dsimp only at e1 e2
  subst e1
  exact ⟨v, e, e2⟩
theorem c_town2 {h : ea_H} {T : Nat → Nat → Nat → Nat} (c : CTab h T) {y : Int32} {t i : Nat} (i1 : y.toInt = ((8 * t + i : Nat) : Int)) (ht : t < 10) (hi : i < 8) : (ea_i h 7 y.toNatClampNeg).toInt = tW T t i := by
  have h1 := (c.2.2.1 t i ht hi).1
  rw [n_idx, i1, hI_eq, Int.toNat_natCast, h1]
theorem c_townIn {x1 : Int32} {x : Nat} (e : x1.toInt = x) {h : ea_H} {T : Nat → Nat → Nat → Nat} (c : CTab h T) (hT : kT x < 10) : ∃ v, qX10_townIn x1 h = some (v, h) ∧ v.toInt = kA (tW T) x := by
  obtain ⟨v1, q1, r1⟩ := c_trainIn e h
  obtain ⟨v2, q2, r2⟩ := c_stopIn e h
  have i2 := kI_lt x
  have i1 : ((8 : Int32) * v1 + v2).toInt = ((8 * kT x + kI x : Nat) : Int) := by
    simp (disch := omega) only [n_add, n_sub, n_mul, n_neg, n_bm, n_idx, n_if, hI_eq, l_m1000, l_m100, l_m60, l_m19, l_m18, l_m17, l_m16, l_m15, l_m14, l_m13, l_m12, l_m11, l_m10, l_m8, l_m1, l_0, l_1, l_2, l_3, l_4, l_5, l_6, l_7, l_8, l_9, l_10, l_11, l_12, l_13, l_14, l_15, l_16, l_17, l_18, l_19, l_20, l_21, l_24, l_25, l_32, l_40, l_41, l_42, l_43, l_45, l_47, l_48, l_57, l_59, l_60, l_61, l_62, l_63, l_64, l_65, l_70, l_80, l_90, l_97, l_99, l_100, l_120, l_122, l_127, l_144, l_150, l_201, l_202, l_203, l_204, l_205, l_206, l_207, l_255, l_300, l_364, l_480, l_560, l_600, l_601, l_620, l_840, l_900, l_980, l_999, l_1000, l_1023, l_1024, l_1220, l_1439, l_1440, l_2240, l_2400, l_3000, l_3600, l_4095, l_4096, l_7320, l_9999, l_10079, l_10080, l_12000, l_99999, l_120000, l_1000000, l_2147483647, r1, r2]
    omega
  have h3 : 8 * kT x + kI x < 80 := by omega
  refine sat_ex ?_
  unfold qX10_townIn BX10_townIn_0
  exact sat_call q1 (sat_call q2 (sat_gd (vp80 i1 h3) (sat_ret ⟨rfl, c_town2 c i1 hT i2⟩)))
theorem c_comesAt {x1 x2 x3 : Int32} {t d i : Nat} (e1 : x1.toInt = t) (e2 : x2.toInt = d) (e3 : x3.toInt = i) {h : ea_H} {T : Nat → Nat → Nat → Nat} (c : CTab h T) (ok : tOk T) (ht : t < 10) (hd : d < 7) (hi : i < tS T t) : ∃ v, qX9_comesAt x1 x2 x3 h = some (v, h) ∧ v.toInt = tCm T t d i := by
  have hs := ok.2.1 t ht
  have b1 := ok.2.2.2.1 t i ht hi
  have b2 := ok.2.2.2.2.2 t d ht hd
  have i1 : ((8 : Int32) * x1 + x3).toInt = 8 * t + i := by simp (disch := omega) only [n_add, n_sub, n_mul, n_neg, n_bm, n_idx, n_if, hI_eq, l_m1000, l_m100, l_m60, l_m19, l_m18, l_m17, l_m16, l_m15, l_m14, l_m13, l_m12, l_m11, l_m10, l_m8, l_m1, l_0, l_1, l_2, l_3, l_4, l_5, l_6, l_7, l_8, l_9, l_10, l_11, l_12, l_13, l_14, l_15, l_16, l_17, l_18, l_19, l_20, l_21, l_24, l_25, l_32, l_40, l_41, l_42, l_43, l_45, l_47, l_48, l_57, l_59, l_60, l_61, l_62, l_63, l_64, l_65, l_70, l_80, l_90, l_97, l_99, l_100, l_120, l_122, l_127, l_144, l_150, l_201, l_202, l_203, l_204, l_205, l_206, l_207, l_255, l_300, l_364, l_480, l_560, l_600, l_601, l_620, l_840, l_900, l_980, l_999, l_1000, l_1023, l_1024, l_1220, l_1439, l_1440, l_2240, l_2400, l_3000, l_3600, l_4095, l_4096, l_7320, l_9999, l_10079, l_10080, l_12000, l_99999, l_120000, l_1000000, l_2147483647, e1, e3]
  have i2 : ((10 : Int32) * x2 + x1).toInt = 10 * d + t := by simp (disch := omega) only [n_add, n_sub, n_mul, n_neg, n_bm, n_idx, n_if, hI_eq, l_m1000, l_m100, l_m60, l_m19, l_m18, l_m17, l_m16, l_m15, l_m14, l_m13, l_m12, l_m11, l_m10, l_m8, l_m1, l_0, l_1, l_2, l_3, l_4, l_5, l_6, l_7, l_8, l_9, l_10, l_11, l_12, l_13, l_14, l_15, l_16, l_17, l_18, l_19, l_20, l_21, l_24, l_25, l_32, l_40, l_41, l_42, l_43, l_45, l_47, l_48, l_57, l_59, l_60, l_61, l_62, l_63, l_64, l_65, l_70, l_80, l_90, l_97, l_99, l_100, l_120, l_122, l_127, l_144, l_150, l_201, l_202, l_203, l_204, l_205, l_206, l_207, l_255, l_300, l_364, l_480, l_560, l_600, l_601, l_620, l_840, l_900, l_980, l_999, l_1000, l_1023, l_1024, l_1220, l_1439, l_1440, l_2240, l_2400, l_3000, l_3600, l_4095, l_4096, l_7320, l_9999, l_10079, l_10080, l_12000, l_99999, l_120000, l_1000000, l_2147483647, e1, e2]
  have h1 := (c.2.2.1 t i ht (by omega)).2.1
  have h2 := c.2.2.2 t d ht hd
  refine ⟨((1440 : Int32) * x2 + ea_i h 8 ((8 : Int32) * x1 + x3).toNatClampNeg) + ea_i h 11 ((10 : Int32) * x2 + x1).toNatClampNeg, ?_, ?_⟩
  · unfold qX9_comesAt BX9_comesAt_0
    rw [gd_pos (vp80 (n := 8 * t + i) (by rw [i1]; omega) (by omega)), gd_pos (vp80 (n := 10 * d + t) (by rw [i2]; omega) (by omega))]
  · have j1 : hI h 8 ((8 : Int32) * x1 + x3).toNatClampNeg = tC T t i := by
      rw [n_idx, i1, show ((8 * (t : Int) + i).toNat) = 8 * t + i by omega, h1]
    have j2 : hI h 11 ((10 : Int32) * x2 + x1).toNatClampNeg = tD T t d := by
      rw [n_idx, i2, show ((10 * (d : Int) + t).toNat) = 10 * d + t by omega, h2]
    rw [n_add, n_add, n_mul, e2, hI_eq, hI_eq, j1, j2, l_1440]; simp (disch := omega) only [n_bm]
    unfold tCm
    omega
theorem c_goesAt {x1 x2 x3 : Int32} {t d i : Nat} (e1 : x1.toInt = t) (e2 : x2.toInt = d) (e3 : x3.toInt = i) {h : ea_H} {T : Nat → Nat → Nat → Nat} (c : CTab h T) (ok : tOk T) (ht : t < 10) (hd : d < 7) (hi : i < tS T t) : ∃ v, qX9_goesAt x1 x2 x3 h = some (v, h) ∧ v.toInt = tGm T t d i := by
  have hs := ok.2.1 t ht
  have b1 := ok.2.2.2.1 t i ht hi
  have b2 := ok.2.2.2.2.2 t d ht hd
  have i1 : ((8 : Int32) * x1 + x3).toInt = 8 * t + i := by simp (disch := omega) only [n_add, n_sub, n_mul, n_neg, n_bm, n_idx, n_if, hI_eq, l_m1000, l_m100, l_m60, l_m19, l_m18, l_m17, l_m16, l_m15, l_m14, l_m13, l_m12, l_m11, l_m10, l_m8, l_m1, l_0, l_1, l_2, l_3, l_4, l_5, l_6, l_7, l_8, l_9, l_10, l_11, l_12, l_13, l_14, l_15, l_16, l_17, l_18, l_19, l_20, l_21, l_24, l_25, l_32, l_40, l_41, l_42, l_43, l_45, l_47, l_48, l_57, l_59, l_60, l_61, l_62, l_63, l_64, l_65, l_70, l_80, l_90, l_97, l_99, l_100, l_120, l_122, l_127, l_144, l_150, l_201, l_202, l_203, l_204, l_205, l_206, l_207, l_255, l_300, l_364, l_480, l_560, l_600, l_601, l_620, l_840, l_900, l_980, l_999, l_1000, l_1023, l_1024, l_1220, l_1439, l_1440, l_2240, l_2400, l_3000, l_3600, l_4095, l_4096, l_7320, l_9999, l_10079, l_10080, l_12000, l_99999, l_120000, l_1000000, l_2147483647, e1, e3]
  have i2 : ((10 : Int32) * x2 + x1).toInt = 10 * d + t := by simp (disch := omega) only [n_add, n_sub, n_mul, n_neg, n_bm, n_idx, n_if, hI_eq, l_m1000, l_m100, l_m60, l_m19, l_m18, l_m17, l_m16, l_m15, l_m14, l_m13, l_m12, l_m11, l_m10, l_m8, l_m1, l_0, l_1, l_2, l_3, l_4, l_5, l_6, l_7, l_8, l_9, l_10, l_11, l_12, l_13, l_14, l_15, l_16, l_17, l_18, l_19, l_20, l_21, l_24, l_25, l_32, l_40, l_41, l_42, l_43, l_45, l_47, l_48, l_57, l_59, l_60, l_61, l_62, l_63, l_64, l_65, l_70, l_80, l_90, l_97, l_99, l_100, l_120, l_122, l_127, l_144, l_150, l_201, l_202, l_203, l_204, l_205, l_206, l_207, l_255, l_300, l_364, l_480, l_560, l_600, l_601, l_620, l_840, l_900, l_980, l_999, l_1000, l_1023, l_1024, l_1220, l_1439, l_1440, l_2240, l_2400, l_3000, l_3600, l_4095, l_4096, l_7320, l_9999, l_10079, l_10080, l_12000, l_99999, l_120000, l_1000000, l_2147483647, e1, e2]
  have h1 := (c.2.2.1 t i ht (by omega)).2.2
  have h2 := c.2.2.2 t d ht hd
  refine ⟨((1440 : Int32) * x2 + ea_i h 9 ((8 : Int32) * x1 + x3).toNatClampNeg) + ea_i h 11 ((10 : Int32) * x2 + x1).toNatClampNeg, ?_, ?_⟩
  · unfold qX9_goesAt BX9_goesAt_0
    rw [gd_pos (vp80 (n := 8 * t + i) (by rw [i1]; omega) (by omega)), gd_pos (vp80 (n := 10 * d + t) (by rw [i2]; omega) (by omega))]
  · have j1 : hI h 9 ((8 : Int32) * x1 + x3).toNatClampNeg = tG T t i := by
      rw [n_idx, i1, show ((8 * (t : Int) + i).toNat) = 8 * t + i by omega, h1]
    have j2 : hI h 11 ((10 : Int32) * x2 + x1).toNatClampNeg = tD T t d := by
      rw [n_idx, i2, show ((10 * (d : Int) + t).toNat) = 10 * d + t by omega, h2]
    rw [n_add, n_add, n_mul, e2, hI_eq, hI_eq, j1, j2, l_1440]; simp (disch := omega) only [n_bm]
    unfold tGm
    omega
