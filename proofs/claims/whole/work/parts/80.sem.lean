/-! call stop -/
def tAdd (T : Nat → Nat → Nat → Nat) (t a c g : Nat) : Nat → Nat → Nat → Nat := fun k p q => if k = 1 ∧ p = t ∧ q = 0 then tS T t + 1 else if k = 2 ∧ p = t ∧ q = tS T t then a else if k = 3 ∧ p = t ∧ q = tS T t then c else if k = 4 ∧ p = t ∧ q = tS T t then g else T k p q
section TA
variable {T : Nat → Nat → Nat → Nat} {t a c g : Nat}
theorem tAdd_N : tN (tAdd T t a c g) = tN T := by simp [tN, tAdd]
theorem tAdd_S (p : Nat) : tS (tAdd T t a c g) p = if p = t then tS T t + 1 else tS T p := by simp [tS, tAdd]
theorem tAdd_W (p q : Nat) : tW (tAdd T t a c g) p q = if p = t ∧ q = tS T t then a else tW T p q := by simp [tW, tAdd]
theorem tAdd_C (p q : Nat) : tC (tAdd T t a c g) p q = if p = t ∧ q = tS T t then c else tC T p q := by simp [tC, tAdd]
theorem tAdd_G (p q : Nat) : tG (tAdd T t a c g) p q = if p = t ∧ q = tS T t then g else tG T p q := by simp [tG, tAdd]
theorem tAdd_D (p q : Nat) : tD (tAdd T t a c g) p q = tD T p q := by simp [tD, tAdd]
theorem tAdd_ok (ok : tOk T) (ht : t < tN T) (hS : tS T t < 8) (ha : a < 12) (hcg : c ≤ g) (hg : g ≤ 2400) (hpp : 0 < tS T t → tG T t (tS T t - 1) < c) : tOk (tAdd T t a c g) := by
  obtain ⟨h1, h2, h3, h4, h5, h6⟩ := ok
  refine ⟨by rw [tAdd_N]; exact h1, fun p hp => ?_, fun p hp => ?_, fun p i hp hi => ?_, fun p i hp hi => ?_, fun p d hp hd => by rw [tAdd_D]; exact h6 p d hp hd⟩
  · rw [tAdd_S]
    split
    · omega
    · exact h2 p hp
  · rw [tAdd_N] at hp
    rw [tAdd_S, if_neg (by omega)]
    exact h3 p hp
  · rw [tAdd_S] at hi
    rw [tAdd_W, tAdd_C, tAdd_G]
    by_cases q : p = t ∧ i = tS T t
    · rw [if_pos q, if_pos q, if_pos q]
      exact ⟨ha, hcg, hg⟩
    · rw [if_neg q, if_neg q, if_neg q]
      refine h4 p i hp ?_
      split at hi
      · rename_i z
        subst z
        omega
      · exact hi
  · rw [tAdd_S] at hi
    rw [tAdd_C, tAdd_G]
    by_cases z : p = t
    · subst z
      rw [if_pos rfl] at hi
      rw [if_neg (show ¬ (p = p ∧ i = tS T p) by omega)]
      by_cases w : i + 1 = tS T p
      · rw [if_pos ⟨rfl, w⟩]
        have := hpp (by omega)
        rw [show tS T p - 1 = i by omega] at this
        exact this
      · rw [if_neg (fun q => w q.2)]
        exact h5 p i hp (by omega)
    · rw [if_neg z] at hi
      rw [if_neg (fun q => z q.1), if_neg (fun q => z q.1)]
      exact h5 p i hp hi
end TA
theorem call_stop {h : ea_H} {n : Nat} {T : Nat → Nat → Nat → Nat} (bs : SBas h n) (b : STb h T) (m : SMis h) (x1 x2 x3 x4 x5 : Int32) (h5 : x5 = 0 ∨ x5 = 1) : tw (qX11_stop x1 x2 x3 x4 x5 h) (qX12_stop x1 x2 x3 x4 x5) fun h' => fq [(6, 10), (328, 331), (333, 333)] [((13, 13), 0, 0), ((0, 0), 15, 15), ((326, 326), 12, 12)] h h' ∧ (h' = h ∨ ∃ t a c g, hI h 326 0 = 0 ∧ STb h' (tAdd T t a c g) ∧ SMis h' ∧ hI h' 13 0 = 0 ∧ hI h' 0 15 = 0 ∧ hI h' 326 12 = 0) := by
  obtain ⟨b1, b2, b3, b4, b5, b6⟩ := bs
  obtain ⟨ok, cC, cM⟩ := b
  have ok1 := ok.1
  have refno : ¬ (hI h 326 0 ≤ 0 ∧ (0 ≤ x1.toInt ∧ x1.toInt < tN T) ∧ 0 ≤ x2.toInt ∧ x2.toInt < n) → sat (some ((-1 : Int32), h)) fun y => sat (qX12_stop x1 x2 x3 x4 x5 y.2) fun z => y.1 = z.1 ∧ fq [(6, 10), (328, 331), (333, 333)] [((13, 13), 0, 0), ((0, 0), 15, 15), ((326, 326), 12, 12)] h z.2 ∧ (z.2 = h ∨ ∃ t a c g, hI h 326 0 = 0 ∧ STb z.2 (tAdd T t a c g) ∧ SMis z.2 ∧ hI z.2 13 0 = 0 ∧ hI z.2 0 15 = 0 ∧ hI z.2 326 12 = 0) := by
    intro hB
    refine sat_ret ?_
    show sat (qX12_stop x1 x2 x3 x4 x5 h) _
    have K : sat (some ((-1 : Int32), h)) fun z => (-1 : Int32) = z.1 ∧ fq [(6, 10), (328, 331), (333, 333)] [((13, 13), 0, 0), ((0, 0), 15, 15), ((326, 326), 12, 12)] h z.2 ∧ (z.2 = h ∨ ∃ t a c g, hI h 326 0 = 0 ∧ STb z.2 (tAdd T t a c g) ∧ SMis z.2 ∧ hI z.2 13 0 = 0 ∧ hI z.2 0 15 = 0 ∧ hI z.2 326 12 = 0) := sat_ret ⟨rfl, fq_rfl _ _ _, Or.inl rfl⟩
    have d1 := cM.1
    unfold qX12_stop
    refine uqX12_stop_0 ?_
    unfold BX12_stop_0
    obtain ⟨v1, q1, s1⟩ := m_isTrain x1 (h := h) (by omega)
    refine sat_call q1 ?_
    rcases s1 with ⟨r1, s1⟩ | ⟨r1, s1⟩
    · exact sat_pos r1 (K)
    refine sat_neg (by rw [r1]; exact i1_ne_0) ?_
    dsimp only
    refine sat_ite (fun c2 => ?_) fun c2 => ?_
    · simp only [n_lt, n_le, n_eq, hI_eq, l_m1000, l_m100, l_m60, l_m19, l_m18, l_m17, l_m16, l_m15, l_m14, l_m13, l_m12, l_m11, l_m10, l_m8, l_m1, l_0, l_1, l_2, l_3, l_4, l_5, l_6, l_7, l_8, l_9, l_10, l_11, l_12, l_13, l_14, l_15, l_16, l_17, l_18, l_19, l_20, l_21, l_24, l_25, l_32, l_40, l_41, l_42, l_43, l_45, l_47, l_48, l_57, l_59, l_60, l_61, l_62, l_63, l_64, l_65, l_70, l_80, l_90, l_97, l_99, l_100, l_120, l_122, l_127, l_144, l_150, l_201, l_202, l_203, l_204, l_205, l_206, l_207, l_255, l_300, l_364, l_480, l_560, l_600, l_601, l_620, l_840, l_900, l_980, l_999, l_1000, l_1023, l_1024, l_1220, l_1439, l_1440, l_2240, l_2400, l_3000, l_3600, l_4095, l_4096, l_7320, l_9999, l_10079, l_10080, l_12000, l_99999, l_120000, l_1000000, l_2147483647] at c2
      exact K
    simp only [n_lt, n_le, n_eq, hI_eq, l_m1000, l_m100, l_m60, l_m19, l_m18, l_m17, l_m16, l_m15, l_m14, l_m13, l_m12, l_m11, l_m10, l_m8, l_m1, l_0, l_1, l_2, l_3, l_4, l_5, l_6, l_7, l_8, l_9, l_10, l_11, l_12, l_13, l_14, l_15, l_16, l_17, l_18, l_19, l_20, l_21, l_24, l_25, l_32, l_40, l_41, l_42, l_43, l_45, l_47, l_48, l_57, l_59, l_60, l_61, l_62, l_63, l_64, l_65, l_70, l_80, l_90, l_97, l_99, l_100, l_120, l_122, l_127, l_144, l_150, l_201, l_202, l_203, l_204, l_205, l_206, l_207, l_255, l_300, l_364, l_480, l_560, l_600, l_601, l_620, l_840, l_900, l_980, l_999, l_1000, l_1023, l_1024, l_1220, l_1439, l_1440, l_2240, l_2400, l_3000, l_3600, l_4095, l_4096, l_7320, l_9999, l_10079, l_10080, l_12000, l_99999, l_120000, l_1000000, l_2147483647] at c2
    obtain ⟨v3, q3, s3⟩ := m_isTown x2 (h := h) (by omega)
    refine sat_call q3 ?_
    rcases s3 with ⟨r3, s3⟩ | ⟨r3, s3⟩
    · exact sat_pos r3 (K)
    refine sat_neg (by rw [r3]; exact i1_ne_0) ?_
    dsimp only
    omega
  unfold tw qX11_stop BX11_stop_0
  refine sat_ite (fun c0 => ?_) fun c0 => ?_
  · simp only [n_lt, n_le, n_eq, hI_eq, l_m1000, l_m100, l_m60, l_m19, l_m18, l_m17, l_m16, l_m15, l_m14, l_m13, l_m12, l_m11, l_m10, l_m8, l_m1, l_0, l_1, l_2, l_3, l_4, l_5, l_6, l_7, l_8, l_9, l_10, l_11, l_12, l_13, l_14, l_15, l_16, l_17, l_18, l_19, l_20, l_21, l_24, l_25, l_32, l_40, l_41, l_42, l_43, l_45, l_47, l_48, l_57, l_59, l_60, l_61, l_62, l_63, l_64, l_65, l_70, l_80, l_90, l_97, l_99, l_100, l_120, l_122, l_127, l_144, l_150, l_201, l_202, l_203, l_204, l_205, l_206, l_207, l_255, l_300, l_364, l_480, l_560, l_600, l_601, l_620, l_840, l_900, l_980, l_999, l_1000, l_1023, l_1024, l_1220, l_1439, l_1440, l_2240, l_2400, l_3000, l_3600, l_4095, l_4096, l_7320, l_9999, l_10079, l_10080, l_12000, l_99999, l_120000, l_1000000, l_2147483647] at c0
    exact refno (by omega)
  simp only [n_lt, n_le, n_eq, hI_eq, l_m1000, l_m100, l_m60, l_m19, l_m18, l_m17, l_m16, l_m15, l_m14, l_m13, l_m12, l_m11, l_m10, l_m8, l_m1, l_0, l_1, l_2, l_3, l_4, l_5, l_6, l_7, l_8, l_9, l_10, l_11, l_12, l_13, l_14, l_15, l_16, l_17, l_18, l_19, l_20, l_21, l_24, l_25, l_32, l_40, l_41, l_42, l_43, l_45, l_47, l_48, l_57, l_59, l_60, l_61, l_62, l_63, l_64, l_65, l_70, l_80, l_90, l_97, l_99, l_100, l_120, l_122, l_127, l_144, l_150, l_201, l_202, l_203, l_204, l_205, l_206, l_207, l_255, l_300, l_364, l_480, l_560, l_600, l_601, l_620, l_840, l_900, l_980, l_999, l_1000, l_1023, l_1024, l_1220, l_1439, l_1440, l_2240, l_2400, l_3000, l_3600, l_4095, l_4096, l_7320, l_9999, l_10079, l_10080, l_12000, l_99999, l_120000, l_1000000, l_2147483647] at c0
  obtain ⟨v1, q1, s1⟩ := c_train x1 h
  refine sat_call q1 ?_
  rcases s1 with ⟨r1, s1⟩ | ⟨r1, s1⟩
  · exact sat_pos r1 (refno (by have := cC.1; omega))
  refine sat_neg (by rw [r1]; exact i1_ne_0) ?_
  dsimp only
  obtain ⟨v2, q2, s2⟩ := c_has x2 h
  refine sat_call q2 ?_
  rcases s2 with ⟨r2, s2⟩ | ⟨r2, s2⟩
  · exact sat_pos r2 (refno (by omega))
  refine sat_neg (by rw [r2]; exact i1_ne_0) ?_
  dsimp only
  have hN : hI h 5 0 = tN T := cC.1
  have e1 : x1.toInt = (x1.toInt.toNat : Int) := by omega
  have e2 : x2.toInt = (x2.toInt.toNat : Int) := by omega
  have ht : x1.toInt.toNat < 10 := by omega
  have htN : x1.toInt.toNat < tN T := by omega
  have ha : x2.toInt.toNat < 12 := by omega
  generalize x1.toInt.toNat = t at *
  generalize x2.toInt.toNat = a at *
  have ic1 : x1.toNatClampNeg = t := by
    rw [n_idx, e1]
    rfl
  have hs := ok.2.1 t ht
  have v6 : (ea_i h 6 t).toInt = tS T t := cC.2.1 t ht
  have gt := vp80 e1 ht
  -- the reference, as far as the conditions go
  have ref : ∀ (h1 : ea_H) (Q : Int32 × ea_H → Prop), MTab h1 T → hI h1 326 1 = n → hI h1 326 0 = hI h 326 0 →
      (¬ ((tS T t < 8 ∧ 0 ≤ x3.toInt ∧ x3.toInt ≤ x4.toInt ∧ x4.toInt ≤ 2400) ∧ (x5 = 0 ∨ x3.toInt = x4.toInt) ∧ (0 < tS T t → tW T t (tS T t - 1) ≠ a ∧ tG T t (tS T t - 1) < x3.toInt)) → sat (some ((-1 : Int32), h1)) Q) →
      ((tS T t < 8 ∧ 0 ≤ x3.toInt ∧ x3.toInt ≤ x4.toInt ∧ x4.toInt ≤ 2400) → (x5 = 0 ∨ x3.toInt = x4.toInt) → (0 < tS T t → tW T t (tS T t - 1) ≠ a ∧ tG T t (tS T t - 1) < x3.toInt) → ∀ (v s1 : Int32), v.toInt = tS T t → s1.toInt = ((tS T t + 1 : Nat) : Int) → sat (some (v, ea_wi (ea_wi (ea_wi (ea_wi (ea_wi (ea_wi h1 329 (8 * t + tS T t) x2) 330 (8 * t + tS T t) x3) 331 (8 * t + tS T t) x4) 333 (8 * t + tS T t) x5) 328 t s1) 326 12 0)) Q) →
      sat (qX12_stop x1 x2 x3 x4 x5 h1) Q := by
    intro h1 Q dM hn1 hnow Kn Ky
    have hN1 : hI h1 326 2 = tN T := dM.1
    have w6 : (ea_i h1 328 t).toInt = tS T t := dM.2.1 t ht
    unfold qX12_stop
    refine uqX12_stop_0 ?_
    unfold BX12_stop_0
    obtain ⟨v4, q4, s4⟩ := m_isTrain x1 (h := h1) (by omega)
    refine sat_call q4 ?_
    rcases s4 with ⟨r4, s4⟩ | ⟨r4, s4⟩
    · exact sat_pos r4 (absurd s4 (by omega))
    refine sat_neg (by rw [r4]; exact i1_ne_0) ?_
    dsimp only
    refine sat_neg (by rw [n_lt, hI_eq, hnow, l_0]; omega) ?_
    obtain ⟨v5, q5, s5⟩ := m_isTown x2 (h := h1) (by omega)
    refine sat_call q5 ?_
    rcases s5 with ⟨r5, s5⟩ | ⟨r5, s5⟩
    · exact sat_pos r5 (absurd s5 (by omega))
    refine sat_neg (by rw [r5]; exact i1_ne_0) ?_
    dsimp only
    obtain ⟨vi, qi, si⟩ := m_isIn x3 0 2400 h1
    rw [l_2400, l_0] at si
    refine sat_call qi ?_
    rcases si with ⟨ri, si⟩ | ⟨ri, si⟩
    · exact sat_pos ri (Kn (by omega))
    refine sat_neg (by rw [ri]; exact i1_ne_0) ?_
    dsimp only
    obtain ⟨vj, qj, sj⟩ := m_isIn x4 x3 2400 h1
    rw [l_2400] at sj
    refine sat_call qj ?_
    rcases sj with ⟨rj, sj⟩ | ⟨rj, sj⟩
    · exact sat_pos rj (Kn (by omega))
    refine sat_neg (by rw [rj]; exact i1_ne_0) ?_
    dsimp only
    have on : (x5 = 0 ∨ x3.toInt = x4.toInt) → sat (qX12_stop_57 x1 x2 x3 x4 x5 h1) Q := by
      intro hf
      refine uqX12_stop_57 ?_
      unfold BX12_stop_57
      rw [ic1]
      refine sat_gd gt ?_
      refine sat_ite (fun c => ?_) fun c => ?_
      · rw [n_eq, w6, l_8] at c
        exact Kn (by omega)
      rw [n_eq, w6, l_8] at c
      have p0 : ((8 : Int32) * x1 + ea_i h1 328 t).toInt = 8 * (t : Int) + tS T t := by simp (disch := omega) only [n_add, n_sub, n_mul, n_neg, n_bm, n_idx, n_if, hI_eq, l_m1000, l_m100, l_m60, l_m19, l_m18, l_m17, l_m16, l_m15, l_m14, l_m13, l_m12, l_m11, l_m10, l_m8, l_m1, l_0, l_1, l_2, l_3, l_4, l_5, l_6, l_7, l_8, l_9, l_10, l_11, l_12, l_13, l_14, l_15, l_16, l_17, l_18, l_19, l_20, l_21, l_24, l_25, l_32, l_40, l_41, l_42, l_43, l_45, l_47, l_48, l_57, l_59, l_60, l_61, l_62, l_63, l_64, l_65, l_70, l_80, l_90, l_97, l_99, l_100, l_120, l_122, l_127, l_144, l_150, l_201, l_202, l_203, l_204, l_205, l_206, l_207, l_255, l_300, l_364, l_480, l_560, l_600, l_601, l_620, l_840, l_900, l_980, l_999, l_1000, l_1023, l_1024, l_1220, l_1439, l_1440, l_2240, l_2400, l_3000, l_3600, l_4095, l_4096, l_7320, l_9999, l_10079, l_10080, l_12000, l_99999, l_120000, l_1000000, l_2147483647, e1, w6]
      have p1 : ((8 : Int32) * x1 + ea_i h1 328 t).toInt = ((8 * t + tS T t : Nat) : Int) := by
        rw [p0]
        omega
      have pc : ((8 : Int32) * x1 + ea_i h1 328 t).toNatClampNeg = 8 * t + tS T t := by
        rw [n_idx, p1]
        rfl
      have gp := vp80 p1 (show 8 * t + tS T t < 80 by omega)
      have put : (0 < tS T t → tW T t (tS T t - 1) ≠ a ∧ tG T t (tS T t - 1) < x3.toInt) → sat (qX12_stop_120 x1 x2 x3 x4 x5 ((8 : Int32) * x1 + ea_i h1 328 t) h1) Q := by
        intro hp
        refine uqX12_stop_120 ?_
        unfold BX12_stop_120
        rw [pc, ic1]
        refine sat_gd gp (sat_let fun H23 q23 => sat_gd gp (sat_let fun H25 q25 => sat_gd gp (sat_let fun H27 q27 => sat_gd gp (sat_gd h5 (sat_let fun H30 q30 => sat_gd gt (sat_gd gt (sat_let fun H33 q33 => sat_let fun H34 q34 => sat_gd gt ?_)))))))
        have r30 : ea_i H30 328 t = ea_i h1 328 t := by rw [q30, i_ne (by decide), q27, i_ne (by decide), q25, i_ne (by decide), q23, i_ne (by decide)]
        have r34 : ea_i H34 328 t = ea_i h1 328 t + 1 := by rw [q34, i_ne (by decide), q33, i_eq, r30]
        rw [r34]
        rw [r30] at q33
        have s1 : (ea_i h1 328 t + 1).toInt = ((tS T t + 1 : Nat) : Int) := n_inc w6 (by omega)
        have s0 : (ea_i h1 328 t + 1 - 1).toInt = tS T t := by
          rw [n_pred (by omega), s1]
          omega
        have := Ky (by omega) hf hp (ea_i h1 328 t + 1 - 1) (ea_i h1 328 t + 1) s0 s1
        rw [← q23, ← q25, ← q27, ← q30, ← q33, ← q34] at this
        exact this
      refine sat_gd gt (sat_sub (sat_gd gt ?_))
      refine sat_ite (fun c2 => ?_) fun c2 => ?_
      · rw [n_le, w6, l_0] at c2
        exact put (fun z => by omega)
      rw [n_le, w6, l_0] at c2
      have u1 : ((8 : Int32) * x1 + ea_i h1 328 t - 1).toInt = ((8 * t + (tS T t - 1) : Nat) : Int) := by
        rw [n_pred (by omega), p1]
        omega
      have uc : ((8 : Int32) * x1 + ea_i h1 328 t - 1).toNatClampNeg = 8 * t + (tS T t - 1) := by
        rw [n_idx, u1]
        rfl
      obtain ⟨w1, w2, w3⟩ := dM.2.2.1 t (tS T t - 1) ht (by omega)
      have gu := vp80 u1 (show 8 * t + (tS T t - 1) < 80 by omega)
      refine sat_gd gu ?_
      rw [uc]
      refine sat_ite (fun c3 => ?_) fun c3 => ?_
      · rw [n_eq, hI_eq, w1, e2] at c3
        exact Kn (fun z => (z.2.2 (by omega)).1 (by omega))
      rw [n_eq, hI_eq, w1, e2] at c3
      refine sat_gd gu ?_
      refine sat_eti (fun c4 => ?_) fun c4 => ?_
      · rw [n_lt, hI_eq, w3] at c4
        exact Kn (fun z => c4 (z.2.2 (by omega)).2)
      rw [n_lt, hI_eq, w3] at c4
      exact put fun _ => ⟨by omega, c4⟩
    refine sat_ite (fun c => on (Or.inl c)) fun c => ?_
    refine sat_ite (fun c2 => on (Or.inr (n_eq.mp c2))) fun c2 => Kn fun z => ?_
    rcases z.2.1 with w | w
    · exact c w
    · exact c2 (n_eq.mpr w)
  have cno : ¬ ((tS T t < 8 ∧ 0 ≤ x3.toInt ∧ x3.toInt ≤ x4.toInt ∧ x4.toInt ≤ 2400) ∧ (x5 = 0 ∨ x3.toInt = x4.toInt) ∧ (0 < tS T t → tW T t (tS T t - 1) ≠ a ∧ tG T t (tS T t - 1) < x3.toInt)) → sat (some ((-1 : Int32), h)) fun y => sat (qX12_stop x1 x2 x3 x4 x5 y.2) fun z => y.1 = z.1 ∧ fq [(6, 10), (328, 331), (333, 333)] [((13, 13), 0, 0), ((0, 0), 15, 15), ((326, 326), 12, 12)] h z.2 ∧ (z.2 = h ∨ ∃ t a c g, hI h 326 0 = 0 ∧ STb z.2 (tAdd T t a c g) ∧ SMis z.2 ∧ hI z.2 13 0 = 0 ∧ hI z.2 0 15 = 0 ∧ hI z.2 326 12 = 0) := by
    intro hc
    exact sat_ret (ref h _ cM b5 rfl (fun _ => sat_ret ⟨rfl, fq_rfl _ _ _, Or.inl rfl⟩) fun a b c => absurd ⟨a, b, c⟩ hc)
  have cret : sat (Option.bind (some ((-1 : Int32), h)) fun w3 => if w3.1 = (-1) then some (w3.1, w3.2) else Option.bind (qX11_tableChanged w3.2) fun w4 => some (w3.1, w4.2)) (fun y => sat (qX12_stop x1 x2 x3 x4 x5 y.2) fun z => y.1 = z.1 ∧ fq [(6, 10), (328, 331), (333, 333)] [((13, 13), 0, 0), ((0, 0), 15, 15), ((326, 326), 12, 12)] h z.2 ∧ (z.2 = h ∨ ∃ t a c g, hI h 326 0 = 0 ∧ STb z.2 (tAdd T t a c g) ∧ SMis z.2 ∧ hI z.2 13 0 = 0 ∧ hI z.2 0 15 = 0 ∧ hI z.2 326 12 = 0)) ↔ sat (some ((-1 : Int32), h)) fun y => sat (qX12_stop x1 x2 x3 x4 x5 y.2) fun z => y.1 = z.1 ∧ fq [(6, 10), (328, 331), (333, 333)] [((13, 13), 0, 0), ((0, 0), 15, 15), ((326, 326), 12, 12)] h z.2 ∧ (z.2 = h ∨ ∃ t a c g, hI h 326 0 = 0 ∧ STb z.2 (tAdd T t a c g) ∧ SMis z.2 ∧ hI z.2 13 0 = 0 ∧ hI z.2 0 15 = 0 ∧ hI z.2 326 12 = 0) := Iff.rfl
  -- add, by what it gives
  have H : sat (qX9_add x1 x2 x3 x4 x5 h) fun w => (w = (-1, h) ∧ ¬ ((tS T t < 8 ∧ 0 ≤ x3.toInt ∧ x3.toInt ≤ x4.toInt ∧ x4.toInt ≤ 2400) ∧ (x5 = 0 ∨ x3.toInt = x4.toInt) ∧ (0 < tS T t → tW T t (tS T t - 1) ≠ a ∧ tG T t (tS T t - 1) < x3.toInt))) ∨ (w.1.toInt = tS T t ∧ ((tS T t < 8 ∧ 0 ≤ x3.toInt ∧ x3.toInt ≤ x4.toInt ∧ x4.toInt ≤ 2400) ∧ (x5 = 0 ∨ x3.toInt = x4.toInt) ∧ (0 < tS T t → tW T t (tS T t - 1) ≠ a ∧ tG T t (tS T t - 1) < x3.toInt)) ∧ ∃ s1 : Int32, s1.toInt = ((tS T t + 1 : Nat) : Int) ∧ w.2 = ea_wi (ea_wi (ea_wi (ea_wi (ea_wi h 7 (8 * t + tS T t) x2) 8 (8 * t + tS T t) x3) 9 (8 * t + tS T t) x4) 10 (8 * t + tS T t) x5) 6 t s1) := by
    unfold qX9_add
    refine uqX9_add_0 ?_
    unfold BX9_add_0
    rw [ic1]
    refine sat_gd gt (sat_sub ?_)
    refine sat_ite (fun c => ?_) fun c => ?_
    · rw [n_le, v6, l_8] at c
      exact sat_ret (Or.inl ⟨rfl, by omega⟩)
    rw [n_le, v6, l_8] at c
    refine sat_ite (fun d1 => ?_) fun d1 => ?_
    · simp only [n_lt, n_le, n_eq, hI_eq, l_m1000, l_m100, l_m60, l_m19, l_m18, l_m17, l_m16, l_m15, l_m14, l_m13, l_m12, l_m11, l_m10, l_m8, l_m1, l_0, l_1, l_2, l_3, l_4, l_5, l_6, l_7, l_8, l_9, l_10, l_11, l_12, l_13, l_14, l_15, l_16, l_17, l_18, l_19, l_20, l_21, l_24, l_25, l_32, l_40, l_41, l_42, l_43, l_45, l_47, l_48, l_57, l_59, l_60, l_61, l_62, l_63, l_64, l_65, l_70, l_80, l_90, l_97, l_99, l_100, l_120, l_122, l_127, l_144, l_150, l_201, l_202, l_203, l_204, l_205, l_206, l_207, l_255, l_300, l_364, l_480, l_560, l_600, l_601, l_620, l_840, l_900, l_980, l_999, l_1000, l_1023, l_1024, l_1220, l_1439, l_1440, l_2240, l_2400, l_3000, l_3600, l_4095, l_4096, l_7320, l_9999, l_10079, l_10080, l_12000, l_99999, l_120000, l_1000000, l_2147483647] at d1
      exact sat_ret (Or.inl ⟨rfl, by omega⟩)
    simp only [n_lt, n_le, n_eq, hI_eq, l_m1000, l_m100, l_m60, l_m19, l_m18, l_m17, l_m16, l_m15, l_m14, l_m13, l_m12, l_m11, l_m10, l_m8, l_m1, l_0, l_1, l_2, l_3, l_4, l_5, l_6, l_7, l_8, l_9, l_10, l_11, l_12, l_13, l_14, l_15, l_16, l_17, l_18, l_19, l_20, l_21, l_24, l_25, l_32, l_40, l_41, l_42, l_43, l_45, l_47, l_48, l_57, l_59, l_60, l_61, l_62, l_63, l_64, l_65, l_70, l_80, l_90, l_97, l_99, l_100, l_120, l_122, l_127, l_144, l_150, l_201, l_202, l_203, l_204, l_205, l_206, l_207, l_255, l_300, l_364, l_480, l_560, l_600, l_601, l_620, l_840, l_900, l_980, l_999, l_1000, l_1023, l_1024, l_1220, l_1439, l_1440, l_2240, l_2400, l_3000, l_3600, l_4095, l_4096, l_7320, l_9999, l_10079, l_10080, l_12000, l_99999, l_120000, l_1000000, l_2147483647] at d1
    refine sat_ite (fun d2 => ?_) fun d2 => ?_
    · simp only [n_lt, n_le, n_eq, hI_eq, l_m1000, l_m100, l_m60, l_m19, l_m18, l_m17, l_m16, l_m15, l_m14, l_m13, l_m12, l_m11, l_m10, l_m8, l_m1, l_0, l_1, l_2, l_3, l_4, l_5, l_6, l_7, l_8, l_9, l_10, l_11, l_12, l_13, l_14, l_15, l_16, l_17, l_18, l_19, l_20, l_21, l_24, l_25, l_32, l_40, l_41, l_42, l_43, l_45, l_47, l_48, l_57, l_59, l_60, l_61, l_62, l_63, l_64, l_65, l_70, l_80, l_90, l_97, l_99, l_100, l_120, l_122, l_127, l_144, l_150, l_201, l_202, l_203, l_204, l_205, l_206, l_207, l_255, l_300, l_364, l_480, l_560, l_600, l_601, l_620, l_840, l_900, l_980, l_999, l_1000, l_1023, l_1024, l_1220, l_1439, l_1440, l_2240, l_2400, l_3000, l_3600, l_4095, l_4096, l_7320, l_9999, l_10079, l_10080, l_12000, l_99999, l_120000, l_1000000, l_2147483647] at d2
      exact sat_ret (Or.inl ⟨rfl, by omega⟩)
    simp only [n_lt, n_le, n_eq, hI_eq, l_m1000, l_m100, l_m60, l_m19, l_m18, l_m17, l_m16, l_m15, l_m14, l_m13, l_m12, l_m11, l_m10, l_m8, l_m1, l_0, l_1, l_2, l_3, l_4, l_5, l_6, l_7, l_8, l_9, l_10, l_11, l_12, l_13, l_14, l_15, l_16, l_17, l_18, l_19, l_20, l_21, l_24, l_25, l_32, l_40, l_41, l_42, l_43, l_45, l_47, l_48, l_57, l_59, l_60, l_61, l_62, l_63, l_64, l_65, l_70, l_80, l_90, l_97, l_99, l_100, l_120, l_122, l_127, l_144, l_150, l_201, l_202, l_203, l_204, l_205, l_206, l_207, l_255, l_300, l_364, l_480, l_560, l_600, l_601, l_620, l_840, l_900, l_980, l_999, l_1000, l_1023, l_1024, l_1220, l_1439, l_1440, l_2240, l_2400, l_3000, l_3600, l_4095, l_4096, l_7320, l_9999, l_10079, l_10080, l_12000, l_99999, l_120000, l_1000000, l_2147483647] at d2
    refine sat_eti (fun d3 => ?_) fun d3 => ?_
    · simp only [n_lt, n_le, n_eq, hI_eq, l_m1000, l_m100, l_m60, l_m19, l_m18, l_m17, l_m16, l_m15, l_m14, l_m13, l_m12, l_m11, l_m10, l_m8, l_m1, l_0, l_1, l_2, l_3, l_4, l_5, l_6, l_7, l_8, l_9, l_10, l_11, l_12, l_13, l_14, l_15, l_16, l_17, l_18, l_19, l_20, l_21, l_24, l_25, l_32, l_40, l_41, l_42, l_43, l_45, l_47, l_48, l_57, l_59, l_60, l_61, l_62, l_63, l_64, l_65, l_70, l_80, l_90, l_97, l_99, l_100, l_120, l_122, l_127, l_144, l_150, l_201, l_202, l_203, l_204, l_205, l_206, l_207, l_255, l_300, l_364, l_480, l_560, l_600, l_601, l_620, l_840, l_900, l_980, l_999, l_1000, l_1023, l_1024, l_1220, l_1439, l_1440, l_2240, l_2400, l_3000, l_3600, l_4095, l_4096, l_7320, l_9999, l_10079, l_10080, l_12000, l_99999, l_120000, l_1000000, l_2147483647] at d3
      exact sat_ret (Or.inl ⟨rfl, by omega⟩)
    simp only [n_lt, n_le, n_eq, hI_eq, l_m1000, l_m100, l_m60, l_m19, l_m18, l_m17, l_m16, l_m15, l_m14, l_m13, l_m12, l_m11, l_m10, l_m8, l_m1, l_0, l_1, l_2, l_3, l_4, l_5, l_6, l_7, l_8, l_9, l_10, l_11, l_12, l_13, l_14, l_15, l_16, l_17, l_18, l_19, l_20, l_21, l_24, l_25, l_32, l_40, l_41, l_42, l_43, l_45, l_47, l_48, l_57, l_59, l_60, l_61, l_62, l_63, l_64, l_65, l_70, l_80, l_90, l_97, l_99, l_100, l_120, l_122, l_127, l_144, l_150, l_201, l_202, l_203, l_204, l_205, l_206, l_207, l_255, l_300, l_364, l_480, l_560, l_600, l_601, l_620, l_840, l_900, l_980, l_999, l_1000, l_1023, l_1024, l_1220, l_1439, l_1440, l_2240, l_2400, l_3000, l_3600, l_4095, l_4096, l_7320, l_9999, l_10079, l_10080, l_12000, l_99999, l_120000, l_1000000, l_2147483647] at d3
    have on : (x5 = 0 ∨ x3.toInt = x4.toInt) → sat (qX9_add_48 x1 x2 x3 x4 x5 (ea_i h 6 t) h) fun w => (w = (-1, h) ∧ ¬ ((tS T t < 8 ∧ 0 ≤ x3.toInt ∧ x3.toInt ≤ x4.toInt ∧ x4.toInt ≤ 2400) ∧ (x5 = 0 ∨ x3.toInt = x4.toInt) ∧ (0 < tS T t → tW T t (tS T t - 1) ≠ a ∧ tG T t (tS T t - 1) < x3.toInt))) ∨ (w.1.toInt = tS T t ∧ ((tS T t < 8 ∧ 0 ≤ x3.toInt ∧ x3.toInt ≤ x4.toInt ∧ x4.toInt ≤ 2400) ∧ (x5 = 0 ∨ x3.toInt = x4.toInt) ∧ (0 < tS T t → tW T t (tS T t - 1) ≠ a ∧ tG T t (tS T t - 1) < x3.toInt)) ∧ ∃ s1 : Int32, s1.toInt = ((tS T t + 1 : Nat) : Int) ∧ w.2 = ea_wi (ea_wi (ea_wi (ea_wi (ea_wi h 7 (8 * t + tS T t) x2) 8 (8 * t + tS T t) x3) 9 (8 * t + tS T t) x4) 10 (8 * t + tS T t) x5) 6 t s1) := by
      intro hf
      have p0 : ((8 : Int32) * x1 + ea_i h 6 t).toInt = 8 * (t : Int) + tS T t := by simp (disch := omega) only [n_add, n_sub, n_mul, n_neg, n_bm, n_idx, n_if, hI_eq, l_m1000, l_m100, l_m60, l_m19, l_m18, l_m17, l_m16, l_m15, l_m14, l_m13, l_m12, l_m11, l_m10, l_m8, l_m1, l_0, l_1, l_2, l_3, l_4, l_5, l_6, l_7, l_8, l_9, l_10, l_11, l_12, l_13, l_14, l_15, l_16, l_17, l_18, l_19, l_20, l_21, l_24, l_25, l_32, l_40, l_41, l_42, l_43, l_45, l_47, l_48, l_57, l_59, l_60, l_61, l_62, l_63, l_64, l_65, l_70, l_80, l_90, l_97, l_99, l_100, l_120, l_122, l_127, l_144, l_150, l_201, l_202, l_203, l_204, l_205, l_206, l_207, l_255, l_300, l_364, l_480, l_560, l_600, l_601, l_620, l_840, l_900, l_980, l_999, l_1000, l_1023, l_1024, l_1220, l_1439, l_1440, l_2240, l_2400, l_3000, l_3600, l_4095, l_4096, l_7320, l_9999, l_10079, l_10080, l_12000, l_99999, l_120000, l_1000000, l_2147483647, e1, v6]
      have p1 : ((8 : Int32) * x1 + ea_i h 6 t).toInt = ((8 * t + tS T t : Nat) : Int) := by
        rw [p0]
        omega
      have pc : ((8 : Int32) * x1 + ea_i h 6 t).toNatClampNeg = 8 * t + tS T t := by
        rw [n_idx, p1]
        rfl
      have gp := vp80 p1 (show 8 * t + tS T t < 80 by omega)
      have put : (0 < tS T t → tW T t (tS T t - 1) ≠ a ∧ tG T t (tS T t - 1) < x3.toInt) → sat (qX9_add_90 x1 x2 x3 x4 x5 (ea_i h 6 t) ((8 : Int32) * x1 + ea_i h 6 t) h) fun w => (w = (-1, h) ∧ ¬ ((tS T t < 8 ∧ 0 ≤ x3.toInt ∧ x3.toInt ≤ x4.toInt ∧ x4.toInt ≤ 2400) ∧ (x5 = 0 ∨ x3.toInt = x4.toInt) ∧ (0 < tS T t → tW T t (tS T t - 1) ≠ a ∧ tG T t (tS T t - 1) < x3.toInt))) ∨ (w.1.toInt = tS T t ∧ ((tS T t < 8 ∧ 0 ≤ x3.toInt ∧ x3.toInt ≤ x4.toInt ∧ x4.toInt ≤ 2400) ∧ (x5 = 0 ∨ x3.toInt = x4.toInt) ∧ (0 < tS T t → tW T t (tS T t - 1) ≠ a ∧ tG T t (tS T t - 1) < x3.toInt)) ∧ ∃ s1 : Int32, s1.toInt = ((tS T t + 1 : Nat) : Int) ∧ w.2 = ea_wi (ea_wi (ea_wi (ea_wi (ea_wi h 7 (8 * t + tS T t) x2) 8 (8 * t + tS T t) x3) 9 (8 * t + tS T t) x4) 10 (8 * t + tS T t) x5) 6 t s1) := by
        intro hp
        refine uqX9_add_90 ?_
        unfold BX9_add_90
        rw [pc, ic1]
        refine sat_gd gp (sat_let fun H23 q23 => sat_gd gp (sat_let fun H25 q25 => sat_gd gp (sat_let fun H27 q27 => sat_gd gp (sat_gd h5 (sat_let fun H30 q30 => sat_gd gt (sat_gd gt (sat_let fun H33 q33 => sat_ret (Or.inr ⟨v6, ⟨by omega, hf, hp⟩, ea_i h 6 t + 1, n_inc v6 (by omega), ?_⟩)))))))) 
        have r30 : ea_i H30 6 t = ea_i h 6 t := by rw [q30, i_ne (by decide), q27, i_ne (by decide), q25, i_ne (by decide), q23, i_ne (by decide)]
        show H33 = _
        rw [q33, r30, q30, q27, q25, q23]
      refine uqX9_add_48 ?_
      unfold BX9_add_48
      refine sat_sub ?_
      refine sat_ite (fun c2 => ?_) fun c2 => ?_
      · rw [n_le, v6, l_0] at c2
        exact put (fun z => by omega)
      rw [n_le, v6, l_0] at c2
      have u1 : ((8 : Int32) * x1 + ea_i h 6 t - 1).toInt = ((8 * t + (tS T t - 1) : Nat) : Int) := by
        rw [n_pred (by omega), p1]
        omega
      have uc : ((8 : Int32) * x1 + ea_i h 6 t - 1).toNatClampNeg = 8 * t + (tS T t - 1) := by
        rw [n_idx, u1]
        rfl
      obtain ⟨w1, w2, w3⟩ := cC.2.2.1 t (tS T t - 1) ht (by omega)
      have gu := vp80 u1 (show 8 * t + (tS T t - 1) < 80 by omega)
      refine sat_gd gu ?_
      rw [uc]
      refine sat_ite (fun c3 => ?_) fun c3 => ?_
      · rw [n_eq, hI_eq, w1, e2] at c3
        exact sat_ret (Or.inl ⟨rfl, fun z => (z.2.2 (by omega)).1 (by omega)⟩)
      rw [n_eq, hI_eq, w1, e2] at c3
      refine sat_gd gu ?_
      refine sat_eti (fun c4 => ?_) fun c4 => ?_
      · rw [n_lt, hI_eq, w3] at c4
        exact sat_ret (Or.inl ⟨rfl, fun z => c4 (z.2.2 (by omega)).2⟩)
      rw [n_lt, hI_eq, w3] at c4
      exact put fun _ => ⟨by omega, c4⟩
    refine sat_ite (fun c => on (Or.inl c)) fun c => ?_
    refine sat_ite (fun c2 => on (Or.inr (n_eq.mp c2))) fun c2 => sat_ret (Or.inl ⟨rfl, fun z => ?_⟩)
    rcases z.2.1 with w | w
    · exact c w
    · exact c2 (n_eq.mpr w)
  refine sat_bind H fun w hw => ?_
  rcases hw with ⟨rfl, hw⟩ | ⟨w1, w2, s1, w3, w4⟩
  · exact sat_pos rfl (cno hw)
  have wn : ¬ w.1 = -1 := fun q => by
    rw [q] at w1
    have : (-1 : Int) = (tS T t : Int) := w1
    omega
  obtain ⟨wA, wB, wC⟩ := w2
  have hcg : (0 ≤ x3.toInt ∧ x3.toInt ≤ x4.toInt ∧ x4.toInt ≤ 2400) := ⟨wA.2.1, wA.2.2.1, wA.2.2.2⟩
  have e3 : x3.toInt = (x3.toInt.toNat : Int) := by omega
  have e4 : x4.toInt = (x4.toInt.toNat : Int) := by omega
  have f0 : fq [(6, 10)] [((13, 13), 0, 0), ((0, 0), 15, 15)] h w.2 := by
    rw [w4]
    exact (fq_wi rfl).tr ((fq_wi rfl).tr ((fq_wi rfl).tr ((fq_wi rfl).tr (fq_wi rfl))))
  refine sat_neg wn ?_
  unfold qX11_tableChanged BX11_tableChanged_0
  refine bd_let fun H4 q4 => bd_let fun H5 q5 => bd_ret (sat_ret ?_)
  show sat (qX12_stop x1 x2 x3 x4 x5 H5) _
  have f : fq [(6, 10)] [((13, 13), 0, 0), ((0, 0), 15, 15)] h H5 := f0.tr ((q4 ▸ fq_wf rfl : fq [(6, 10)] [((13, 13), 0, 0), ((0, 0), 15, 15)] w.2 H4).tr (q5 ▸ fq_wf rfl))
  refine ref H5 _ (MTab.fq f rfl rfl ⟨rfl, rfl⟩ ⟨rfl, rfl⟩ ⟨rfl, rfl⟩ ⟨rfl, rfl⟩ ⟨rfl, rfl⟩ cM) ((f.I 326 rfl 1 rfl).trans b5) (f.I 326 rfl 0 rfl) (fun z => absurd ⟨wA, wB, wC⟩ z) fun _ _ _ v s2 hv hs2 => ?_
  have g : fq [(328, 331), (333, 333)] [((326, 326), 12, 12)] H5 (ea_wi (ea_wi (ea_wi (ea_wi (ea_wi (ea_wi H5 329 (8 * t + tS T t) x2) 330 (8 * t + tS T t) x3) 331 (8 * t + tS T t) x4) 333 (8 * t + tS T t) x5) 328 t s2) 326 12 0) := (fq_wi rfl).tr ((fq_wi rfl).tr ((fq_wi rfl).tr ((fq_wi rfl).tr ((fq_wi rfl).tr (fq_wf rfl)))))
  have r328 : ∀ k, hI (ea_wi (ea_wi (ea_wi (ea_wi (ea_wi (ea_wi H5 329 (8 * t + tS T t) x2) 330 (8 * t + tS T t) x3) 331 (8 * t + tS T t) x4) 333 (8 * t + tS T t) x5) 328 t s2) 326 12 0) 328 k = if k = t then s2.toInt else hI h 328 k := by
    intro k
    rw [hI_ne (by decide), hI_row, hI_ne (by decide), hI_ne (by decide), hI_ne (by decide), hI_ne (by decide), f.C 328 rfl rfl]
  have r329 : ∀ k, hI (ea_wi (ea_wi (ea_wi (ea_wi (ea_wi (ea_wi H5 329 (8 * t + tS T t) x2) 330 (8 * t + tS T t) x3) 331 (8 * t + tS T t) x4) 333 (8 * t + tS T t) x5) 328 t s2) 326 12 0) 329 k = if k = 8 * t + tS T t then x2.toInt else hI h 329 k := by
    intro k
    rw [hI_ne (by decide), hI_ne (by decide), hI_ne (by decide), hI_ne (by decide), hI_ne (by decide), hI_row, f.C 329 rfl rfl]
  have r330 : ∀ k, hI (ea_wi (ea_wi (ea_wi (ea_wi (ea_wi (ea_wi H5 329 (8 * t + tS T t) x2) 330 (8 * t + tS T t) x3) 331 (8 * t + tS T t) x4) 333 (8 * t + tS T t) x5) 328 t s2) 326 12 0) 330 k = if k = 8 * t + tS T t then x3.toInt else hI h 330 k := by
    intro k
    rw [hI_ne (by decide), hI_ne (by decide), hI_ne (by decide), hI_ne (by decide), hI_row, hI_ne (by decide), f.C 330 rfl rfl]
  have r331 : ∀ k, hI (ea_wi (ea_wi (ea_wi (ea_wi (ea_wi (ea_wi H5 329 (8 * t + tS T t) x2) 330 (8 * t + tS T t) x3) 331 (8 * t + tS T t) x4) 333 (8 * t + tS T t) x5) 328 t s2) 326 12 0) 331 k = if k = 8 * t + tS T t then x4.toInt else hI h 331 k := by
    intro k
    rw [hI_ne (by decide), hI_ne (by decide), hI_ne (by decide), hI_row, hI_ne (by decide), hI_ne (by decide), f.C 331 rfl rfl]
  have r333 : ∀ k, hI (ea_wi (ea_wi (ea_wi (ea_wi (ea_wi (ea_wi H5 329 (8 * t + tS T t) x2) 330 (8 * t + tS T t) x3) 331 (8 * t + tS T t) x4) 333 (8 * t + tS T t) x5) 328 t s2) 326 12 0) 333 k = if k = 8 * t + tS T t then x5.toInt else hI h 333 k := by
    intro k
    rw [hI_ne (by decide), hI_ne (by decide), hI_row, hI_ne (by decide), hI_ne (by decide), hI_ne (by decide), f.C 333 rfl rfl]
  have r12 : hI (ea_wi (ea_wi (ea_wi (ea_wi (ea_wi (ea_wi H5 329 (8 * t + tS T t) x2) 330 (8 * t + tS T t) x3) 331 (8 * t + tS T t) x4) 333 (8 * t + tS T t) x5) 328 t s2) 326 12 0) 326 12 = 0 := by
    rw [hI_at]
    rfl
  generalize ea_wi (ea_wi (ea_wi (ea_wi (ea_wi (ea_wi H5 329 (8 * t + tS T t) x2) 330 (8 * t + tS T t) x3) 331 (8 * t + tS T t) x4) 333 (8 * t + tS T t) x5) 328 t s2) 326 12 0 = H at *
  have F : fq [(6, 10), (328, 331), (333, 333)] [((13, 13), 0, 0), ((0, 0), 15, 15), ((326, 326), 12, 12)] h H := (f.up rfl rfl).tr (g.up rfl rfl)
  have c6 : ∀ k, hI H 6 k = if k = t then s1.toInt else hI h 6 k := by
    intro k
    rw [g.C 6 rfl rfl, q5, hI_ne (by decide), q4, hI_ne (by decide), w4, hI_row, hI_ne (by decide), hI_ne (by decide), hI_ne (by decide), hI_ne (by decide)]
  have c7 : ∀ k, hI H 7 k = if k = 8 * t + tS T t then x2.toInt else hI h 7 k := by
    intro k
    rw [g.C 7 rfl rfl, q5, hI_ne (by decide), q4, hI_ne (by decide), w4, hI_ne (by decide), hI_ne (by decide), hI_ne (by decide), hI_ne (by decide), hI_row]
  have c8 : ∀ k, hI H 8 k = if k = 8 * t + tS T t then x3.toInt else hI h 8 k := by
    intro k
    rw [g.C 8 rfl rfl, q5, hI_ne (by decide), q4, hI_ne (by decide), w4, hI_ne (by decide), hI_ne (by decide), hI_ne (by decide), hI_row, hI_ne (by decide)]
  have c9 : ∀ k, hI H 9 k = if k = 8 * t + tS T t then x4.toInt else hI h 9 k := by
    intro k
    rw [g.C 9 rfl rfl, q5, hI_ne (by decide), q4, hI_ne (by decide), w4, hI_ne (by decide), hI_ne (by decide), hI_row, hI_ne (by decide), hI_ne (by decide)]
  have c10 : ∀ k, hI H 10 k = if k = 8 * t + tS T t then x5.toInt else hI h 10 k := by
    intro k
    rw [g.C 10 rfl rfl, q5, hI_ne (by decide), q4, hI_ne (by decide), w4, hI_ne (by decide), hI_row, hI_ne (by decide), hI_ne (by decide), hI_ne (by decide)]
  have c13 : hI H 13 0 = 0 := by
    rw [g.I 13 rfl 0 rfl, q5, hI_ne (by decide), q4, hI_at]
    rfl
  have c15 : hI H 0 15 = 0 := by
    rw [g.I 0 rfl 15 rfl, q5, hI_at]
    rfl
  refine sat_ret ⟨n_eq.mpr (w1.trans hv.symm), F, Or.inr ⟨t, a, x3.toInt.toNat, x4.toInt.toNat, by omega, ⟨tAdd_ok ok htN wA.1 ha (by omega) (by omega) (fun z => by have := (wC z).2; omega), ⟨?_, fun p hp => ?_, fun p i hp hi => ?_, fun p d hp hd => ?_⟩, ?_, fun p hp => ?_, fun p i hp hi => ?_, fun p d hp hd => ?_⟩, ⟨fun k hk => ?_, fun p d hp hd => ?_⟩, c13, c15, r12⟩⟩
  · rw [tAdd_N, F.I 5 rfl 0 rfl]
    exact cC.1
  · rw [tAdd_S, c6]
    split
    · exact w3
    · exact cC.2.1 p hp
  · have e := cC.2.2.1 p i hp hi
    rw [tAdd_W, tAdd_C, tAdd_G, c7, c8, c9]
    by_cases q : p = t ∧ i = tS T t
    · rw [if_pos q, if_pos q, if_pos q, if_pos (by omega), if_pos (by omega), if_pos (by omega)]
      exact ⟨e2, e3, e4⟩
    · rw [if_neg q, if_neg q, if_neg q, if_neg (by omega), if_neg (by omega), if_neg (by omega)]
      exact e
  · rw [tAdd_D, F.C 11 rfl rfl]
    exact cC.2.2.2 p d hp hd
  · rw [tAdd_N, F.I 326 rfl 2 rfl]
    exact cM.1
  · rw [tAdd_S, r328]
    split
    · exact hs2
    · exact cM.2.1 p hp
  · have e := cM.2.2.1 p i hp hi
    rw [tAdd_W, tAdd_C, tAdd_G, r329, r330, r331]
    by_cases q : p = t ∧ i = tS T t
    · rw [if_pos q, if_pos q, if_pos q, if_pos (by omega), if_pos (by omega), if_pos (by omega)]
      exact ⟨e2, e3, e4⟩
    · rw [if_neg q, if_neg q, if_neg q, if_neg (by omega), if_neg (by omega), if_neg (by omega)]
      exact e
  · rw [tAdd_D, F.C 332 rfl rfl]
    exact cM.2.2.2 p d hp hd
  · rw [c10, r333]
    by_cases q : k = 8 * t + tS T t
    · rw [if_pos q, if_pos q]
      refine ⟨rfl, ?_⟩
      rcases h5 with rfl | rfl
      · exact Or.inl rfl
      · exact Or.inr rfl
    · rw [if_neg q, if_neg q]
      exact m.1 k hk
  · obtain ⟨M, m1, m2, m3⟩ := m.2 p d hp hd
    exact ⟨M, (F.C 12 rfl rfl _).trans m1, m2, fun i hi => (F.C 334 rfl rfl _).trans (m3 i hi)⟩
