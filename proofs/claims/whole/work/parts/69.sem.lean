/-! the reference: the first going of a town not ahead of a minute; which going is the better -/
section GN
variable {T : Nat → Nat → Nat → Nat} {L : List Nat}
theorem m_townOf {x1 x2 : Int32} {t d i : Nat} (e1 : x1.toInt = ((7 * t + d : Nat) : Int)) (e2 : x2.toInt = i) {h : ea_H} (c : MTab h T) (ht : t < 10) (hd : d < 7) (hi : i < 8) : ∃ v, qX12_townOf x1 x2 h = some (v, h) ∧ v.toInt = tW T t i := by
  have j0 : (x1 / (7 : Int32)).toInt = t := by
    rw [n_div7 (by omega), e1]
    omega
  have i1 : ((8 : Int32) * (x1 / (7 : Int32)) + x2).toInt = 8 * (t : Int) + i := by simp (disch := omega) only [n_add, n_sub, n_mul, n_neg, n_bm, n_idx, n_if, hI_eq, l_m1000, l_m100, l_m60, l_m19, l_m18, l_m17, l_m16, l_m15, l_m14, l_m13, l_m12, l_m11, l_m10, l_m8, l_m1, l_0, l_1, l_2, l_3, l_4, l_5, l_6, l_7, l_8, l_9, l_10, l_11, l_12, l_13, l_14, l_15, l_16, l_17, l_18, l_19, l_20, l_21, l_24, l_25, l_32, l_40, l_41, l_42, l_43, l_45, l_47, l_48, l_57, l_59, l_60, l_61, l_62, l_63, l_64, l_65, l_70, l_80, l_90, l_97, l_99, l_100, l_120, l_122, l_127, l_144, l_150, l_201, l_202, l_203, l_204, l_205, l_206, l_207, l_255, l_300, l_364, l_480, l_560, l_600, l_601, l_620, l_840, l_900, l_980, l_999, l_1000, l_1023, l_1024, l_1220, l_1439, l_1440, l_2240, l_2400, l_3000, l_3600, l_4095, l_4096, l_7320, l_9999, l_10079, l_10080, l_12000, l_99999, l_120000, l_1000000, l_2147483647, j0, e2]
  have i2 : ((8 : Int32) * (x1 / (7 : Int32)) + x2).toInt = ((8 * t + i : Nat) : Int) := by
    rw [i1]
    omega
  refine sat_ex ?_
  unfold qX12_townOf BX12_townOf_0
  refine sat_gd (vp80 i2 (by omega)) (sat_ret ⟨rfl, ?_⟩)
  show (ea_i h 329 ((8 : Int32) * (x1 / (7 : Int32)) + x2).toNatClampNeg).toInt = _
  rw [hI_eq, n_idx, i2]
  exact (c.2.2.1 t i ht hi).1
theorem m_going7 {tw : Nat → Nat → Nat} {n p a m : Nat} {h : ea_H} (hl : L.length ≤ 1000) (hev : mEv h L) (hr : mRows tw L n h p) {x2 : Int32} (e2 : x2.toInt = m) :
    ∀ (k q : Nat) (x3 : Int32), L.length + 1 ≤ q + k → p ≤ q → nxG tw L a q x3.toInt → (∀ j, j < q → isG tw L a j → kMin (L.getD j 0) < m) → sat (qX12_going_7 x2 x3 h) fun y => y.2 = h ∧ gFr tw L a m y.1.toInt ∧ (y.1.toInt = -1 ∨ (p : Int) ≤ y.1.toInt) := by
  intro k
  induction k with
  | zero =>
    intro q x3 hk hp hx hb
    refine uqX12_going_7 ?_
    unfold BX12_going_7
    rcases hx with ⟨z1, z2⟩ | ⟨e, z1, z2, z3, z4⟩
    · refine sat_pos (n_eq.mpr (by rw [z1]; rfl)) (sat_ret ⟨rfl, Or.inl ⟨z1, fun j hj => ?_⟩, Or.inl z1⟩)
      by_cases w : j < q
      · exact hb j w hj
      · exact absurd hj (z2 j (by omega))
    · have := z3.1
      omega
  | succ k ih =>
    intro q x3 hk hp hx hb
    refine uqX12_going_7 ?_
    unfold BX12_going_7
    rcases hx with ⟨z1, z2⟩ | ⟨e, z1, z2, z3, z4⟩
    · refine sat_pos (n_eq.mpr (by rw [z1]; rfl)) (sat_ret ⟨rfl, Or.inl ⟨z1, fun j hj => ?_⟩, Or.inl z1⟩)
      by_cases w : j < q
      · exact hb j w hj
      · exact absurd hj (z2 j (by omega))
    · have he := z3.1
      have hx3 : ¬ x3 = -1 := fun w => by
        rw [w] at z1
        have : (-1 : Int) = (e : Int) := z1
        omega
      have ic : x3.toNatClampNeg = e := by
        rw [n_idx, z1]
        rfl
      have mv : (ea_i h 336 x3.toNatClampNeg).toInt = kMin (L.getD e 0) := by
        rw [hI_eq, ic]
        exact (hev.2 e he).1
      have hbe : ∀ j, j < e → isG tw L a j → kMin (L.getD j 0) < m := fun j hj hg => by
        by_cases w : j < q
        · exact hb j w hg
        · exact absurd hg (z4 j (by omega) hj)
      refine sat_neg hx3 (sat_gd (vp80 z1 (by omega)) ?_)
      by_cases c : x2 ≤ ea_i h 336 x3.toNatClampNeg
      · refine sat_pos c (sat_ret ⟨rfl, Or.inr ⟨e, z1, z3, ?_, hbe⟩, Or.inr ?_⟩)
        · rw [n_le, e2, mv] at c
          omega
        · show (p : Int) ≤ x3.toInt
          omega
      · refine sat_neg c (sat_gd (vp80 z1 (by omega)) (sat_sub (ih (e + 1) _ (by omega) (by omega) ?_ ?_)))
        · rw [hI_eq, ic]
          exact (hr e (by omega) a z3).1
        · intro j hj hg
          by_cases w : j < e
          · exact hbe j w hg
          · have : j = e := by omega
            rw [this]
            rw [n_le, e2, mv] at c
            omega
theorem m_going {tw : Nat → Nat → Nat} {n p a m : Nat} {h : ea_H} (hl : L.length ≤ 1000) (hev : mEv h L) (hr : mRows tw L n h p) (hf : mFirst tw L h p) (ha : a < 12) {x1 x2 : Int32} (e1 : x1.toInt = a) (e2 : x2.toInt = m) (hb : ∀ j, j < p → isG tw L a j → kMin (L.getD j 0) < m) : ∃ v, qX12_going x1 x2 h = some (v, h) ∧ gFr tw L a m v.toInt ∧ (v.toInt = -1 ∨ (p : Int) ≤ v.toInt) := by
  have H : sat (qX12_going x1 x2 h) fun y => y.2 = h ∧ gFr tw L a m y.1.toInt ∧ (y.1.toInt = -1 ∨ (p : Int) ≤ y.1.toInt) := by
    unfold qX12_going
    refine uqX12_going_0 ?_
    unfold BX12_going_0
    refine sat_gd (vp80 e1 ha) (sat_sub (m_going7 hl hev hr e2 (L.length + 1) p _ (by omega) (Nat.le_refl _) ?_ hb))
    rw [hI_eq, n_idx, e1]
    exact hf a ha
  obtain ⟨⟨v, h2⟩, q1, q2, q3⟩ := H
  have q2 : h2 = h := q2
  subst q2
  exact ⟨v, q1, q3⟩
theorem m_isBetter {tw : Nat → Nat → Nat} {e o b a : Nat} {h : ea_H} (hL : wL L) (hl : L.length ≤ 1000) (hev : mEv h L) (he : isG tw L a e) (ho : isG tw L a o) (hne : e < o) (hb : b < 12) {x1 x2 x3 : Int32} (e1 : x1.toInt = e) (e2 : x2.toInt = o) (e3 : x3.toInt = b)
    (r1 : mRow1 tw L h e b (wV tw L e b)) (r2 : mRow1 tw L h o b (wV tw L o b)) (n1 : wV tw L e b ≠ NOW) (n2 : wV tw L o b ≠ NOW) :
    ∃ v, qX12_isBetter x1 x2 x3 h = some (v, h) ∧ ((v = 1 ∧ wV tw L e b < wV tw L o b) ∨ (v = 0 ∧ ¬ wV tw L e b < wV tw L o b)) := by
  have he1 := he.1
  have ho1 := ho.1
  have j1 : ((12 : Int32) * x1 + x3).toInt = 12 * (e : Int) + b := by simp (disch := omega) only [n_add, n_sub, n_mul, n_neg, n_bm, n_idx, n_if, hI_eq, l_m1000, l_m100, l_m60, l_m19, l_m18, l_m17, l_m16, l_m15, l_m14, l_m13, l_m12, l_m11, l_m10, l_m8, l_m1, l_0, l_1, l_2, l_3, l_4, l_5, l_6, l_7, l_8, l_9, l_10, l_11, l_12, l_13, l_14, l_15, l_16, l_17, l_18, l_19, l_20, l_21, l_24, l_25, l_32, l_40, l_41, l_42, l_43, l_45, l_47, l_48, l_57, l_59, l_60, l_61, l_62, l_63, l_64, l_65, l_70, l_80, l_90, l_97, l_99, l_100, l_120, l_122, l_127, l_144, l_150, l_201, l_202, l_203, l_204, l_205, l_206, l_207, l_255, l_300, l_364, l_480, l_560, l_600, l_601, l_620, l_840, l_900, l_980, l_999, l_1000, l_1023, l_1024, l_1220, l_1439, l_1440, l_2240, l_2400, l_3000, l_3600, l_4095, l_4096, l_7320, l_9999, l_10079, l_10080, l_12000, l_99999, l_120000, l_1000000, l_2147483647, e1, e3]
  have j2 : ((12 : Int32) * x2 + x3).toInt = 12 * (o : Int) + b := by simp (disch := omega) only [n_add, n_sub, n_mul, n_neg, n_bm, n_idx, n_if, hI_eq, l_m1000, l_m100, l_m60, l_m19, l_m18, l_m17, l_m16, l_m15, l_m14, l_m13, l_m12, l_m11, l_m10, l_m8, l_m1, l_0, l_1, l_2, l_3, l_4, l_5, l_6, l_7, l_8, l_9, l_10, l_11, l_12, l_13, l_14, l_15, l_16, l_17, l_18, l_19, l_20, l_21, l_24, l_25, l_32, l_40, l_41, l_42, l_43, l_45, l_47, l_48, l_57, l_59, l_60, l_61, l_62, l_63, l_64, l_65, l_70, l_80, l_90, l_97, l_99, l_100, l_120, l_122, l_127, l_144, l_150, l_201, l_202, l_203, l_204, l_205, l_206, l_207, l_255, l_300, l_364, l_480, l_560, l_600, l_601, l_620, l_840, l_900, l_980, l_999, l_1000, l_1023, l_1024, l_1220, l_1439, l_1440, l_2240, l_2400, l_3000, l_3600, l_4095, l_4096, l_7320, l_9999, l_10079, l_10080, l_12000, l_99999, l_120000, l_1000000, l_2147483647, e2, e3]
  have k1 : ((12 : Int32) * x1 + x3).toInt = ((12 * e + b : Nat) : Int) := by
    rw [j1]
    omega
  have k2 : ((12 : Int32) * x2 + x3).toInt = ((12 * o + b : Nat) : Int) := by
    rw [j2]
    omega
  have zne : L.getD e 0 ≠ L.getD o 0 := Nat.ne_of_lt (getD_lt hL.1 hne ho1)
  have less := wLess hL hl (wV_in he) (wV_in ho) zne n1 n2
  rcases r1 with ⟨z, -⟩ | ⟨-, a1, a2, a3⟩
  · exact absurd z n1
  rcases r2 with ⟨z, -⟩ | ⟨-, b1, b2, b3⟩
  · exact absurd z n2
  obtain ⟨-, c1, c2, c3⟩ := hev.2 e he1
  obtain ⟨-, d1, d2, d3⟩ := hev.2 o ho1
  have i1 : ((12 : Int32) * x1 + x3).toNatClampNeg = 12 * e + b := by
    rw [n_idx, k1]
    rfl
  have i2 : ((12 : Int32) * x2 + x3).toNatClampNeg = 12 * o + b := by
    rw [n_idx, k2]
    rfl
  have i3 : x1.toNatClampNeg = e := by
    rw [n_idx, e1]
    rfl
  have i4 : x2.toNatClampNeg = o := by
    rw [n_idx, e2]
    rfl
  have H : sat (qX12_isBetter x1 x2 x3 h) fun y => y.2 = h ∧ ((y.1 = 1 ∧ wV tw L e b < wV tw L o b) ∨ (y.1 = 0 ∧ ¬ wV tw L e b < wV tw L o b)) := by
    unfold qX12_isBetter BX12_isBetter_0
    refine sat_sub (sat_sub ?_)
    refine sat_gd (vp80 k1 (by omega)) (sat_gd (vp80 k2 (by omega)) ?_)
    rw [i1, i2, i3, i4]
    rw [less]
    have q1 : ea_i h 341 (12 * e + b) = ea_i h 341 (12 * o + b) ↔ wV tw L e b / 2097152 = wV tw L o b / 2097152 := by
      rw [n_eq, hI_eq, hI_eq, a1, b1]
      omega
    have q2 : ea_i h 342 (12 * e + b) = ea_i h 342 (12 * o + b) ↔ wV tw L e b / 8192 % 256 = wV tw L o b / 8192 % 256 := by
      rw [n_eq, hI_eq, hI_eq, a2, b2]
      omega
    have q3 : ea_i h 338 e = ea_i h 338 o ↔ 7 * kT (L.getD e 0) + kD (L.getD e 0) = 7 * kT (L.getD o 0) + kD (L.getD o 0) := by
      rw [n_eq, hI_eq, hI_eq, c2, d2]
      omega
    have p1 : ea_i h 341 (12 * o + b) ≤ ea_i h 341 (12 * e + b) ↔ ¬ wV tw L e b / 2097152 < wV tw L o b / 2097152 := by
      rw [n_le, hI_eq, hI_eq, a1, b1]
      omega
    have p2 : ea_i h 342 (12 * o + b) ≤ ea_i h 342 (12 * e + b) ↔ ¬ wV tw L e b / 8192 % 256 < wV tw L o b / 8192 % 256 := by
      rw [n_le, hI_eq, hI_eq, a2, b2]
      omega
    have p3 : ea_i h 338 o ≤ ea_i h 338 e ↔ ¬ 7 * kT (L.getD e 0) + kD (L.getD e 0) < 7 * kT (L.getD o 0) + kD (L.getD o 0) := by
      rw [n_le, hI_eq, hI_eq, c2, d2]
      omega
    have p4 : ea_i h 339 o ≤ ea_i h 339 e ↔ ¬ kI (L.getD e 0) < kI (L.getD o 0) := by
      rw [n_le, hI_eq, hI_eq, c3, d3]
      omega
    have fin : ∀ {c c2 : Prop} {_ : Decidable c} (q : c ↔ ¬ c2), sat (if c then some ((0 : Int32), h) else some ((1 : Int32), h)) fun y => y.2 = h ∧ ((y.1 = 1 ∧ c2) ∨ (y.1 = 0 ∧ ¬ c2)) := by
      intro c c2 _ q
      exact sat_ite (fun z => sat_ret ⟨rfl, Or.inr ⟨rfl, q.mp z⟩⟩) fun z => sat_ret ⟨rfl, Or.inl ⟨rfl, Classical.byContradiction fun w => z (q.mpr w)⟩⟩
    have g1 := vp80 k1 (show 12 * e + b < 12000 by omega)
    have g2 := vp80 k2 (show 12 * o + b < 12000 by omega)
    have g3 := vp80 e1 (show e < 1000 by omega)
    have g4 := vp80 e2 (show o < 1000 by omega)
    by_cases w1 : wV tw L e b / 2097152 = wV tw L o b / 2097152
    · refine sat_pos (q1.mpr w1) (sat_gd g1 (sat_gd g2 ?_))
      rw [if_neg (show ¬ wV tw L e b / 2097152 ≠ wV tw L o b / 2097152 from fun z => z w1)]
      by_cases w2 : wV tw L e b / 8192 % 256 = wV tw L o b / 8192 % 256
      · refine sat_pos (q2.mpr w2) (sat_gd g3 (sat_gd g4 ?_))
        rw [if_neg (show ¬ wV tw L e b / 8192 % 256 ≠ wV tw L o b / 8192 % 256 from fun z => z w2)]
        by_cases w3 : 7 * kT (L.getD e 0) + kD (L.getD e 0) = 7 * kT (L.getD o 0) + kD (L.getD o 0)
        · rw [if_neg (show ¬ 7 * kT (L.getD e 0) + kD (L.getD e 0) ≠ 7 * kT (L.getD o 0) + kD (L.getD o 0) from fun z => z w3)]
          exact sat_pos (q3.mpr w3) (sat_gd g3 (sat_gd g4 (fin p4)))
        · rw [if_pos w3]
          exact sat_neg (fun z => w3 (q3.mp z)) (sat_gd g3 (sat_gd g4 (fin p3)))
      · rw [if_pos w2]
        exact sat_neg (fun z => w2 (q2.mp z)) (sat_gd g1 (sat_gd g2 (fin p2)))
    · rw [if_pos w1]
      exact sat_neg (fun z => w1 (q1.mp z)) (sat_gd g1 (sat_gd g2 (fin p1)))
  obtain ⟨⟨v, h2⟩, z1, z2, z3⟩ := H
  have z2 : h2 = h := z2
  subst z2
  exact ⟨v, z1, z3⟩
end GN
