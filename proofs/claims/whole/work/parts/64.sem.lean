/-! the reference: which run's next happening is ahead -/
def tPos (T : Nat → Nat → Nat → Nat) (t d k : Nat) : Nat := 2 * tHap T t d k + (1 - k % 2)
theorem m_isAheadOf {x1 x2 : Int32} {t d k t2 d2 k2 : Nat} (e1 : x1.toInt = ((7 * t + d : Nat) : Int)) (e2 : x2.toInt = ((7 * t2 + d2 : Nat) : Int)) {h : ea_H} {T : Nat → Nat → Nat → Nat} (c : MTab h T) (ok : tOk T) (ht : t < 10) (hd : d < 7) (ht2 : t2 < 10) (hd2 : d2 < 7) (hk : hI h 340 (7 * t + d) = k) (hk2 : hI h 340 (7 * t2 + d2) = k2) (hm : tMore T t d k) (hm2 : tMore T t2 d2 k2) :
    sat (qX12_isAheadOf x1 x2 h) fun y => y.2 = h ∧ ((y.1 = 1 ∧ (tPos T t d k < tPos T t2 d2 k2 ∨ tPos T t d k = tPos T t2 d2 k2 ∧ 7 * t + d < 7 * t2 + d2)) ∨ (y.1 = 0 ∧ ¬ (tPos T t d k < tPos T t2 d2 k2 ∨ tPos T t d k = tPos T t2 d2 k2 ∧ 7 * t + d < 7 * t2 + d2))) := by
  have hb : 7 * t + d < 70 := by omega
  have hb2 : 7 * t2 + d2 < 70 := by omega
  have kv : (ea_i h 340 x1.toNatClampNeg).toInt = k := by
    rw [hI_eq, n_idx, e1]
    exact hk
  have kv2 : (ea_i h 340 x2.toNatClampNeg).toInt = k2 := by
    rw [hI_eq, n_idx, e2]
    exact hk2
  have hq : k + 2 < 2 * tS T t + (k + 1) % 2 := Nat.lt_of_lt_of_le hm.1 (Nat.le_add_right _ _)
  have hq2 : k2 + 2 < 2 * tS T t2 + (k2 + 1) % 2 := Nat.lt_of_lt_of_le hm2.1 (Nat.le_add_right _ _)
  obtain ⟨v, p, r⟩ := m_minuteOf e1 kv c ok ht hd hq
  obtain ⟨v2, p2, r2⟩ := m_minuteOf e2 kv2 c ok ht2 hd2 hq2
  have l1 := hm.2
  have l2 := hm2.2
  have fin : ∀ (z z2 s s2 : Int32) , (z + s).toInt = tPos T t d k → (z2 + s2).toInt = tPos T t2 d2 k2 → sat (qX12_isAheadOf_60 x1 x2 (z + s) s2 z2 h) fun y => y.2 = h ∧ ((y.1 = 1 ∧ (tPos T t d k < tPos T t2 d2 k2 ∨ tPos T t d k = tPos T t2 d2 k2 ∧ 7 * t + d < 7 * t2 + d2)) ∨ (y.1 = 0 ∧ ¬ (tPos T t d k < tPos T t2 d2 k2 ∨ tPos T t d k = tPos T t2 d2 k2 ∧ 7 * t + d < 7 * t2 + d2))) := by
    intro z z2 s s2 g g2
    refine uqX12_isAheadOf_60 ?_
    unfold BX12_isAheadOf_60
    by_cases c1 : z + s < z2 + s2
    · refine sat_pos c1 (sat_ret ⟨rfl, Or.inl ⟨rfl, Or.inl ?_⟩⟩)
      rw [n_lt, g, g2] at c1
      omega
    rw [n_lt, g, g2] at c1
    by_cases c2 : z + s = z2 + s2
    · have d2 := c2
      rw [n_eq, g, g2] at d2
      refine sat_neg (by rw [n_lt, g, g2]; omega) (sat_pos c2 ?_)
      by_cases c3 : x2 ≤ x1
      · refine sat_pos c3 (sat_ret ⟨rfl, Or.inr ⟨rfl, ?_⟩⟩)
        rw [n_le, e1, e2] at c3
        omega
      · refine sat_neg c3 (sat_ret ⟨rfl, Or.inl ⟨rfl, Or.inr ?_⟩⟩)
        rw [n_le, e1, e2] at c3
        omega
    · refine sat_neg (by rw [n_lt, g, g2]; omega) (sat_neg c2 (sat_ret ⟨rfl, Or.inr ⟨rfl, ?_⟩⟩))
      rw [n_eq, g, g2] at c2
      omega
  have add : ∀ {w s : Int32} {m q : Nat}, w.toInt = m → m ≤ 10079 → s.toInt = (1 - q % 2 : Nat) → ((2 : Int32) * w + s).toInt = ((2 * m + (1 - q % 2) : Nat) : Int) := by
    intro w s m q a1 a2 a3
    rw [n_add, n_mul, a1, a3, l_2]
    simp (disch := omega) only [n_bm]
    omega
  have m1 : ∀ {w : Int32} {q : Nat}, w.toInt = q → (w - w / (2 : Int32) * (2 : Int32)).toInt = (q : Int) % 2 := by
    intro w q a
    rw [n_mod2 (by omega), a]
  have mid : ∀ s : Int32, s.toInt = (1 - k % 2 : Nat) → sat (qX12_isAheadOf_29 x1 x2 s ((2 : Int32) * v) h) fun y => y.2 = h ∧ ((y.1 = 1 ∧ (tPos T t d k < tPos T t2 d2 k2 ∨ tPos T t d k = tPos T t2 d2 k2 ∧ 7 * t + d < 7 * t2 + d2)) ∨ (y.1 = 0 ∧ ¬ (tPos T t d k < tPos T t2 d2 k2 ∨ tPos T t d k = tPos T t2 d2 k2 ∧ 7 * t + d < 7 * t2 + d2))) := by
    intro s hs
    refine uqX12_isAheadOf_29 ?_
    unfold BX12_isAheadOf_29
    refine sat_gd (vp80 e2 hb2) (sat_call p2 (sat_gd (vp80 e2 hb2) ?_))
    by_cases q : k2 % 2 = 0
    · exact sat_pos (n_eq.mpr (by rw [m1 kv2, l_0]; omega)) (fin _ _ _ _ (add r l1 hs) (add r2 l2 (by rw [l_1]; omega)))
    · exact sat_neg (fun z => q (by have := n_eq.mp z; rw [m1 kv2, l_0] at this; omega)) (fin _ _ _ _ (add r l1 hs) (add r2 l2 (by rw [l_0]; omega)))
  unfold qX12_isAheadOf
  refine uqX12_isAheadOf_0 ?_
  unfold BX12_isAheadOf_0
  refine sat_gd (vp80 e1 hb) (sat_call p (sat_gd (vp80 e1 hb) ?_))
  by_cases q : k % 2 = 0
  · exact sat_pos (n_eq.mpr (by rw [m1 kv, l_0]; omega)) (mid 1 (by rw [l_1]; omega))
  · exact sat_neg (fun z => q (by have := n_eq.mp z; rw [m1 kv, l_0] at this; omega)) (mid 0 (by rw [l_0]; omega))
