/-! the reference: is there more of a run -/
def tMore (T : Nat → Nat → Nat → Nat) (t d k : Nat) : Prop := k + 2 < 2 * tS T t ∧ tHap T t d k ≤ 10079
theorem m_isMore {x1 : Int32} {t d k : Nat} (e1 : x1.toInt = ((7 * t + d : Nat) : Int)) {h : ea_H} {T : Nat → Nat → Nat → Nat} (c : MTab h T) (ok : tOk T) (ht : t < 10) (hd : d < 7) (hk : hI h 340 (7 * t + d) = k) : ∃ v, qX12_isMore x1 h = some (v, h) ∧ ((v = 1 ∧ tMore T t d k) ∨ (v = 0 ∧ ¬ tMore T t d k)) := by
  have hs := ok.2.1 t ht
  have hb : 7 * t + d < 70 := by omega
  have j0 : (x1 / (7 : Int32)).toInt = t := by
    rw [n_div7 (by omega), e1]
    omega
  have kv : (ea_i h 340 x1.toNatClampNeg).toInt = k := by
    rw [hI_eq, n_idx, e1]
    exact hk
  have sv : (ea_i h 328 (x1 / (7 : Int32)).toNatClampNeg).toInt = tS T t := by
    rw [hI_eq, n_idx, j0]
    exact c.2.1 t ht
  have mv : ((2 : Int32) * (ea_i h 328 (x1 / (7 : Int32)).toNatClampNeg - (1 : Int32))).toInt = 2 * ((tS T t : Int) - 1) := by
    rw [n_mul, n_sub, sv, l_2, l_1]
    simp (disch := omega) only [n_bm]
  unfold qX12_isMore BX12_isMore_0
  rw [gd_pos (vp80 e1 hb), gd_pos (vp80 j0 ht)]
  by_cases c1 : (2 : Int32) * (ea_i h 328 (x1 / (7 : Int32)).toNatClampNeg - (1 : Int32)) ≤ ea_i h 340 x1.toNatClampNeg
  · refine ⟨0, if_pos c1, Or.inr ⟨rfl, fun q => ?_⟩⟩
    rw [n_le, mv, kv] at c1
    have := q.1
    omega
  · have d1 : k + 2 < 2 * tS T t := by
      rw [n_le, mv, kv] at c1
      omega
    obtain ⟨v, p, r⟩ := m_minuteOf e1 kv c ok ht hd (by omega)
    by_cases c2 : (10079 : Int32) < v
    · refine ⟨0, (if_neg c1).trans ((gd_pos (vp80 e1 hb)).trans ((bd_call p).trans (if_pos c2))), Or.inr ⟨rfl, fun q => ?_⟩⟩
      have h1 : (10079 : Int) < v.toInt := n_lt.mp c2
      have := q.2
      omega
    · refine ⟨1, (if_neg c1).trans ((gd_pos (vp80 e1 hb)).trans ((bd_call p).trans (if_neg c2))), Or.inl ⟨rfl, d1, ?_⟩⟩
      have h1 : ¬ (10079 : Int) < v.toInt := fun q => c2 (n_lt.mpr q)
      omega
