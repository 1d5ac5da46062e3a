/-! the reference's next happening of a run -/
theorem n_div2 {x : Int32} (h : 0 ≤ x.toInt) : (x / (2 : Int32)).toInt = x.toInt / 2 := by
  rw [Int32.toInt_div]
  show (x.toInt.tdiv 2).bmod _ = _
  rw [Int.tdiv_eq_ediv_of_nonneg h]
  have h1 := n_hi x
  exact n_bm (by omega) (by omega)
theorem n_mod2 {x : Int32} (h : 0 ≤ x.toInt) : (x - x / (2 : Int32) * (2 : Int32)).toInt = x.toInt % 2 := by
  have h1 := n_hi x
  rw [n_sub, n_mul, n_div2 h, l_2]
  simp (disch := omega) only [n_bm]
  omega
/-- the minute of a run's happening k: it goes from stop k/2 (k even) or comes to stop k/2+1 (k odd) -/
def tHap (T : Nat → Nat → Nat → Nat) (t d k : Nat) : Nat := if k % 2 = 0 then tGm T t d (k / 2) else tCm T t d (k / 2 + 1)
theorem m_minuteOf {x1 x2 : Int32} {t d k : Nat} (e1 : x1.toInt = ((7 * t + d : Nat) : Int)) (e2 : x2.toInt = k) {h : ea_H} {T : Nat → Nat → Nat → Nat} (c : MTab h T) (ok : tOk T) (ht : t < 10) (hd : d < 7) (hk : k + 2 < 2 * tS T t + (k + 1) % 2) : ∃ v, qX12_minuteOf x1 x2 h = some (v, h) ∧ v.toInt = tHap T t d k := by
  have hs := ok.2.1 t ht
  have j0 : (x2 / (2 : Int32)).toInt = ((k / 2 : Nat) : Int) := by
    rw [n_div2 (by omega), e2]
    omega
  have j1 : (x2 / (2 : Int32) + 1).toInt = ((k / 2 + 1 : Nat) : Int) := by
    rw [n_add, j0, l_1, n_bm (by omega) (by omega)]
    omega
  have j2 : (x2 - x2 / (2 : Int32) * (2 : Int32)).toInt = (k : Int) % 2 := by
    rw [n_mod2 (by omega), e2]
  refine sat_ex ?_
  unfold qX12_minuteOf BX12_minuteOf_0 tHap
  by_cases q : k % 2 = 0
  · obtain ⟨v, p, r⟩ := m_goesAt e1 j0 c ok ht hd (i := k / 2) (by omega)
    refine sat_pos (n_eq.mpr (by rw [j2, l_0]; omega)) (sat_call p (sat_ret ⟨rfl, r.trans ?_⟩))
    rw [if_pos q]
  · obtain ⟨v, p, r⟩ := m_comesAt e1 j1 c ok ht hd (i := k / 2 + 1) (by omega)
    refine sat_neg (fun z => q (by have := n_eq.mp z; rw [j2, l_0] at this; omega)) (sat_call p (sat_ret ⟨rfl, r.trans ?_⟩))
    rw [if_neg q]
