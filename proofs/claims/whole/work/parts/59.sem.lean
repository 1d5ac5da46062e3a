/-! the class's call way -/
theorem c_ofs2 {y1 : Int64} {v : Nat} (e : y1.toInt = v) (hv : v < 30000000000) (h : ea_H) : (∃ w, qX10_minuteOf y1 h = some (w, h) ∧ w.toInt = ((v / 2097152 : Nat) : Int)) ∧ ∃ w, qX10_runsOf y1 h = some (w, h) ∧ w.toInt = ((v / 8192 % 256 : Nat) : Int) := by
  have a1 : (Int64.toInt32 (y1 >>> (Int32.toInt64 21 &&& 63))).toInt = (v : Int) / 2097152 := by
    rw [n_l2i (by rw [s_shrJ_21, e]; omega) (by rw [s_shrJ_21, e]; omega), s_shrJ_21, e]
  have a2 : (Int64.toInt32 (y1 >>> (Int32.toInt64 13 &&& 63))).toInt = (v : Int) / 8192 := by
    rw [n_l2i (by rw [s_shrJ_13, e]; omega) (by rw [s_shrJ_13, e]; omega), s_shrJ_13, e]
  refine ⟨⟨_, rfl, ?_⟩, ⟨_, rfl, ?_⟩⟩
  · rw [a1]
    omega
  · rw [s_and_255 (by rw [a2]; omega), a2]
    omega
theorem c_has (x1 : Int32) (h : ea_H) : ∃ v, qX7_has x1 h = some (v, h) ∧ ((v = 0 ∧ ¬ (0 ≤ x1.toInt ∧ x1.toInt < hI h 1 0)) ∨ (v = 1 ∧ 0 ≤ x1.toInt ∧ x1.toInt < hI h 1 0)) := by
  unfold qX7_has BX7_has_0
  by_cases c1 : x1 < (0 : Int32)
  · refine ⟨0, if_pos c1, Or.inl ⟨rfl, ?_⟩⟩
    rw [n_lt] at c1
    have : x1.toInt < 0 := c1
    omega
  · have d1 : ¬ x1.toInt < 0 := fun q => c1 (n_lt.mpr q)
    by_cases c2 : ea_i h 1 0 ≤ x1
    · refine ⟨0, (if_neg c1).trans (if_pos c2), Or.inl ⟨rfl, ?_⟩⟩
      rw [n_le, hI_eq] at c2
      omega
    · refine ⟨1, (if_neg c1).trans (if_neg c2), Or.inr ⟨rfl, ?_⟩⟩
      rw [n_le, hI_eq] at c2
      omega
theorem wFrom_wL {L : List Nat} (h : wL L) (m : Nat) : wL (wFrom L m) := by
  obtain ⟨P, q1, -⟩ := wFrom_app h m
  exact wL_tail (P := P) (q1 ▸ h)
theorem wFrom_len (L : List Nat) (m : Nat) : (wFrom L m).length ≤ L.length := List.length_filter_le _ _
theorem i1_ne_0 : ¬ (1 : Int32) = 0 := by decide
def wAns (v : Nat) (w : Int) : Int := if v = NOW then -1 else if w = 0 then ((v / 2097152 : Nat) : Int) else if w = 1 then ((v / 8192 % 256 : Nat) : Int) else if w = 2 then ((v / 512 % 16 : Nat) : Int) else if w = 3 then ((v / 64 % 8 : Nat) : Int) else if w = 4 then ((v / 8 % 8 : Nat) : Int) else if w = 5 then ((v % 8 : Nat) : Int) else -1
def wWay (tw : Nat → Nat → Nat) (L : List Nat) (n now a m b w : Int) : Int := if (0 ≤ a ∧ a < n) ∧ (0 ≤ b ∧ b < n) ∧ a ≠ b ∧ now ≤ m ∧ m ≤ 10079 then wAns ((wRS tw (wFrom L m.toNat)).2 a.toNat b.toNat) w else -1
theorem c_way {T : Nat → Nat → Nat → Nat} (ok : tOk T) (x1 x2 x3 x4 : Int32) {h : ea_H} (hs : ShC h) (hT : CTab h T) (hf : hI h 13 0 = 0 ∨ hI h 13 0 = 1 ∧ WaysC T h) {L : List Nat} (hL : tList T L) (hn : hI h 1 0 ≤ 12) (hnow : 0 ≤ hI h 0 14) :
    sat (qX11_way x1 x2 x3 x4 h) fun y => fr [(13, 17)] h y.2 ∧ (hI y.2 13 0 = 0 ∨ hI y.2 13 0 = 1 ∧ WaysC T y.2) ∧ y.1.toInt = wWay (tW T) L (hI h 1 0) (hI h 0 14) x1.toInt x2.toInt x3.toInt x4.toInt := by
  have no : ∀ {c : Int}, ¬ ((0 ≤ x1.toInt ∧ x1.toInt < hI h 1 0) ∧ (0 ≤ x3.toInt ∧ x3.toInt < hI h 1 0) ∧ x1.toInt ≠ x3.toInt ∧ hI h 0 14 ≤ x2.toInt ∧ x2.toInt ≤ 10079) → c = -1 → sat (some ((-1 : Int32), h)) fun y => fr [(13, 17)] h y.2 ∧ (hI y.2 13 0 = 0 ∨ hI y.2 13 0 = 1 ∧ WaysC T y.2) ∧ y.1.toInt = wWay (tW T) L (hI h 1 0) (hI h 0 14) x1.toInt x2.toInt x3.toInt x4.toInt := by
    intro c hc _
    refine sat_ret ⟨fr_rfl _ _, hf, ?_⟩
    unfold wWay
    rw [if_neg hc]
    rfl
  unfold qX11_way BX11_way_0
  obtain ⟨v1, q1, r1⟩ := c_has x1 h
  refine sat_call q1 ?_
  rcases r1 with ⟨r1, s1⟩ | ⟨r1, s1⟩
  · exact sat_pos r1 (no (fun q => s1 q.1) rfl)
  refine sat_neg (by rw [r1]; exact i1_ne_0) ?_
  obtain ⟨v3, q3, r3⟩ := c_has x3 h
  refine sat_call q3 ?_
  rcases r3 with ⟨r3, s3⟩ | ⟨r3, s3⟩
  · exact sat_pos r3 (no (fun q => s3 q.2.1) rfl)
  refine sat_neg (by rw [r3]; exact i1_ne_0) ?_
  by_cases c1 : x1 = x3
  · exact sat_pos c1 (no (fun q => q.2.2.1 (n_eq.mp c1)) rfl)
  refine sat_neg c1 ?_
  have d1 : x1.toInt ≠ x3.toInt := fun q => c1 (n_eq.mpr q)
  by_cases c2 : x2 < ea_i h 0 14
  · have d2 : x2.toInt < hI h 0 14 := n_lt.mp c2
    exact sat_pos c2 (no (fun q => by omega) rfl)
  refine sat_neg c2 ?_
  have d2 : hI h 0 14 ≤ x2.toInt := Int.not_lt.mp fun q => c2 (n_lt.mpr q)
  by_cases c3 : x2 ≤ (10079 : Int32)
  case neg =>
    have d3 : ¬ x2.toInt ≤ 10079 := fun q => c3 (n_le.mpr q)
    exact sat_neg c3 (no (fun q => d3 q.2.2.2.2) rfl)
  have d3 : x2.toInt ≤ 10079 := n_le.mp c3
  have hcond : (0 ≤ x1.toInt ∧ x1.toInt < hI h 1 0) ∧ (0 ≤ x3.toInt ∧ x3.toInt < hI h 1 0) ∧ x1.toInt ≠ x3.toInt ∧ hI h 0 14 ≤ x2.toInt ∧ x2.toInt ≤ 10079 := ⟨s1, s3, d1, d2, d3⟩
  have hwy : wWay (tW T) L (hI h 1 0) (hI h 0 14) x1.toInt x2.toInt x3.toInt x4.toInt = wAns ((wRS (tW T) (wFrom L x2.toInt.toNat)).2 x1.toInt.toNat x3.toInt.toNat) x4.toInt := by
    unfold wWay
    exact if_pos hcond
  have ht : x3.toInt.toNat < 12 := by omega
  have e1 : x1.toInt = (x1.toInt.toNat : Int) := by omega
  have e2 : x2.toInt = (x2.toInt.toNat : Int) := by omega
  have e3 : x3.toInt = (x3.toInt.toNat : Int) := by omega
  refine sat_pos c3 (sat_bind (c_bestFrom ok ht e1 e2 e3 hs hT hf hL) fun w hw => ?_)
  obtain ⟨w1, w2, w3, w4⟩ := hw
  rw [hwy]
  have hNS := NOW_S (tw := tW T) (S := wFrom L x2.toInt.toNat) (wFrom_wL (t_wL ok hL) _) (Nat.le_trans (wFrom_len _ _) (Nat.le_trans (t_len2 ok hL) (by decide))) x1.toInt.toNat x3.toInt.toNat
  generalize (wRS (tW T) (wFrom L x2.toInt.toNat)).2 x1.toInt.toNat x3.toInt.toNat = v at w4 hNS
  by_cases hv : v = NOW
  · refine sat_pos (by rw [lg_eq0, n_eqJ, w4, lJ_max, hv]; rfl) (sat_ret ⟨w1, Or.inr ⟨w2, w3⟩, ?_⟩)
    unfold wAns
    rw [if_pos hv]
    rfl
  have hb := hNS hv
  refine sat_neg (by rw [lg_eq0, n_eqJ, w4, lJ_max]; omega) ?_
  obtain ⟨⟨u0, p0, g0⟩, ⟨u1, p1, g1⟩⟩ := c_ofs2 w4 hb w.2
  obtain ⟨⟨u2, p2, g2⟩, ⟨u3, p3, g3⟩, ⟨u4, p4, g4⟩, ⟨u5, p5, g5⟩⟩ := c_ofs w4 w.2
  unfold wAns
  rw [if_neg hv]
  by_cases k0 : x4.toInt = 0
  · exact sat_pos k0 (sat_call p0 (sat_ret ⟨w1, Or.inr ⟨w2, w3⟩, g0.trans (if_pos k0).symm⟩))
  refine sat_neg k0 ?_
  rw [if_neg k0]
  by_cases k1 : x4.toInt = 1
  · exact sat_pos k1 (sat_call p1 (sat_ret ⟨w1, Or.inr ⟨w2, w3⟩, g1.trans (if_pos k1).symm⟩))
  refine sat_neg k1 ?_
  rw [if_neg k1]
  by_cases k2 : x4.toInt = 2
  · exact sat_pos k2 (sat_call p2 (sat_ret ⟨w1, Or.inr ⟨w2, w3⟩, g2.trans (if_pos k2).symm⟩))
  refine sat_neg k2 ?_
  rw [if_neg k2]
  by_cases k3 : x4.toInt = 3
  · exact sat_pos k3 (sat_call p3 (sat_ret ⟨w1, Or.inr ⟨w2, w3⟩, g3.trans (if_pos k3).symm⟩))
  refine sat_neg k3 ?_
  rw [if_neg k3]
  by_cases k4 : x4.toInt = 4
  · exact sat_pos k4 (sat_call p4 (sat_ret ⟨w1, Or.inr ⟨w2, w3⟩, g4.trans (if_pos k4).symm⟩))
  refine sat_neg k4 ?_
  rw [if_neg k4]
  by_cases k5 : x4.toInt = 5
  · exact sat_pos k5 (sat_call p5 (sat_ret ⟨w1, Or.inr ⟨w2, w3⟩, g5.trans (if_pos k5).symm⟩))
  refine sat_neg k5 ?_
  rw [if_neg k5]
  exact sat_ret ⟨w1, Or.inr ⟨w2, w3⟩, rfl⟩
