/-! the reference's call way; rules for running both sides -/
theorem bd_ite {α β : Type} {c : Prop} {_ : Decidable c} {A B : Option α} {f : α → Option β} {P : β → Prop} (h1 : c → sat (Option.bind A f) P) (h2 : ¬ c → sat (Option.bind B f) P) : sat (Option.bind (if c then A else B) f) P := by
  split
  · exact h1 (by assumption)
  · exact h2 (by assumption)
theorem bd_pos {α β : Type} {c : Prop} {_ : Decidable c} {A B : Option α} {f : α → Option β} {P : β → Prop} (h : c) (h1 : sat (Option.bind A f) P) : sat (Option.bind (if c then A else B) f) P := by rw [if_pos h]; exact h1
theorem bd_neg {α β : Type} {c : Prop} {_ : Decidable c} {A B : Option α} {f : α → Option β} {P : β → Prop} (h : ¬ c) (h1 : sat (Option.bind B f) P) : sat (Option.bind (if c then A else B) f) P := by rw [if_neg h]; exact h1
theorem bd_ret {α β : Type} {x : α} {f : α → Option β} {P : β → Prop} (h : sat (f x) P) : sat (Option.bind (some x) f) P := h
theorem bd_gd {α β : Type} {c : Prop} {A : Option α} {f : α → Option β} {P : β → Prop} (h : c) (h1 : sat (Option.bind A f) P) : sat (Option.bind (gd c A) f) P := by rw [gd_pos h]; exact h1
theorem bd_sub {α β γ : Type} {v : γ} {A : γ → Option α} {f : α → Option β} {P : β → Prop} (h : sat (Option.bind (A v) f) P) : sat (Option.bind (ea_let v A) f) P := h
theorem bd_let {α β γ : Type} {v : γ} {A : γ → Option α} {f : α → Option β} {P : β → Prop} (h : ∀ y, y = v → sat (Option.bind (A y) f) P) : sat (Option.bind (ea_let v A) f) P := h v rfl
theorem bd_bd {α β γ : Type} {A : Option γ} {g : γ → Option α} {f : α → Option β} {P : β → Prop} (h : sat (Option.bind A fun x => Option.bind (g x) f) P) : sat (Option.bind (Option.bind A g) f) P := by
  cases A with
  | none => exact h
  | some x => exact h
theorem m_isIn (x0 x1 x2 : Int32) (h : ea_H) : ∃ v, qX12_isIn x0 x1 x2 h = some (v, h) ∧ ((v = 0 ∧ ¬ (x1.toInt ≤ x0.toInt ∧ x0.toInt ≤ x2.toInt)) ∨ (v = 1 ∧ x1.toInt ≤ x0.toInt ∧ x0.toInt ≤ x2.toInt)) := by
  unfold qX12_isIn BX12_isIn_0
  by_cases c1 : x0 < x1
  · refine ⟨0, if_pos c1, Or.inl ⟨rfl, ?_⟩⟩
    rw [n_lt] at c1
    omega
  · by_cases c2 : x2 < x0
    · refine ⟨0, (if_neg c1).trans (if_pos c2), Or.inl ⟨rfl, ?_⟩⟩
      rw [n_lt] at c2
      omega
    · refine ⟨1, (if_neg c1).trans (if_neg c2), Or.inr ⟨rfl, ?_⟩⟩
      rw [n_lt] at c1 c2
      omega
theorem m_in2 {x0 x1 x2 : Int32} {h : ea_H} {v : Int32} : v = 0 ∨ v = 1 → gd (v = 0 ∨ v = 1) (some (v, h)) = some (v, h) := fun q => gd_pos q
theorem n_pred {x : Int32} (h : 0 ≤ x.toInt) : (x - (1 : Int32)).toInt = x.toInt - 1 := by
  have := n_hi x
  rw [n_sub, l_1, n_bm (by omega) (by omega)]
theorem m_isTown (x1 : Int32) {h : ea_H} (hn : 0 ≤ hI h 326 1) : ∃ v, qX12_isTown x1 h = some (v, h) ∧ ((v = 0 ∧ ¬ (0 ≤ x1.toInt ∧ x1.toInt < hI h 326 1)) ∨ (v = 1 ∧ 0 ≤ x1.toInt ∧ x1.toInt < hI h 326 1)) := by
  have e := n_pred (x := ea_i h 326 1) hn
  rw [hI_eq] at e
  obtain ⟨v, p, r⟩ := m_isIn x1 0 (ea_i h 326 1 - 1) h
  rw [e, l_0] at r
  refine ⟨v, ?_, ?_⟩
  · unfold qX12_isTown BX12_isTown_0
    rw [bd_call p]
    refine gd_pos ?_
    rcases r with ⟨r, -⟩ | ⟨r, -⟩
    · exact Or.inl r
    · exact Or.inr r
  · rcases r with ⟨r, s⟩ | ⟨r, s⟩
    · exact Or.inl ⟨r, by omega⟩
    · exact Or.inr ⟨r, by omega⟩
theorem m_isTrain (x1 : Int32) {h : ea_H} (hn : 0 ≤ hI h 326 2) : ∃ v, qX12_isTrain x1 h = some (v, h) ∧ ((v = 0 ∧ ¬ (0 ≤ x1.toInt ∧ x1.toInt < hI h 326 2)) ∨ (v = 1 ∧ 0 ≤ x1.toInt ∧ x1.toInt < hI h 326 2)) := by
  have e := n_pred (x := ea_i h 326 2) hn
  rw [hI_eq] at e
  obtain ⟨v, p, r⟩ := m_isIn x1 0 (ea_i h 326 2 - 1) h
  rw [e, l_0] at r
  refine ⟨v, ?_, ?_⟩
  · unfold qX12_isTrain BX12_isTrain_0
    rw [bd_call p]
    refine gd_pos ?_
    rcases r with ⟨r, -⟩ | ⟨r, -⟩
    · exact Or.inl r
    · exact Or.inr r
  · rcases r with ⟨r, s⟩ | ⟨r, s⟩
    · exact Or.inl ⟨r, by omega⟩
    · exact Or.inr ⟨r, by omega⟩
theorem m_isLetterOf (x1 : Int32) {h : ea_H} (hn : 0 ≤ hI h 326 63) : ∃ v, qX12_isLetterOf x1 h = some (v, h) ∧ ((v = 0 ∧ ¬ (0 ≤ x1.toInt ∧ x1.toInt < hI h 326 63)) ∨ (v = 1 ∧ 0 ≤ x1.toInt ∧ x1.toInt < hI h 326 63)) := by
  have e := n_pred (x := ea_i h 326 63) hn
  rw [hI_eq] at e
  obtain ⟨v, p, r⟩ := m_isIn x1 0 (ea_i h 326 63 - 1) h
  rw [e, l_0] at r
  refine ⟨v, ?_, ?_⟩
  · unfold qX12_isLetterOf BX12_isLetterOf_0
    rw [bd_call p]
    refine gd_pos ?_
    rcases r with ⟨r, -⟩ | ⟨r, -⟩
    · exact Or.inl r
    · exact Or.inr r
  · rcases r with ⟨r, s⟩ | ⟨r, s⟩
    · exact Or.inl ⟨r, by omega⟩
    · exact Or.inr ⟨r, by omega⟩
theorem m_isDay (x1 : Int32) (h : ea_H) : ∃ v, qX12_isDay x1 h = some (v, h) ∧ ((v = 0 ∧ ¬ (0 ≤ x1.toInt ∧ x1.toInt < 7)) ∨ (v = 1 ∧ 0 ≤ x1.toInt ∧ x1.toInt < 7)) := by
  obtain ⟨v, p, r⟩ := m_isIn x1 0 6 h
  rw [l_6, l_0] at r
  refine ⟨v, ?_, ?_⟩
  · unfold qX12_isDay BX12_isDay_0
    rw [bd_call p]
    refine gd_pos ?_
    rcases r with ⟨r, -⟩ | ⟨r, -⟩
    · exact Or.inl r
    · exact Or.inr r
  · rcases r with ⟨r, s⟩ | ⟨r, s⟩
    · exact Or.inl ⟨r, by omega⟩
    · exact Or.inr ⟨r, by omega⟩
theorem m_isMinute (x1 : Int32) (h : ea_H) : ∃ v, qX12_isMinute x1 h = some (v, h) ∧ ((v = 0 ∧ ¬ (0 ≤ x1.toInt ∧ x1.toInt ≤ 10079)) ∨ (v = 1 ∧ 0 ≤ x1.toInt ∧ x1.toInt ≤ 10079)) := by
  obtain ⟨v, p, r⟩ := m_isIn x1 0 10079 h
  rw [l_10079, l_0] at r
  refine ⟨v, ?_, ?_⟩
  · unfold qX12_isMinute BX12_isMinute_0
    rw [bd_call p]
    refine gd_pos ?_
    rcases r with ⟨r, -⟩ | ⟨r, -⟩
    · exact Or.inl r
    · exact Or.inr r
  · rcases r with ⟨r, s⟩ | ⟨r, s⟩
    · exact Or.inl ⟨r, by omega⟩
    · exact Or.inr ⟨r, by omega⟩
theorem m_way {T : Nat → Nat → Nat → Nat} {L : List Nat} (ok : tOk T) (hL : tList T L) (x1 x2 x3 x4 : Int32) {n : Nat} (hn : n ≤ 12) {h : ea_H} (hT : MTab h T) (hn1 : hI h 326 1 = n) (hk : hI h 326 12 = 0 ∨ hI h 326 12 = 1 ∧ WaysM T L n h) (hnow : 0 ≤ hI h 326 0) :
    sat (qX12_way x1 x2 x3 x4 h) fun y => fq [(336, 346)] [((326, 326), 12, 13)] h y.2 ∧ (hI y.2 326 12 = 0 ∨ hI y.2 326 12 = 1 ∧ WaysM T L n y.2) ∧ y.1.toInt = wWay (tW T) L (hI h 326 1) (hI h 326 0) x1.toInt x2.toInt x3.toInt x4.toInt := by
  have h9 := t_len2 ok hL
  have hw := t_wL ok hL
  have no : ¬ ((0 ≤ x1.toInt ∧ x1.toInt < hI h 326 1) ∧ (0 ≤ x3.toInt ∧ x3.toInt < hI h 326 1) ∧ x1.toInt ≠ x3.toInt ∧ hI h 326 0 ≤ x2.toInt ∧ x2.toInt ≤ 10079) → sat (some ((-1 : Int32), h)) fun y => fq [(336, 346)] [((326, 326), 12, 13)] h y.2 ∧ (hI y.2 326 12 = 0 ∨ hI y.2 326 12 = 1 ∧ WaysM T L n y.2) ∧ y.1.toInt = wWay (tW T) L (hI h 326 1) (hI h 326 0) x1.toInt x2.toInt x3.toInt x4.toInt := by
    intro hc
    refine sat_ret ⟨fq_rfl _ _ _, hk, ?_⟩
    unfold wWay
    rw [if_neg hc]
    rfl
  unfold qX12_way BX12_way_0
  obtain ⟨v1, q1, r1⟩ := m_isTown x1 (h := h) (by omega)
  refine sat_call q1 ?_
  rcases r1 with ⟨r1, s1⟩ | ⟨r1, s1⟩
  · exact sat_pos r1 (no (fun q => s1 q.1))
  refine sat_neg (by rw [r1]; exact i1_ne_0) ?_
  obtain ⟨v3, q3, r3⟩ := m_isTown x3 (h := h) (by omega)
  refine sat_call q3 ?_
  rcases r3 with ⟨r3, s3⟩ | ⟨r3, s3⟩
  · exact sat_pos r3 (no (fun q => s3 q.2.1))
  refine sat_neg (by rw [r3]; exact i1_ne_0) ?_
  by_cases c1 : x1 = x3
  · exact sat_pos c1 (no (fun q => q.2.2.1 (n_eq.mp c1)))
  refine sat_neg c1 ?_
  have d1 : x1.toInt ≠ x3.toInt := fun q => c1 (n_eq.mpr q)
  obtain ⟨v5, q5, r5⟩ := m_isIn x2 (ea_i h 326 0) 10079 h
  refine sat_call q5 ?_
  rw [hI_eq, l_10079] at r5
  rcases r5 with ⟨r5, s5⟩ | ⟨r5, s5⟩
  · exact sat_pos r5 (no (fun q => s5 q.2.2.2))
  refine sat_neg (by rw [r5]; exact i1_ne_0) ?_
  have hcond : (0 ≤ x1.toInt ∧ x1.toInt < hI h 326 1) ∧ (0 ≤ x3.toInt ∧ x3.toInt < hI h 326 1) ∧ x1.toInt ≠ x3.toInt ∧ hI h 326 0 ≤ x2.toInt ∧ x2.toInt ≤ 10079 := ⟨s1, s3, d1, s5⟩
  have hwy : wWay (tW T) L (hI h 326 1) (hI h 326 0) x1.toInt x2.toInt x3.toInt x4.toInt = wAns ((wRS (tW T) (wFrom L x2.toInt.toNat)).2 x1.toInt.toNat x3.toInt.toNat) x4.toInt := by
    unfold wWay
    exact if_pos hcond
  have e1 : x1.toInt = (x1.toInt.toNat : Int) := by omega
  have e2 : x2.toInt = (x2.toInt.toNat : Int) := by omega
  have e3 : x3.toInt = (x3.toInt.toNat : Int) := by omega
  rw [hwy]
  have hb3 : x3.toInt.toNat < n := by omega
  refine sat_bind (m_bestFrom ok hL hn (by omega) hb3 e1 e2 e3 hT hn1 hk) fun w hww => ?_
  obtain ⟨w1, w2, w3, w4⟩ := hww
  generalize (wRS (tW T) (wFrom L x2.toInt.toNat)).2 x1.toInt.toNat x3.toInt.toNat = v at w4
  have fin : ∀ (A : Int32) (c : Int), A.toInt = c → sat (some (A, w.2)) fun y => fq [(336, 346)] [((326, 326), 12, 13)] h y.2 ∧ (hI y.2 326 12 = 0 ∨ hI y.2 326 12 = 1 ∧ WaysM T L n y.2) ∧ y.1.toInt = c := fun A c q => sat_ret ⟨w1, Or.inr ⟨w2, w3⟩, q⟩
  rcases w4 with ⟨z1, z2⟩ | ⟨g, z1, z2, z3, z4, z5⟩
  · refine sat_pos (n_eq.mpr (by rw [z1]; rfl)) (fin _ _ ?_)
    unfold wAns
    rw [if_pos z2]
    rfl
  have hgl := z3.1
  have vn : ¬ w.1 = -1 := fun q => by
    rw [q] at z1
    have : (-1 : Int) = (g : Int) := z1
    omega
  have kk : ((12 : Int32) * w.1 + x3).toInt = 12 * (g : Int) + x3.toInt.toNat := by
    rw [n_add, n_mul, z1, l_12]
    simp (disch := omega) only [n_bm]
    omega
  have k1 : ((12 : Int32) * w.1 + x3).toInt = ((12 * g + x3.toInt.toNat : Nat) : Int) := by
    rw [kk]
    omega
  have ic : ((12 : Int32) * w.1 + x3).toNatClampNeg = 12 * g + x3.toInt.toNat := by
    rw [n_idx, k1]
    rfl
  have ic1 : w.1.toNatClampNeg = g := by
    rw [n_idx, z1]
    rfl
  have row := ((w3.2.1 g (Nat.zero_le _) _ z3).2 _ hb3).1
  rcases row with ⟨y1, -⟩ | ⟨-, y2, y3, y4⟩
  · rw [z4] at y1
    exact absurd y1 z5
  obtain ⟨a1, a2, a3, -⟩ := wF hw (wV_in z3) (by rw [z4]; exact z5)
  rw [z4] at a1 a2 a3 y2 y3 y4
  obtain ⟨-, -, b2, b3⟩ := w3.1.2 g hgl
  have hzb := (hw.2.1 _ (getD_mem hgl)).1
  have bv : (ea_i w.2 338 g).toInt = ((7 * kT (L.getD g 0) + kD (L.getD g 0) : Nat) : Int) := b2
  have g1 := vp80 k1 (show 12 * g + x3.toInt.toNat < 12000 by omega)
  have g2 := vp80 z1 (show g < 1000 by omega)
  rw [ic, ic1]
  refine sat_neg vn ?_
  unfold wAns
  rw [if_neg z5]
  by_cases k0 : x4.toInt = 0
  · exact sat_pos k0 (sat_gd g1 (fin _ _ (y2.trans (if_pos k0).symm)))
  refine sat_neg k0 ?_
  rw [if_neg k0]
  by_cases k1 : x4.toInt = 1
  · exact sat_pos k1 (sat_gd g1 (fin _ _ (y3.trans (if_pos k1).symm)))
  refine sat_neg k1 ?_
  rw [if_neg k1]
  by_cases k2 : x4.toInt = 2
  · refine sat_pos k2 (sat_gd g2 (fin _ _ ?_))
    rw [if_pos k2, n_div7 (by omega), bv, a1]
    omega
  refine sat_neg k2 ?_
  rw [if_neg k2]
  by_cases k3 : x4.toInt = 3
  · refine sat_pos k3 (sat_gd g2 (fin _ _ ?_))
    have d7 := n_div7 (x := ea_i w.2 338 g) (by omega)
    rw [if_pos k3, n_sub, n_mul, d7, bv, l_7, a2]
    simp (disch := omega) only [n_bm]
    omega
  refine sat_neg k3 ?_
  rw [if_neg k3]
  by_cases k4 : x4.toInt = 4
  · refine sat_pos k4 (sat_gd g2 (fin _ _ ?_))
    rw [if_pos k4, a3]
    exact b3
  refine sat_neg k4 ?_
  rw [if_neg k4]
  by_cases k5 : x4.toInt = 5
  · exact sat_pos k5 (sat_gd g1 (fin _ _ (y4.trans (if_pos k5).symm)))
  refine sat_neg k5 ?_
  rw [if_neg k5]
  exact fin _ _ rfl
