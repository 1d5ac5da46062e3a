/-! call trueMinute -/
def pM (s lo hi m mi : Int) : Prop := ∃ g, lo ≤ g ∧ g ≤ hi ∧ sh (mi - s) g = m - s
def pFst (P : Int → Prop) (s r : Int) : Prop := (r = -1 ∧ ∀ x, s ≤ x → x ≤ 10079 → ¬ P x) ∨ ((s ≤ r ∧ r ≤ 10079) ∧ P r ∧ ∀ x, s ≤ x → x < r → ¬ P x)
def pLst (P : Int → Prop) (s r : Int) : Prop := (r = -1 ∧ ∀ x, s ≤ x → x ≤ 10079 → ¬ P x) ∨ ((s ≤ r ∧ r ≤ 10079) ∧ P r ∧ ∀ x, r < x → x ≤ 10079 → ¬ P x)
theorem pFst_u {P : Int → Prop} {s r r' : Int} (s0 : 0 ≤ s) (h : pFst P s r) (h' : pFst P s r') : r = r' := by
  rcases h with ⟨a1, a2⟩ | ⟨a1, a2, a3⟩ <;> rcases h' with ⟨b1, b2⟩ | ⟨b1, b2, b3⟩
  · omega
  · exact absurd b2 (a2 _ b1.1 b1.2)
  · exact absurd a2 (b2 _ a1.1 a1.2)
  · have h1 : ¬ r < r' := fun z => b3 r a1.1 z a2
    have h2 : ¬ r' < r := fun z => a3 r' b1.1 z b2
    omega
theorem pLst_u {P : Int → Prop} {s r r' : Int} (s0 : 0 ≤ s) (h : pLst P s r) (h' : pLst P s r') : r = r' := by
  rcases h with ⟨a1, a2⟩ | ⟨a1, a2, a3⟩ <;> rcases h' with ⟨b1, b2⟩ | ⟨b1, b2, b3⟩
  · omega
  · exact absurd b2 (a2 _ b1.1 b1.2)
  · exact absurd a2 (b2 _ a1.1 a1.2)
  · have h1 : ¬ r < r' := fun z => a3 r' z b1.2 b2
    have h2 : ¬ r' < r := fun z => b3 r z a1.2 a2
    omega
section TM
variable {t : Nat} {s lo hi m : Int} {h : ea_H}
theorem c_mayShow {x1 x2 : Int32} {mi : Int} (e1 : x1.toInt = mi - s) (e2 : x2.toInt = m - s) (ht : t < 10) (hs : ShC h) (c1 : hI h (316 + t) 1 = lo) (c2 : hI h (316 + t) 2 = hi) (m0 : s ≤ mi) (s0 : 0 ≤ s) (m1 : mi ≤ 10079) (g0 : -60 ≤ lo) (g1 : hi ≤ 60) (hlh : lo ≤ hi) :
    ∃ v, qX2_mayShow (316 + t) x1 x2 h = some (v, h) ∧ ((v = 1 ∧ pM s lo hi m mi) ∨ (v = 0 ∧ ¬ pM s lo hi m mi)) := by
  obtain ⟨-, k2⟩ := clk_ref hs ht
  have lv : (ea_i h (316 + t) 1).toInt = lo := c1
  have hv : (ea_i h (316 + t) 2).toInt = hi := c2
  have H31 : ∀ (k : Nat) (g : Int) (x3 : Int32), g + k = hi + 1 → x3.toInt = g → lo ≤ g → (∀ x, lo ≤ x → x < g → sh (mi - s) x ≠ m - s) → sat (qX2_mayShow_31 (316 + t) x1 x2 x3 h) fun y => y.2 = h ∧ ((y.1 = 1 ∧ pM s lo hi m mi) ∨ (y.1 = 0 ∧ ¬ pM s lo hi m mi)) := by
    intro k
    induction k with
    | zero =>
      intro g x3 hk e3 hg inv
      refine uqX2_mayShow_31 ?_
      unfold BX2_mayShow_31
      refine sat_gd k2 (sat_pos (by rw [n_lt, hv, e3]; omega) (sat_ret ⟨rfl, Or.inr ⟨rfl, ?_⟩⟩))
      rintro ⟨x, q1, q2, q3⟩
      exact inv x q1 (by omega) q3
    | succ k ih =>
      intro g x3 hk e3 hg inv
      obtain ⟨v, p, r⟩ := c_shown e1 e3 (by omega) (by omega) (by omega) (by omega) h
      refine uqX2_mayShow_31 ?_
      unfold BX2_mayShow_31
      refine sat_gd k2 (sat_neg (by rw [n_lt, hv, e3]; omega) (sat_call p ?_))
      refine sat_ite (fun c => ?_) fun c => ?_
      · rw [n_eq, r, e2] at c
        exact sat_ret ⟨rfl, Or.inl ⟨rfl, g, hg, by omega, c⟩⟩
      · rw [n_eq, r, e2] at c
        refine ih (g + 1) (x3 + 1) (by omega) (by rw [n_add, e3, l_1, n_bm (by omega) (by omega)]) (by omega) fun x q1 q2 => ?_
        by_cases w : x < g
        · exact inv x q1 w
        · rw [show x = g by omega]
          exact c
  have H : sat (qX2_mayShow (316 + t) x1 x2 h) fun y => y.2 = h ∧ ((y.1 = 1 ∧ pM s lo hi m mi) ∨ (y.1 = 0 ∧ ¬ pM s lo hi m mi)) := by
    obtain ⟨v, p, r⟩ := c_shown e1 lv (by omega) (by omega) (by omega) (by omega) h
    obtain ⟨v2, p2, r2⟩ := c_shown e1 hv (by omega) (by omega) (by omega) (by omega) h
    unfold qX2_mayShow
    refine uqX2_mayShow_0 ?_
    unfold BX2_mayShow_0
    refine sat_gd k2 (sat_call p ?_)
    refine sat_ite (fun c => ?_) fun c => ?_
    · rw [n_lt, r, e2] at c
      refine sat_ret ⟨rfl, Or.inr ⟨rfl, ?_⟩⟩
      rintro ⟨x, q1, q2, q3⟩
      have := sh_mono (a := mi - s) (g := lo) (g' := x) (by omega) q1
      omega
    refine sat_gd k2 (sat_call p2 ?_)
    refine sat_eti (fun c2 => ?_) fun c2 => ?_
    · rw [n_le, r2, e2] at c2
      refine sat_ret ⟨rfl, Or.inr ⟨rfl, ?_⟩⟩
      rintro ⟨x, q1, q2, q3⟩
      have := sh_mono (a := mi - s) (g := x) (g' := hi) (by omega) q2
      omega
    exact sat_gd k2 (sat_sub (H31 (hi + 1 - lo).toNat lo _ (by omega) lv (Int.le_refl _) fun x q1 q2 => by omega))
  obtain ⟨⟨v, h2⟩, q1, q2, q3⟩ := H
  have q2 : h2 = h := q2
  subst q2
  exact ⟨v, q1, q3⟩
theorem m_mayShow {x1 x2 x3 : Int32} {mi : Int} (e1 : x1.toInt = t) (e2 : x2.toInt = m) (e3 : x3.toInt = mi) (ht : t < 10) (c0 : hI h 406 t = s) (c1 : hI h 404 t = lo) (c2 : hI h 405 t = hi) (m0 : s ≤ mi) (s0 : 0 ≤ s) (m1 : mi ≤ 10079) (g0 : -60 ≤ lo) (g1 : hi ≤ 60) (hlh : lo ≤ hi) :
    ∃ v, qX12_mayShow x1 x2 x3 h = some (v, h) ∧ ((v = 1 ∧ pM s lo hi m mi) ∨ (v = 0 ∧ ¬ pM s lo hi m mi)) := by
  have ic1 : x1.toNatClampNeg = t := by
    rw [n_idx, e1]
    rfl
  have lv : (ea_i h 404 t).toInt = lo := c1
  have hv : (ea_i h 405 t).toInt = hi := c2
  have H11 : ∀ (k : Nat) (g : Int) (x4 x5 : Int32), g + k = hi + 1 → x5.toInt = g → lo ≤ g → ((x4 = 1 ∧ pM s lo hi m mi) ∨ (x4 = 0 ∧ ∀ x, lo ≤ x → x < g → sh (mi - s) x ≠ m - s)) → sat (qX12_mayShow_11 x1 x2 x3 x4 x5 h) fun y => y.2 = h ∧ ((y.1 = 1 ∧ pM s lo hi m mi) ∨ (y.1 = 0 ∧ ¬ pM s lo hi m mi)) := by
    intro k
    induction k with
    | zero =>
      intro g x4 x5 hk e5 hg inv
      refine uqX12_mayShow_11 ?_
      unfold BX12_mayShow_11
      rw [ic1]
      refine sat_gd (vp80 e1 ht) (sat_pos (by rw [n_lt, hv, e5]; omega) ?_)
      rcases inv with ⟨i1, i2⟩ | ⟨i1, i2⟩
      · exact sat_gd (Or.inr i1) (sat_ret ⟨rfl, Or.inl ⟨i1, i2⟩⟩)
      · refine sat_gd (Or.inl i1) (sat_ret ⟨rfl, Or.inr ⟨i1, ?_⟩⟩)
        rintro ⟨x, q1, q2, q3⟩
        exact i2 x q1 (by omega) q3
    | succ k ih =>
      intro g x4 x5 hk e5 hg inv
      have e51 : (x5 + 1).toInt = g + 1 := by rw [n_add, e5, l_1, n_bm (by omega) (by omega)]
      obtain ⟨v, p, r⟩ := m_shows e1 e5 e3 ht c0 s0 m0 m1 (by omega) (by omega)
      refine uqX12_mayShow_11 ?_
      unfold BX12_mayShow_11
      rw [ic1]
      refine sat_gd (vp80 e1 ht) (sat_neg (by rw [n_lt, hv, e5]; omega) ?_)
      rcases inv with ⟨i1, i2⟩ | ⟨i1, i2⟩
      · refine sat_neg (by rw [i1]; exact i1_ne_0) (sat_gd (Or.inr i1) (sat_ret ⟨rfl, Or.inl ⟨i1, i2⟩⟩))
      · refine sat_pos i1 (sat_call p ?_)
        refine sat_ite (fun c => ?_) fun c => ?_
        · rw [n_eq, r, e2] at c
          exact ih (g + 1) 1 (x5 + 1) (by omega) e51 (by omega) (Or.inl ⟨rfl, g, hg, by omega, by omega⟩)
        · rw [n_eq, r, e2] at c
          refine ih (g + 1) 0 (x5 + 1) (by omega) e51 (by omega) (Or.inr ⟨rfl, fun x q1 q2 => ?_⟩)
          by_cases w : x < g
          · exact i2 x q1 w
          · rw [show x = g by omega]
            omega
  have H : sat (qX12_mayShow x1 x2 x3 h) fun y => y.2 = h ∧ ((y.1 = 1 ∧ pM s lo hi m mi) ∨ (y.1 = 0 ∧ ¬ pM s lo hi m mi)) := by
    unfold qX12_mayShow
    refine uqX12_mayShow_0 ?_
    unfold BX12_mayShow_0
    rw [ic1]
    exact sat_gd (vp80 e1 ht) (sat_sub (H11 (hi + 1 - lo).toNat lo 0 _ (by omega) lv (Int.le_refl _) (Or.inr ⟨rfl, fun x q1 q2 => by omega⟩)))
  obtain ⟨⟨v, h2⟩, q1, q2, q3⟩ := H
  have q2 : h2 = h := q2
  subst q2
  exact ⟨v, q1, q3⟩
theorem c_least {x1 : Int32} (e1 : x1.toInt = m) (ht : t < 10) (hs : ShC h) (c0 : hI h (316 + t) 0 = s) (c1 : hI h (316 + t) 1 = lo) (c2 : hI h (316 + t) 2 = hi) (s0 : 0 ≤ s) (s1 : s ≤ 10079) (g0 : -60 ≤ lo) (g1 : hi ≤ 60) (hlh : lo ≤ hi) (m2 : 0 ≤ m) (m3 : m ≤ 10079) :
    sat (qX2_least (316 + t) x1 h) fun y => y.2 = h ∧ pFst (pM s lo hi m) s y.1.toInt := by
  obtain ⟨-, k2⟩ := clk_ref hs ht
  have sv : (ea_i h (316 + t) 0).toInt = s := c0
  have d1 : (x1 - ea_i h (316 + t) 0).toInt = m - s := by rw [n_sub, e1, sv, n_bm (by omega) (by omega)]
  have H : ∀ (k : Nat) (mi : Int) (x2 : Int32), mi + k = 10080 → x2.toInt = mi → s ≤ mi → (∀ x, s ≤ x → x < mi → ¬ pM s lo hi m x) → sat (qX2_least_5 (316 + t) x1 x2 h) fun y => y.2 = h ∧ pFst (pM s lo hi m) s y.1.toInt := by
    intro k
    induction k with
    | zero =>
      intro mi x2 hk e2 hg inv
      refine uqX2_least_5 ?_
      unfold BX2_least_5
      exact sat_pos (by rw [n_lt, e2, l_10079]; omega) (sat_ret ⟨rfl, Or.inl ⟨rfl, fun x q1 q2 => inv x q1 (by omega)⟩⟩)
    | succ k ih =>
      intro mi x2 hk e2 hg inv
      have d2 : (x2 - ea_i h (316 + t) 0).toInt = mi - s := by rw [n_sub, e2, sv, n_bm (by omega) (by omega)]
      obtain ⟨v, p, r⟩ := c_mayShow (m := m) d2 d1 ht hs c1 c2 hg s0 (by omega) g0 g1 hlh
      refine uqX2_least_5 ?_
      unfold BX2_least_5
      refine sat_neg (by rw [n_lt, e2, l_10079]; omega) (sat_gd k2 (sat_gd k2 (sat_gd k2 (sat_call p ?_))))
      rcases r with ⟨r1, r2⟩ | ⟨r1, r2⟩
      · refine sat_neg (by rw [r1]; exact i1_ne_0) (sat_ret ⟨rfl, Or.inr ?_⟩)
        show (s ≤ x2.toInt ∧ x2.toInt ≤ 10079) ∧ pM s lo hi m x2.toInt ∧ ∀ x, s ≤ x → x < x2.toInt → ¬ pM s lo hi m x
        rw [e2]
        exact ⟨⟨hg, by omega⟩, r2, inv⟩
      · refine sat_pos r1 (ih (mi + 1) (x2 + 1) (by omega) (by rw [n_add, e2, l_1, n_bm (by omega) (by omega)]) (by omega) fun x q1 q2 => ?_)
        by_cases w : x < mi
        · exact inv x q1 w
        · rw [show x = mi by omega]
          exact r2
  unfold qX2_least
  refine uqX2_least_0 ?_
  unfold BX2_least_0
  exact sat_gd k2 (H (10080 - s).toNat s _ (by omega) sv (Int.le_refl _) fun x q1 q2 => by omega)
theorem c_greatest {x1 : Int32} (e1 : x1.toInt = m) (ht : t < 10) (hs : ShC h) (c0 : hI h (316 + t) 0 = s) (c1 : hI h (316 + t) 1 = lo) (c2 : hI h (316 + t) 2 = hi) (s0 : 0 ≤ s) (s1 : s ≤ 10079) (g0 : -60 ≤ lo) (g1 : hi ≤ 60) (hlh : lo ≤ hi) (m2 : 0 ≤ m) (m3 : m ≤ 10079) :
    sat (qX2_greatest (316 + t) x1 h) fun y => y.2 = h ∧ pLst (pM s lo hi m) s y.1.toInt := by
  obtain ⟨-, k2⟩ := clk_ref hs ht
  have sv : (ea_i h (316 + t) 0).toInt = s := c0
  have d1 : (x1 - ea_i h (316 + t) 0).toInt = m - s := by rw [n_sub, e1, sv, n_bm (by omega) (by omega)]
  have H : ∀ (k : Nat) (mi : Int) (x2 : Int32), mi - k = s - 1 → x2.toInt = mi → mi ≤ 10079 → (∀ x, mi < x → x ≤ 10079 → ¬ pM s lo hi m x) → sat (qX2_greatest_4 (316 + t) x1 x2 h) fun y => y.2 = h ∧ pLst (pM s lo hi m) s y.1.toInt := by
    intro k
    induction k with
    | zero =>
      intro mi x2 hk e2 hg inv
      refine uqX2_greatest_4 ?_
      unfold BX2_greatest_4
      exact sat_gd k2 (sat_pos (by rw [n_lt, e2, sv]; omega) (sat_ret ⟨rfl, Or.inl ⟨rfl, fun x q1 q2 => inv x (by omega) q2⟩⟩))
    | succ k ih =>
      intro mi x2 hk e2 hg inv
      have d2 : (x2 - ea_i h (316 + t) 0).toInt = mi - s := by rw [n_sub, e2, sv, n_bm (by omega) (by omega)]
      obtain ⟨v, p, r⟩ := c_mayShow (m := m) d2 d1 ht hs c1 c2 (by omega) s0 (by omega) g0 g1 hlh
      refine uqX2_greatest_4 ?_
      unfold BX2_greatest_4
      refine sat_gd k2 (sat_neg (by rw [n_lt, e2, sv]; omega) (sat_gd k2 (sat_gd k2 (sat_gd k2 (sat_call p ?_)))))
      rcases r with ⟨r1, r2⟩ | ⟨r1, r2⟩
      · refine sat_neg (by rw [r1]; exact i1_ne_0) (sat_ret ⟨rfl, Or.inr ?_⟩)
        show (s ≤ x2.toInt ∧ x2.toInt ≤ 10079) ∧ pM s lo hi m x2.toInt ∧ ∀ x, x2.toInt < x → x ≤ 10079 → ¬ pM s lo hi m x
        rw [e2]
        exact ⟨⟨by omega, hg⟩, r2, inv⟩
      · refine sat_pos r1 (ih (mi - 1) (x2 + (-1)) (by omega) (by rw [n_add, e2, l_m1, n_bm (by omega) (by omega)]; omega) (by omega) fun x q1 q2 => ?_)
        by_cases w : mi < x
        · exact inv x w q2
        · rw [show x = mi by omega]
          exact r2
  unfold qX2_greatest
  refine uqX2_greatest_0 ?_
  unfold BX2_greatest_0
  exact H (10080 - s).toNat 10079 _ (by omega) l_10079 (Int.le_refl _) fun x q1 q2 => by omega
theorem m_true37 {x1 x2 x3 : Int32} (e1 : x1.toInt = t) (e2 : x2.toInt = m) (e3 : x3.toInt = 0 ∨ x3.toInt = 1) (ht : t < 10) (c0 : hI h 406 t = s) (c1 : hI h 404 t = lo) (c2 : hI h 405 t = hi) (s0 : 0 ≤ s) (g0 : -60 ≤ lo) (g1 : hi ≤ 60) (hlh : lo ≤ hi) :
    ∀ (k : Nat) (mi : Int) (x4 x5 : Int32), mi + k = 10080 → x5.toInt = mi → s ≤ mi → ((x4.toInt = -1 ∧ ∀ x, s ≤ x → x < mi → ¬ pM s lo hi m x) ∨ ((s ≤ x4.toInt ∧ x4.toInt < mi) ∧ pM s lo hi m x4.toInt ∧ (x3.toInt = 0 → ∀ x, s ≤ x → x < x4.toInt → ¬ pM s lo hi m x) ∧ (x3.toInt = 1 → ∀ x, x4.toInt < x → x < mi → ¬ pM s lo hi m x))) →
      sat (qX12_trueMinute_37 x1 x2 x3 x4 x5 h) fun y => y.2 = h ∧ (x3.toInt = 0 → pFst (pM s lo hi m) s y.1.toInt) ∧ (x3.toInt = 1 → pLst (pM s lo hi m) s y.1.toInt) := by
  intro k
  induction k with
  | zero =>
    intro mi x4 x5 hk e5 hg inv
    refine uqX12_trueMinute_37 ?_
    unfold BX12_trueMinute_37
    refine sat_pos (by rw [n_lt, e5, l_10079]; omega) (sat_ret ⟨rfl, fun _ => ?_, fun _ => ?_⟩)
    · rcases inv with ⟨i1, i2⟩ | ⟨i1, i2, i3, i4⟩
      · exact Or.inl ⟨i1, fun x q1 q2 => i2 x q1 (by omega)⟩
      · exact Or.inr ⟨⟨i1.1, by show x4.toInt ≤ _; omega⟩, i2, i3 (by assumption)⟩
    · rcases inv with ⟨i1, i2⟩ | ⟨i1, i2, i3, i4⟩
      · exact Or.inl ⟨i1, fun x q1 q2 => i2 x q1 (by omega)⟩
      · exact Or.inr ⟨⟨i1.1, by show x4.toInt ≤ _; omega⟩, i2, fun x q1 q2 => i4 (by assumption) x q1 (by omega)⟩
  | succ k ih =>
    intro mi x4 x5 hk e5 hg inv
    have e51 : (x5 + 1).toInt = mi + 1 := by rw [n_add, e5, l_1, n_bm (by omega) (by omega)]
    have look : (x3.toInt = 1 ∨ x4.toInt = -1) → sat (qX12_trueMinute_56 x1 x2 x3 x4 x5 h) fun y => y.2 = h ∧ (x3.toInt = 0 → pFst (pM s lo hi m) s y.1.toInt) ∧ (x3.toInt = 1 → pLst (pM s lo hi m) s y.1.toInt) := by
      intro hl
      obtain ⟨v, p, r⟩ := m_mayShow (h := h) e1 e2 e5 ht c0 c1 c2 hg s0 (by omega) g0 g1 hlh
      refine uqX12_trueMinute_56 ?_
      unfold BX12_trueMinute_56
      refine sat_call p ?_
      rcases r with ⟨r1, r2⟩ | ⟨r1, r2⟩
      · refine sat_neg (by rw [r1]; exact i1_ne_0) (ih (mi + 1) x5 (x5 + 1) (by omega) e51 (by omega) (Or.inr ?_))
        rw [e5]
        refine ⟨⟨hg, by omega⟩, r2, fun q x q1 q2 => ?_, fun _ x q1 q2 => by omega⟩
        rcases inv with ⟨i1, i2⟩ | ⟨i1, i2, i3, i4⟩
        · exact i2 x q1 q2
        · omega
      · refine sat_pos r1 (ih (mi + 1) x4 (x5 + 1) (by omega) e51 (by omega) ?_)
        rcases inv with ⟨i1, i2⟩ | ⟨i1, i2, i3, i4⟩
        · refine Or.inl ⟨i1, fun x q1 q2 => ?_⟩
          by_cases w : x < mi
          · exact i2 x q1 w
          · rw [show x = mi by omega]
            exact r2
        · refine Or.inr ⟨⟨i1.1, by omega⟩, i2, i3, fun q x q1 q2 => ?_⟩
          by_cases w : x < mi
          · exact i4 q x q1 w
          · rw [show x = mi by omega]
            exact r2
    refine uqX12_trueMinute_37 ?_
    unfold BX12_trueMinute_37
    refine sat_neg (by rw [n_lt, e5, l_10079]; omega) ?_
    refine sat_ite (fun c => ?_) fun c => ?_
    · rw [n_eq, l_1] at c
      exact look (Or.inl c)
    rw [n_eq, l_1] at c
    refine sat_ite (fun c4 => ?_) fun c4 => ?_
    · rw [n_eq, l_m1] at c4
      exact look (Or.inr c4)
    rw [n_eq, l_m1] at c4
    rcases inv with ⟨i1, i2⟩ | ⟨i1, i2, i3, i4⟩
    · exact absurd i1 c4
    · exact sat_ret ⟨rfl, fun q => Or.inr ⟨⟨i1.1, by show x4.toInt ≤ _; omega⟩, i2, i3 q⟩, fun q => absurd q c⟩
end TM
theorem call_trueMinute {h : ea_H} {n : Nat} {T : Nat → Nat → Nat → Nat} (hs : ShC h) (bs : SBas h n) (b : STb h T) (c : SCk h) (x1 x2 x3 : Int32) : tw (qX11_trueMinute x1 x2 x3 h) (qX12_trueMinute x1 x2 x3) fun h' => h' = h := by
  obtain ⟨ok, cC, cM⟩ := b
  obtain ⟨b1, b2, b3, -⟩ := bs
  have ok1 := ok.1
  have hN : hI h 5 0 = tN T := cC.1
  have hN1 : hI h 326 2 = tN T := cM.1
  have no : ¬ ((0 ≤ x1.toInt ∧ x1.toInt < tN T) ∧ (0 ≤ x2.toInt ∧ x2.toInt ≤ 10079) ∧ 0 ≤ x3.toInt ∧ x3.toInt ≤ 1) → sat (some ((-1 : Int32), h)) fun y => sat (qX12_trueMinute x1 x2 x3 y.2) fun z => y.1 = z.1 ∧ z.2 = h := by
    intro hc
    refine sat_ret ?_
    show sat (qX12_trueMinute x1 x2 x3 h) _
    unfold qX12_trueMinute
    refine uqX12_trueMinute_0 ?_
    unfold BX12_trueMinute_0
    obtain ⟨v2, q2, s2⟩ := m_isTrain x1 (h := h) (by omega)
    refine sat_call q2 ?_
    rcases s2 with ⟨r2, s2⟩ | ⟨r2, s2⟩
    · exact sat_pos r2 (sat_ret ⟨rfl, rfl⟩)
    refine sat_neg (by rw [r2]; exact i1_ne_0) ?_
    dsimp only
    obtain ⟨v3, q3, s3⟩ := m_isMinute x2 h
    refine sat_call q3 ?_
    rcases s3 with ⟨r3, s3⟩ | ⟨r3, s3⟩
    · exact sat_pos r3 (sat_ret ⟨rfl, rfl⟩)
    refine sat_neg (by rw [r3]; exact i1_ne_0) ?_
    dsimp only
    obtain ⟨vi, qi, si⟩ := m_isIn x3 0 1 h
    rw [l_0, l_1] at si
    refine sat_call qi ?_
    rcases si with ⟨ri, si⟩ | ⟨ri, si⟩
    · exact sat_pos ri (sat_ret ⟨rfl, rfl⟩)
    · omega
  unfold tw qX11_trueMinute BX11_trueMinute_0
  obtain ⟨v1, q1, s1⟩ := c_train x1 h
  refine sat_call q1 ?_
  rcases s1 with ⟨r1, s1⟩ | ⟨r1, s1⟩
  · exact sat_pos r1 (no (by omega))
  refine sat_neg (by rw [r1]; exact i1_ne_0) ?_
  dsimp only
  refine sat_ite (fun d1 => ?_) fun d1 => ?_
  · simp only [n_lt, n_le, n_eq, hI_eq, l_m1000, l_m100, l_m60, l_m19, l_m18, l_m17, l_m16, l_m15, l_m14, l_m13, l_m12, l_m11, l_m10, l_m8, l_m1, l_0, l_1, l_2, l_3, l_4, l_5, l_6, l_7, l_8, l_9, l_10, l_11, l_12, l_13, l_14, l_15, l_16, l_17, l_18, l_19, l_20, l_21, l_24, l_25, l_32, l_40, l_41, l_42, l_43, l_45, l_47, l_48, l_57, l_59, l_60, l_61, l_62, l_63, l_64, l_65, l_70, l_80, l_90, l_97, l_99, l_100, l_120, l_122, l_127, l_144, l_150, l_201, l_202, l_203, l_204, l_205, l_206, l_207, l_255, l_300, l_364, l_480, l_560, l_600, l_601, l_620, l_840, l_900, l_980, l_999, l_1000, l_1023, l_1024, l_1220, l_1439, l_1440, l_2240, l_2400, l_3000, l_3600, l_4095, l_4096, l_7320, l_9999, l_10079, l_10080, l_12000, l_99999, l_120000, l_1000000, l_2147483647] at d1
    exact no (by omega)
  simp only [n_lt, n_le, n_eq, hI_eq, l_m1000, l_m100, l_m60, l_m19, l_m18, l_m17, l_m16, l_m15, l_m14, l_m13, l_m12, l_m11, l_m10, l_m8, l_m1, l_0, l_1, l_2, l_3, l_4, l_5, l_6, l_7, l_8, l_9, l_10, l_11, l_12, l_13, l_14, l_15, l_16, l_17, l_18, l_19, l_20, l_21, l_24, l_25, l_32, l_40, l_41, l_42, l_43, l_45, l_47, l_48, l_57, l_59, l_60, l_61, l_62, l_63, l_64, l_65, l_70, l_80, l_90, l_97, l_99, l_100, l_120, l_122, l_127, l_144, l_150, l_201, l_202, l_203, l_204, l_205, l_206, l_207, l_255, l_300, l_364, l_480, l_560, l_600, l_601, l_620, l_840, l_900, l_980, l_999, l_1000, l_1023, l_1024, l_1220, l_1439, l_1440, l_2240, l_2400, l_3000, l_3600, l_4095, l_4096, l_7320, l_9999, l_10079, l_10080, l_12000, l_99999, l_120000, l_1000000, l_2147483647] at d1
  refine sat_eti (fun d2 => ?_) fun d2 => ?_
  · simp only [n_lt, n_le, n_eq, hI_eq, l_m1000, l_m100, l_m60, l_m19, l_m18, l_m17, l_m16, l_m15, l_m14, l_m13, l_m12, l_m11, l_m10, l_m8, l_m1, l_0, l_1, l_2, l_3, l_4, l_5, l_6, l_7, l_8, l_9, l_10, l_11, l_12, l_13, l_14, l_15, l_16, l_17, l_18, l_19, l_20, l_21, l_24, l_25, l_32, l_40, l_41, l_42, l_43, l_45, l_47, l_48, l_57, l_59, l_60, l_61, l_62, l_63, l_64, l_65, l_70, l_80, l_90, l_97, l_99, l_100, l_120, l_122, l_127, l_144, l_150, l_201, l_202, l_203, l_204, l_205, l_206, l_207, l_255, l_300, l_364, l_480, l_560, l_600, l_601, l_620, l_840, l_900, l_980, l_999, l_1000, l_1023, l_1024, l_1220, l_1439, l_1440, l_2240, l_2400, l_3000, l_3600, l_4095, l_4096, l_7320, l_9999, l_10079, l_10080, l_12000, l_99999, l_120000, l_1000000, l_2147483647] at d2
    exact no (by omega)
  simp only [n_lt, n_le, n_eq, hI_eq, l_m1000, l_m100, l_m60, l_m19, l_m18, l_m17, l_m16, l_m15, l_m14, l_m13, l_m12, l_m11, l_m10, l_m8, l_m1, l_0, l_1, l_2, l_3, l_4, l_5, l_6, l_7, l_8, l_9, l_10, l_11, l_12, l_13, l_14, l_15, l_16, l_17, l_18, l_19, l_20, l_21, l_24, l_25, l_32, l_40, l_41, l_42, l_43, l_45, l_47, l_48, l_57, l_59, l_60, l_61, l_62, l_63, l_64, l_65, l_70, l_80, l_90, l_97, l_99, l_100, l_120, l_122, l_127, l_144, l_150, l_201, l_202, l_203, l_204, l_205, l_206, l_207, l_255, l_300, l_364, l_480, l_560, l_600, l_601, l_620, l_840, l_900, l_980, l_999, l_1000, l_1023, l_1024, l_1220, l_1439, l_1440, l_2240, l_2400, l_3000, l_3600, l_4095, l_4096, l_7320, l_9999, l_10079, l_10080, l_12000, l_99999, l_120000, l_1000000, l_2147483647] at d2
  have e1 : x1.toInt = (x1.toInt.toNat : Int) := by omega
  have ht : x1.toInt.toNat < 10 := by omega
  generalize x1.toInt.toNat = t at *
  have ic1 : x1.toNatClampNeg = t := by
    rw [n_idx, e1]
    rfl
  obtain ⟨k1, k2⟩ := clk_ref hs ht
  obtain ⟨w1, ⟨w2, w3⟩, w4, w5, w6, w7, w8⟩ := c t ht
  have ref : (0 ≤ x3.toInt ∧ x3.toInt ≤ 1) → ∀ v : Int32, (x3.toInt = 0 → pFst (pM (hI h 406 t) (hI h 404 t) (hI h 405 t) x2.toInt) (hI h 406 t) v.toInt) → (x3.toInt = 1 → pLst (pM (hI h 406 t) (hI h 404 t) (hI h 405 t) x2.toInt) (hI h 406 t) v.toInt) → sat (qX12_trueMinute x1 x2 x3 h) fun z => v = z.1 ∧ z.2 = h := by
    intro h3 v v0 v1
    unfold qX12_trueMinute
    refine uqX12_trueMinute_0 ?_
    unfold BX12_trueMinute_0
    obtain ⟨v2, q2, s2⟩ := m_isTrain x1 (h := h) (by omega)
    refine sat_call q2 ?_
    rcases s2 with ⟨r2, s2⟩ | ⟨r2, s2⟩
    · exact sat_pos r2 (absurd s2 (by omega))
    refine sat_neg (by rw [r2]; exact i1_ne_0) ?_
    dsimp only
    obtain ⟨v3, q3, s3⟩ := m_isMinute x2 h
    refine sat_call q3 ?_
    rcases s3 with ⟨r3, s3⟩ | ⟨r3, s3⟩
    · exact sat_pos r3 (absurd s3 (by omega))
    refine sat_neg (by rw [r3]; exact i1_ne_0) ?_
    dsimp only
    obtain ⟨vi, qi, si⟩ := m_isIn x3 0 1 h
    rw [l_0, l_1] at si
    refine sat_call qi ?_
    rcases si with ⟨ri, si⟩ | ⟨ri, si⟩
    · exact absurd h3 si
    refine sat_neg (by rw [ri]; exact i1_ne_0) ?_
    dsimp only
    rw [ic1]
    refine sat_gd (vp80 e1 ht) (sat_sub ?_)
    refine sat_mono (m_true37 e1 rfl (by omega) ht rfl rfl rfl w2 w6 w8 w7 (10080 - hI h 406 t).toNat (hI h 406 t) (-1) _ (by omega) rfl (Int.le_refl _) (Or.inl ⟨rfl, fun x q1 q2 => by omega⟩)) fun y hy => ⟨?_, hy.1⟩
    have hc : x3.toInt = 0 ∨ x3.toInt = 1 := by omega
    rcases hc with hc | hc
    · exact n_eq.mpr (pFst_u w2 (v0 hc) (hy.2.1 hc))
    · exact n_eq.mpr (pLst_u w2 (v1 hc) (hy.2.2 hc))
  rw [ic1, k1]
  refine sat_ite (fun k => sat_gd (vp80 e1 ht) (sat_gd rfl (sat_gd k2 ?_))) fun n0 => ?_
  · refine sat_bind (c_least (m := x2.toInt) rfl ht hs w1 w4 w5 w2 (by omega) w6 w8 w7 (by omega) (by omega)) fun y hy => sat_ret ?_
    show sat (qX12_trueMinute x1 x2 x3 y.2) _
    rw [hy.1]
    exact ref (by omega) y.1 (fun _ => hy.2) fun z => by omega
  refine sat_ite (fun k => sat_gd (vp80 e1 ht) (sat_gd rfl (sat_gd k2 ?_))) fun n1 => ?_
  · refine sat_bind (c_greatest (m := x2.toInt) rfl ht hs w1 w4 w5 w2 (by omega) w6 w8 w7 (by omega) (by omega)) fun y hy => sat_ret ?_
    show sat (qX12_trueMinute x1 x2 x3 y.2) _
    rw [hy.1]
    exact ref (by omega) y.1 (fun z => by omega) fun _ => hy.2
  exact no (by omega)
