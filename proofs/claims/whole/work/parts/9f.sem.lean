/-! calls: charge, account -/
section AC
variable {T : Nat → Nat → Nat → Nat} {m : Nat} {X : Nat → Nat → Int} {h : ea_H}
theorem sat_at {α : Type} {A : Option α} {x : α} (H : sat A fun y => y = x) : A = some x := by
  obtain ⟨y, a, b⟩ := H
  have b : y = x := b
  rw [a, b]
/-- what a letter was charged -/
def SLc (h : ea_H) (m : Nat) : Prop := ∀ l, l < m → hI h (76 + 2 * l) 10 = hI h 374 l ∧ hI h (76 + 2 * l) 11 = hI h 373 l ∧ hI h (76 + 2 * l) 12 = (if hI h 379 l = 0 then hI h 375 l else -1) ∧ (hI h (76 + 2 * l) 13 = 0 ↔ hI h 379 l = 0)
def owI (h : ea_H) (l : Nat) : Int32 := if hI h 364 l = 0 ∨ hI h 364 l = 3 then ea_i h 374 l else 0
theorem c_owed (hs : ShC h) (s : SLs h m) (c : SLc h m) {l : Nat} (hl : l < m) (hm : m ≤ 120) : qX5_owed (76 + 2 * l) h = some (owI h l, h) := by
  obtain ⟨-, k2⟩ := ltr_ref hs (show l < 120 by omega)
  have e0 : (ea_i h (76 + 2 * l) 0).toInt = hI h 364 l := (s l hl).1 0 (by decide)
  have e10 : ea_i h (76 + 2 * l) 10 = ea_i h 374 l := n_eq.mpr (c l hl).1
  refine sat_at ?_
  unfold qX5_owed BX5_owed_0 owI
  refine sat_gd k2 (sat_ite (fun z => ?_) fun z => ?_)
  · rw [n_eq, e0, l_0] at z
    rw [if_pos (Or.inl z), e10]
    exact sat_gd k2 (sat_ret rfl)
  rw [n_eq, e0, l_0] at z
  refine sat_gd k2 (sat_ite (fun w => ?_) fun w => ?_)
  · rw [n_eq, e0, l_3] at w
    rw [if_pos (Or.inr w), e10]
    exact sat_gd k2 (sat_ret rfl)
  · rw [n_eq, e0, l_3] at w
    rw [if_neg (fun q => q.elim z w)]
    exact sat_ret rfl
theorem m_isOwed {x1 : Int32} {l : Nat} (e1 : x1.toInt = l) (hl : l < 120) : ∃ v, qX12_isOwed x1 h = some (v, h) ∧ ((v = 1 ∧ (hI h 364 l = 0 ∨ hI h 364 l = 3)) ∨ (v = 0 ∧ ¬ (hI h 364 l = 0 ∨ hI h 364 l = 3))) := by
  have g1 := vp80 e1 hl
  have ic : x1.toNatClampNeg = l := by
    rw [n_idx, e1]
    rfl
  have H : sat (qX12_isOwed x1 h) fun y => y.2 = h ∧ ((y.1 = 1 ∧ (hI h 364 l = 0 ∨ hI h 364 l = 3)) ∨ (y.1 = 0 ∧ ¬ (hI h 364 l = 0 ∨ hI h 364 l = 3))) := by
    unfold qX12_isOwed BX12_isOwed_0
    rw [ic]
    refine sat_gd g1 (sat_ite (fun z => ?_) fun z => ?_)
    · rw [n_eq, hI_eq, l_0] at z
      exact sat_ret ⟨rfl, Or.inl ⟨rfl, Or.inl z⟩⟩
    rw [n_eq, hI_eq, l_0] at z
    refine sat_gd g1 (sat_ite (fun w => ?_) fun w => ?_)
    · rw [n_eq, hI_eq, l_3] at w
      exact sat_ret ⟨rfl, Or.inl ⟨rfl, Or.inr w⟩⟩
    · rw [n_eq, hI_eq, l_3] at w
      exact sat_ret ⟨rfl, Or.inr ⟨rfl, fun q => q.elim z w⟩⟩
  obtain ⟨⟨v, h2⟩, q1, q2, q3⟩ := H
  have q2 : h2 = h := q2
  subst q2
  exact ⟨v, q1, q3⟩
theorem m_owed {x1 : Int32} {l : Nat} (e1 : x1.toInt = l) (hl : l < 120) : qX12_owed x1 h = some (owI h l, h) := by
  have g1 := vp80 e1 hl
  have ic : x1.toNatClampNeg = l := by
    rw [n_idx, e1]
    rfl
  obtain ⟨v, p, q⟩ := m_isOwed (h := h) e1 hl
  refine sat_at ?_
  unfold qX12_owed BX12_owed_0 owI
  refine sat_call p ?_
  rcases q with ⟨q1, q2⟩ | ⟨q1, q2⟩
  · refine sat_neg (by rw [q1]; exact i1_ne_0) (sat_gd g1 (sat_ret ?_))
    rw [if_pos q2, ic]
  · refine sat_pos q1 (sat_ret ?_)
    rw [if_neg q2]
def chF (h : ea_H) (l : Nat) (k : Int) : Int :=
  if k = 0 then hI h 374 l else if k = 1 then hI h 373 l else if k = 2 then (if hI h 379 l = 0 then hI h 375 l else -1) else if k = 3 then (owI h l).toInt else if k = 4 then (if hI h 364 l = 0 ∨ hI h 364 l = 3 then 0 else hI h 374 l) else if k = 5 then (if hI h 379 l = 0 then 0 else 1) else -1
theorem c_charge (hs : ShC h) (s : SLs h m) (c : SLc h m) {l : Nat} (hl : l < m) (hm : m ≤ 120) {x1 : Int32} (x2 : Int32) (p1 : qX11_letterOf x1 h = some (some (76 + 2 * l), h)) : sat (qX11_charge x1 x2 h) fun y => y.2 = h ∧ y.1.toInt = chF h l x2.toInt := by
  obtain ⟨-, k2⟩ := ltr_ref hs (show l < 120 by omega)
  have ow := c_owed hs s c hl hm
  obtain ⟨f10, f11, f12, f13⟩ := c l hl
  have e10 : ea_i h (76 + 2 * l) 10 = ea_i h 374 l := n_eq.mpr f10
  unfold qX11_charge BX11_charge_0
  refine sat_call p1 (sat_neg (by simp) ?_)
  refine sat_ite (fun c => ?_) fun c0 => ?_
  · exact sat_gd rfl (sat_gd k2 (sat_ret ⟨rfl, by rw [c]; exact f10⟩))
  refine sat_ite (fun c => ?_) fun c1 => ?_
  · exact sat_gd rfl (sat_gd k2 (sat_ret ⟨rfl, by rw [c]; exact f11⟩))
  refine sat_ite (fun c => ?_) fun c2 => ?_
  · exact sat_gd rfl (sat_gd k2 (sat_ret ⟨rfl, by rw [c]; exact f12⟩))
  refine sat_ite (fun c => ?_) fun c3 => ?_
  · exact sat_gd rfl (sat_gd k2 (sat_call ow (sat_ret ⟨rfl, by rw [c]; rfl⟩)))
  refine sat_ite (fun c => ?_) fun c4 => ?_
  · refine sat_gd rfl (sat_gd k2 (sat_gd rfl (sat_gd k2 (sat_call ow (sat_ret ⟨rfl, ?_⟩)))))
    rw [c]
    show (ea_i h (76 + 2 * l) 10 - owI h l).toInt = if hI h 364 l = 0 ∨ hI h 364 l = 3 then 0 else hI h 374 l
    rw [e10]
    unfold owI
    by_cases z : hI h 364 l = 0 ∨ hI h 364 l = 3
    · rw [if_pos z, if_pos z, n_sub, Int.sub_self]
      rfl
    · have b := n_lo (ea_i h 374 l)
      have b2 := n_hi (ea_i h 374 l)
      rw [if_neg z, if_neg z, n_sub, l_0, Int.sub_zero, n_bm (by omega) (by omega)]
      rfl
  refine sat_ite (fun c => ?_) fun c5 => ?_
  · refine sat_gd rfl (sat_gd k2 (sat_ite (fun d => ?_) fun d => ?_))
    · refine sat_ret ⟨rfl, ?_⟩
      rw [c]
      show (0 : Int) = if hI h 379 l = 0 then 0 else 1
      rw [if_pos (show hI h 379 l = 0 from f13.mp (n_eq.mp d))]
    · refine sat_ret ⟨rfl, ?_⟩
      rw [c]
      show (1 : Int) = if hI h 379 l = 0 then 0 else 1
      rw [if_neg (show ¬ hI h 379 l = 0 from fun z => d (n_eq.mpr (f13.mpr z)))]
  refine sat_ret ⟨rfl, ?_⟩
  unfold chF
  rw [if_neg c0, if_neg c1, if_neg c2, if_neg c3, if_neg c4, if_neg c5]
  rfl
theorem m_charge (rm : RM0 m X h) {l : Nat} (hl : l < m) {x1 : Int32} (e1 : x1.toInt = l) (x2 : Int32) : sat (qX12_charge x1 x2 h) fun y => y.2 = h ∧ y.1.toInt = chF h l x2.toInt := by
  have p0 := rm.1.1
  have hl' : l < 120 := by have := rm.1.2; omega
  have g1 := vp80 e1 hl'
  have ic : x1.toNatClampNeg = l := by
    rw [n_idx, e1]
    rfl
  unfold qX12_charge BX12_charge_0
  obtain ⟨v1, q1, s1⟩ := m_isLetterOf x1 (h := h) (by omega)
  refine sat_call q1 ?_
  rcases s1 with ⟨r1, s1⟩ | ⟨r1, s1⟩
  · exact sat_pos r1 (absurd s1 (by omega))
  refine sat_neg (by rw [r1]; exact i1_ne_0) ?_
  dsimp only
  refine sat_ite (fun c => ?_) fun c0 => ?_
  · exact sat_gd g1 (sat_ret ⟨rfl, by rw [c, ic]; rfl⟩)
  refine sat_ite (fun c => ?_) fun c1 => ?_
  · exact sat_gd g1 (sat_ret ⟨rfl, by rw [c, ic]; rfl⟩)
  refine sat_ite (fun c => ?_) fun c2 => ?_
  · have L : chF h l x2.toInt = if hI h 379 l = 0 then hI h 375 l else -1 := by
      rw [c]
      rfl
    rw [L]
    refine sat_gd g1 ?_
    rw [ic]
    refine sat_ite (fun d => ?_) fun d => ?_
    · refine sat_gd g1 (sat_ret ⟨rfl, ?_⟩)
      rw [if_pos (show hI h 379 l = 0 from n_eq.mp d)]
      rfl
    · refine sat_ret ⟨rfl, ?_⟩
      rw [if_neg (show ¬ hI h 379 l = 0 from fun z => d (n_eq.mpr z))]
      rfl
  refine sat_ite (fun c => ?_) fun c3 => ?_
  · exact sat_call (m_owed e1 hl') (sat_ret ⟨rfl, by rw [c]; rfl⟩)
  refine sat_ite (fun c => ?_) fun c4 => ?_
  · have L : chF h l x2.toInt = if hI h 364 l = 0 ∨ hI h 364 l = 3 then 0 else hI h 374 l := by
      rw [c]
      rfl
    rw [L]
    obtain ⟨v, p, q⟩ := m_isOwed (h := h) e1 hl'
    refine sat_call p ?_
    rcases q with ⟨q1, q2⟩ | ⟨q1, q2⟩
    · refine sat_neg (by rw [q1]; exact i1_ne_0) (sat_ret ⟨rfl, ?_⟩)
      rw [if_pos q2]
      rfl
    · refine sat_pos q1 (sat_gd g1 (sat_ret ⟨rfl, ?_⟩))
      rw [if_neg q2, ic]
      rfl
  refine sat_ite (fun c => ?_) fun c5 => ?_
  · have L : chF h l x2.toInt = if hI h 379 l = 0 then 0 else 1 := by
      rw [c]
      rfl
    rw [L]
    refine sat_gd g1 ?_
    rw [ic]
    refine sat_ite (fun d => ?_) fun d => ?_
    · refine sat_ret ⟨rfl, ?_⟩
      rw [if_pos (show hI h 379 l = 0 from n_eq.mp d)]
      rfl
    · refine sat_ret ⟨rfl, ?_⟩
      rw [if_neg (show ¬ hI h 379 l = 0 from fun z => d (n_eq.mpr z))]
      rfl
  refine sat_ret ⟨rfl, ?_⟩
  unfold chF
  rw [if_neg c0, if_neg c1, if_neg c2, if_neg c3, if_neg c4, if_neg c5]
  rfl
theorem call_charge (hs : ShC h) (rc : RC52 m X h) (rm : RM0 m X h) (s : SLs h m) (c : SLc h m) (x1 x2 : Int32) : tw (qX11_charge x1 x2 h) (qX12_charge x1 x2) fun h' => h' = h := by
  rcases c_letterOf x1 hs rc.1.1 rc.1.2 with ⟨p, np⟩ | ⟨l, e1, hl, p⟩
  · unfold tw qX11_charge BX11_charge_0
    refine sat_call p (sat_pos rfl (sat_ret ?_))
    unfold qX12_charge BX12_charge_0
    have r0 := rm.1.1
    obtain ⟨v1, q1, s1⟩ := m_isLetterOf x1 (h := h) (by omega)
    refine sat_call q1 ?_
    rcases s1 with ⟨r1, s1⟩ | ⟨r1, s1⟩
    · exact sat_pos r1 (sat_ret ⟨rfl, rfl⟩)
    · exact absurd s1 (by omega)
  · exact tw_ro (c_charge hs s c hl rc.1.2 x2 p) (m_charge rm hl e1 x2)
end AC
