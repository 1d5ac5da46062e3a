/-! calls: of, look, run -/
/-- what is told of a letter once for all: the class's and the reference's alike -/
def SLs (h : ea_H) (m : Nat) : Prop := ∀ l, l < m → (∀ k, k < 7 → hI h (76 + 2 * l) k = hI h (364 + k) l) ∧ (hI h (76 + 2 * l) 8 = 0 ↔ hI h 378 l = 0)
def ofF (h : ea_H) (X : Nat → Nat → Int) (l : Nat) (k : Int) : Int :=
  if k = 0 then hI h 364 l else if k = 1 then hI h 365 l else if k = 2 then hI h 366 l else if k = 3 then hI h 367 l else if k = 4 then hI h 368 l else if k = 5 then hI h 369 l else if k = 6 then hI h 370 l else if k = 7 then X 0 l else if k = 8 then X 1 l else if k = 9 then (if hI h 378 l = 0 then 0 else 1) else if k = 10 then (if X 0 l = 1 then (if X 4 l = 0 then 0 else 1) else 0) else if k = 11 then (if X 0 l = 1 then X 2 l else -1) else if k = 12 then X 3 l else -1
theorem c_of {h : ea_H} {m l : Nat} {X : Nat → Nat → Int} (hs : ShC h) (rc : RC52 m X h) (s : SLs h m) {x1 : Int32} (e1 : x1.toInt = l) (hl : l < m) (x2 : Int32) (p1 : qX11_letterOf x1 h = some (some (76 + 2 * l), h)) : sat (qX11_of x1 x2 h) fun y => y.2 = h ∧ y.1.toInt = ofF h X l x2.toInt := by
  obtain ⟨⟨r0, r1⟩, r2, -⟩ := rc
  obtain ⟨q0, q1, q3, q2, -⟩ := r2 l hl
  obtain ⟨sk, s8⟩ := s l hl
  have hl' : l < 120 := by omega
  obtain ⟨-, k2⟩ := ltr_ref hs hl'
  have g1 := vp80 e1 hl'
  have ic : x1.toNatClampNeg = l := by
    rw [n_idx, e1]
    rfl
  have v0 : (ea_i h 53 l).toInt = X 0 l := q0
  have K : ∀ s : Int32, (s = 0 ↔ X 0 l ≠ 1) → sat (qX11_of_30 x1 x2 (some (76 + 2 * l)) s h) fun y => y.2 = h ∧ y.1.toInt = ofF h X l x2.toInt := by
    intro s hs0
    refine uqX11_of_30 ?_
    unfold BX11_of_30
    refine sat_ite (fun c => ?_) fun c0 => ?_
    · exact sat_gd rfl (sat_gd k2 (sat_ret ⟨rfl, by rw [c]; exact sk 0 (by decide)⟩))
    refine sat_ite (fun c => ?_) fun c1 => ?_
    · exact sat_gd rfl (sat_gd k2 (sat_ret ⟨rfl, by rw [c]; exact sk 1 (by decide)⟩))
    refine sat_ite (fun c => ?_) fun c2 => ?_
    · exact sat_gd rfl (sat_gd k2 (sat_ret ⟨rfl, by rw [c]; exact sk 2 (by decide)⟩))
    refine sat_ite (fun c => ?_) fun c3 => ?_
    · exact sat_gd rfl (sat_gd k2 (sat_ret ⟨rfl, by rw [c]; exact sk 3 (by decide)⟩))
    refine sat_ite (fun c => ?_) fun c4 => ?_
    · exact sat_gd rfl (sat_gd k2 (sat_ret ⟨rfl, by rw [c]; exact sk 4 (by decide)⟩))
    refine sat_ite (fun c => ?_) fun c5 => ?_
    · exact sat_gd rfl (sat_gd k2 (sat_ret ⟨rfl, by rw [c]; exact sk 5 (by decide)⟩))
    refine sat_ite (fun c => ?_) fun c6 => ?_
    · exact sat_gd rfl (sat_gd k2 (sat_ret ⟨rfl, by rw [c]; exact sk 6 (by decide)⟩))
    refine sat_ite (fun c => ?_) fun c7 => ?_
    · exact sat_gd g1 (sat_ret ⟨rfl, by rw [c, ic]; exact q0⟩)
    refine sat_ite (fun c => ?_) fun c8 => ?_
    · exact sat_gd g1 (sat_ret ⟨rfl, by rw [c, ic]; exact q1⟩)
    refine sat_ite (fun c => ?_) fun c9 => ?_
    · refine sat_gd rfl (sat_gd k2 (sat_ite (fun d => ?_) fun d => ?_))
      · refine sat_ret ⟨rfl, ?_⟩
        rw [c]
        show (0 : Int) = if hI h 378 l = 0 then 0 else 1
        rw [if_pos (show hI h 378 l = 0 from s8.mp (n_eq.mp d))]
      · refine sat_ret ⟨rfl, ?_⟩
        rw [c]
        show (1 : Int) = if hI h 378 l = 0 then 0 else 1
        rw [if_neg (show ¬ hI h 378 l = 0 from fun z => d (n_eq.mpr (s8.mpr z)))]
    refine sat_ite (fun c => ?_) fun c10 => ?_
    · have L : ofF h X l x2.toInt = if X 0 l = 1 then (if X 4 l = 0 then 0 else 1) else 0 := by
        rw [c]
        rfl
      rw [L]
      refine sat_ite (fun d => ?_) fun d => ?_
      · exact sat_ret ⟨rfl, by rw [if_neg (show ¬ X 0 l = 1 from hs0.mp d)]; rfl⟩
      · have z1 : X 0 l = 1 := Classical.byContradiction fun z => d (hs0.mpr z)
        have q4 := (q2 z1).2
        refine sat_gd g1 ?_
        rw [ic, if_pos z1]
        refine sat_ite (fun d2 => ?_) fun d2 => ?_
        · exact sat_ret ⟨rfl, by rw [if_pos (show X 4 l = 0 from q4.symm.trans (n_eq.mp d2))]; rfl⟩
        · exact sat_ret ⟨rfl, by rw [if_neg (show ¬ X 4 l = 0 from fun z => d2 (n_eq.mpr (q4.trans z)))]; rfl⟩
    refine sat_ite (fun c => ?_) fun c11 => ?_
    · have L : ofF h X l x2.toInt = if X 0 l = 1 then X 2 l else -1 := by
        rw [c]
        rfl
      rw [L]
      refine sat_ite (fun d => ?_) fun d => ?_
      · exact sat_ret ⟨rfl, by rw [if_neg (show ¬ X 0 l = 1 from hs0.mp d)]; rfl⟩
      · have z1 : X 0 l = 1 := Classical.byContradiction fun z => d (hs0.mpr z)
        refine sat_gd g1 (sat_ret ⟨rfl, ?_⟩)
        rw [ic, if_pos z1]
        exact (q2 z1).1
    refine sat_ite (fun c => ?_) fun c12 => ?_
    · exact sat_gd g1 (sat_ret ⟨rfl, by rw [c, ic]; exact q3⟩)
    refine sat_ret ⟨rfl, ?_⟩
    unfold ofF
    rw [if_neg c0, if_neg c1, if_neg c2, if_neg c3, if_neg c4, if_neg c5, if_neg c6, if_neg c7, if_neg c8, if_neg c9, if_neg c10, if_neg c11, if_neg c12]
    rfl
  unfold qX11_of
  refine uqX11_of_0 ?_
  unfold BX11_of_0
  refine sat_call p1 ?_
  refine sat_neg (by simp) ?_
  refine sat_gd g1 ?_
  rw [ic]
  refine sat_ite (fun d => ?_) fun d => ?_
  · refine K 1 ⟨fun z => absurd z (by decide), fun z => absurd (v0.symm.trans (n_eq.mp d)) z⟩
  · refine K 0 ⟨fun _ z => d (n_eq.mpr (v0.trans z)), fun _ => rfl⟩
theorem m_of {h : ea_H} {m l : Nat} {X : Nat → Nat → Int} (rm : RM0 m X h) {x1 : Int32} (e1 : x1.toInt = l) (hl : l < m) (x2 : Int32) : sat (qX12_of x1 x2 h) fun y => y.2 = h ∧ y.1.toInt = ofF h X l x2.toInt := by
  obtain ⟨⟨p0, p1⟩, p2, p3, -⟩ := rm
  obtain ⟨w0, w1, w2, w3, -⟩ := p2 l
  have hl' : l < 120 := by omega
  have g1 := vp80 e1 hl'
  have ic : x1.toNatClampNeg = l := by
    rw [n_idx, e1]
    rfl
  unfold qX12_of BX12_of_0
  obtain ⟨v1, q1, s1⟩ := m_isLetterOf x1 (h := h) (by omega)
  refine sat_call q1 ?_
  rcases s1 with ⟨r1, s1⟩ | ⟨r1, s1⟩
  · exact sat_pos r1 (absurd s1 (by omega))
  refine sat_neg (by rw [r1]; exact i1_ne_0) ?_
  dsimp only
  refine sat_ite (fun c => ?_) fun c0 => ?_
  · exact sat_gd g1 (sat_ret ⟨rfl, by rw [c, ic]; exact rfl⟩)
  refine sat_ite (fun c => ?_) fun c1 => ?_
  · exact sat_gd g1 (sat_ret ⟨rfl, by rw [c, ic]; exact rfl⟩)
  refine sat_ite (fun c => ?_) fun c2 => ?_
  · exact sat_gd g1 (sat_ret ⟨rfl, by rw [c, ic]; exact rfl⟩)
  refine sat_ite (fun c => ?_) fun c3 => ?_
  · exact sat_gd g1 (sat_ret ⟨rfl, by rw [c, ic]; exact rfl⟩)
  refine sat_ite (fun c => ?_) fun c4 => ?_
  · exact sat_gd g1 (sat_ret ⟨rfl, by rw [c, ic]; exact rfl⟩)
  refine sat_ite (fun c => ?_) fun c5 => ?_
  · exact sat_gd g1 (sat_ret ⟨rfl, by rw [c, ic]; exact rfl⟩)
  refine sat_ite (fun c => ?_) fun c6 => ?_
  · exact sat_gd g1 (sat_ret ⟨rfl, by rw [c, ic]; exact rfl⟩)
  refine sat_ite (fun c => ?_) fun c7 => ?_
  · exact sat_gd g1 (sat_ret ⟨rfl, by rw [c, ic]; exact w0⟩)
  refine sat_ite (fun c => ?_) fun c8 => ?_
  · exact sat_gd g1 (sat_ret ⟨rfl, by rw [c, ic]; exact w1⟩)
  refine sat_ite (fun c => ?_) fun c9 => ?_
  · refine sat_gd g1 ?_
    rw [ic]
    refine sat_ite (fun d => ?_) fun d => ?_
    · refine sat_ret ⟨rfl, ?_⟩
      rw [c]
      show (0 : Int) = if hI h 378 l = 0 then 0 else 1
      rw [if_pos (show hI h 378 l = 0 from n_eq.mp d)]
    · refine sat_ret ⟨rfl, ?_⟩
      rw [c]
      show (1 : Int) = if hI h 378 l = 0 then 0 else 1
      rw [if_neg (show ¬ hI h 378 l = 0 from fun z => d (n_eq.mpr z))]
  refine sat_ite (fun c => ?_) fun c10 => ?_
  · have L : ofF h X l x2.toInt = if X 0 l = 1 then (if X 4 l = 0 then 0 else 1) else 0 := by
      rw [c]
      rfl
    rw [L]
    refine sat_gd g1 ?_
    rw [ic]
    refine sat_ite (fun d => ?_) fun d => ?_
    · have z1 : X 0 l = 1 := w0.symm.trans (n_eq.mp d)
      have q4 := p3 l hl z1
      refine sat_gd g1 ?_
      rw [if_pos z1]
      refine sat_ite (fun d2 => ?_) fun d2 => ?_
      · exact sat_ret ⟨rfl, by rw [if_pos (show X 4 l = 0 from q4.symm.trans (n_eq.mp d2))]; rfl⟩
      · exact sat_ret ⟨rfl, by rw [if_neg (show ¬ X 4 l = 0 from fun z => d2 (n_eq.mpr (q4.trans z)))]; rfl⟩
    · exact sat_ret ⟨rfl, by rw [if_neg (show ¬ X 0 l = 1 from fun z => d (n_eq.mpr (w0.trans z)))]; rfl⟩
  refine sat_ite (fun c => ?_) fun c11 => ?_
  · have L : ofF h X l x2.toInt = if X 0 l = 1 then X 2 l else -1 := by
      rw [c]
      rfl
    rw [L]
    refine sat_gd g1 ?_
    rw [ic]
    refine sat_ite (fun d => ?_) fun d => ?_
    · refine sat_gd g1 (sat_ret ⟨rfl, ?_⟩)
      rw [if_pos (show X 0 l = 1 from w0.symm.trans (n_eq.mp d))]
      exact w2
    · exact sat_ret ⟨rfl, by rw [if_neg (show ¬ X 0 l = 1 from fun z => d (n_eq.mpr (w0.trans z)))]; rfl⟩
  refine sat_ite (fun c => ?_) fun c12 => ?_
  · exact sat_gd g1 (sat_ret ⟨rfl, by rw [c, ic]; exact w3⟩)
  refine sat_ret ⟨rfl, ?_⟩
  unfold ofF
  rw [if_neg c0, if_neg c1, if_neg c2, if_neg c3, if_neg c4, if_neg c5, if_neg c6, if_neg c7, if_neg c8, if_neg c9, if_neg c10, if_neg c11, if_neg c12]
  rfl
theorem call_of {h : ea_H} {m : Nat} {X : Nat → Nat → Int} (hs : ShC h) (rc : RC52 m X h) (rm : RM0 m X h) (s : SLs h m) (x1 x2 : Int32) : tw (qX11_of x1 x2 h) (qX12_of x1 x2) fun h' => h' = h := by
  rcases c_letterOf x1 hs rc.1.1 rc.1.2 with ⟨p, np⟩ | ⟨l, e1, hl, p⟩
  · unfold tw qX11_of
    refine uqX11_of_0 ?_
    unfold BX11_of_0
    refine sat_call p (sat_pos rfl (sat_ret ?_))
    unfold qX12_of BX12_of_0
    have r0 := rm.1.1
    obtain ⟨v1, q1, s1⟩ := m_isLetterOf x1 (h := h) (by omega)
    refine sat_call q1 ?_
    rcases s1 with ⟨r1, s1⟩ | ⟨r1, s1⟩
    · exact sat_pos r1 (sat_ret ⟨rfl, rfl⟩)
    · exact absurd s1 (by omega)
  · exact tw_ro (c_of hs rc s e1 hl x2 p) (m_of rm e1 hl x2)
