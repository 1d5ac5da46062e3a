/-! calls: account -/
section AN
variable {T : Nat → Nat → Nat → Nat} {m : Nat} {X : Nat → Nat → Int} {h : ea_H} {a b : Int}
def btP (h : ea_H) (a b : Int) (l : Nat) : Prop := hI h 365 l = a ∧ hI h 366 l = b
def dfP (h : ea_H) (X : Nat → Nat → Int) (a b : Int) (l : Nat) : Prop := btP h a b l ∧ X 0 l ≠ 2 ∧ 0 < (owI h l).toInt
noncomputable def acA (h : ea_H) (a b : Int) : Nat → Int32
  | 0 => 0
  | l + 1 => @ite _ (btP h a b l) (Classical.propDecidable _) (acA h a b l + owI h l) (acA h a b l)
noncomputable def acB (h : ea_H) (X : Nat → Nat → Int) (a b : Int) : Nat → Int32
  | 0 => 0
  | l + 1 => @ite _ (btP h a b l ∧ X 0 l = 2) (Classical.propDecidable _) (acB h X a b l + owI h l) (acB h X a b l)
noncomputable def acN (P : Nat → Prop) (k : Int) : Nat → Int
  | 0 => -1
  | l + 1 => @ite _ (P l ∧ cnt P l = k) (Classical.propDecidable _) (l : Int) (acN P k l)
theorem acN_at {P : Nat → Prop} {k : Int} {e : Nat} (p : P e) (c : cnt P e = k) : ∀ j, acN P k (e + 1 + j) = e ∧ k < cnt P (e + 1 + j) := by
  intro j
  induction j with
  | zero =>
    refine ⟨(if_pos ⟨p, c⟩), ?_⟩
    rw [Nat.add_zero, cnt_s, one_pos p]
    omega
  | succ j ih =>
    obtain ⟨i1, i2⟩ := ih
    refine ⟨(if_neg fun z => ?_).trans i1, ?_⟩
    · have := z.2
      have e : cnt P (e + 1 + j) = k := this
      omega
    · have := one_b (P (e + 1 + j))
      rw [show e + 1 + (j + 1) = e + 1 + j + 1 by omega, cnt_s]
      omega
theorem acN_no {P : Nat → Prop} {k : Int} : ∀ m : Nat, (k < 0 ∨ (m : Int) ≤ k) → acN P k m = -1 := by
  intro m
  induction m with
  | zero => exact fun _ => rfl
  | succ m ih =>
    intro hk
    refine (if_neg fun z => ?_).trans (ih (by omega))
    have c := cnt_b P m
    have e : cnt P m = k := z.2
    omega
noncomputable def accF (h : ea_H) (X : Nat → Nat → Int) (m : Nat) (a b k : Int) : Int :=
  if k = 0 then (acA h a b m).toInt else if k = 1 then (acB h X a b m).toInt else if k = 2 then cnt (dfP h X a b) m else if 10 ≤ k then acN (dfP h X a b) (k - 10) m else -1
theorem c_isBetween (hs : ShC h) (s : SLs h m) (hm : m ≤ 120) {x1 x2 x3 : Int32} {l : Nat} (e1 : x1.toInt = l) (e2 : x2.toInt = a) (e3 : x3.toInt = b) (hl : l < m) : ∃ v, qX11_isBetween x1 x2 x3 h = some (v, h) ∧ ((v = 1 ∧ btP h a b l) ∨ (v = 0 ∧ ¬ btP h a b l)) := by
  obtain ⟨k1, k2⟩ := ltr_ref hs (show l < 120 by omega)
  have g1 := vp80 e1 (show l < 120 by omega)
  have ic : x1.toNatClampNeg = l := by
    rw [n_idx, e1]
    rfl
  have f1 : (ea_i h (76 + 2 * l) 1).toInt = hI h 365 l := (s l hl).1 1 (by decide)
  have f2 : (ea_i h (76 + 2 * l) 2).toInt = hI h 366 l := (s l hl).1 2 (by decide)
  have H : sat (qX11_isBetween x1 x2 x3 h) fun y => y.2 = h ∧ ((y.1 = 1 ∧ btP h a b l) ∨ (y.1 = 0 ∧ ¬ btP h a b l)) := by
    unfold qX11_isBetween BX11_isBetween_0
    rw [ic, k1]
    refine sat_gd g1 (sat_gd rfl (sat_gd k2 (sat_ite (fun z => ?_) fun z => ?_)))
    · have z : hI h 365 l = a := f1.symm.trans ((n_eq.mp z).trans e2)
      refine sat_gd g1 (sat_gd rfl (sat_gd k2 (sat_ite (fun w => ?_) fun w => ?_)))
      · exact sat_ret ⟨rfl, Or.inl ⟨rfl, z, f2.symm.trans ((n_eq.mp w).trans e3)⟩⟩
      · exact sat_ret ⟨rfl, Or.inr ⟨rfl, fun q => w (n_eq.mpr (f2.trans (q.2.trans e3.symm)))⟩⟩
    · exact sat_ret ⟨rfl, Or.inr ⟨rfl, fun q => z (n_eq.mpr (f1.trans (q.1.trans e2.symm)))⟩⟩
  obtain ⟨⟨v, h2⟩, q1, q2, q3⟩ := H
  have q2 : h2 = h := q2
  subst q2
  exact ⟨v, q1, q3⟩
theorem m_isOf {x1 x2 x3 : Int32} {l : Nat} (e1 : x1.toInt = l) (e2 : x2.toInt = a) (e3 : x3.toInt = b) (hl : l < 120) : ∃ v, qX12_isOf x1 x2 x3 h = some (v, h) ∧ ((v = 1 ∧ btP h a b l) ∨ (v = 0 ∧ ¬ btP h a b l)) := by
  have g1 := vp80 e1 hl
  have ic : x1.toNatClampNeg = l := by
    rw [n_idx, e1]
    rfl
  have H : sat (qX12_isOf x1 x2 x3 h) fun y => y.2 = h ∧ ((y.1 = 1 ∧ btP h a b l) ∨ (y.1 = 0 ∧ ¬ btP h a b l)) := by
    unfold qX12_isOf BX12_isOf_0
    rw [ic]
    refine sat_gd g1 (sat_ite (fun z => ?_) fun z => ?_)
    · have z : hI h 365 l = a := (n_eq.mp z).trans e2
      refine sat_gd g1 (sat_ite (fun w => ?_) fun w => ?_)
      · exact sat_ret ⟨rfl, Or.inl ⟨rfl, z, (n_eq.mp w).trans e3⟩⟩
      · exact sat_ret ⟨rfl, Or.inr ⟨rfl, fun q => w (n_eq.mpr (q.2.trans e3.symm))⟩⟩
    · exact sat_ret ⟨rfl, Or.inr ⟨rfl, fun q => z (n_eq.mpr (q.1.trans e2.symm))⟩⟩
  obtain ⟨⟨v, h2⟩, q1, q2, q3⟩ := H
  have q2 : h2 = h := q2
  subst q2
  exact ⟨v, q1, q3⟩
theorem c_differs (hs : ShC h) (rc : RC52 m X h) (s : SLs h m) (sc : SLc h m) {x1 x2 x3 : Int32} {l : Nat} (e1 : x1.toInt = l) (e2 : x2.toInt = a) (e3 : x3.toInt = b) (hl : l < m) : ∃ v, qX11_differs x1 x2 x3 h = some (v, h) ∧ ((v = 1 ∧ dfP h X a b l) ∨ (v = 0 ∧ ¬ dfP h X a b l)) := by
  obtain ⟨⟨r0, r1⟩, r2, -⟩ := rc
  obtain ⟨k1, k2⟩ := ltr_ref hs (show l < 120 by omega)
  have g1 := vp80 e1 (show l < 120 by omega)
  have ic : x1.toNatClampNeg = l := by
    rw [n_idx, e1]
    rfl
  have v0 : (ea_i h 53 l).toInt = X 0 l := (r2 l hl).1
  obtain ⟨v, p, q⟩ := c_isBetween hs s r1 e1 e2 e3 hl
  have H : sat (qX11_differs x1 x2 x3 h) fun y => y.2 = h ∧ ((y.1 = 1 ∧ dfP h X a b l) ∨ (y.1 = 0 ∧ ¬ dfP h X a b l)) := by
    unfold qX11_differs BX11_differs_0
    refine sat_call p ?_
    rcases q with ⟨q1, q2⟩ | ⟨q1, q2⟩
    · refine sat_neg (by rw [q1]; exact i1_ne_0) ?_
      dsimp only
      rw [ic, k1]
      refine sat_gd g1 (sat_gd rfl (sat_gd k2 (sat_call (c_owed hs s sc hl r1) (sat_ite (fun z => ?_) fun z => ?_))))
      · rw [n_le, l_0] at z
        dsimp only at z
        exact sat_ret ⟨rfl, Or.inr ⟨rfl, fun w => by have := w.2.2; omega⟩⟩
      · rw [n_le, l_0] at z
        dsimp only at z
        refine sat_gd g1 (sat_ite (fun w => ?_) fun w => ?_)
        · rw [n_eq, v0, l_2] at w
          exact sat_ret ⟨rfl, Or.inr ⟨rfl, fun u => u.2.1 w⟩⟩
        · rw [n_eq, v0, l_2] at w
          exact sat_ret ⟨rfl, Or.inl ⟨rfl, q2, w, by omega⟩⟩
    · exact sat_pos q1 (sat_ret ⟨rfl, Or.inr ⟨rfl, fun w => q2 w.1⟩⟩)
  obtain ⟨⟨v, h2⟩, q1, q2, q3⟩ := H
  have q2 : h2 = h := q2
  subst q2
  exact ⟨v, q1, q3⟩
theorem c_owedBetween (hs : ShC h) (rc : RC52 m X h) (s : SLs h m) (sc : SLc h m) {x1 x2 x3 : Int32} (e1 : x1.toInt = a) (e2 : x2.toInt = b) (h3 : x3 = 0 ∨ x3 = 1) : sat (qX11_owedBetween x1 x2 x3 h) fun y => y.2 = h ∧ y.1 = if x3 = 0 then acA h a b m else acB h X a b m := by
  have rc0 := rc
  obtain ⟨⟨r0, r1⟩, r2, -⟩ := rc
  have H : ∀ (j e : Nat) (x4 x5 : Int32), e + j = m → x5.toInt = e → x4 = (if x3 = 0 then acA h a b e else acB h X a b e) → sat (qX11_owedBetween_6 x1 x2 x3 x4 x5 h) fun y => y.2 = h ∧ y.1 = if x3 = 0 then acA h a b m else acB h X a b m := by
    intro j
    induction j with
    | zero =>
      intro e x4 x5 he e5 e4
      refine uqX11_owedBetween_6 ?_
      unfold BX11_owedBetween_6
      refine sat_pos (by rw [n_le, hI_eq, r0, e5]; omega) (sat_ret ⟨rfl, ?_⟩)
      rw [show m = e by omega]
      exact e4
    | succ j ih =>
      intro e x4 x5 he e5 e4
      have hl : e < m := by omega
      obtain ⟨k1, k2⟩ := ltr_ref hs (show e < 120 by omega)
      have g1 := vp80 e5 (show e < 120 by omega)
      have ic : x5.toNatClampNeg = e := by
        rw [n_idx, e5]
        rfl
      have v0 : (ea_i h 53 e).toInt = X 0 e := (r2 e hl).1
      obtain ⟨v, p, q⟩ := c_isBetween hs s r1 e5 e1 e2 hl
      have add : x4 + owI h e = (if x3 = 0 then acA h a b (e + 1) else acB h X a b (e + 1)) → sat (qX11_owedBetween_47 x1 x2 x3 x4 x5 h) fun y => y.2 = h ∧ y.1 = if x3 = 0 then acA h a b m else acB h X a b m := by
        intro hx
        refine uqX11_owedBetween_47 ?_
        unfold BX11_owedBetween_47
        rw [ic, k1]
        exact sat_gd g1 (sat_gd rfl (sat_gd k2 (sat_call (c_owed hs s sc hl r1) (ih (e + 1) (x4 + owI h e) (x5 + 1) (by omega) (n_inc e5 (by omega)) hx))))
      refine uqX11_owedBetween_6 ?_
      unfold BX11_owedBetween_6
      refine sat_neg (by rw [n_le, hI_eq, r0, e5]; omega) (sat_call p ?_)
      rcases q with ⟨q1, q2⟩ | ⟨q1, q2⟩
      · refine sat_neg (by rw [q1]; exact i1_ne_0) (sat_ite (fun z => ?_) fun z => ?_)
        · refine add ?_
          rw [if_pos z] at e4 ⊢
          rw [e4]
          exact (if_pos q2).symm
        · refine sat_gd g1 ?_
          rw [ic]
          rw [if_neg z] at e4
          refine sat_ite (fun w => ?_) fun w => ?_
          · rw [n_eq, v0, l_2] at w
            refine add ?_
            rw [if_neg z, e4]
            exact (if_pos ⟨q2, w⟩).symm
          · rw [n_eq, v0, l_2] at w
            refine ih (e + 1) x4 (x5 + 1) (by omega) (n_inc e5 (by omega)) ?_
            rw [if_neg z, e4]
            exact (if_neg fun u => w u.2).symm
      · refine sat_pos q1 (ih (e + 1) x4 (x5 + 1) (by omega) (n_inc e5 (by omega)) ?_)
        by_cases z : x3 = 0
        · rw [if_pos z] at e4 ⊢
          rw [e4]
          exact (if_neg q2).symm
        · rw [if_neg z] at e4 ⊢
          rw [e4]
          exact (if_neg fun u => q2 u.1).symm
  unfold qX11_owedBetween
  refine uqX11_owedBetween_0 ?_
  unfold BX11_owedBetween_0
  refine H m 0 0 0 (by omega) rfl ?_
  split <;> rfl
theorem c_differing (hs : ShC h) (rc : RC52 m X h) (s : SLs h m) (sc : SLc h m) {x1 x2 : Int32} (e1 : x1.toInt = a) (e2 : x2.toInt = b) : sat (qX11_differing x1 x2 h) fun y => y.2 = h ∧ y.1.toInt = cnt (dfP h X a b) m := by
  have rc0 := rc
  obtain ⟨⟨r0, r1⟩, r2, -⟩ := rc
  have H : ∀ (j e : Nat) (x3 x4 : Int32), e + j = m → x4.toInt = e → x3.toInt = cnt (dfP h X a b) e → sat (qX11_differing_5 x1 x2 x3 x4 h) fun y => y.2 = h ∧ y.1.toInt = cnt (dfP h X a b) m := by
    intro j
    induction j with
    | zero =>
      intro e x3 x4 he e4 e3
      refine uqX11_differing_5 ?_
      unfold BX11_differing_5
      refine sat_pos (by rw [n_le, hI_eq, r0, e4]; omega) (sat_ret ⟨rfl, ?_⟩)
      rw [show m = e by omega]
      exact e3
    | succ j ih =>
      intro e x3 x4 he e4 e3
      obtain ⟨v, p, q⟩ := c_differs hs rc0 s sc e4 e1 e2 (show e < m by omega)
      have cb := cnt_b (dfP h X a b) e
      refine uqX11_differing_5 ?_
      unfold BX11_differing_5
      refine sat_neg (by rw [n_le, hI_eq, r0, e4]; omega) (sat_call p ?_)
      rcases q with ⟨q1, q2⟩ | ⟨q1, q2⟩
      · refine sat_neg (by rw [q1]; exact i1_ne_0) (ih (e + 1) (x3 + 1) (x4 + 1) (by omega) (n_inc e4 (by omega)) ?_)
        rw [cnt_s, one_pos q2, n_add, e3, l_1, n_bm (by omega) (by omega)]
      · refine sat_pos q1 (ih (e + 1) x3 (x4 + 1) (by omega) (n_inc e4 (by omega)) ?_)
        rw [cnt_s, one_neg q2, e3]
        omega
  unfold qX11_differing
  refine uqX11_differing_0 ?_
  unfold BX11_differing_0
  exact H m 0 0 0 (by omega) rfl rfl
theorem c_differingLetter (hs : ShC h) (rc : RC52 m X h) (s : SLs h m) (sc : SLc h m) {x1 x2 x3 : Int32} {k : Int} (e1 : x1.toInt = a) (e2 : x2.toInt = b) (e3 : x3.toInt = k) : sat (qX11_differingLetter x1 x2 x3 h) fun y => y.2 = h ∧ y.1.toInt = acN (dfP h X a b) k m := by
  have rc0 := rc
  obtain ⟨⟨r0, r1⟩, r2, -⟩ := rc
  have H : ∀ (j e : Nat) (x4 x5 : Int32), e + j = m → x5.toInt = e → x4.toInt = cnt (dfP h X a b) e → acN (dfP h X a b) k e = -1 → sat (qX11_differingLetter_6 x1 x2 x3 x4 x5 h) fun y => y.2 = h ∧ y.1.toInt = acN (dfP h X a b) k m := by
    intro j
    induction j with
    | zero =>
      intro e x4 x5 he e5 e4 en
      refine uqX11_differingLetter_6 ?_
      unfold BX11_differingLetter_6
      refine sat_pos (by rw [n_le, hI_eq, r0, e5]; omega) (sat_ret ⟨rfl, ?_⟩)
      rw [show m = e by omega]
      exact en.symm
    | succ j ih =>
      intro e x4 x5 he e5 e4 en
      obtain ⟨v, p, q⟩ := c_differs hs rc0 s sc e5 e1 e2 (show e < m by omega)
      have cb := cnt_b (dfP h X a b) e
      refine uqX11_differingLetter_6 ?_
      unfold BX11_differingLetter_6
      refine sat_neg (by rw [n_le, hI_eq, r0, e5]; omega) (sat_call p ?_)
      rcases q with ⟨q1, q2⟩ | ⟨q1, q2⟩
      · refine sat_neg (by rw [q1]; exact i1_ne_0) (sat_ite (fun z => ?_) fun z => ?_)
        · rw [n_eq, e4, e3] at z
          refine sat_ret ⟨rfl, e5.trans ?_⟩
          have := (acN_at q2 z j).1
          rw [show e + 1 + j = m by omega] at this
          exact this.symm
        · rw [n_eq, e4, e3] at z
          refine ih (e + 1) (x4 + 1) (x5 + 1) (by omega) (n_inc e5 (by omega)) ?_ ((if_neg fun u => z u.2).trans en)
          rw [cnt_s, one_pos q2, n_add, e4, l_1, n_bm (by omega) (by omega)]
      · refine sat_pos q1 (ih (e + 1) x4 (x5 + 1) (by omega) (n_inc e5 (by omega)) ?_ ((if_neg fun u => q2 u.1).trans en))
        rw [cnt_s, one_neg q2, e4]
        omega
  unfold qX11_differingLetter
  refine uqX11_differingLetter_0 ?_
  unfold BX11_differingLetter_0
  exact H m 0 0 0 (by omega) rfl rfl rfl
theorem m_acc (rm : RM0 m X h) {x1 x2 : Int32} (e1 : x1.toInt = a) (e2 : x2.toInt = b) (x3 : Int32) : ∀ (j e : Nat) (x4 x5 x6 x7 x8 : Int32), e + j = m → x8.toInt = e → x4 = acA h a b e → x5 = acB h X a b e → x6.toInt = cnt (dfP h X a b) e → x7.toInt = acN (dfP h X a b) (x3 - 10).toInt e → sat (qX12_account_38 x1 x2 x3 x4 x5 x6 x7 x8 h) fun y => y.2 = h ∧ y.1.toInt = accF h X m a b x3.toInt := by
  obtain ⟨⟨p0, p1⟩, p2, -⟩ := rm
  intro j
  induction j with
  | zero =>
    intro e x4 x5 x6 x7 x8 he e8 e4 e5 e6 e7
    obtain rfl : e = m := by omega
    refine uqX12_account_38 ?_
    unfold BX12_account_38
    refine sat_pos (by rw [n_le, hI_eq, p0, e8]; omega) ?_
    unfold accF
    refine sat_ite (fun z => ?_) fun z0 => ?_
    · rw [n_eq, l_0] at z
      rw [if_pos z]
      exact sat_ret ⟨rfl, congrArg Int32.toInt e4⟩
    rw [n_eq, l_0] at z0
    rw [if_neg z0]
    refine sat_ite (fun z => ?_) fun z1 => ?_
    · rw [n_eq, l_1] at z
      rw [if_pos z]
      exact sat_ret ⟨rfl, congrArg Int32.toInt e5⟩
    rw [n_eq, l_1] at z1
    rw [if_neg z1]
    refine sat_ite (fun z => ?_) fun z2 => ?_
    · rw [n_eq, l_2] at z
      rw [if_pos z]
      exact sat_ret ⟨rfl, e6⟩
    rw [n_eq, l_2] at z2
    rw [if_neg z2]
    have b1 := n_lo x3
    have b2 := n_hi x3
    refine sat_ret ⟨rfl, ?_⟩
    show x7.toInt = _
    by_cases z : 10 ≤ x3.toInt
    · rw [if_pos z, e7, n_sub, l_10, n_bm (by omega) (by omega)]
    · rw [if_neg z, e7]
      refine acN_no e ?_
      rw [n_sub, l_10]
      by_cases w : -2147483648 ≤ x3.toInt - 10
      · rw [n_bm (by omega) (by omega)]
        omega
      · right
        unfold Int.bmod
        dsimp only
        split <;> omega
  | succ j ih =>
    intro e x4 x5 x6 x7 x8 he e8 e4 e5 e6 e7
    have ic : x8.toNatClampNeg = e := by
      rw [n_idx, e8]
      rfl
    have g1 := vp80 e8 (show e < 120 by omega)
    have v0 : (ea_i h 381 e).toInt = X 0 e := (p2 e).1
    have cb := cnt_b (dfP h X a b) e
    have ow := m_owed (h := h) e8 (show e < 120 by omega)
    obtain ⟨v, p, q⟩ := m_isOf (h := h) e8 e1 e2 (show e < 120 by omega)
    have i8 := n_inc e8 (show e < 2147483647 by omega)
    refine uqX12_account_38 ?_
    unfold BX12_account_38
    refine sat_neg (by rw [n_le, hI_eq, p0, e8]; omega) (sat_call p ?_)
    rcases q with ⟨q1, q2⟩ | ⟨q1, q2⟩
    · have e4' : x4 + owI h e = acA h a b (e + 1) := by
        rw [e4]
        exact (if_pos q2).symm
      refine sat_neg (by rw [q1]; exact i1_ne_0) (sat_call ow (sat_gd g1 ?_))
      dsimp only
      rw [ic]
      refine sat_ite (fun z => ?_) fun z => ?_
      · rw [n_eq, v0, l_2] at z
        have nd : ¬ dfP h X a b e := fun u => u.2.1 z
        refine sat_call ow (ih (e + 1) _ _ x6 x7 _ (by omega) i8 e4' ?_ ?_ ?_)
        · rw [e5]
          exact (if_pos ⟨q2, z⟩).symm
        · rw [cnt_s, one_neg nd, e6]
          omega
        · exact e7.trans (if_neg fun u => nd u.1).symm
      · rw [n_eq, v0, l_2] at z
        have e5' : x5 = acB h X a b (e + 1) := by
          rw [e5]
          exact (if_neg fun u => z u.2).symm
        refine sat_call ow (sat_ite (fun w => ?_) fun w => ?_)
        · rw [n_le, l_0] at w
          dsimp only at w
          have nd : ¬ dfP h X a b e := fun u => by have := u.2.2; omega
          refine ih (e + 1) _ _ x6 x7 _ (by omega) i8 e4' e5' ?_ ?_
          · rw [cnt_s, one_neg nd, e6]
            omega
          · exact e7.trans (if_neg fun u => nd u.1).symm
        · rw [n_le, l_0] at w
          dsimp only at w
          have d : dfP h X a b e := ⟨q2, z, by omega⟩
          have e6' : (x6 + (1 : Int32)).toInt = cnt (dfP h X a b) (e + 1) := by
            rw [cnt_s, one_pos d, n_add, e6, l_1, n_bm (by omega) (by omega)]
          refine sat_ite (fun u => ?_) fun u => ?_
          · rw [n_eq, e6] at u
            refine ih (e + 1) _ _ _ x8 _ (by omega) i8 e4' e5' e6' ?_
            exact e8.trans (if_pos ⟨d, u⟩).symm
          · rw [n_eq, e6] at u
            refine ih (e + 1) _ _ _ x7 _ (by omega) i8 e4' e5' e6' ?_
            exact e7.trans (if_neg fun r => u r.2).symm
    · have nd : ¬ dfP h X a b e := fun u => q2 u.1
      refine sat_pos q1 (ih (e + 1) x4 x5 x6 x7 _ (by omega) i8 ?_ ?_ ?_ ?_)
      · rw [e4]
        exact (if_neg q2).symm
      · rw [e5]
        exact (if_neg fun u => q2 u.1).symm
      · rw [cnt_s, one_neg nd, e6]
        omega
      · exact e7.trans (if_neg fun u => nd u.1).symm
theorem call_account {n : Nat} (hs : ShC h) (bs : SBas h n) (rc : RC52 m X h) (rm : RM0 m X h) (s : SLs h m) (sc : SLc h m) (x1 x2 x3 : Int32) : tw (qX11_account x1 x2 x3 h) (qX12_account x1 x2 x3) fun h' => h' = h := by
  obtain ⟨b1, -, -, b4, b5, -⟩ := bs
  by_cases hv : ((0 ≤ x1.toInt ∧ x1.toInt < n) ∧ 0 ≤ x2.toInt ∧ x2.toInt < n) ∧ x1 ≠ x2
  · obtain ⟨⟨h1, h2⟩, h12⟩ := hv
    refine tw_ro (n := accF h X m x1.toInt x2.toInt x3.toInt) ?_ ?_
    · unfold qX11_account BX11_account_0
      obtain ⟨v1, q1, s1⟩ := c_has x1 h
      refine sat_call q1 ?_
      rcases s1 with ⟨r1, s1⟩ | ⟨r1, s1⟩
      · exact sat_pos r1 (absurd h1 (by omega))
      refine sat_neg (by rw [r1]; exact i1_ne_0) ?_
      dsimp only
      obtain ⟨v2, q2, s2⟩ := c_has x2 h
      refine sat_call q2 ?_
      rcases s2 with ⟨r2, s2⟩ | ⟨r2, s2⟩
      · exact sat_pos r2 (absurd h2 (by omega))
      refine sat_neg (by rw [r2]; exact i1_ne_0) ?_
      dsimp only
      refine sat_neg h12 ?_
      refine sat_ite (fun c => ?_) fun c0 => ?_
      · refine sat_bind (c_owedBetween hs rc s sc rfl rfl (Or.inl rfl)) fun y hy => sat_ret ⟨hy.1, ?_⟩
        rw [c]
        exact congrArg Int32.toInt hy.2
      refine sat_ite (fun c => ?_) fun c1 => ?_
      · refine sat_bind (c_owedBetween hs rc s sc rfl rfl (Or.inr rfl)) fun y hy => sat_ret ⟨hy.1, ?_⟩
        rw [c]
        exact congrArg Int32.toInt hy.2
      refine sat_ite (fun c => ?_) fun c2 => ?_
      · refine sat_bind (c_differing hs rc s sc rfl rfl) fun y hy => sat_ret ⟨hy.1, ?_⟩
        rw [c]
        exact hy.2
      have b2 := n_hi x3
      unfold accF
      rw [if_neg c0, if_neg c1, if_neg c2]
      refine sat_ite (fun c => ?_) fun c3 => ?_
      · rw [n_le, l_10] at c
        rw [if_pos c]
        refine sat_bind (c_differingLetter hs rc s sc rfl rfl (k := x3.toInt - 10) (by rw [n_sub, l_10, n_bm (by omega) (by omega)])) fun y hy => sat_ret hy
      · rw [n_le, l_10] at c3
        rw [if_neg c3]
        exact sat_ret ⟨rfl, rfl⟩
    · unfold qX12_account
      refine uqX12_account_0 ?_
      unfold BX12_account_0
      obtain ⟨v1, q1, s1⟩ := m_isTown x1 (h := h) (by omega)
      refine sat_call q1 ?_
      rcases s1 with ⟨r1, s1⟩ | ⟨r1, s1⟩
      · exact sat_pos r1 (absurd h1 (by omega))
      refine sat_neg (by rw [r1]; exact i1_ne_0) ?_
      dsimp only
      obtain ⟨v2, q2, s2⟩ := m_isTown x2 (h := h) (by omega)
      refine sat_call q2 ?_
      rcases s2 with ⟨r2, s2⟩ | ⟨r2, s2⟩
      · exact sat_pos r2 (absurd h2 (by omega))
      refine sat_neg (by rw [r2]; exact i1_ne_0) ?_
      dsimp only
      refine sat_neg h12 (m_acc rm rfl rfl x3 m 0 0 0 0 (-1) 0 (by omega) rfl rfl rfl rfl rfl)
  · refine tw_ro (n := -1) ?_ ?_
    · unfold qX11_account BX11_account_0
      obtain ⟨v1, q1, s1⟩ := c_has x1 h
      refine sat_call q1 ?_
      rcases s1 with ⟨r1, s1⟩ | ⟨r1, s1⟩
      · exact sat_pos r1 (sat_ret ⟨rfl, rfl⟩)
      refine sat_neg (by rw [r1]; exact i1_ne_0) ?_
      dsimp only
      obtain ⟨v2, q2, s2⟩ := c_has x2 h
      refine sat_call q2 ?_
      rcases s2 with ⟨r2, s2⟩ | ⟨r2, s2⟩
      · exact sat_pos r2 (sat_ret ⟨rfl, rfl⟩)
      refine sat_neg (by rw [r2]; exact i1_ne_0) ?_
      dsimp only
      refine sat_pos (Classical.byContradiction fun z => hv ⟨⟨by omega, by omega⟩, z⟩) (sat_ret ⟨rfl, rfl⟩)
    · unfold qX12_account
      refine uqX12_account_0 ?_
      unfold BX12_account_0
      obtain ⟨v1, q1, s1⟩ := m_isTown x1 (h := h) (by omega)
      refine sat_call q1 ?_
      rcases s1 with ⟨r1, s1⟩ | ⟨r1, s1⟩
      · exact sat_pos r1 (sat_ret ⟨rfl, rfl⟩)
      refine sat_neg (by rw [r1]; exact i1_ne_0) ?_
      dsimp only
      obtain ⟨v2, q2, s2⟩ := m_isTown x2 (h := h) (by omega)
      refine sat_call q2 ?_
      rcases s2 with ⟨r2, s2⟩ | ⟨r2, s2⟩
      · exact sat_pos r2 (sat_ret ⟨rfl, rfl⟩)
      refine sat_neg (by rw [r2]; exact i1_ne_0) ?_
      dsimp only
      refine sat_pos (Classical.byContradiction fun z => hv ⟨⟨by omega, by omega⟩, z⟩) (sat_ret ⟨rfl, rfl⟩)
end AN
