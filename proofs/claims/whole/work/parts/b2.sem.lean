/-! the reference's next0 -/
def TpM (h : ea_H) (b : Nat → Int) (n : Nat) : Prop := hI h 326 52 = n ∧ n ≤ 600 ∧ ∀ k, k < n → hI h 362 k = b k ∧ 0 ≤ b k ∧ b k < 256
/-- the reference's number of a kind of token -/
def paX (k : Nat) : Nat := if k < 6 then k + 3 else if k < 13 then 195 + k else if k = 13 then 10 else if k = 14 then 9 else if k = 15 then 13 else if k = 16 then 12 else if k = 17 then 11 else if k = 18 then 2 else if k = 19 then 0 else if k = 20 then 1 else k
def paPm : List Nat := [0, 1, 2, 3, 4, 5, 14, 13, 17, 16, 15, 6, 7, 8, 9, 10, 11, 12]
section NX
variable {b : Nat → Int} {n p q E : Nat} {x1 : Int32} {h h' : ea_H}
theorem TpM.fq (f : fq [] [((326, 326), 53, 56)] h h') (tp : TpM h b n) : TpM h' b n := ⟨(f.I 326 rfl 52 rfl).trans tp.1, tp.2.1, fun k hk => ⟨(f.C 362 rfl rfl k).trans (tp.2.2 k hk).1, (tp.2.2 k hk).2⟩⟩
theorem m_see (tp : TpM h b n) (e1 : x1.toInt = p) : ∃ v, qX12_see x1 h = some (v, h) ∧ (p < n → v.toInt = b p) ∧ (n ≤ p → v.toInt = -1) := by
  have vn : (ea_i h 326 52).toInt = n := tp.1
  have n6 := tp.2.1
  unfold qX12_see BX12_see_0
  by_cases z : n ≤ p
  · exact ⟨-1, if_pos (by rw [n_le, vn, e1]; omega), fun c => absurd c (by omega), fun _ => rfl⟩
  · have ic : x1.toNatClampNeg = p := by
      rw [n_idx, e1]
      rfl
    refine ⟨ea_i h 362 p, ?_, fun c => (tp.2.2 p c).1, fun c => absurd c z⟩
    rw [if_neg (by rw [n_le, vn, e1]; omega), gd_pos (vp80 e1 (by omega)), ic]
theorem m_isLetter (x : Int32) (h : ea_H) : ∃ v, qX12_isLetter x h = some (v, h) ∧ ((v = 0 ∧ paL x.toInt = false) ∨ (v = 1 ∧ paL x.toInt = true)) := by
  refine sat_fl ?_
  unfold qX12_isLetter BX12_isLetter_0
  obtain ⟨v, q, s⟩ := m_isIn x 97 122 h
  obtain ⟨v2, q2, s2⟩ := m_isIn x 65 90 h
  rw [l_97, l_122] at s
  rw [l_65, l_90] at s2
  refine sat_call q ?_
  rcases s with ⟨s, t⟩ | ⟨s, t⟩
  · refine sat_pos s (sat_call q2 ?_)
    rcases s2 with ⟨s2, t2⟩ | ⟨s2, t2⟩
    · exact sat_pos s2 (sat_ret ⟨rfl, Or.inl ⟨rfl, decide_eq_false (by omega)⟩⟩)
    · exact sat_neg (by rw [s2]; exact i1_ne_0) (sat_ret ⟨rfl, Or.inr ⟨rfl, paL_iff.mpr (by omega)⟩⟩)
  · exact sat_neg (by rw [s]; exact i1_ne_0) (sat_ret ⟨rfl, Or.inr ⟨rfl, paL_iff.mpr (by omega)⟩⟩)
theorem m_isDigit (x : Int32) (h : ea_H) : ∃ v, qX12_isDigit x h = some (v, h) ∧ ((v = 0 ∧ paD x.toInt = false) ∨ (v = 1 ∧ paD x.toInt = true)) := by
  refine sat_fl ?_
  unfold qX12_isDigit BX12_isDigit_0
  obtain ⟨v, q, s⟩ := m_isIn x 48 57 h
  rw [l_48, l_57] at s
  refine sat_call q ?_
  rcases s with ⟨s, t⟩ | ⟨s, t⟩
  · exact sat_gd (Or.inl s) (sat_ret ⟨rfl, Or.inl ⟨s, decide_eq_false (by omega)⟩⟩)
  · exact sat_gd (Or.inr s) (sat_ret ⟨rfl, Or.inr ⟨s, paD_iff.mpr (by omega)⟩⟩)
theorem paR_iff (b : Nat → Int) (q : Nat) : ∀ (k : Nat) (r : List Int), r = paR b q k ↔ r.length = k ∧ ∀ j, j < k → b (q + j) = r.getD (k - 1 - j) 0 := by
  intro k
  induction k with
  | zero =>
    intro r
    constructor
    · intro e
      rw [e]
      exact ⟨rfl, fun j hj => absurd hj (by omega)⟩
    · intro e
      exact List.length_eq_zero_iff.mp e.1
  | succ k ih =>
    intro r
    cases r with
    | nil =>
      constructor
      · intro e
        cases e
      · intro e
        cases e.1
    | cons x r =>
      constructor
      · intro e
        have e1 : x = b (q + k) := (List.cons.inj e).1
        have e2 : r = paR b q k := (List.cons.inj e).2
        obtain ⟨i1, i2⟩ := (ih r).mp e2
        refine ⟨congrArg (· + 1) i1, fun j hj => ?_⟩
        by_cases z : j = k
        · rw [z, show k + 1 - 1 - k = 0 by omega, ← e1]
          rfl
        · rw [show k + 1 - 1 - j = (k - 1 - j) + 1 by omega]
          exact i2 j (by omega)
      · rintro ⟨i1, i2⟩
        have e1 := i2 k (by omega)
        rw [show k + 1 - 1 - k = 0 by omega] at e1
        have e1 : b (q + k) = x := e1
        have e2 : r = paR b q k := (ih r).mpr ⟨Nat.succ.inj i1, fun j hj => by
          have := i2 j (by omega)
          rw [show k + 1 - 1 - j = (k - 1 - j) + 1 by omega] at this
          exact this⟩
        show x :: r = b (q + k) :: paR b q k
        rw [e1, e2]
theorem pa_sL : ∀ o, o < 18 → (paWR.getD (paPm.getD o 0) []).length = ea_sL.getD o 0 ∧ ea_sL.getD o 0 ≤ 6 := by decide +kernel
theorem pa_sB : ∀ o, o < 18 → ∀ j, j < 6 → j < ea_sL.getD o 0 → ((ea_sB.getD o []).getD j 0).toInt = (paWR.getD (paPm.getD o 0) []).getD (ea_sL.getD o 0 - 1 - j) 0 := by decide +kernel
theorem m_is {o w : Nat} (ho : o < 18) (hw : paPm.getD o 0 = w) (tp : TpM h b n) (e53 : hI h 326 53 = E) (e55 : hI h 326 55 = q) (hq : q ≤ E) (hE : E ≤ n) : ∃ v, qX12_is o h = some (v, h) ∧ ((v = 0 ∧ decide (paWR.getD w [] = paR b q (E - q)) = false) ∨ (v = 1 ∧ decide (paWR.getD w [] = paR b q (E - q)) = true)) := by
  obtain ⟨l1, l2⟩ := pa_sL o ho
  have sB := pa_sB o ho
  rw [hw] at l1 sB
  have n6 := tp.2.1
  have v53 : (ea_i h 326 53).toInt = E := e53
  have v55 : (ea_i h 326 55).toInt = q := e55
  have vL : (Int32.ofNat (ea_sL.getD o 0)).toInt = ((ea_sL.getD o 0 : Nat) : Int) := Int32.toInt_ofNat_of_lt (by omega)
  have ql : qS_length o h = some (Int32.ofNat (ea_sL.getD o 0), h) := rfl
  have pi := paR_iff b q (E - q) (paWR.getD w [])
  have R0 : ∀ (x3 : Int32), ¬ paWR.getD w [] = paR b q (E - q) → sat (qX12_is_24 o 0 x3 h) fun y => y.2 = h ∧ ((y.1 = 0 ∧ decide (paWR.getD w [] = paR b q (E - q)) = false) ∨ (y.1 = 1 ∧ decide (paWR.getD w [] = paR b q (E - q)) = true)) := by
    intro x3 hne
    refine uqX12_is_24 ?_
    unfold BX12_is_24
    have r : ∀ x : Int32, x = 0 → sat (some (x, h)) fun y => y.2 = h ∧ ((y.1 = 0 ∧ decide (paWR.getD w [] = paR b q (E - q)) = false) ∨ (y.1 = 1 ∧ decide (paWR.getD w [] = paR b q (E - q)) = true)) := fun x hx => sat_ret ⟨rfl, Or.inl ⟨hx, decide_eq_false hne⟩⟩
    exact sat_gd ho (sat_call ql (sat_ite (fun _ => sat_gd (Or.inl rfl) (r 0 rfl)) fun _ => sat_pos rfl (sat_gd (Or.inl rfl) (r 0 rfl))))
  have R1 : ∀ (d k : Nat) (x3 : Int32), k + d = ea_sL.getD o 0 → x3.toInt = k → E - q = ea_sL.getD o 0 → (∀ j, j < k → b (q + j) = (paWR.getD w []).getD (ea_sL.getD o 0 - 1 - j) 0) → sat (qX12_is_24 o 1 x3 h) fun y => y.2 = h ∧ ((y.1 = 0 ∧ decide (paWR.getD w [] = paR b q (E - q)) = false) ∨ (y.1 = 1 ∧ decide (paWR.getD w [] = paR b q (E - q)) = true)) := by
    intro d
    induction d with
    | zero =>
      intro k x3 hk e3 el hj
      refine uqX12_is_24 ?_
      unfold BX12_is_24
      refine sat_gd ho (sat_call ql (sat_pos (by rw [n_le, vL, e3]; omega) (sat_gd (Or.inr rfl) (sat_ret ⟨rfl, Or.inr ⟨rfl, decide_eq_true (pi.mpr ⟨by omega, fun j h1 => ?_⟩)⟩⟩))))
      rw [el]
      exact hj j (by omega)
    | succ d ih =>
      intro k x3 hk e3 el hj
      have i3 : x3.toNatClampNeg = k := by
        rw [n_idx, e3]
        rfl
      have va : (ea_i h 326 55 + x3).toInt = ((q + k : Nat) : Int) := by
        rw [n_add, v55, e3, n_bm (by omega) (by omega)]
        omega
      have ia : (ea_i h 326 55 + x3).toNatClampNeg = q + k := by
        rw [n_idx, va]
        rfl
      have qc : qS_charAt o x3 h = some ((ea_sB.getD o []).getD k 0, h) := by
        unfold qS_charAt
        rw [gd_pos (vp80 e3 (by omega)), i3]
      have hb := (tp.2.2 (q + k) (by omega)).1
      have v6 : (ea_i h 362 (q + k)).toInt = b (q + k) := hb
      refine uqX12_is_24 ?_
      unfold BX12_is_24
      refine sat_gd ho (sat_call ql (sat_neg (by rw [n_le, vL, e3]; omega) (sat_neg (by decide) (sat_gd (vp80 va (by omega)) (sat_gd ho (sat_call qc ?_))))))
      rw [ia]
      refine sat_ite (fun z => ?_) fun z => ?_
      · have z : ea_i h 362 (q + k) = (ea_sB.getD o []).getD k 0 := z
        rw [n_eq, v6, sB k (by omega) (by omega)] at z
        refine ih (k + 1) (x3 + 1) (by omega) (n_inc e3 (by omega)) el fun j h1 => ?_
        by_cases c : j = k
        · rw [c]
          exact z
        · exact hj j (by omega)
      · have z : ¬ ea_i h 362 (q + k) = (ea_sB.getD o []).getD k 0 := z
        rw [n_eq, v6, sB k (by omega) (by omega)] at z
        refine R0 (x3 + 1) fun e => z ?_
        have := (pi.mp e).2 k (by omega)
        rw [el] at this
        exact this
  refine sat_fl ?_
  unfold qX12_is
  refine uqX12_is_0 ?_
  unfold BX12_is_0
  have vd : (ea_i h 326 53 - ea_i h 326 55).toInt = ((E - q : Nat) : Int) := by
    rw [n_sub, v53, v55, n_bm (by omega) (by omega)]
    omega
  refine sat_gd ho (sat_call ql (sat_ite (fun z => ?_) fun z => ?_))
  · have z : ea_i h 326 53 - ea_i h 326 55 = Int32.ofNat (ea_sL.getD o 0) := z
    rw [n_eq, vd, vL] at z
    exact R1 _ 0 0 (Nat.zero_add _) rfl (by omega) fun j hj => absurd hj (by omega)
  · have z : ¬ ea_i h 326 53 - ea_i h 326 55 = Int32.ofNat (ea_sL.getD o 0) := z
    rw [n_eq, vd, vL] at z
    refine R0 0 fun e => z ?_
    have := (pi.mp e).1
    omega
theorem m_word (tp : TpM h b n) (e53 : hI h 326 53 = E) (e55 : hI h 326 55 = q) (hq : q ≤ E) (hE : E ≤ n) : sat (qX12_word h) fun y => y.2 = h ∧ y.1.toInt = paX (paW (paR b q (E - q))) := by
  unfold qX12_word BX12_word_0
  obtain ⟨v0, q0, s0⟩ := m_is (o := 0) (w := 0) (by decide) rfl tp e53 e55 hq hE
  refine sat_call q0 ?_
  rcases s0 with ⟨s0, t0⟩ | ⟨s0, t0⟩
  rotate_left
  · exact sat_neg (by rw [s0]; exact i1_ne_0) (sat_ret ⟨rfl, by show (3 : Int32).toInt = _; rw [← of_decide_eq_true t0]; decide +kernel⟩)
  refine sat_pos s0 ?_
  obtain ⟨v1, q1, s1⟩ := m_is (o := 1) (w := 1) (by decide) rfl tp e53 e55 hq hE
  refine sat_call q1 ?_
  rcases s1 with ⟨s1, t1⟩ | ⟨s1, t1⟩
  rotate_left
  · exact sat_neg (by rw [s1]; exact i1_ne_0) (sat_ret ⟨rfl, by show (4 : Int32).toInt = _; rw [← of_decide_eq_true t1]; decide +kernel⟩)
  refine sat_pos s1 ?_
  obtain ⟨v2, q2, s2⟩ := m_is (o := 2) (w := 2) (by decide) rfl tp e53 e55 hq hE
  refine sat_call q2 ?_
  rcases s2 with ⟨s2, t2⟩ | ⟨s2, t2⟩
  rotate_left
  · exact sat_neg (by rw [s2]; exact i1_ne_0) (sat_ret ⟨rfl, by show (5 : Int32).toInt = _; rw [← of_decide_eq_true t2]; decide +kernel⟩)
  refine sat_pos s2 ?_
  obtain ⟨v3, q3, s3⟩ := m_is (o := 3) (w := 3) (by decide) rfl tp e53 e55 hq hE
  refine sat_call q3 ?_
  rcases s3 with ⟨s3, t3⟩ | ⟨s3, t3⟩
  rotate_left
  · exact sat_neg (by rw [s3]; exact i1_ne_0) (sat_ret ⟨rfl, by show (6 : Int32).toInt = _; rw [← of_decide_eq_true t3]; decide +kernel⟩)
  refine sat_pos s3 ?_
  obtain ⟨v4, q4, s4⟩ := m_is (o := 4) (w := 4) (by decide) rfl tp e53 e55 hq hE
  refine sat_call q4 ?_
  rcases s4 with ⟨s4, t4⟩ | ⟨s4, t4⟩
  rotate_left
  · exact sat_neg (by rw [s4]; exact i1_ne_0) (sat_ret ⟨rfl, by show (7 : Int32).toInt = _; rw [← of_decide_eq_true t4]; decide +kernel⟩)
  refine sat_pos s4 ?_
  obtain ⟨v5, q5, s5⟩ := m_is (o := 5) (w := 5) (by decide) rfl tp e53 e55 hq hE
  refine sat_call q5 ?_
  rcases s5 with ⟨s5, t5⟩ | ⟨s5, t5⟩
  rotate_left
  · exact sat_neg (by rw [s5]; exact i1_ne_0) (sat_ret ⟨rfl, by show (8 : Int32).toInt = _; rw [← of_decide_eq_true t5]; decide +kernel⟩)
  refine sat_pos s5 ?_
  obtain ⟨v6, q6, s6⟩ := m_is (o := 6) (w := 14) (by decide) rfl tp e53 e55 hq hE
  refine sat_call q6 ?_
  rcases s6 with ⟨s6, t6⟩ | ⟨s6, t6⟩
  rotate_left
  · exact sat_neg (by rw [s6]; exact i1_ne_0) (sat_ret ⟨rfl, by show (9 : Int32).toInt = _; rw [← of_decide_eq_true t6]; decide +kernel⟩)
  refine sat_pos s6 ?_
  obtain ⟨v7, q7, s7⟩ := m_is (o := 7) (w := 13) (by decide) rfl tp e53 e55 hq hE
  refine sat_call q7 ?_
  rcases s7 with ⟨s7, t7⟩ | ⟨s7, t7⟩
  rotate_left
  · exact sat_neg (by rw [s7]; exact i1_ne_0) (sat_ret ⟨rfl, by show (10 : Int32).toInt = _; rw [← of_decide_eq_true t7]; decide +kernel⟩)
  refine sat_pos s7 ?_
  obtain ⟨v8, q8, s8⟩ := m_is (o := 8) (w := 17) (by decide) rfl tp e53 e55 hq hE
  refine sat_call q8 ?_
  rcases s8 with ⟨s8, t8⟩ | ⟨s8, t8⟩
  rotate_left
  · exact sat_neg (by rw [s8]; exact i1_ne_0) (sat_ret ⟨rfl, by show (11 : Int32).toInt = _; rw [← of_decide_eq_true t8]; decide +kernel⟩)
  refine sat_pos s8 ?_
  obtain ⟨v9, q9, s9⟩ := m_is (o := 9) (w := 16) (by decide) rfl tp e53 e55 hq hE
  refine sat_call q9 ?_
  rcases s9 with ⟨s9, t9⟩ | ⟨s9, t9⟩
  rotate_left
  · exact sat_neg (by rw [s9]; exact i1_ne_0) (sat_ret ⟨rfl, by show (12 : Int32).toInt = _; rw [← of_decide_eq_true t9]; decide +kernel⟩)
  refine sat_pos s9 ?_
  obtain ⟨v10, q10, s10⟩ := m_is (o := 10) (w := 15) (by decide) rfl tp e53 e55 hq hE
  refine sat_call q10 ?_
  rcases s10 with ⟨s10, t10⟩ | ⟨s10, t10⟩
  rotate_left
  · exact sat_neg (by rw [s10]; exact i1_ne_0) (sat_ret ⟨rfl, by show (13 : Int32).toInt = _; rw [← of_decide_eq_true t10]; decide +kernel⟩)
  refine sat_pos s10 ?_
  obtain ⟨v11, q11, s11⟩ := m_is (o := 11) (w := 6) (by decide) rfl tp e53 e55 hq hE
  refine sat_call q11 ?_
  rcases s11 with ⟨s11, t11⟩ | ⟨s11, t11⟩
  rotate_left
  · exact sat_neg (by rw [s11]; exact i1_ne_0) (sat_ret ⟨rfl, by show (201 : Int32).toInt = _; rw [← of_decide_eq_true t11]; decide +kernel⟩)
  refine sat_pos s11 ?_
  obtain ⟨v12, q12, s12⟩ := m_is (o := 12) (w := 7) (by decide) rfl tp e53 e55 hq hE
  refine sat_call q12 ?_
  rcases s12 with ⟨s12, t12⟩ | ⟨s12, t12⟩
  rotate_left
  · exact sat_neg (by rw [s12]; exact i1_ne_0) (sat_ret ⟨rfl, by show (202 : Int32).toInt = _; rw [← of_decide_eq_true t12]; decide +kernel⟩)
  refine sat_pos s12 ?_
  obtain ⟨v13, q13, s13⟩ := m_is (o := 13) (w := 8) (by decide) rfl tp e53 e55 hq hE
  refine sat_call q13 ?_
  rcases s13 with ⟨s13, t13⟩ | ⟨s13, t13⟩
  rotate_left
  · exact sat_neg (by rw [s13]; exact i1_ne_0) (sat_ret ⟨rfl, by show (203 : Int32).toInt = _; rw [← of_decide_eq_true t13]; decide +kernel⟩)
  refine sat_pos s13 ?_
  obtain ⟨v14, q14, s14⟩ := m_is (o := 14) (w := 9) (by decide) rfl tp e53 e55 hq hE
  refine sat_call q14 ?_
  rcases s14 with ⟨s14, t14⟩ | ⟨s14, t14⟩
  rotate_left
  · exact sat_neg (by rw [s14]; exact i1_ne_0) (sat_ret ⟨rfl, by show (204 : Int32).toInt = _; rw [← of_decide_eq_true t14]; decide +kernel⟩)
  refine sat_pos s14 ?_
  obtain ⟨v15, q15, s15⟩ := m_is (o := 15) (w := 10) (by decide) rfl tp e53 e55 hq hE
  refine sat_call q15 ?_
  rcases s15 with ⟨s15, t15⟩ | ⟨s15, t15⟩
  rotate_left
  · exact sat_neg (by rw [s15]; exact i1_ne_0) (sat_ret ⟨rfl, by show (205 : Int32).toInt = _; rw [← of_decide_eq_true t15]; decide +kernel⟩)
  refine sat_pos s15 ?_
  obtain ⟨v16, q16, s16⟩ := m_is (o := 16) (w := 11) (by decide) rfl tp e53 e55 hq hE
  refine sat_call q16 ?_
  rcases s16 with ⟨s16, t16⟩ | ⟨s16, t16⟩
  rotate_left
  · exact sat_neg (by rw [s16]; exact i1_ne_0) (sat_ret ⟨rfl, by show (206 : Int32).toInt = _; rw [← of_decide_eq_true t16]; decide +kernel⟩)
  refine sat_pos s16 ?_
  obtain ⟨v17, q17, s17⟩ := m_is (o := 17) (w := 12) (by decide) rfl tp e53 e55 hq hE
  refine sat_call q17 ?_
  rcases s17 with ⟨s17, t17⟩ | ⟨s17, t17⟩
  rotate_left
  · exact sat_neg (by rw [s17]; exact i1_ne_0) (sat_ret ⟨rfl, by show (207 : Int32).toInt = _; rw [← of_decide_eq_true t17]; decide +kernel⟩)
  refine sat_pos s17 ?_
  refine sat_ret ⟨rfl, ?_⟩
  show (1 : Int32).toInt = _
  have st : ∀ w, ¬ paWR.getD w [] = paR b q (E - q) → paU (paR b q (E - q)) (w + 1) = paU (paR b q (E - q)) w := fun w c => if_neg c
  unfold paW
  rw [st 17 (of_decide_eq_false t8), st 16 (of_decide_eq_false t9), st 15 (of_decide_eq_false t10), st 14 (of_decide_eq_false t6), st 13 (of_decide_eq_false t7), st 12 (of_decide_eq_false t17), st 11 (of_decide_eq_false t16), st 10 (of_decide_eq_false t15), st 9 (of_decide_eq_false t14), st 8 (of_decide_eq_false t13), st 7 (of_decide_eq_false t12), st 6 (of_decide_eq_false t11), st 5 (of_decide_eq_false t5), st 4 (of_decide_eq_false t4), st 3 (of_decide_eq_false t3), st 2 (of_decide_eq_false t2), st 1 (of_decide_eq_false t1), st 0 (of_decide_eq_false t0)]
  show (1 : Int32).toInt = ((paX 20 : Nat) : Int)
  decide +kernel
def NxP (b : Nat → Int) (n q : Nat) (h h' : ea_H) : Prop := fq [] [((326, 326), 53, 56)] h h' ∧ hI h' 326 53 = paN b n q ∧ hI h' 326 54 = paX (paK b n q) ∧ hI h' 326 55 = q ∧ (paK b n q = 18 → hI h' 326 56 = paV b n q)
theorem m_next0 (tp : TpM h b n) (hp : p ≤ n) (e53 : hI h 326 53 = p) : sat (qX12_next0 h) fun y => NxP b n (paQ b n p) h y.2 := by
  have n6 := tp.2.1
  have st : ∀ (hh h2 : ea_H) (k : Nat) (x : Int32), 53 ≤ k → k ≤ 56 → fq [] [((326, 326), 53, 56)] h hh → h2 = ea_wi hh 326 k x → fq [] [((326, 326), 53, 56)] h h2 := fun hh h2 k x k1 k2 F e => F.tr (e ▸ fq_wf (inP_iff.mpr ⟨_, List.mem_cons_self, ⟨by show 326 ≤ 326; decide, by show 326 ≤ 326; decide⟩, k1, k2⟩))
  -- a word
  have L76 : ∀ (q d j : Nat) (hh : ea_H), q < n → paL (b q) = true → j + d = paE (fun i => paL (b i)) n q → q ≤ j → fq [] [((326, 326), 53, 56)] h hh → hI hh 326 53 = j → hI hh 326 55 = q → sat (qX12_next0_76 hh) fun y => NxP b n q h y.2 := by
    intro q d
    have a := paE_all (f := fun i => paL (b i)) (n := n) (q := q)
    induction d with
    | zero =>
      intro j hh hq hl hj hqj F e53 e55
      obtain ⟨a1, a2, a3, a4⟩ := a (by omega)
      have tp2 := tp.fq F
      have v53 : (ea_i hh 326 53).toInt = j := e53
      obtain ⟨v, q1, s1, s2⟩ := m_see tp2 v53
      obtain ⟨v2, q2, t2⟩ := m_isLetter v hh
      have no : paL v.toInt = false := by
        by_cases c : j < n
        · rw [s1 c, show j = paE (fun i => paL (b i)) n q by omega]
          exact a4 (by omega)
        · rw [s2 (by omega)]
          rfl
      have v0 : v2 = 0 := by
        rcases t2 with ⟨t2, -⟩ | ⟨-, t2⟩
        · exact t2
        · rw [no] at t2
          cases t2
      refine uqX12_next0_76 ?_
      unfold BX12_next0_76
      refine sat_call q1 (sat_call q2 (sat_pos v0 (sat_bind (m_word tp2 e53 e55 hqj (by omega)) fun w29 hw => sat_let fun H30 q30 => sat_ret ?_)))
      obtain ⟨w1, w2⟩ := hw
      rw [w1] at q30
      have kE : paK b n q = paW (paR b q (paE (fun i => paL (b i)) n q - q)) := by
        unfold paK
        rw [if_neg (by omega), if_pos hl]
      have nE : paN b n q = paE (fun i => paL (b i)) n q := by
        unfold paN
        rw [if_neg (by omega), if_pos hl]
      refine ⟨st hh H30 54 _ (by decide) (by decide) F q30, ?_, ?_, ?_, fun c => ?_⟩
      · show hI H30 326 53 = _
        rw [q30, hI_nk (by decide), e53, nE, ← hj]
        rfl
      · show hI H30 326 54 = _
        rw [q30, hI_at, w2, kE, ← hj]
        rfl
      · show hI H30 326 55 = _
        rw [q30, hI_nk (by decide), e55]
      · have := ((paK_b b n q).2.2 c).1.1
        rw [hl] at this
        cases this
    | succ d ih =>
      intro j hh hq hl hj hqj F e53 e55
      obtain ⟨a1, a2, a3, a4⟩ := a (by omega)
      have tp2 := tp.fq F
      have v53 : (ea_i hh 326 53).toInt = j := e53
      obtain ⟨v, q1, s1, s2⟩ := m_see tp2 v53
      obtain ⟨v2, q2, t2⟩ := m_isLetter v hh
      have yes : paL v.toInt = true := by
        rw [s1 (by omega)]
        exact a3 j hqj (by omega)
      have v0 : v2 = 1 := by
        rcases t2 with ⟨-, t2⟩ | ⟨t2, -⟩
        · rw [yes] at t2
          cases t2
        · exact t2
      refine uqX12_next0_76 ?_
      unfold BX12_next0_76
      refine sat_call q1 (sat_call q2 (sat_neg (by rw [v0]; exact i1_ne_0) (sat_let fun H31 q31 => ?_)))
      exact ih (j + 1) H31 hq hl (by omega) (by omega) (st hh H31 53 _ (by decide) (by decide) F q31) (by rw [q31, hI_at, n_inc v53 (by omega)]) (by rw [q31, hI_nk (by decide), e55])
  -- a number
  have L126 : ∀ (q d j : Nat) (hh : ea_H), q < n → paL (b q) = false → paD (b q) = true → j + d = paE (fun i => paD (b i)) n q → q ≤ j → fq [] [((326, 326), 53, 56)] h hh → hI hh 326 53 = j → hI hh 326 55 = q → hI hh 326 56 = paM b q (min (j - q) 4) → sat (qX12_next0_126 hh) fun y => NxP b n q h y.2 := by
    intro q d
    have a := paE_all (f := fun i => paD (b i)) (n := n) (q := q)
    induction d with
    | zero =>
      intro j hh hq hnl hl hj hqj F e53 e55 e56
      obtain ⟨a1, a2, a3, a4⟩ := a (by omega)
      have tp2 := tp.fq F
      have v53 : (ea_i hh 326 53).toInt = j := e53
      have v55 : (ea_i hh 326 55).toInt = q := e55
      obtain ⟨v, q1, s1, s2⟩ := m_see tp2 v53
      obtain ⟨v2, q2, t2⟩ := m_isDigit v hh
      have no : paD v.toInt = false := by
        by_cases c : j < n
        · rw [s1 c, show j = paE (fun i => paD (b i)) n q by omega]
          exact a4 (by omega)
        · rw [s2 (by omega)]
          rfl
      have v0 : v2 = 0 := by
        rcases t2 with ⟨t2, -⟩ | ⟨-, t2⟩
        · exact t2
        · rw [no] at t2
          cases t2
      have nE : paN b n q = paE (fun i => paD (b i)) n q := by
        unfold paN
        rw [if_neg (by omega), if_neg (by rw [hnl]; decide), if_pos hl]
      have kE : paK b n q = if paE (fun i => paD (b i)) n q ≤ q + 4 then 18 else 20 := by
        unfold paK
        rw [if_neg (by omega), if_neg (by rw [hnl]; decide), if_pos hl]
      have vd : (ea_i hh 326 53 - ea_i hh 326 55).toInt = (j : Int) - q := by rw [n_sub, v53, v55, n_bm (by omega) (by omega)]
      refine uqX12_next0_126 ?_
      unfold BX12_next0_126
      refine sat_call q1 (sat_call q2 (sat_pos v0 (sat_ite (fun z => sat_let fun H35 q35 => sat_ret ?_) fun z => sat_let fun H36 q36 => sat_ret ?_)))
      · rw [n_le, vd, l_5] at z
        rw [if_neg (by omega)] at kE
        refine ⟨st hh H35 54 _ (by decide) (by decide) F q35, ?_, ?_, ?_, fun c => ?_⟩
        · show hI H35 326 53 = _
          rw [q35, hI_nk (by decide), e53, nE, ← hj]
          rfl
        · show hI H35 326 54 = _
          rw [q35, hI_at, kE]
          rfl
        · show hI H35 326 55 = _
          rw [q35, hI_nk (by decide), e55]
        · rw [kE] at c
          cases c
      · rw [n_le, vd, l_5] at z
        rw [if_pos (by omega)] at kE
        refine ⟨st hh H36 54 _ (by decide) (by decide) F q36, ?_, ?_, ?_, fun c => ?_⟩
        · show hI H36 326 53 = _
          rw [q36, hI_nk (by decide), e53, nE, ← hj]
          rfl
        · show hI H36 326 54 = _
          rw [q36, hI_at, kE]
          rfl
        · show hI H36 326 55 = _
          rw [q36, hI_nk (by decide), e55]
        · show hI H36 326 56 = _
          rw [q36, hI_nk (by decide), e56]
          unfold paV
          rw [if_pos kE, show min (j - q) 4 = paE (fun i => paD (b i)) n q - q by omega]
    | succ d ih =>
      intro j hh hq hnl hl hj hqj F e53 e55 e56
      obtain ⟨a1, a2, a3, a4⟩ := a (by omega)
      have tp2 := tp.fq F
      have v53 : (ea_i hh 326 53).toInt = j := e53
      have v55 : (ea_i hh 326 55).toInt = q := e55
      have v56 : (ea_i hh 326 56).toInt = paM b q (min (j - q) 4) := e56
      obtain ⟨v, q1, s1, s2⟩ := m_see tp2 v53
      obtain ⟨v2, q2, t2⟩ := m_isDigit v hh
      have dj : paD (b j) = true := a3 j hqj (by omega)
      have yes : paD v.toInt = true := by
        rw [s1 (by omega)]
        exact dj
      have v0 : v2 = 1 := by
        rcases t2 with ⟨-, t2⟩ | ⟨t2, -⟩
        · rw [yes] at t2
          cases t2
        · exact t2
      have v5 : (ea_i hh 326 55 + (4 : Int32)).toInt = (q : Int) + 4 := by rw [n_add, v55, l_4, n_bm (by omega) (by omega)]
      refine uqX12_next0_126 ?_
      unfold BX12_next0_126
      refine sat_call q1 (sat_call q2 (sat_neg (by rw [v0]; exact i1_ne_0) (sat_ite (fun z => sat_let fun H38 q38 => ?_) fun z => sat_call q1 (sat_let fun H40 q40 => sat_let fun H41 q41 => ?_))))
      · rw [n_le, v5, v53] at z
        refine ih (j + 1) H38 hq hnl hl (by omega) (by omega) (st hh H38 53 _ (by decide) (by decide) F q38) (by rw [q38, hI_at, n_inc v53 (by omega)]) (by rw [q38, hI_nk (by decide), e55]) ?_
        rw [q38, hI_nk (by decide), e56, show min (j + 1 - q) 4 = min (j - q) 4 by omega]
      · rw [n_le, v5, v53] at z
        have F40 := st hh H40 56 _ (by decide) (by decide) F q40
        have c53 : hI H40 326 53 = j := by rw [q40, hI_nk (by decide), e53]
        refine ih (j + 1) H41 hq hnl hl (by omega) (by omega) (st H40 H41 53 _ (by decide) (by decide) F40 q41) (by rw [q41, hI_at, n_inc c53 (by omega)]) (by rw [q41, hI_nk (by decide), q40, hI_nk (by decide), e55]) ?_
        have m := paM_b (b := b) (q := q) (k := j - q) (by omega) fun i h1 h2 => paD_iff.mp (a3 i h1 (by omega))
        have m2 := pa_p4 (j - q) (by omega)
        have m3 := paD_iff.mp dj
        have vj := s1 (by omega)
        rw [show min (j - q) 4 = j - q by omega] at v56
        have c1 : ((10 : Int32) * ea_i hh 326 56).toInt = 10 * paM b q (j - q) := by rw [n_mul, v56, l_10, n_bm (by omega) (by omega)]
        have c2 : ((10 : Int32) * ea_i hh 326 56 + v).toInt = 10 * paM b q (j - q) + b j := by rw [n_add, c1, vj, n_bm (by omega) (by omega)]
        have c3 : ((10 : Int32) * ea_i hh 326 56 + v - (48 : Int32)).toInt = 10 * paM b q (j - q) + b j - 48 := by rw [n_sub, c2, l_48, n_bm (by omega) (by omega)]
        rw [q41, hI_nk (by decide), q40, hI_at, show min (j + 1 - q) 4 = (j - q) + 1 by omega]
        refine c3.trans ?_
        show _ = 10 * paM b q (j - q) + b (q + (j - q)) - 48
        rw [show q + (j - q) = j by omega]
  have L0 : ∀ (d p : Nat) (hh : ea_H), n ≤ p + d → p ≤ n → fq [] [((326, 326), 53, 56)] h hh → hI hh 326 53 = p → sat (qX12_next0_0 hh) fun y => NxP b n (paQ b n p) h y.2 := by
    intro d
    induction d with
    | zero =>
      intro p hh hd hp F e53
      have ep : p = n := by omega
      subst ep
      have tp2 := tp.fq F
      have v53 : (ea_i hh 326 53).toInt = p := e53
      obtain ⟨v, q1, -, s2⟩ := m_see tp2 v53
      have s2 := s2 (Nat.le_refl _)
      have qE : paQ b p p = p := paE_end (Nat.le_refl _)
      refine uqX12_next0_0 ?_
      unfold BX12_next0_0
      refine sat_call q1 (sat_neg (by rw [n_eq, s2, l_32]; decide) (sat_call q1 (sat_neg (by rw [n_eq, s2, l_10]; decide) (sat_let fun H4 q4 => ?_))))
      have F4 := st hh H4 55 _ (by decide) (by decide) F q4
      have c53 : (ea_i H4 326 53).toInt = p := by
        show hI H4 326 53 = p
        rw [q4, hI_nk (by decide), e53]
      obtain ⟨v5, q5, -, s5⟩ := m_see (tp.fq F4) c53
      refine sat_call q5 (sat_pos (by rw [n_eq, s5 (Nat.le_refl _), l_m1]) (sat_let fun H22 q22 => sat_ret ?_))
      rw [qE]
      refine ⟨st H4 H22 54 _ (by decide) (by decide) F4 q22, ?_, ?_, ?_, fun c => ?_⟩
      · show hI H22 326 53 = _
        rw [q22, hI_nk (by decide), show paN b p p = p from if_pos (Nat.le_refl _)]
        exact c53
      · show hI H22 326 54 = _
        rw [q22, hI_at, show paK b p p = 19 from if_pos (Nat.le_refl _)]
        rfl
      · show hI H22 326 55 = _
        rw [q22, hI_nk (by decide), q4, hI_at]
        exact e53
      · rw [show paK b p p = 19 from if_pos (Nat.le_refl _)] at c
        cases c
    | succ d ih =>
      intro p hh hd hp F e53
      by_cases zn : n ≤ p
      · have ep : p = n := by omega
        subst ep
        have tp2 := tp.fq F
        have v53 : (ea_i hh 326 53).toInt = p := e53
        obtain ⟨v, q1, -, s2⟩ := m_see tp2 v53
        have s2 := s2 (Nat.le_refl _)
        have qE : paQ b p p = p := paE_end (Nat.le_refl _)
        refine uqX12_next0_0 ?_
        unfold BX12_next0_0
        refine sat_call q1 (sat_neg (by rw [n_eq, s2, l_32]; decide) (sat_call q1 (sat_neg (by rw [n_eq, s2, l_10]; decide) (sat_let fun H4 q4 => ?_))))
        have F4 := st hh H4 55 _ (by decide) (by decide) F q4
        have c53 : (ea_i H4 326 53).toInt = p := by
          show hI H4 326 53 = p
          rw [q4, hI_nk (by decide), e53]
        obtain ⟨v5, q5, -, s5⟩ := m_see (tp.fq F4) c53
        refine sat_call q5 (sat_pos (by rw [n_eq, s5 (Nat.le_refl _), l_m1]) (sat_let fun H22 q22 => sat_ret ?_))
        rw [qE]
        refine ⟨st H4 H22 54 _ (by decide) (by decide) F4 q22, ?_, ?_, ?_, fun c => ?_⟩
        · show hI H22 326 53 = _
          rw [q22, hI_nk (by decide), show paN b p p = p from if_pos (Nat.le_refl _)]
          exact c53
        · show hI H22 326 54 = _
          rw [q22, hI_at, show paK b p p = 19 from if_pos (Nat.le_refl _)]
          rfl
        · show hI H22 326 55 = _
          rw [q22, hI_nk (by decide), q4, hI_at]
          exact e53
        · rw [show paK b p p = 19 from if_pos (Nat.le_refl _)] at c
          cases c
      have tp2 := tp.fq F
      have v53 : (ea_i hh 326 53).toInt = p := e53
      obtain ⟨v, q1, s1, -⟩ := m_see tp2 v53
      have s1 := s1 (by omega)
      have hb2 := (tp2.2.2 p (by omega)).2
      refine uqX12_next0_0 ?_
      unfold BX12_next0_0
      have go : ∀ H2 : ea_H, paB (b p) = true → H2 = ea_wi hh 326 53 (ea_i hh 326 53 + (1 : Int32)) → sat (qX12_next0_0 H2) fun y => NxP b n (paQ b n p) h y.2 := fun H2 zb q2 => by
        have e : paQ b n p = paQ b n (p + 1) := paE_go (by omega) zb
        rw [e]
        exact ih (p + 1) H2 (by omega) (by omega) (st hh H2 53 _ (by decide) (by decide) F q2) (by rw [q2, hI_at, n_inc v53 (by omega)])
      refine sat_call q1 (sat_ite (fun z => sat_let fun H2 q2 => ?_) fun z1 => sat_call q1 (sat_ite (fun z => sat_let fun H24 q24 => ?_) fun z2 => sat_let fun H4 q4 => ?_))
      · have z : v = 32 := z
        rw [n_eq, s1, l_32] at z
        exact go H2 (paB_iff.mpr (Or.inl z)) q2
      · have z : v = 10 := z
        rw [n_eq, s1, l_10] at z
        exact go H24 (paB_iff.mpr (Or.inr z)) q24
      have z1 : ¬ v = 32 := z1
      have z2 : ¬ v = 10 := z2
      rw [n_eq, s1, l_32] at z1
      rw [n_eq, s1, l_10] at z2
      have qE : paQ b n p = p := paE_no (pa_no fun c => by
        have := paB_iff.mp c
        omega)
      rw [qE]
      have F4 := st hh H4 55 _ (by decide) (by decide) F q4
      have c53 : (ea_i H4 326 53).toInt = p := by
        show hI H4 326 53 = p
        rw [q4, hI_nk (by decide), e53]
      have c55 : hI H4 326 55 = p := by
        rw [q4, hI_at]
        exact e53
      obtain ⟨v5, q5, s5, -⟩ := m_see (tp.fq F4) c53
      have s5 := s5 (by omega)
      obtain ⟨v6, q6, t6⟩ := m_isLetter v5 H4
      rw [s5] at t6
      refine sat_call q5 (sat_neg (by rw [n_eq, s5, l_m1]; omega) (sat_call q6 ?_))
      rcases t6 with ⟨t6, t7⟩ | ⟨t6, t7⟩
      · obtain ⟨v7, q7, t8⟩ := m_isDigit v5 H4
        rw [s5] at t8
        refine sat_pos t6 (sat_call q7 ?_)
        rcases t8 with ⟨t8, t9⟩ | ⟨t8, t9⟩
        · have nE : paN b n p = p + 1 := by
            unfold paN
            rw [if_neg zn, if_neg (by rw [t7]; decide), if_neg (by rw [t9]; decide)]
          have kE : paK b n p = if paG (b p) = true then (b p).toNat else 20 := by
            unfold paK
            rw [if_neg zn, if_neg (by rw [t7]; decide), if_neg (by rw [t9]; decide)]
          have k18 : ¬ paK b n p = 18 := fun c => by
            have := ((paK_b b n p).2.2 c).1.2
            rw [t9] at this
            cases this
          refine sat_pos t8 (sat_let fun H8 q8 => ?_)
          have F8 := st H4 H8 53 _ (by decide) (by decide) F4 q8
          have fin : ∀ (sx0 : Int32) (k : Nat), paX (paK b n p) = k → ((if sx0 = 0 then (1 : Int32) else v5).toInt = k) → sat (qX12_next0_289 v5 sx0 H8) fun y => NxP b n p h y.2 := by
            intro sx0 k hk ek
            refine uqX12_next0_289 ?_
            unfold BX12_next0_289
            have post : ∀ (H : ea_H) (x : Int32), x.toInt = k → H = ea_wi H8 326 54 x → NxP b n p h H := by
              intro H x ex q
              refine ⟨st H8 H 54 _ (by decide) (by decide) F8 q, ?_, ?_, ?_, fun c => absurd c k18⟩
              · rw [q, hI_nk (by decide), q8, hI_at, nE, n_inc c53 (by omega)]
              · rw [q, hI_at, hk, ex]
              · rw [q, hI_nk (by decide), q8, hI_nk (by decide), c55]
            refine sat_ite (fun z => sat_let fun H44 q44 => sat_ret (post H44 _ ?_ q44)) fun z => sat_let fun H45 q45 => sat_ret (post H45 _ ?_ q45)
            · rw [if_pos z] at ek
              exact ek
            · rw [if_neg z] at ek
              exact ek
          by_cases zg : paG (b p) = true
          · have c4 := paG_iff.mp zg
            rw [if_pos zg] at kE
            have yes : sat (qX12_next0_289 v5 1 H8) fun y => NxP b n p h y.2 := by
              refine fin 1 (b p).toNat ?_ ?_
              · rw [kE]
                have : ∀ k, k ∈ [40, 41, 42, 43, 45, 47, 59, 60, 61, 62] → paX k = k := by decide
                refine this _ ?_
                rcases c4 with z | z | z | z | z | z | z | z | z | z <;> rw [z] <;> decide
              · rw [if_neg (by decide), s5]
                omega
            refine sat_ite (fun _ => yes) fun y1 => sat_ite (fun _ => yes) fun y2 => sat_ite (fun _ => yes) fun y3 => sat_ite (fun _ => yes) fun y4 => sat_ite (fun _ => yes) fun y5 => sat_ite (fun _ => yes) fun y6 => sat_ite (fun _ => yes) fun y7 => sat_ite (fun _ => yes) fun y8 => sat_ite (fun _ => yes) fun y9 => sat_ite (fun _ => yes) fun y10 => ?_
            dsimp only at y1 y2 y3 y4 y5 y6 y7 y8 y9 y10
            rw [n_eq, s5, l_59] at y1
            rw [n_eq, s5, l_43] at y2
            rw [n_eq, s5, l_45] at y3
            rw [n_eq, s5, l_42] at y4
            rw [n_eq, s5, l_47] at y5
            rw [n_eq, s5, l_40] at y6
            rw [n_eq, s5, l_41] at y7
            rw [n_eq, s5, l_60] at y8
            rw [n_eq, s5, l_61] at y9
            rw [n_eq, s5, l_62] at y10
            exact absurd c4 (by omega)
          · have c4 : ¬ (b p = 40 ∨ b p = 41 ∨ b p = 42 ∨ b p = 43 ∨ b p = 45 ∨ b p = 47 ∨ b p = 59 ∨ b p = 60 ∨ b p = 61 ∨ b p = 62) := fun c => zg (paG_iff.mpr c)
            rw [if_neg zg] at kE
            refine sat_neg (by rw [n_eq, s5, l_59]; omega) (sat_neg (by rw [n_eq, s5, l_43]; omega) (sat_neg (by rw [n_eq, s5, l_45]; omega) (sat_neg (by rw [n_eq, s5, l_42]; omega) (sat_neg (by rw [n_eq, s5, l_47]; omega) (sat_neg (by rw [n_eq, s5, l_40]; omega) (sat_neg (by rw [n_eq, s5, l_41]; omega) (sat_neg (by rw [n_eq, s5, l_60]; omega) (sat_neg (by rw [n_eq, s5, l_61]; omega) (sat_neg (by rw [n_eq, s5, l_62]; omega) ?_)))))))))
            refine fin 0 1 ?_ rfl
            rw [kE]
            rfl
        · refine sat_neg (by rw [t8]; exact i1_ne_0) (sat_let fun H19 q19 => ?_)
          have g := paE_lt (f := fun i => paD (b i)) (n := n) (q := p) (by omega) t9
          exact L126 p (paE (fun i => paD (b i)) n p - p) p H19 (by omega) t7 t9 (by omega) (Nat.le_refl _) (st H4 H19 56 _ (by decide) (by decide) F4 q19) (by rw [q19, hI_nk (by decide)]; exact c53) (by rw [q19, hI_nk (by decide), c55]) (by rw [q19, hI_at, Nat.sub_self]; rfl)
      · have g := paE_lt (f := fun i => paL (b i)) (n := n) (q := p) (by omega) t7
        exact sat_neg (by rw [t6]; exact i1_ne_0) (L76 p (paE (fun i => paL (b i)) n p - p) p H4 (by omega) t7 (by omega) (Nat.le_refl _) F4 c53 c55)
  unfold qX12_next0
  exact L0 n p h (by omega) hp (fq_rfl _ _ h) e53
end NX
