/-! act -/
section AC2
variable {b : Nat → Int} {n c u k q : Nat} {h hA hB : ea_H} {d x1 : Int32}
def Bg (d : Int32) (k : Nat) (h' : ea_H) : Prop := ∀ j, j ≤ 8 → hI h' (31 + 3 * k) j = if j = 0 then d.toInt else if j = 3 then 1439 else if j = 7 then 3 else 0
theorem c_begin (hs : ShC h) (hk : k < 6) : sat (qX0_begin (31 + 3 * k) d h) fun y => fq [(31, 48)] [] h y.2 ∧ Bg d k y.2 ∧ ∀ a j, a ≠ 31 + 3 * k → hI y.2 a j = hI h a j := by
  have A0 : inB [(31, 48)] (31 + 3 * k) = true := act_rng hk (by omega) (by omega)
  have g : ∀ {H}, fq [(31, 48)] [] h H → (31 + 3 * k < ea_n H ∧ ea_c H (31 + 3 * k) = 0) := fun F => (act_ref (ShC_core F.1 hs) hk).2.2.2.1
  have F0 : fq [(31, 48)] [] h h := fq_rfl _ _ _
  unfold qX0_begin BX0_begin_0
  refine sat_gd (g F0) (sat_let fun H2 q2 => ?_)
  have F2 : fq [(31, 48)] [] h H2 := F0.tr (q2 ▸ fq_wi A0)
  refine sat_gd (g F2) (sat_let fun H4 q4 => ?_)
  have F4 : fq [(31, 48)] [] h H4 := F2.tr (q4 ▸ fq_wi A0)
  refine sat_gd (g F4) (sat_let fun H6 q6 => ?_)
  have F6 : fq [(31, 48)] [] h H6 := F4.tr (q6 ▸ fq_wi A0)
  refine sat_gd (g F6) (sat_let fun H8 q8 => ?_)
  have F8 : fq [(31, 48)] [] h H8 := F6.tr (q8 ▸ fq_wi A0)
  refine sat_gd (g F8) (sat_let fun H10 q10 => ?_)
  have F10 : fq [(31, 48)] [] h H10 := F8.tr (q10 ▸ fq_wi A0)
  refine sat_gd (g F10) (sat_let fun H12 q12 => ?_)
  have F12 : fq [(31, 48)] [] h H12 := F10.tr (q12 ▸ fq_wi A0)
  refine sat_gd (g F12) (sat_let fun H14 q14 => ?_)
  have F14 : fq [(31, 48)] [] h H14 := F12.tr (q14 ▸ fq_wi A0)
  refine sat_gd (g F14) (sat_let fun H16 q16 => ?_)
  have F16 : fq [(31, 48)] [] h H16 := F14.tr (q16 ▸ fq_wi A0)
  refine sat_gd (g F16) (sat_let fun H18 q18 => ?_)
  have F18 : fq [(31, 48)] [] h H18 := F16.tr (q18 ▸ fq_wi A0)
  refine sat_ret ⟨F18, fun j hj => ?_, fun a j ha => ?_⟩
  · show hI H18 (31 + 3 * k) j = _
    have : j = 0 ∨ j = 1 ∨ j = 2 ∨ j = 3 ∨ j = 4 ∨ j = 5 ∨ j = 6 ∨ j = 7 ∨ j = 8 := by omega
    rcases this with z | z | z | z | z | z | z | z | z <;> subst z
    · rw [q18, hI_nk (by decide), q16, hI_nk (by decide), q14, hI_nk (by decide), q12, hI_nk (by decide), q10, hI_nk (by decide), q8, hI_nk (by decide), q6, hI_nk (by decide), q4, hI_nk (by decide), q2, hI_at]
      rfl
    · rw [q18, hI_nk (by decide), q16, hI_nk (by decide), q14, hI_nk (by decide), q12, hI_nk (by decide), q10, hI_nk (by decide), q8, hI_nk (by decide), q6, hI_nk (by decide), q4, hI_at]
      rfl
    · rw [q18, hI_nk (by decide), q16, hI_nk (by decide), q14, hI_nk (by decide), q12, hI_nk (by decide), q10, hI_nk (by decide), q8, hI_nk (by decide), q6, hI_at]
      rfl
    · rw [q18, hI_nk (by decide), q16, hI_nk (by decide), q14, hI_nk (by decide), q12, hI_nk (by decide), q10, hI_nk (by decide), q8, hI_at]
      rfl
    · rw [q18, hI_nk (by decide), q16, hI_nk (by decide), q14, hI_nk (by decide), q12, hI_nk (by decide), q10, hI_at]
      rfl
    · rw [q18, hI_nk (by decide), q16, hI_nk (by decide), q14, hI_nk (by decide), q12, hI_at]
      rfl
    · rw [q18, hI_nk (by decide), q16, hI_nk (by decide), q14, hI_at]
      rfl
    · rw [q18, hI_nk (by decide), q16, hI_at]
      rfl
    · rw [q18, hI_at]
      rfl
  · show hI H18 a j = _
    rw [q18, hI_ne ha, q16, hI_ne ha, q14, hI_ne ha, q12, hI_ne ha, q10, hI_ne ha, q8, hI_ne ha, q6, hI_ne ha, q4, hI_ne ha, q2, hI_ne ha]
theorem c_next (hs : ShC h) (hk : k < 6) (h1 : hI h 23 1 = k) : sat (qX8_next d h) fun y => y.1 = some (31 + 3 * k) ∧ fq [(31, 48)] [] h y.2 ∧ Bg d k y.2 ∧ ∀ a j, a ≠ 31 + 3 * k → hI y.2 a j = hI h a j := by
  obtain ⟨r1, -, -, r4, -, -⟩ := act_ref hs hk
  have v1 : (ea_i h 23 1).toInt = k := h1
  have ic : (ea_i h 23 1).toNatClampNeg = k := by
    rw [n_idx, v1]
    rfl
  unfold qX8_next BX8_next_0
  rw [ic, r1]
  refine sat_gd (vp80 v1 hk) (sat_gd rfl (sat_gd r4 (sat_bind (c_begin hs hk) fun y hy => ?_)))
  obtain ⟨F, y2, y3⟩ := hy
  have w1 : (ea_i y.2 23 1).toInt = k := (F.C 23 rfl rfl 1).trans h1
  have ic2 : (ea_i y.2 23 1).toNatClampNeg = k := by
    rw [n_idx, w1]
    rfl
  refine sat_gd (vp80 w1 hk) (sat_ret ⟨?_, F, y2, y3⟩)
  show ea_r y.2 28 (ea_i y.2 23 1).toNatClampNeg = _
  rw [ic2]
  exact (act_ref (ShC_core F.1 hs) hk).1
theorem c_mayBegin (hs : ShC h) (h1 : hI h 23 1 = k) (hk : k ≤ 6) (dy : ∀ i, i < k → 0 ≤ hI h (31 + 3 * i) 0) : ∃ v, qX8_mayBegin d h = some (v, h) ∧ ((v = 0 ∧ ¬ (k < 6 ∧ 0 ≤ d.toInt ∧ d.toInt < 7 ∧ (0 < k → hI h (31 + 3 * (k - 1)) 0 ≤ d.toInt))) ∨ (v = 1 ∧ k < 6 ∧ 0 ≤ d.toInt ∧ d.toInt < 7 ∧ (0 < k → hI h (31 + 3 * (k - 1)) 0 ≤ d.toInt))) := by
  have v1 : (ea_i h 23 1).toInt = k := h1
  have J : ∀ sx : Int32, (k = 0 → sx.toInt = 0) → (0 < k → sx.toInt = hI h (31 + 3 * (k - 1)) 0) → sat (qX8_mayBegin_25 d sx h) fun y => y.2 = h ∧ ((y.1 = 0 ∧ ¬ (k < 6 ∧ 0 ≤ d.toInt ∧ d.toInt < 7 ∧ (0 < k → hI h (31 + 3 * (k - 1)) 0 ≤ d.toInt))) ∨ (y.1 = 1 ∧ k < 6 ∧ 0 ≤ d.toInt ∧ d.toInt < 7 ∧ (0 < k → hI h (31 + 3 * (k - 1)) 0 ≤ d.toInt))) := by
    intro sx s0 s1
    refine uqX8_mayBegin_25 ?_
    unfold BX8_mayBegin_25
    refine sat_ite (fun z => sat_ret ⟨rfl, Or.inl ⟨rfl, ?_⟩⟩) fun z => sat_ite (fun z2 => sat_ret ⟨rfl, Or.inl ⟨rfl, ?_⟩⟩) fun z2 => sat_ite (fun z3 => sat_ret ⟨rfl, Or.inl ⟨rfl, ?_⟩⟩) fun z3 => sat_ret ⟨rfl, Or.inr ⟨rfl, ?_⟩⟩
    · rw [n_le, v1, l_6] at z
      omega
    · rw [n_lt] at z2
      rintro ⟨-, w2, -, w4⟩
      by_cases k0 : k = 0
      · have := s0 k0
        omega
      · have := s1 (by omega)
        have := w4 (by omega)
        omega
    · rw [n_le, l_7] at z3
      omega
    · rw [n_le, v1, l_6] at z
      rw [n_lt] at z2
      rw [n_le, l_7] at z3
      refine ⟨by omega, ?_, by omega, fun k0 => ?_⟩
      · by_cases k0 : k = 0
        · have := s0 k0
          omega
        · have := s1 (by omega)
          have := dy (k - 1) (by omega)
          omega
      · have := s1 k0
        omega
  have H : sat (qX8_mayBegin d h) fun y => y.2 = h ∧ ((y.1 = 0 ∧ ¬ (k < 6 ∧ 0 ≤ d.toInt ∧ d.toInt < 7 ∧ (0 < k → hI h (31 + 3 * (k - 1)) 0 ≤ d.toInt))) ∨ (y.1 = 1 ∧ k < 6 ∧ 0 ≤ d.toInt ∧ d.toInt < 7 ∧ (0 < k → hI h (31 + 3 * (k - 1)) 0 ≤ d.toInt))) := by
    unfold qX8_mayBegin
    refine uqX8_mayBegin_0 ?_
    unfold BX8_mayBegin_0
    refine sat_ite (fun z => ?_) fun z => ?_
    · rw [n_le, v1, l_0] at z
      exact J 0 (fun _ => rfl) fun k0 => by omega
    · rw [n_le, v1, l_0] at z
      have w1 : (ea_i h 23 1 - (1 : Int32)).toInt = ((k - 1 : Nat) : Int) := by
        rw [n_pred (by omega), v1]
        omega
      have ic : (ea_i h 23 1 - (1 : Int32)).toNatClampNeg = k - 1 := by
        rw [n_idx, w1]
        rfl
      obtain ⟨r1, -, -, r4, -, -⟩ := act_ref hs (show k - 1 < 6 by omega)
      rw [ic, r1]
      exact sat_gd (vp80 w1 (by omega)) (sat_gd rfl (sat_gd r4 (J _ (fun k0 => by omega) fun _ => rfl)))
  obtain ⟨⟨v, h'⟩, e, e1, e2⟩ := H
  dsimp only at e1 e2
  subst e1
  exact ⟨v, e, e2⟩
theorem c_drop (h : ea_H) : sat (qX6_drop h) fun y => fq [] [((24, 24), 0, 2)] h y.2 ∧ hI y.2 24 0 = 0 ∧ hI y.2 24 1 = 0 ∧ hI y.2 24 2 = -1 := by
  unfold qX6_drop BX6_drop_0
  refine sat_let fun H1 q1 => sat_let fun H2 q2 => sat_let fun H3 q3 => sat_ret ⟨((q1 ▸ fq_wf rfl : fq [] [((24, 24), 0, 2)] h H1).tr (q2 ▸ fq_wf rfl : fq [] [((24, 24), 0, 2)] H1 H2)).tr (q3 ▸ fq_wf rfl), ?_, ?_, ?_⟩
  · show hI H3 24 0 = 0
    rw [q3, hI_nk (by decide), q2, hI_nk (by decide), q1, hI_at]
    rfl
  · show hI H3 24 1 = 0
    rw [q3, hI_nk (by decide), q2, hI_at]
    rfl
  · show hI H3 24 2 = -1
    rw [q3, hI_at]
    rfl
theorem c_read0 (tp : TpC h b n) (h9 : hI h 24 9 = u) (r1 : Option Nat) : ∃ (c : Nat) (H4 : ea_H), fq [(26, 26)] [((24, 24), 0, 2), ((24, 24), 5, 7)] h H4 ∧ PrC H4 b n c 0 u ∧ hI H4 24 0 = 0 ∧ hI H4 24 2 = -1 ∧ ∀ Q : Int32 × ea_H → Prop, sat (qX6_read_36 r1 (ea_i h 24 9) 1 0 H4) Q → sat (qX6_read r1 h) Q := by
  obtain ⟨y1, ey1, f1, c, t1, t2, t3, t4, t5⟩ := c_scan tp
  obtain ⟨y2, ey2, f2, d0, d1, d2⟩ := c_drop y1.2
  obtain ⟨H3, q3⟩ : ∃ H3, H3 = ea_wi y2.2 24 6 0 := ⟨_, rfl⟩
  obtain ⟨H4, q4⟩ : ∃ H4, H4 = ea_wi H3 24 7 ((ea_i H3 26 0) &&& (127 : Int32)) := ⟨_, rfl⟩
  have F34 : fq [] [((24, 24), 6, 7)] y2.2 H4 := (q3 ▸ fq_wf rfl : fq [] [((24, 24), 6, 7)] y2.2 H3).tr (q4 ▸ fq_wf rfl)
  have F : fq [(26, 26)] [((24, 24), 0, 2), ((24, 24), 5, 7)] h H4 := (f1.up rfl rfl).tr ((f2.up rfl rfl).tr (F34.up rfl rfl))
  have vt : (ea_i H3 26 0).toInt = paT b n 0 := by
    show hI H3 26 0 = _
    rw [q3, hI_ne (by decide), f2.C 26 rfl rfl 0]
    exact t5 0 (by omega)
  obtain ⟨-, -, b3, -⟩ := paT_b tp.2.1 b 0
  refine ⟨c, H4, F, ⟨tp.2.1, ⟨?_, t2, t3, t4, fun j hj => ?_⟩, Nat.zero_le _, ?_, ?_, ⟨?_, ?_⟩, ?_⟩, ?_, ?_, fun Q HQ => ?_⟩
  · rw [F34.I 24 rfl 5 rfl, f2.I 24 rfl 5 rfl]
    exact t1
  · rw [F34.C 26 rfl rfl j, f2.C 26 rfl rfl j]
    exact t5 j hj
  · rw [q4, hI_nk (by decide), q3, hI_at]
    rfl
  · rw [q4, hI_at, s_and_127 (by omega), vt]
    omega
  · rw [F34.I 24 rfl 1 rfl]
    exact d1
  · rw [F34.I 24 rfl 2 rfl]
    exact d2
  · rw [F.I 24 rfl 9 rfl]
    exact h9
  · rw [F34.I 24 rfl 0 rfl]
    exact d0
  · rw [F34.I 24 rfl 2 rfl]
    exact d2
  · unfold qX6_read
    refine uqX6_read_0 ?_
    unfold BX6_read_0
    refine sat_call ey1 (sat_call ey2 (sat_let fun H3' q3' => sat_let fun H4' q4' => ?_))
    have e3 : H3' = H3 := by
      rw [q3]
      exact q3'
    rw [e3] at q4'
    have e4 : H4' = H4 := by
      rw [q4]
      exact q4'
    rw [e4]
    exact HQ
theorem m_act55 (tp : TpM h b n) : ∃ w : ea_H, fq [] [((326, 326), 43, 51), ((326, 326), 53, 57)] h w ∧ PrN w b n 0 0 ∧ (∀ j, 2 ≤ j → j ≤ 7 → hI w 326 (44 + j) = if j = 3 then 1439 else if j = 7 then 3 else 0) ∧ hI w 326 43 = 0 ∧ hI w 326 44 = 0 ∧ ∀ Q : Int32 × ea_H → Prop, sat (qX12_act_118 d 1 w) Q → sat (qX12_act_55 d h) Q := by
  obtain ⟨H12, q12⟩ : ∃ H12, H12 = ea_wi h 326 57 0 := ⟨_, rfl⟩
  have F12 : fq [] [((326, 326), 43, 51), ((326, 326), 53, 57)] h H12 := q12 ▸ fq_wf rfl
  obtain ⟨H13, q13⟩ : ∃ H13, H13 = ea_wi H12 326 53 0 := ⟨_, rfl⟩
  have F13 : fq [] [((326, 326), 43, 51), ((326, 326), 53, 57)] h H13 := F12.tr (q13 ▸ fq_wf rfl)
  obtain ⟨H14, q14⟩ : ∃ H14, H14 = ea_wi H13 326 43 0 := ⟨_, rfl⟩
  have F14 : fq [] [((326, 326), 43, 51), ((326, 326), 53, 57)] h H14 := F13.tr (q14 ▸ fq_wf rfl)
  obtain ⟨H15, q15⟩ : ∃ H15, H15 = ea_wi H14 326 44 0 := ⟨_, rfl⟩
  have F15 : fq [] [((326, 326), 43, 51), ((326, 326), 53, 57)] h H15 := F14.tr (q15 ▸ fq_wf rfl)
  obtain ⟨H16, q16⟩ : ∃ H16, H16 = ea_wi H15 326 45 0 := ⟨_, rfl⟩
  have F16 : fq [] [((326, 326), 43, 51), ((326, 326), 53, 57)] h H16 := F15.tr (q16 ▸ fq_wf rfl)
  obtain ⟨H17, q17⟩ : ∃ H17, H17 = ea_wi H16 326 46 0 := ⟨_, rfl⟩
  have F17 : fq [] [((326, 326), 43, 51), ((326, 326), 53, 57)] h H17 := F16.tr (q17 ▸ fq_wf rfl)
  obtain ⟨H18, q18⟩ : ∃ H18, H18 = ea_wi H17 326 47 1439 := ⟨_, rfl⟩
  have F18 : fq [] [((326, 326), 43, 51), ((326, 326), 53, 57)] h H18 := F17.tr (q18 ▸ fq_wf rfl)
  obtain ⟨H19, q19⟩ : ∃ H19, H19 = ea_wi H18 326 48 0 := ⟨_, rfl⟩
  have F19 : fq [] [((326, 326), 43, 51), ((326, 326), 53, 57)] h H19 := F18.tr (q19 ▸ fq_wf rfl)
  obtain ⟨H20, q20⟩ : ∃ H20, H20 = ea_wi H19 326 49 0 := ⟨_, rfl⟩
  have F20 : fq [] [((326, 326), 43, 51), ((326, 326), 53, 57)] h H20 := F19.tr (q20 ▸ fq_wf rfl)
  obtain ⟨H21, q21⟩ : ∃ H21, H21 = ea_wi H20 326 50 0 := ⟨_, rfl⟩
  have F21 : fq [] [((326, 326), 43, 51), ((326, 326), 53, 57)] h H21 := F20.tr (q21 ▸ fq_wf rfl)
  obtain ⟨H22, q22⟩ : ∃ H22, H22 = ea_wi H21 326 51 3 := ⟨_, rfl⟩
  have F22 : fq [] [((326, 326), 43, 51), ((326, 326), 53, 57)] h H22 := F21.tr (q22 ▸ fq_wf rfl)
  have X57 : hI H22 326 57 = 0 := by
    rw [q22, hI_nk (by decide), q21, hI_nk (by decide), q20, hI_nk (by decide), q19, hI_nk (by decide), q18, hI_nk (by decide), q17, hI_nk (by decide), q16, hI_nk (by decide), q15, hI_nk (by decide), q14, hI_nk (by decide), q13, hI_nk (by decide), q12, hI_at]
    rfl
  have X53 : hI H22 326 53 = 0 := by
    rw [q22, hI_nk (by decide), q21, hI_nk (by decide), q20, hI_nk (by decide), q19, hI_nk (by decide), q18, hI_nk (by decide), q17, hI_nk (by decide), q16, hI_nk (by decide), q15, hI_nk (by decide), q14, hI_nk (by decide), q13, hI_at]
    rfl
  have X43 : hI H22 326 43 = 0 := by
    rw [q22, hI_nk (by decide), q21, hI_nk (by decide), q20, hI_nk (by decide), q19, hI_nk (by decide), q18, hI_nk (by decide), q17, hI_nk (by decide), q16, hI_nk (by decide), q15, hI_nk (by decide), q14, hI_at]
    rfl
  have X44 : hI H22 326 44 = 0 := by
    rw [q22, hI_nk (by decide), q21, hI_nk (by decide), q20, hI_nk (by decide), q19, hI_nk (by decide), q18, hI_nk (by decide), q17, hI_nk (by decide), q16, hI_nk (by decide), q15, hI_at]
    rfl
  have X45 : hI H22 326 45 = 0 := by
    rw [q22, hI_nk (by decide), q21, hI_nk (by decide), q20, hI_nk (by decide), q19, hI_nk (by decide), q18, hI_nk (by decide), q17, hI_nk (by decide), q16, hI_at]
    rfl
  have X46 : hI H22 326 46 = 0 := by
    rw [q22, hI_nk (by decide), q21, hI_nk (by decide), q20, hI_nk (by decide), q19, hI_nk (by decide), q18, hI_nk (by decide), q17, hI_at]
    rfl
  have X47 : hI H22 326 47 = 1439 := by
    rw [q22, hI_nk (by decide), q21, hI_nk (by decide), q20, hI_nk (by decide), q19, hI_nk (by decide), q18, hI_at]
    rfl
  have X48 : hI H22 326 48 = 0 := by
    rw [q22, hI_nk (by decide), q21, hI_nk (by decide), q20, hI_nk (by decide), q19, hI_at]
    rfl
  have X49 : hI H22 326 49 = 0 := by
    rw [q22, hI_nk (by decide), q21, hI_nk (by decide), q20, hI_at]
    rfl
  have X50 : hI H22 326 50 = 0 := by
    rw [q22, hI_nk (by decide), q21, hI_at]
    rfl
  have X51 : hI H22 326 51 = 3 := by
    rw [q22, hI_at]
    rfl
  have tp22 : TpM H22 b n := ⟨(F22.I 326 rfl 52 rfl).trans tp.1, tp.2.1, fun k hk => ⟨(F22.C 362 rfl rfl k).trans (tp.2.2 k hk).1, (tp.2.2 k hk).2⟩⟩
  obtain ⟨w, ew, fw, w1, w2, w3, w4⟩ := m_next0 (p := 0) tp22 (Nat.zero_le _) X53
  have pm : PrN w.2 b n 0 0 := by
    have G : fq [] [((326, 326), 60, 60)] w.2 (ea_wi w.2 326 60 0) := fq_wf rfl
    refine ⟨⟨?_, tp.2.1, fun k hk => ⟨?_, (tp.2.2 k hk).2⟩⟩, ?_, ?_, ?_, fun z => ?_, ?_, ?_, ?_⟩
    · rw [hI_nk (by decide), fw.I 326 rfl 52 rfl]
      exact tp22.1
    · rw [hI_ne (by decide), fw.C 362 rfl rfl k]
      exact (tp22.2.2 k hk).1
    · rw [hI_nk (by decide)]
      exact w1
    · rw [hI_nk (by decide)]
      exact w2
    · rw [hI_nk (by decide)]
      exact w3
    · rw [hI_nk (by decide)]
      exact w4 z
    · rw [hI_at]
      rfl
    · rw [hI_nk (by decide), fw.I 326 rfl 45 rfl]
      exact X45
    · rw [hI_nk (by decide), fw.I 326 rfl 57 rfl]
      exact X57
  refine ⟨w.2, F22.tr (fw.up rfl rfl), pm, fun j j1 j2 => ?_, (fw.I 326 rfl 43 rfl).trans X43, (fw.I 326 rfl 44 rfl).trans X44, fun Q HQ => ?_⟩
  · have : j = 2 ∨ j = 3 ∨ j = 4 ∨ j = 5 ∨ j = 6 ∨ j = 7 := by omega
    rcases this with z | z | z | z | z | z <;> subst z
    · exact (fw.I 326 rfl 46 rfl).trans X46
    · exact (fw.I 326 rfl 47 rfl).trans X47
    · exact (fw.I 326 rfl 48 rfl).trans X48
    · exact (fw.I 326 rfl 49 rfl).trans X49
    · exact (fw.I 326 rfl 50 rfl).trans X50
    · exact (fw.I 326 rfl 51 rfl).trans X51
  · refine uqX12_act_55 ?_
    unfold BX12_act_55
    refine sat_let fun P12 r12 => sat_let fun P13 r13 => sat_let fun P14 r14 => sat_let fun P15 r15 => sat_let fun P16 r16 => sat_let fun P17 r17 => sat_let fun P18 r18 => sat_let fun P19 r19 => sat_let fun P20 r20 => sat_let fun P21 r21 => sat_let fun P22 r22 => ?_
    have e12 : P12 = H12 := by
      rw [q12]
      exact r12
    rw [e12] at r13
    have e13 : P13 = H13 := by
      rw [q13]
      exact r13
    rw [e13] at r14
    have e14 : P14 = H14 := by
      rw [q14]
      exact r14
    rw [e14] at r15
    have e15 : P15 = H15 := by
      rw [q15]
      exact r15
    rw [e15] at r16
    have e16 : P16 = H16 := by
      rw [q16]
      exact r16
    rw [e16] at r17
    have e17 : P17 = H17 := by
      rw [q17]
      exact r17
    rw [e17] at r18
    have e18 : P18 = H18 := by
      rw [q18]
      exact r18
    rw [e18] at r19
    have e19 : P19 = H19 := by
      rw [q19]
      exact r19
    rw [e19] at r20
    have e20 : P20 = H20 := by
      rw [q20]
      exact r20
    rw [e20] at r21
    have e21 : P21 = H21 := by
      rw [q21]
      exact r21
    rw [e21] at r22
    have e22 : P22 = H22 := by
      rw [q22]
      exact r22
    rw [e22]
    exact sat_call ew HQ
end AC2
