/-! post: each of them up to the price -/
section PP
variable {h hB : ea_H} {n m a b : Nat}
/-- the class, the new letter filled -/
def FA (h H : ea_H) (m : Nat) (x1 x2 x3 x4 x5 x6 : Int) (D0 : Nat) (cr : Int32) (fk : Int) : Prop := fq [] [((76, 315), 0, 9)] h H ∧ (∀ a k, a ≠ 76 + 2 * m → hI H a k = hI h a k) ∧ (∀ k, 10 ≤ k → hI H (76 + 2 * m) k = hI h (76 + 2 * m) k) ∧ hI H (76 + 2 * m) 0 = x1 ∧ hI H (76 + 2 * m) 1 = x2 ∧ hI H (76 + 2 * m) 2 = x3 ∧ hI H (76 + 2 * m) 3 = x4 ∧ hI H (76 + 2 * m) 4 = x5 ∧ hI H (76 + 2 * m) 5 = x6 ∧ hI H (76 + 2 * m) 6 = hI h 0 14 ∧ hI H (76 + 2 * m) 7 = (if D0 < 1000000 then (D0 : Int) else 0) ∧ ea_i H (76 + 2 * m) 8 = cr ∧ hI H (76 + 2 * m) 9 = fk
theorem c_pre {D0 D1 : Nat → Nat → Nat} (hs : ShC h) (hm : m < 120) (hc : hI h 52 0 = m) (ha : a < 12) (hb : b < 12) {x1 x2 x3 x4 x5 x6 : Int32} (e2 : x2.toInt = a) (e3 : x3.toInt = b) (v3 : hI h 3 (12 * a + b) = D0 a b) (v4 : hI h 4 (12 * a + b) = D1 a b) (hB : ea_H) (sl : ∀ l, l < m → hI h (76 + 2 * l) 0 = hI hB 364 l ∧ hI h (76 + 2 * l) 5 = hI hB 369 l ∧ hI h (76 + 2 * l) 6 = hI hB 370 l) {β : Type} {P : β → Prop} {Kf : ea_H → Option β} (K : ∀ H, FA h H m x1.toInt x2.toInt x3.toInt x4.toInt x5.toInt x6.toInt (D0 a b) (crV D0 D1 a b) (cnt (fkP hB x6.toInt (ea_i h 0 14 / (1440 : Int32))) m) → sat (Kf H) P) :
    sat (Option.bind (qX5_begin (76 + 2 * m) x1 x2 x3 x4 x5 x6 h) fun w6 => gd (some (76 + 2 * m) = some (Option.getD (some (76 + 2 * m)) 0)) (gd ((Option.getD (some (76 + 2 * m)) 0) < ea_n w6.2 ∧ ea_c w6.2 (Option.getD (some (76 + 2 * m)) 0) = 5) (ea_let (ea_wi w6.2 (Option.getD (some (76 + 2 * m)) 0) 6 (ea_i w6.2 0 14)) fun H11 => Option.bind (qX7_between x2 x3 H11) fun w12 => gd (some (76 + 2 * m) = some (Option.getD (some (76 + 2 * m)) 0)) (gd ((Option.getD (some (76 + 2 * m)) 0) < ea_n w12.2 ∧ ea_c w12.2 (Option.getD (some (76 + 2 * m)) 0) = 5) (ea_let (ea_wi w12.2 (Option.getD (some (76 + 2 * m)) 0) 7 (if w12.1 < (0 : Int32) then (0 : Int32) else w12.1)) fun H15 => Option.bind (qX7_isCross x2 x3 H15) fun w16 => gd (some (76 + 2 * m) = some (Option.getD (some (76 + 2 * m)) 0)) (gd ((Option.getD (some (76 + 2 * m)) 0) < ea_n w16.2 ∧ ea_c w16.2 (Option.getD (some (76 + 2 * m)) 0) = 5) (gd (w16.1 = 0 ∨ w16.1 = 1) (ea_let (ea_wi w16.2 (Option.getD (some (76 + 2 * m)) 0) 8 w16.1) fun H20 => Option.bind (qX11_franksAhead (some (76 + 2 * m)) H20) fun w21 => gd (some (76 + 2 * m) = some (Option.getD (some (76 + 2 * m)) 0)) (gd ((Option.getD (some (76 + 2 * m)) 0) < ea_n w21.2 ∧ ea_c w21.2 (Option.getD (some (76 + 2 * m)) 0) = 5) (ea_let (ea_wi w21.2 (Option.getD (some (76 + 2 * m)) 0) 9 w21.1) fun H24 => Kf H24)))))))))) P := by
  have rf : ∀ {h : ea_H}, ShC h → 76 + 2 * m < ea_n h ∧ ea_c h (76 + 2 * m) = 5 := fun hs => (ltr_ref hs hm).2
  have st : ∀ {h1 h2 : ea_H} {j : Nat} {x : Int32}, h2 = ea_wi h1 (76 + 2 * m) j x → j ≤ 9 → ShC h1 → fq [] [((76, 315), 0, 9)] h h1 → (∀ a k, a ≠ 76 + 2 * m → hI h1 a k = hI h a k) → ShC h2 ∧ fq [] [((76, 315), 0, 9)] h h2 ∧ (∀ a k, a ≠ 76 + 2 * m → hI h2 a k = hI h a k) ∧ hI h2 (76 + 2 * m) j = x.toInt ∧ ea_i h2 (76 + 2 * m) j = x ∧ ∀ k, k ≠ j → hI h2 (76 + 2 * m) k = hI h1 (76 + 2 * m) k := fun {h1 h2 j x} q hj s f o => by
    have f2 : fq [] [((76, 315), 0, 9)] h1 h2 := q ▸ fq_wf (lt_in m j 0 9 hm (Nat.zero_le _) hj List.mem_cons_self)
    exact ⟨ShC_core f2.1 s, f.tr f2, fun a k ha => by rw [q, hI_ne ha]; exact o a k ha, by rw [q, hI_at], by rw [q, i_eq], fun k hk => by rw [q, hI_nk hk]⟩
  unfold qX5_begin BX5_begin_0
  refine bd_gd (rf hs) (bd_let fun H2 q2 => ?_)
  obtain ⟨s2, f2, o2, t2, -, r2⟩ := st (j := 0) (x := x1) q2 (by decide) hs (fq_rfl _ _ _) fun _ _ _ => rfl
  refine bd_gd (rf s2) (bd_let fun H4 q4 => ?_)
  obtain ⟨s4, f4, o4, t4, -, r4⟩ := st (j := 1) (x := x2) q4 (by decide) s2 f2 o2
  refine bd_gd (rf s4) (bd_let fun H6 q6 => ?_)
  obtain ⟨s6, f6, o6, t6, -, r6⟩ := st (j := 2) (x := x3) q6 (by decide) s4 f4 o4
  refine bd_gd (rf s6) (bd_let fun H8 q8 => ?_)
  obtain ⟨s8, f8, o8, t8, -, r8⟩ := st (j := 3) (x := x4) q8 (by decide) s6 f6 o6
  refine bd_gd (rf s8) (bd_let fun H10 q10 => ?_)
  obtain ⟨s10, f10, o10, t10, -, r10⟩ := st (j := 4) (x := x5) q10 (by decide) s8 f8 o8
  refine bd_gd (rf s10) (bd_let fun H12 q12 => bd_ret ?_)
  obtain ⟨s12, f12, o12, t12, -, r12⟩ := st (j := 5) (x := x6) q12 (by decide) s10 f10 o10
  refine sat_gd rfl (sat_gd (rf s12) (sat_let fun H11 q11 => ?_))
  obtain ⟨s11, f11, o11, t11, -, r11⟩ := st (j := 6) (x := ea_i H12 0 14) q11 (by decide) s12 f12 o12
  have e14 : ea_i H12 0 14 = ea_i h 0 14 := n_eq.mpr (o12 0 14 (by omega))
  obtain ⟨-, vb, pb, qb⟩ := c_cross (h := H11) (D0 := D0) (D1 := D1) ha hb e2 e3 ((o11 3 _ (by omega)).trans v3) ((o11 4 _ (by omega)).trans v4)
  refine sat_call pb (sat_gd rfl (sat_gd (rf s11) (sat_let fun H15 q15 => ?_)))
  obtain ⟨s15, f15, o15, t15, -, r15⟩ := st (j := 7) (x := if vb < (0 : Int32) then (0 : Int32) else vb) q15 (by decide) s11 f11 o11
  obtain ⟨pc, -⟩ := c_cross (h := H15) (D0 := D0) (D1 := D1) ha hb e2 e3 ((o15 3 _ (by omega)).trans v3) ((o15 4 _ (by omega)).trans v4)
  have c01 : crV D0 D1 a b = 0 ∨ crV D0 D1 a b = 1 := by
    unfold crV
    split
    · exact Or.inr rfl
    · exact Or.inl rfl
  refine sat_call pc (sat_gd rfl (sat_gd (rf s15) (sat_gd c01 (sat_let fun H20 q20 => ?_))))
  obtain ⟨s20, f20, o20, t20, u20, r20⟩ := st (j := 8) (x := crV D0 D1 a b) q20 (by decide) s15 f15 o15
  have w6 : ea_i H20 (76 + 2 * m) 6 = ea_i h 0 14 := by
    refine n_eq.mpr ?_
    show hI H20 (76 + 2 * m) 6 = hI h 0 14
    rw [r20 6 (by decide), r15 6 (by decide), t11, e14]
    rfl
  have w5 : hI H20 (76 + 2 * m) 5 = x6.toInt := by rw [r20 5 (by decide), r15 5 (by decide), r11 5 (by decide), t12]
  obtain ⟨vf, pf, qf⟩ := c_franks s20 hB hm ((o20 52 0 (by omega)).trans hc) fun l hl => by
    rw [o20 _ _ (by omega), o20 _ _ (by omega), o20 _ _ (by omega)]
    exact sl l hl
  rw [w5, w6] at qf
  refine sat_call pf (sat_gd rfl (sat_gd (rf s20) (sat_let fun H24 q24 => K H24 ?_)))
  obtain ⟨s24, f24, o24, t24, -, r24⟩ := st (j := 9) (x := vf) q24 (by decide) s20 f20 o20
  refine ⟨f24, o24, fun k hk => ?_, ?_, ?_, ?_, ?_, ?_, ?_, ?_, ?_, ?_, t24.trans qf⟩
  · rw [r24 k (by omega), r20 k (by omega), r15 k (by omega), r11 k (by omega), r12 k (by omega), r10 k (by omega), r8 k (by omega), r6 k (by omega), r4 k (by omega), r2 k (by omega)]
  · rw [r24 0 (by decide), r20 0 (by decide), r15 0 (by decide), r11 0 (by decide), r12 0 (by decide), r10 0 (by decide), r8 0 (by decide), r6 0 (by decide), r4 0 (by decide), t2]
  · rw [r24 1 (by decide), r20 1 (by decide), r15 1 (by decide), r11 1 (by decide), r12 1 (by decide), r10 1 (by decide), r8 1 (by decide), r6 1 (by decide), t4]
  · rw [r24 2 (by decide), r20 2 (by decide), r15 2 (by decide), r11 2 (by decide), r12 2 (by decide), r10 2 (by decide), r8 2 (by decide), t6]
  · rw [r24 3 (by decide), r20 3 (by decide), r15 3 (by decide), r11 3 (by decide), r12 3 (by decide), r10 3 (by decide), t8]
  · rw [r24 4 (by decide), r20 4 (by decide), r15 4 (by decide), r11 4 (by decide), r12 4 (by decide), t10]
  · rw [r24 5 (by decide), w5]
  · rw [r24 6 (by decide)]
    show (ea_i H20 (76 + 2 * m) 6).toInt = _
    rw [w6]
    rfl
  · rw [r24 7 (by decide), r20 7 (by decide), t15, n_if]
    by_cases z : D0 a b < 1000000
    · rw [if_pos z] at qb ⊢
      rw [if_neg (by rw [n_lt, qb, l_0]; omega)]
      exact qb
    · rw [if_neg z] at qb ⊢
      rw [if_pos (by rw [n_lt, qb, l_0]; decide)]
      rfl
  · refine n_eq.mpr ?_
    show hI H24 (76 + 2 * m) 8 = _
    rw [r24 8 (by decide), t20]
/-- the reference, the new letter filled -/
def FB (h H : ea_H) (m : Nat) (x1 x2 x3 x4 x5 x6 : Int) (D0 : Nat) (cr : Int32) (fk : Int) : Prop := fq [(335, 335), (364, 372), (378, 378)] [((326, 326), 63, 63)] h H ∧ hI H 326 63 = ((m + 1 : Nat) : Int) ∧ (∀ j, j ≠ m → ∀ a, 364 ≤ a → a ≤ 378 → hI H a j = hI h a j) ∧ hI H 364 m = x1 ∧ hI H 365 m = x2 ∧ hI H 366 m = x3 ∧ hI H 367 m = x4 ∧ hI H 368 m = x5 ∧ hI H 369 m = x6 ∧ hI H 370 m = hI h 326 0 ∧ hI H 371 m = D0 ∧ ea_i H 378 m = cr ∧ hI H 372 m = fk
theorem m_pre {w D0 D1 : Nat → Nat → Nat} (c1 : ∀ b c, w b c ≤ 999) (c2 : ∀ b c, n ≤ b ∨ n ≤ c → w b c = 0) (c5 : fwI 0 12 w D0) (c7 : fwI 1 12 w D1) (hn : n ≤ 12) (hr : MRoad h w) (hnn : hI h 326 1 = n) (hm : m < 120) (h63 : hI h 326 63 = m) {x1 x2 x3 x4 x5 x6 : Int32} (k1 : 0 ≤ x1.toInt ∧ x1.toInt ≤ 4) (e2 : x2.toInt = a) (e3 : x3.toInt = b) (ha : a < n) (hb : b < n) (hab : a ≠ b) (k4 : 1 ≤ x4.toInt ∧ x4.toInt ≤ 9) (k5 : 0 ≤ x5.toInt ∧ x5.toInt ≤ 99) (k6 : 0 ≤ x6.toInt ∧ x6.toInt ≤ 9) {Q : Int32 × ea_H → Prop} (K : ∀ (H : ea_H) (x7 x8 : Int32), x7.toInt = m → x7 < x8 → FB h H m x1.toInt x2.toInt x3.toInt x4.toInt x5.toInt x6.toInt (D0 a b) (crV D0 D1 a b) (cnt (fkP h x6.toInt (ea_i h 326 0 / (1440 : Int32))) m + if x1.toInt = 2 then 1 else 0) → sat (qX12_post_190 x2 x6 x7 x8 H) Q) : sat (qX12_post x1 x2 x3 x4 x5 x6 h) Q := by
  have v63 : (ea_i h 326 63).toInt = m := h63
  have g7 := vp80 v63 hm
  have ic7 : (ea_i h 326 63).toNatClampNeg = m := by
    rw [n_idx, v63]
    rfl
  have dle := c5.1 a b (by omega) (by omega)
  unfold qX12_post
  refine uqX12_post_0 ?_
  unfold BX12_post_0
  obtain ⟨i1, p1, q1⟩ := m_isIn x1 0 4 h
  rw [l_0, l_4] at q1
  refine sat_call p1 ?_
  rcases q1 with ⟨u1, u2⟩ | ⟨u1, u2⟩
  · exact absurd k1 u2
  refine sat_neg (by rw [u1]; exact i1_ne_0) ?_
  obtain ⟨v2, q2, s2⟩ := m_isTown x2 (h := h) (by omega)
  refine sat_call q2 ?_
  rcases s2 with ⟨r2, s2⟩ | ⟨r2, s2⟩
  · exact sat_pos r2 (absurd s2 (by omega))
  refine sat_neg (by rw [r2]; exact i1_ne_0) ?_
  dsimp only
  obtain ⟨v3, q3, s3⟩ := m_isTown x3 (h := h) (by omega)
  refine sat_call q3 ?_
  rcases s3 with ⟨r3, s3⟩ | ⟨r3, s3⟩
  · exact sat_pos r3 (absurd s3 (by omega))
  refine sat_neg (by rw [r3]; exact i1_ne_0) ?_
  dsimp only
  refine sat_neg (by rw [n_eq, e2, e3]; omega) ?_
  obtain ⟨i4, p4, q4⟩ := m_isIn x4 1 9 h
  rw [l_1, l_9] at q4
  refine sat_call p4 ?_
  rcases q4 with ⟨u4, u5⟩ | ⟨u4, u5⟩
  · exact absurd k4 u5
  refine sat_neg (by rw [u4]; exact i1_ne_0) ?_
  obtain ⟨i5, p5, q5⟩ := m_isIn x5 0 99 h
  rw [l_0, l_99] at q5
  refine sat_call p5 ?_
  rcases q5 with ⟨u6, u7⟩ | ⟨u6, u7⟩
  · exact absurd k5 u7
  refine sat_neg (by rw [u6]; exact i1_ne_0) ?_
  obtain ⟨i6, p6, q6⟩ := m_isIn x6 0 9 h
  rw [l_0, l_9] at q6
  refine sat_call p6 ?_
  rcases q6 with ⟨u8, u9⟩ | ⟨u8, u9⟩
  · exact absurd k6 u9
  refine sat_neg (by rw [u8]; exact i1_ne_0) (sat_neg (by rw [n_eq, v63, l_120]; omega) (sat_sub (sat_let fun H8 q8 => ?_)))
  dsimp only
  rw [ic7]
  have q8 : H8 = ea_wi h 326 63 (ea_i h 326 63 + 1) := q8
  refine sat_gd g7 (sat_let fun H10 q10 => sat_gd g7 (sat_let fun H12 q12 => sat_gd g7 (sat_let fun H14 q14 => sat_gd g7 (sat_let fun H16 q16 => sat_gd g7 (sat_let fun H18 q18 => sat_gd g7 (sat_let fun H20 q20 => sat_gd g7 (sat_let fun H22 q22 => ?_)))))))
  have st : ∀ {h1 h2 : ea_H} {c : Nat} {x : Int32}, h2 = ea_wi h1 c m x → inB [(335, 335), (364, 372), (378, 378)] c = true → fq [(335, 335), (364, 372), (378, 378)] [((326, 326), 63, 63)] h h1 → (∀ j, j ≠ m → ∀ a, 364 ≤ a → a ≤ 378 → hI h1 a j = hI h a j) → fq [(335, 335), (364, 372), (378, 378)] [((326, 326), 63, 63)] h h2 ∧ (∀ j, j ≠ m → ∀ a, 364 ≤ a → a ≤ 378 → hI h2 a j = hI h a j) ∧ hI h2 c m = x.toInt ∧ ∀ a k, a ≠ c → hI h2 a k = hI h1 a k := fun {h1 h2 c x} q hc f o => ⟨f.tr (q ▸ fq_wi hc), fun j hj a ha1 ha2 => by
    rw [q, hI_nk hj]
    exact o j hj a ha1 ha2, by rw [q, hI_at], fun a k ha => by rw [q, hI_ne ha]⟩
  have f8 : fq [(335, 335), (364, 372), (378, 378)] [((326, 326), 63, 63)] h H8 := q8 ▸ fq_wf rfl
  have o8 : ∀ j, j ≠ m → ∀ a, 364 ≤ a → a ≤ 378 → hI H8 a j = hI h a j := fun j _ a ha1 _ => by rw [q8, hI_ne (by omega)]
  obtain ⟨f10, o10, t10, r10⟩ := st q10 rfl f8 o8
  obtain ⟨f12, o12, t12, r12⟩ := st q12 rfl f10 o10
  obtain ⟨f14, o14, t14, r14⟩ := st q14 rfl f12 o12
  obtain ⟨f16, o16, t16, r16⟩ := st q16 rfl f14 o14
  obtain ⟨f18, o18, t18, r18⟩ := st q18 rfl f16 o16
  obtain ⟨f20, o20, t20, r20⟩ := st q20 rfl f18 o18
  obtain ⟨f22, o22, t22, r22⟩ := st q22 rfl f20 o20
  have n20 : (ea_i H20 326 0).toInt = hI h 326 0 := f20.I 326 rfl 0 rfl
  refine sat_bind (m_milesV (D1 := D1) c1 c2 c5 c7 hn ha hb e2 e3 (MRoad.fr f22 rfl rfl hr) ((f22.I 326 rfl 1 rfl).trans hnn)).1 fun w23 hw23 => ?_
  obtain ⟨g23, v23⟩ := hw23
  have f23 : fq [(335, 335), (364, 372), (378, 378)] [((326, 326), 63, 63)] h w23.2 := f22.tr (g23.up rfl)
  have k23 : ∀ c j, c ≠ 335 → hI w23.2 c j = hI H22 c j := fun c j hc => g23.I c (by
    rw [Bool.eq_false_iff]
    intro z
    obtain ⟨r, z1, z2, z3⟩ := inB_iff.mp z
    rw [List.mem_singleton.mp z1] at z2 z3
    dsimp only at z2 z3
    omega) j
  refine sat_gd g7 (sat_let fun H25 q25 => ?_)
  obtain ⟨f25, o25, t25, r25⟩ := st q25 rfl f23 fun j hj c ha1 ha2 => (k23 c j (by omega)).trans (o22 j hj c ha1 ha2)
  refine sat_bind (m_isCross2 c1 c2 c5 c7 hn ha hb e2 e3 (MRoad.fr f25 rfl rfl hr) ((f25.I 326 rfl 1 rfl).trans hnn)) fun w26 hw26 => ?_
  obtain ⟨g26, v26⟩ := hw26
  have f26 : fq [(335, 335), (364, 372), (378, 378)] [((326, 326), 63, 63)] h w26.2 := f25.tr (g26.up rfl rfl)
  have k26 : ∀ c j, c ≠ 335 → hI w26.2 c j = hI H25 c j := fun c j hc => g26.I c (by
    rw [Bool.eq_false_iff]
    intro z
    obtain ⟨r, z1, z2, z3⟩ := inB_iff.mp z
    rw [List.mem_singleton.mp z1] at z2 z3
    dsimp only at z2 z3
    omega) j rfl
  have c01 : crV D0 D1 a b = 0 ∨ crV D0 D1 a b = 1 := by
    unfold crV
    split
    · exact Or.inr rfl
    · exact Or.inl rfl
  refine sat_gd g7 (sat_gd (by rw [v26]; exact c01) (sat_let fun H29 q29 => sat_gd g7 (sat_let fun H31 q31 => ?_)))
  obtain ⟨f29, o29, t29, r29⟩ := st q29 rfl f26 fun j hj c ha1 ha2 => (k26 c j (by omega)).trans (o25 j hj c ha1 ha2)
  obtain ⟨f31, o31, t31, r31⟩ := st q31 rfl f29 o29
  -- what stands in the letter's cells
  have at31 : ∀ c, 364 ≤ c → c ≤ 370 → hI H31 c m = hI H22 c m := fun c h1 h2 => by
    rw [r31 c m (by omega), r29 c m (by omega), k26 c m (by omega), r25 c m (by omega), k23 c m (by omega)]
  have w364 : hI H31 364 m = x1.toInt := by rw [at31 364 (by decide) (by decide), r22 364 m (by decide), r20 364 m (by decide), r18 364 m (by decide), r16 364 m (by decide), r14 364 m (by decide), r12 364 m (by decide), t10]
  have w365 : hI H31 365 m = x2.toInt := by rw [at31 365 (by decide) (by decide), r22 365 m (by decide), r20 365 m (by decide), r18 365 m (by decide), r16 365 m (by decide), r14 365 m (by decide), t12]
  have w366 : hI H31 366 m = x3.toInt := by rw [at31 366 (by decide) (by decide), r22 366 m (by decide), r20 366 m (by decide), r18 366 m (by decide), r16 366 m (by decide), t14]
  have w367 : hI H31 367 m = x4.toInt := by rw [at31 367 (by decide) (by decide), r22 367 m (by decide), r20 367 m (by decide), r18 367 m (by decide), t16]
  have w368 : hI H31 368 m = x5.toInt := by rw [at31 368 (by decide) (by decide), r22 368 m (by decide), r20 368 m (by decide), t18]
  have w369 : hI H31 369 m = x6.toInt := by rw [at31 369 (by decide) (by decide), r22 369 m (by decide), t20]
  have w370 : hI H31 370 m = hI h 326 0 := by rw [at31 370 (by decide) (by decide), t22, n20]
  have w371 : hI H31 371 m = D0 a b := by rw [r31 371 m (by decide), r29 371 m (by decide), k26 371 m (by decide), t25, v23]
  have w378 : ea_i H31 378 m = crV D0 D1 a b := by
    refine n_eq.mpr ?_
    show hI H31 378 m = _
    rw [r31 378 m (by decide), t29, v26]
  have day : ea_i H31 326 0 = ea_i h 326 0 := n_eq.mpr (f31.I 326 rfl 0 rfl)
  refine m_franks hm v63 (t31.trans rfl) fun H x8 fF oF vF hx => K H _ x8 v63 hx ⟨f31.tr (fF.up rfl rfl), ?_, fun j hj c ha1 ha2 => ?_, (fF.C 364 rfl rfl m).trans w364, (fF.C 365 rfl rfl m).trans w365, (fF.C 366 rfl rfl m).trans w366, (fF.C 367 rfl rfl m).trans w367, (fF.C 368 rfl rfl m).trans w368, (fF.C 369 rfl rfl m).trans w369, (fF.C 370 rfl rfl m).trans w370, (fF.C 371 rfl rfl m).trans w371, ?_, ?_⟩
  · rw [fF.C 326 rfl rfl, r31 326 63 (by decide), r29 326 63 (by decide), k26 326 63 (by decide), r25 326 63 (by decide), k23 326 63 (by decide), r22 326 63 (by decide), r20 326 63 (by decide), r18 326 63 (by decide), r16 326 63 (by decide), r14 326 63 (by decide), r12 326 63 (by decide), r10 326 63 (by decide), q8, hI_at, n_inc v63 (by omega)]
  · by_cases z : c = 372
    · rw [z, oF j hj]
      exact o31 j hj 372 (by decide) (by decide)
    · refine (fF.C c ?_ rfl j).trans (o31 j hj c ha1 ha2)
      rw [Bool.eq_false_iff]
      intro y
      obtain ⟨r, z1, z2, z3⟩ := inB_iff.mp y
      rw [List.mem_singleton.mp z1] at z2 z3
      dsimp only at z2 z3
      omega
  · exact (n_eq.mpr (fF.C 378 rfl rfl m)).trans w378
  · rw [vF, cnt_s, day]
    have e : ∀ l, l < m → (fkP H31 x6.toInt (ea_i h 326 0 / (1440 : Int32)) l ↔ fkP h x6.toInt (ea_i h 326 0 / (1440 : Int32)) l) := fun l hl => by
      unfold fkP
      have a := o31 l (by omega)
      rw [a 364 (by decide) (by decide), a 369 (by decide) (by decide), show ea_i H31 370 l = ea_i h 370 l from n_eq.mpr (a 370 (by decide) (by decide))]
    rw [cnt_eq e]
    congr 1
    have w70 : ea_i H31 370 m = ea_i h 326 0 := n_eq.mpr w370
    by_cases z : x1.toInt = 2
    · rw [if_pos z, one_pos]
      unfold fkP
      rw [w364, w369, w70]
      exact ⟨z, rfl, rfl⟩
    · rw [if_neg z, one_neg]
      intro y
      exact z (w364.symm.trans y.1)
end PP
