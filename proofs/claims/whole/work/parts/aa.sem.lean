/-! calls: post -/
theorem m_turns1 {m l : Nat} {X : Nat → Nat → Int} {mn st pl : Int} {x1 x2 x3 x4 : Int32} (e1 : x1.toInt = l) (e2 : x2.toInt = mn) (e3 : x3.toInt = st) (e4 : x4.toInt = pl) {h : ea_H} (hl : l < m) (r01 : hI h 326 63 = m ∧ m ≤ 120) (r2 : ∀ k, hI h 381 k = X 0 k ∧ hI h 382 k = X 1 k ∧ hI h 383 k = X 2 k ∧ hI h 384 k = X 3 k ∧ hI h 385 k = X 5 k ∧ hI h 376 k = X 7 k ∧ hI h 388 k = X 8 k ∧ hI h 389 k = X 9 k ∧ hI h 390 k = X 10 k) (r3 : ∀ l', l' < m → l' ≠ l → X 0 l' = 1 → hI h 387 l' = X 4 l') (r4 : ∀ t d, t < 10 → d < 7 → hI h 386 (7 * t + d) = X 6 (10 * d + t)) (r5 : ∀ k, hI h 387 k = 0 ∨ hI h 387 k = 1) (h7 : 0 ≤ X 7 l) (h7b : X 7 l < 1000) (hst : st = 1 → hI h 387 l = 0) :
    sat (qX12_turns x1 x2 x3 x4 h) fun y => fq [(376, 376), (381, 382), (385, 385), (388, 390)] [] h y.2 ∧ RM0 m (mvX X l mn st pl) y.2 := by
  obtain ⟨r0, r1⟩ := r01
  have hl' : l < 120 := by omega
  have g1 := vp80 e1 hl'
  have ic : x1.toNatClampNeg = l := by
    rw [n_idx, e1]
    rfl
  have rv : (ea_i h 376 l).toInt = X 7 l := (r2 l).2.2.2.2.2.1
  unfold qX12_turns BX12_turns_0
  rw [ic]
  refine sat_gd g1 (sat_let fun H2 q2 => sat_gd g1 (sat_let fun H4 q4 => sat_gd g1 (sat_let fun H6 q6 => sat_gd g1 ?_)))
  have k6 : ea_i H6 376 l = ea_i h 376 l := by rw [q6, i_ne (by decide), q4, i_ne (by decide), q2, i_ne (by decide)]
  rw [k6]
  have v0 : ((1000 : Int32) * x1 + ea_i h 376 l).toInt = 1000 * (l : Int) + X 7 l := by simp (disch := omega) only [n_add, n_sub, n_mul, n_neg, n_bm, n_idx, n_if, hI_eq, l_m1000, l_m100, l_m60, l_m19, l_m18, l_m17, l_m16, l_m15, l_m14, l_m13, l_m12, l_m11, l_m10, l_m8, l_m1, l_0, l_1, l_2, l_3, l_4, l_5, l_6, l_7, l_8, l_9, l_10, l_11, l_12, l_13, l_14, l_15, l_16, l_17, l_18, l_19, l_20, l_21, l_24, l_25, l_32, l_40, l_41, l_42, l_43, l_45, l_47, l_48, l_57, l_59, l_60, l_61, l_62, l_63, l_64, l_65, l_70, l_80, l_90, l_97, l_99, l_100, l_120, l_122, l_127, l_144, l_150, l_201, l_202, l_203, l_204, l_205, l_206, l_207, l_255, l_300, l_364, l_480, l_560, l_600, l_601, l_620, l_840, l_900, l_980, l_999, l_1000, l_1023, l_1024, l_1220, l_1439, l_1440, l_2240, l_2400, l_3000, l_3600, l_4095, l_4096, l_7320, l_9999, l_10079, l_10080, l_12000, l_99999, l_120000, l_1000000, l_2147483647, e1, rv]
  have v1 : ((1000 : Int32) * x1 + ea_i h 376 l).toInt = ((1000 * l + (X 7 l).toNat : Nat) : Int) := by
    rw [v0]
    omega
  have vc : ((1000 : Int32) * x1 + ea_i h 376 l).toNatClampNeg = 1000 * l + (X 7 l).toNat := by
    rw [n_idx, v1]
    rfl
  have g2 := vp80 v1 (show 1000 * l + (X 7 l).toNat < 120000 by omega)
  refine sat_sub ?_
  rw [vc]
  refine sat_gd g2 (sat_let fun H10 q10 => sat_gd g2 (sat_let fun H12 q12 => sat_gd g2 (sat_let fun H14 q14 => sat_gd g1 (sat_gd g1 ?_))))
  have k14 : ea_i H14 376 l = ea_i h 376 l := by rw [q14, i_ne (by decide), q12, i_ne (by decide), q10, i_ne (by decide), k6]
  rw [k14]
  refine sat_let fun H17 q17 => sat_ret ?_
  have f : fq [(376, 376), (381, 382), (385, 385), (388, 390)] [] h H17 := (q2 ▸ fq_wi rfl : fq [(376, 376), (381, 382), (385, 385), (388, 390)] [] h H2).tr ((q4 ▸ fq_wi rfl : fq [(376, 376), (381, 382), (385, 385), (388, 390)] [] H2 H4).tr ((q6 ▸ fq_wi rfl : fq [(376, 376), (381, 382), (385, 385), (388, 390)] [] H4 H6).tr ((q10 ▸ fq_wi rfl : fq [(376, 376), (381, 382), (385, 385), (388, 390)] [] H6 H10).tr ((q12 ▸ fq_wi rfl : fq [(376, 376), (381, 382), (385, 385), (388, 390)] [] H10 H12).tr ((q14 ▸ fq_wi rfl : fq [(376, 376), (381, 382), (385, 385), (388, 390)] [] H12 H14).tr (q17 ▸ fq_wi rfl))))))
  refine ⟨f, ⟨(f.I 326 rfl 63 rfl).trans r0, r1⟩, fun k => ?_, fun l' hl2 hz => ?_, fun t d ht hd => ?_, fun k => or01 (f.C 387 rfl rfl k) (r5 k)⟩
  · obtain ⟨w0, w1, w2, w3, w5, w7, w8, w9, w10⟩ := r2 k
    show hI H17 381 k = _ ∧ hI H17 382 k = _ ∧ hI H17 383 k = _ ∧ hI H17 384 k = _ ∧ hI H17 385 k = _ ∧ hI H17 376 k = _ ∧ hI H17 388 k = _ ∧ hI H17 389 k = _ ∧ hI H17 390 k = _
    rw [mvX_0, mvX_1, mvX_2, mvX_3, mvX_5, mvX_7, mvX_8, mvX_9, mvX_10]
    refine ⟨?_, ?_, ?_, ?_, ?_, ?_, ?_, ?_, ?_⟩
    · rw [q17, hI_ne (by decide), q14, hI_ne (by decide), q12, hI_ne (by decide), q10, hI_ne (by decide), q6, hI_ne (by decide), q4, hI_ne (by decide), q2, hI_row, e3, w0]
    · rw [q17, hI_ne (by decide), q14, hI_ne (by decide), q12, hI_ne (by decide), q10, hI_ne (by decide), q6, hI_ne (by decide), q4, hI_row, e4, q2, hI_ne (by decide), w1]
    · exact (f.C 383 rfl rfl k).trans w2
    · exact (f.C 384 rfl rfl k).trans w3
    · rw [q17, hI_ne (by decide), q14, hI_ne (by decide), q12, hI_ne (by decide), q10, hI_ne (by decide), q6, hI_row, e2, q4, hI_ne (by decide), q2, hI_ne (by decide), w5]
    · rw [q17, hI_row, n_add, rv, l_1, n_bm (by omega) (by omega), q14, hI_ne (by decide), q12, hI_ne (by decide), q10, hI_ne (by decide), q6, hI_ne (by decide), q4, hI_ne (by decide), q2, hI_ne (by decide), w7]
    · rw [q17, hI_ne (by decide), q14, hI_ne (by decide), q12, hI_ne (by decide), q10, hI_row, e2, q6, hI_ne (by decide), q4, hI_ne (by decide), q2, hI_ne (by decide), w8]
    · rw [q17, hI_ne (by decide), q14, hI_ne (by decide), q12, hI_row, e3, q10, hI_ne (by decide), q6, hI_ne (by decide), q4, hI_ne (by decide), q2, hI_ne (by decide), w9]
    · rw [q17, hI_ne (by decide), q14, hI_row, e4, q12, hI_ne (by decide), q10, hI_ne (by decide), q6, hI_ne (by decide), q4, hI_ne (by decide), q2, hI_ne (by decide), w10]
  · show hI H17 387 l' = _
    rw [f.C 387 rfl rfl, mvX_4]
    rw [mvX_0] at hz
    by_cases q : l' = l
    · rw [if_pos q]
      rw [if_pos q] at hz
      rw [q]
      exact hst hz
    · rw [if_neg q]
      rw [if_neg q] at hz
      exact r3 l' hl2 q hz
  · exact (f.C 386 rfl rfl _).trans (r4 t d ht hd)

def W_po : List (Nat × Nat) := [(29, 30), (53, 54), (60, 60), (335, 335), (363, 379), (381, 383), (385, 385), (388, 391)]
def V_po : List ((Nat × Nat) × Nat × Nat) := [((0, 0), 15, 15), ((52, 52), 0, 0), ((52, 52), 10, 10), ((76, 315), 0, 17), ((326, 326), 63, 63)]
section CPO
variable {T : Nat → Nat → Nat → Nat} {G X : Nat → Nat → Int} {m n : Nat} {h : ea_H}
/-- all that is told of letters -/
def SLe (h : ea_H) (n : Nat) (T : Nat → Nat → Nat → Nat) (m : Nat) (X G : Nat → Nat → Int) : Prop := SBg h n T m X G ∧ SBh h m X ∧ SNw h m X ∧ SLs h m ∧ SLc h m ∧ SLf h m ∧ SPl h m ∧ SRb h m X
def poC (n m : Nat) (x1 x2 x3 x4 x5 x6 : Int) : Prop := (0 ≤ x1 ∧ x1 ≤ 4) ∧ (0 ≤ x2 ∧ x2 < n) ∧ (0 ≤ x3 ∧ x3 < n) ∧ x2 ≠ x3 ∧ (1 ≤ x4 ∧ x4 ≤ 9) ∧ (0 ≤ x5 ∧ x5 ≤ 99) ∧ (0 ≤ x6 ∧ x6 ≤ 9) ∧ m < 120
theorem m_pono (hnn : hI h 326 1 = n) (h63 : hI h 326 63 = m) (hm : m ≤ 120) (x1 x2 x3 x4 x5 x6 : Int32) (hc : ¬ poC n m x1.toInt x2.toInt x3.toInt x4.toInt x5.toInt x6.toInt) {Q : Int32 × ea_H → Prop} (K : Q (-1, h)) : sat (qX12_post x1 x2 x3 x4 x5 x6 h) Q := by
  unfold poC at hc
  have v63 : (ea_i h 326 63).toInt = m := h63
  unfold qX12_post
  refine uqX12_post_0 ?_
  unfold BX12_post_0
  obtain ⟨i1, p1, q1⟩ := m_isIn x1 0 4 h
  rw [l_0, l_4] at q1
  refine sat_call p1 ?_
  rcases q1 with ⟨u1, u2⟩ | ⟨u1, u2⟩
  · exact sat_pos u1 (sat_ret K)
  refine sat_neg (by rw [u1]; exact i1_ne_0) ?_
  obtain ⟨v2, q2, s2⟩ := m_isTown x2 (h := h) (by omega)
  refine sat_call q2 ?_
  rcases s2 with ⟨r2, s2⟩ | ⟨r2, s2⟩
  · exact sat_pos r2 (sat_ret K)
  refine sat_neg (by rw [r2]; exact i1_ne_0) ?_
  dsimp only
  obtain ⟨v3, q3, s3⟩ := m_isTown x3 (h := h) (by omega)
  refine sat_call q3 ?_
  rcases s3 with ⟨r3, s3⟩ | ⟨r3, s3⟩
  · exact sat_pos r3 (sat_ret K)
  refine sat_neg (by rw [r3]; exact i1_ne_0) ?_
  dsimp only
  refine sat_ite (fun z => sat_ret K) fun z => ?_
  rw [n_eq] at z
  obtain ⟨i4, p4, q4⟩ := m_isIn x4 1 9 h
  rw [l_1, l_9] at q4
  refine sat_call p4 ?_
  rcases q4 with ⟨u4, u5⟩ | ⟨u4, u5⟩
  · exact sat_pos u4 (sat_ret K)
  refine sat_neg (by rw [u4]; exact i1_ne_0) ?_
  obtain ⟨i5, p5, q5⟩ := m_isIn x5 0 99 h
  rw [l_0, l_99] at q5
  refine sat_call p5 ?_
  rcases q5 with ⟨u6, u7⟩ | ⟨u6, u7⟩
  · exact sat_pos u6 (sat_ret K)
  refine sat_neg (by rw [u6]; exact i1_ne_0) ?_
  obtain ⟨i6, p6, q6⟩ := m_isIn x6 0 9 h
  rw [l_0, l_9] at q6
  refine sat_call p6 ?_
  rcases q6 with ⟨u8, u9⟩ | ⟨u8, u9⟩
  · exact sat_pos u8 (sat_ret K)
  refine sat_neg (by rw [u8]; exact i1_ne_0) ?_
  refine sat_pos ?_ (sat_ret K)
  rw [n_eq, v63, l_120]
  omega
end CPO
