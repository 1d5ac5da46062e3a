/-! the reference: letters turn, are put down, come -/
def RM0 (m : Nat) (X : Nat → Nat → Int) (h : ea_H) : Prop :=
  (hI h 326 63 = m ∧ m ≤ 120) ∧ (∀ k, hI h 381 k = X 0 k ∧ hI h 382 k = X 1 k ∧ hI h 383 k = X 2 k ∧ hI h 384 k = X 3 k ∧ hI h 385 k = X 5 k ∧ hI h 376 k = X 7 k ∧ hI h 388 k = X 8 k ∧ hI h 389 k = X 9 k ∧ hI h 390 k = X 10 k) ∧ (∀ l, l < m → X 0 l = 1 → hI h 387 l = X 4 l) ∧ (∀ t d, t < 10 → d < 7 → hI h 386 (7 * t + d) = X 6 (10 * d + t)) ∧ ∀ k, hI h 387 k = 0 ∨ hI h 387 k = 1
theorem or01 {a b : Int} (e : a = b) (h : b = 0 ∨ b = 1) : a = 0 ∨ a = 1 := by
  rw [e]
  exact h
def DFm (m : Nat) (D : Nat → Int) (X : Nat → Nat → Int) (h : ea_H) : Prop := ∀ l, l < m → X 0 l = 3 → hI h 377 l = D l - X 5 l / 1440
def GM (n : Nat) (G : Nat → Nat → Int) (h : ea_H) : Prop := ∃ m s : Nat, (G 7 0 = m ∧ G 7 1 = s ∧ m ≤ 120 ∧ s ≤ 8 ∧ hI h 326 63 = m ∧ hI h 326 92 = s) ∧
  (∀ l, l < m → (hI h 366 l = G 0 l ∧ 0 ≤ G 0 l ∧ G 0 l < n) ∧ hI h 380 l = G 1 l ∧ ((hI h 373 l = -1 ∧ G 2 l = 3) ∨ ∃ a : Nat, hI h 373 l = a ∧ a < 6 ∧ hI h 354 a = G 2 l ∧ 0 ≤ G 2 l ∧ G 2 l ≤ 9999)) ∧
  (∀ t d i, t < 10 → d < 7 → i < 8 → hI h 334 (8 * (7 * t + d) + i) = G 3 (8 * (10 * d + t) + i)) ∧ ∀ k, k < s → (hI h 392 k = G 5 k ∧ 1 ≤ G 5 k ∧ G 5 k ≤ 99) ∧ (hI h 393 k = G 6 k ∧ 0 ≤ G 6 k ∧ G 6 k < 4096) ∧ hI h 394 k = G 4 k
def W_GM : List (Nat × Nat) := [(334, 334), (354, 354), (366, 366), (373, 373), (380, 380), (392, 394)]
def V_GM : List ((Nat × Nat) × Nat × Nat) := [((326, 326), 63, 63), ((326, 326), 92, 92)]
theorem GM.kq {n : Nat} {G : Nat → Nat → Int} {h h' : ea_H} (s : keq W_GM V_GM h h') (c : GM n G h) : GM n G h' := by
  obtain ⟨m, k, ⟨a1, a2, a3, a4, a5, a6⟩, b, c, d⟩ := c
  refine ⟨m, k, ⟨a1, a2, a3, a4, (s.V 326 63 rfl).trans a5, (s.V 326 92 rfl).trans a6⟩, fun l hl => ?_, fun t d' i ht hd hi => (s.W 334 rfl _).trans (c t d' i ht hd hi), fun q hq => ?_⟩
  · rw [s.W 366 rfl, s.W 380 rfl, s.W 373 rfl]
    obtain ⟨b1, b2, b3⟩ := b l hl
    refine ⟨b1, b2, ?_⟩
    rcases b3 with b3 | ⟨a, b4, b5, b6, b7⟩
    · exact Or.inl b3
    · exact Or.inr ⟨a, b4, b5, (s.W 354 rfl a).trans b6, b7⟩
  · rw [s.W 392 rfl, s.W 393 rfl, s.W 394 rfl]
    exact d q hq
theorem RM0.ext {m : Nat} {X Y : Nat → Nat → Int} {h : ea_H} (e : ∀ f, f ≤ 10 → ∀ k, X f k = Y f k) (r : RM0 m X h) : RM0 m Y h := by
  obtain ⟨r1, r2, r3, r4, r5⟩ := r
  refine ⟨r1, fun k => ?_, fun l hl hz => ?_, fun t d ht hd => ?_, r5⟩
  · have := r2 k
    rw [e 0 (by decide), e 1 (by decide), e 2 (by decide), e 3 (by decide), e 5 (by decide), e 7 (by decide), e 8 (by decide), e 9 (by decide), e 10 (by decide)] at this
    exact this
  · rw [← e 0 (by decide)] at hz
    rw [← e 4 (by decide)]
    exact r3 l hl hz
  · rw [← e 6 (by decide)]
    exact r4 t d ht hd
theorem m_turns {m l : Nat} {X : Nat → Nat → Int} {mn st pl : Int} {x1 x2 x3 x4 : Int32} (e1 : x1.toInt = l) (e2 : x2.toInt = mn) (e3 : x3.toInt = st) (e4 : x4.toInt = pl) {h : ea_H} (hl : l < m) (r : RM0 m X h) (h7 : 1 ≤ X 7 l) (h7b : X 7 l < 1000) (hst : st = 1 → hI h 387 l = 0) :
    sat (qX12_turns x1 x2 x3 x4 h) fun y => fq [(376, 376), (381, 382), (385, 385), (388, 390)] [] h y.2 ∧ RM0 m (mvX X l mn st pl) y.2 := by
  obtain ⟨⟨r0, r1⟩, r2, r3, r4, r5⟩ := r
  have hl' : l < 120 := by omega
  have g1 := vp80 e1 hl'
  have ic : x1.toNatClampNeg = l := by
    rw [n_idx, e1]
    rfl
  have rv : (ea_i h 376 l).toInt = X 7 l := (r2 l).2.2.2.2.2.1
  unfold qX12_turns BX12_turns_0
  rw [ic]
  refine sat_gd g1 (sat_let fun H2 q2 => sat_gd g1 (sat_let fun H4 q4 => sat_gd g1 (sat_let fun H6 q6 => sat_gd g1 ?_)))
  have k6 : ea_i H6 376 l = ea_i h 376 l := by rw [q6, i_ne (by decide), q4, i_ne (by decide), q2, i_ne (by decide)]
  rw [k6]
  have v0 : ((1000 : Int32) * x1 + ea_i h 376 l).toInt = 1000 * (l : Int) + X 7 l := by simp (disch := omega) only [n_add, n_sub, n_mul, n_neg, n_bm, n_idx, n_if, hI_eq, l_m1000, l_m100, l_m60, l_m19, l_m18, l_m17, l_m16, l_m15, l_m14, l_m13, l_m12, l_m11, l_m10, l_m8, l_m1, l_0, l_1, l_2, l_3, l_4, l_5, l_6, l_7, l_8, l_9, l_10, l_11, l_12, l_13, l_14, l_15, l_16, l_17, l_18, l_19, l_20, l_21, l_24, l_25, l_32, l_40, l_41, l_42, l_43, l_45, l_47, l_48, l_57, l_59, l_60, l_61, l_62, l_63, l_64, l_65, l_70, l_80, l_90, l_97, l_99, l_100, l_120, l_122, l_127, l_144, l_150, l_201, l_202, l_203, l_204, l_205, l_206, l_207, l_255, l_300, l_364, l_480, l_560, l_600, l_601, l_620, l_840, l_900, l_980, l_999, l_1000, l_1023, l_1024, l_1220, l_1439, l_1440, l_2240, l_2400, l_3000, l_3600, l_4095, l_4096, l_7320, l_9999, l_10079, l_10080, l_12000, l_99999, l_120000, l_1000000, l_2147483647, e1, rv]
  have v1 : ((1000 : Int32) * x1 + ea_i h 376 l).toInt = ((1000 * l + (X 7 l).toNat : Nat) : Int) := by
    rw [v0]
    omega
  have vc : ((1000 : Int32) * x1 + ea_i h 376 l).toNatClampNeg = 1000 * l + (X 7 l).toNat := by
    rw [n_idx, v1]
    rfl
  have g2 := vp80 v1 (show 1000 * l + (X 7 l).toNat < 120000 by omega)
  refine sat_sub ?_
  rw [vc]
  refine sat_gd g2 (sat_let fun H10 q10 => sat_gd g2 (sat_let fun H12 q12 => sat_gd g2 (sat_let fun H14 q14 => sat_gd g1 (sat_gd g1 ?_))))
  have k14 : ea_i H14 376 l = ea_i h 376 l := by rw [q14, i_ne (by decide), q12, i_ne (by decide), q10, i_ne (by decide), k6]
  rw [k14]
  refine sat_let fun H17 q17 => sat_ret ?_
  have f : fq [(376, 376), (381, 382), (385, 385), (388, 390)] [] h H17 := (q2 ▸ fq_wi rfl : fq [(376, 376), (381, 382), (385, 385), (388, 390)] [] h H2).tr ((q4 ▸ fq_wi rfl : fq [(376, 376), (381, 382), (385, 385), (388, 390)] [] H2 H4).tr ((q6 ▸ fq_wi rfl : fq [(376, 376), (381, 382), (385, 385), (388, 390)] [] H4 H6).tr ((q10 ▸ fq_wi rfl : fq [(376, 376), (381, 382), (385, 385), (388, 390)] [] H6 H10).tr ((q12 ▸ fq_wi rfl : fq [(376, 376), (381, 382), (385, 385), (388, 390)] [] H10 H12).tr ((q14 ▸ fq_wi rfl : fq [(376, 376), (381, 382), (385, 385), (388, 390)] [] H12 H14).tr (q17 ▸ fq_wi rfl))))))
  refine ⟨f, ⟨(f.I 326 rfl 63 rfl).trans r0, r1⟩, fun k => ?_, fun l' hl2 hz => ?_, fun t d ht hd => ?_, fun k => or01 (f.C 387 rfl rfl k) (r5 k)⟩
  · obtain ⟨w0, w1, w2, w3, w5, w7, w8, w9, w10⟩ := r2 k
    show hI H17 381 k = _ ∧ hI H17 382 k = _ ∧ hI H17 383 k = _ ∧ hI H17 384 k = _ ∧ hI H17 385 k = _ ∧ hI H17 376 k = _ ∧ hI H17 388 k = _ ∧ hI H17 389 k = _ ∧ hI H17 390 k = _
    rw [mvX_0, mvX_1, mvX_2, mvX_3, mvX_5, mvX_7, mvX_8, mvX_9, mvX_10]
    refine ⟨?_, ?_, ?_, ?_, ?_, ?_, ?_, ?_, ?_⟩
    · rw [q17, hI_ne (by decide), q14, hI_ne (by decide), q12, hI_ne (by decide), q10, hI_ne (by decide), q6, hI_ne (by decide), q4, hI_ne (by decide), q2, hI_row, e3, w0]
    · rw [q17, hI_ne (by decide), q14, hI_ne (by decide), q12, hI_ne (by decide), q10, hI_ne (by decide), q6, hI_ne (by decide), q4, hI_row, e4, q2, hI_ne (by decide), w1]
    · exact (f.C 383 rfl rfl k).trans w2
    · exact (f.C 384 rfl rfl k).trans w3
    · rw [q17, hI_ne (by decide), q14, hI_ne (by decide), q12, hI_ne (by decide), q10, hI_ne (by decide), q6, hI_row, e2, q4, hI_ne (by decide), q2, hI_ne (by decide), w5]
    · rw [q17, hI_row, n_add, rv, l_1, n_bm (by omega) (by omega), q14, hI_ne (by decide), q12, hI_ne (by decide), q10, hI_ne (by decide), q6, hI_ne (by decide), q4, hI_ne (by decide), q2, hI_ne (by decide), w7]
    · rw [q17, hI_ne (by decide), q14, hI_ne (by decide), q12, hI_ne (by decide), q10, hI_row, e2, q6, hI_ne (by decide), q4, hI_ne (by decide), q2, hI_ne (by decide), w8]
    · rw [q17, hI_ne (by decide), q14, hI_ne (by decide), q12, hI_row, e3, q10, hI_ne (by decide), q6, hI_ne (by decide), q4, hI_ne (by decide), q2, hI_ne (by decide), w9]
    · rw [q17, hI_ne (by decide), q14, hI_row, e4, q12, hI_ne (by decide), q10, hI_ne (by decide), q6, hI_ne (by decide), q4, hI_ne (by decide), q2, hI_ne (by decide), w10]
  · show hI H17 387 l' = _
    rw [f.C 387 rfl rfl, mvX_4]
    rw [mvX_0] at hz
    by_cases q : l' = l
    · rw [if_pos q]
      rw [if_pos q] at hz
      rw [q]
      exact hst hz
    · rw [if_neg q]
      rw [if_neg q] at hz
      exact r3 l' hl2 hz
  · exact (f.C 386 rfl rfl _).trans (r4 t d ht hd)
theorem m_putsDown {n m l : Nat} {G X : Nat → Nat → Int} {D : Nat → Int} {mn town : Int} {x1 x2 x3 : Int32} (e1 : x1.toInt = l) (e2 : x2.toInt = mn) (e3 : x3.toInt = town) {h : ea_H} (hl : l < m) (hG : G 7 0 = m) (g : GM n G h) (r : RM0 m X h) (df : DFm m D X h) (hD : D l = mn / 1440) (h7 : 1 ≤ X 7 l) (h7b : X 7 l < 1000) :
    sat (qX12_putsDown x1 x2 x3 h) fun y => fq [(376, 377), (381, 383), (385, 385), (387, 390)] [] h y.2 ∧ RM0 m (upX (mvX X l mn (stIn G l town) town) 2 l (-1)) y.2 ∧ DFm m D (upX (mvX X l mn (stIn G l town) town) 2 l (-1)) y.2 := by
  have r' := r
  obtain ⟨⟨r0, r1⟩, r2, r3, r4, r5⟩ := r
  have hl' : l < 120 := by omega
  have g1 := vp80 e1 hl'
  have ic : x1.toNatClampNeg = l := by
    rw [n_idx, e1]
    rfl
  obtain ⟨m2, s, ⟨a1, a2, a3, a4, a5, a6⟩, gb, -⟩ := g
  have hm2 : m2 = m := by omega
  rw [hm2] at gb
  obtain ⟨⟨b1, -⟩, b2, -⟩ := gb l hl
  unfold qX12_putsDown
  refine uqX12_putsDown_0 ?_
  unfold BX12_putsDown_0
  rw [ic]
  refine sat_gd g1 (sat_let fun H2 q2 => sat_gd g1 (sat_let fun H4 q4 => sat_gd g1 ?_))
  have f4 : fq [(383, 383), (387, 387)] [] h H4 := (q2 ▸ fq_wi rfl : fq [(383, 383), (387, 387)] [] h H2).tr (q4 ▸ fq_wi rfl)
  have X4 : RM0 m (upX (upX X 4 l 0) 2 l (-1)) H4 := by
    refine ⟨⟨(f4.I 326 rfl 63 rfl).trans r0, r1⟩, fun k => ?_, fun l' hl2 hz => ?_, fun t d ht hd => ?_, fun k => ?_⟩
    · rw [f4.C 381 rfl rfl, f4.C 382 rfl rfl, f4.C 384 rfl rfl, f4.C 385 rfl rfl, f4.C 376 rfl rfl, f4.C 388 rfl rfl, f4.C 389 rfl rfl, f4.C 390 rfl rfl]
      obtain ⟨w0, w1, w2, w3, w5, w7, w8, w9, w10⟩ := r2 k
      refine ⟨w0, w1, ?_, w3, w5, w7, w8, w9, w10⟩
      rw [q4, hI_row, upX_row, q2, hI_ne (by decide), upX_ne (by decide), w2]
      rfl
    · rw [upX_ne (by decide), upX_ne (by decide)] at hz
      rw [q4, hI_ne (by decide), q2, hI_row, upX_ne (by decide), upX_row, r3 l' hl2 hz]
      rfl
    · rw [f4.C 386 rfl rfl, upX_ne (by decide), upX_ne (by decide)]
      exact r4 t d ht hd
    · rw [q4, hI_ne (by decide), q2, hI_row]
      split
      · exact Or.inl rfl
      · exact r5 k
  have z387 : hI H4 387 l = 0 := by
    rw [q4, hI_ne (by decide), q2, hI_at]
    rfl
  have v366 : (ea_i H4 366 l).toInt = G 0 l := (f4.C 366 rfl rfl l).trans b1
  have v380 : (ea_i H4 380 l).toInt = G 1 l := (f4.C 380 rfl rfl l).trans b2
  have step : ∀ sx0 : Int32, sx0.toInt = stIn G l town → sat (qX12_putsDown_45 x1 x3 sx0 x2 x1 H4) fun y => fq [(376, 377), (381, 383), (385, 385), (387, 390)] [] h y.2 ∧ RM0 m (upX (mvX X l mn (stIn G l town) town) 2 l (-1)) y.2 ∧ DFm m D (upX (mvX X l mn (stIn G l town) town) 2 l (-1)) y.2 := by
    intro sx0 hs
    refine uqX12_putsDown_45 ?_
    unfold BX12_putsDown_45
    have h74 : (upX (upX X 4 l 0) 2 l (-1)) 7 l = X 7 l := by rw [upX_ne (by decide), upX_ne (by decide)]
    refine sat_bind (m_turns e1 e2 hs e3 hl X4 (by rw [h74]; exact h7) (by rw [h74]; exact h7b) (fun _ => z387)) fun w hw => ?_
    obtain ⟨fw, rw0⟩ := hw
    have F : fq [(376, 377), (381, 383), (385, 385), (387, 390)] [] h w.2 := (f4.up rfl rfl).tr (fw.up rfl rfl)
    have R : RM0 m (upX (mvX X l mn (stIn G l town) town) 2 l (-1)) w.2 := by
      refine rw0.ext fun f hf k => ?_
      have hc : f = 0 ∨ f = 1 ∨ f = 2 ∨ f = 3 ∨ f = 4 ∨ f = 5 ∨ f = 6 ∨ f = 7 ∨ f = 8 ∨ f = 9 ∨ f = 10 := by omega
      have e7 : ∀ q, (upX (upX X 4 l 0) 2 l (-1)) 7 q = X 7 q := fun q => by rw [upX_ne (by decide), upX_ne (by decide)]
      rcases hc with rfl | rfl | rfl | rfl | rfl | rfl | rfl | rfl | rfl | rfl | rfl
      · rw [upX_ne (by decide), mvX_0, mvX_0, upX_ne (by decide), upX_ne (by decide)]
      · rw [upX_ne (by decide), mvX_1, mvX_1, upX_ne (by decide), upX_ne (by decide)]
      · rw [mvX_2, upX_row, upX_row, mvX_2, upX_ne (by decide)]
      · rw [upX_ne (by decide), mvX_3, mvX_3, upX_ne (by decide), upX_ne (by decide)]
      · rw [upX_ne (show (4 : Nat) ≠ 2 by decide), mvX_4, mvX_4, upX_ne (by decide), upX_row]
        split <;> rfl
      · rw [upX_ne (by decide), mvX_5, mvX_5, upX_ne (by decide), upX_ne (by decide)]
      · rw [upX_ne (by decide), mvX_6, mvX_6, upX_ne (by decide), upX_ne (by decide)]
      · rw [upX_ne (by decide), mvX_7, mvX_7, e7, e7]
      · rw [upX_ne (by decide), mvX_8, mvX_8, e7, upX_ne (by decide), upX_ne (by decide)]
      · rw [upX_ne (by decide), mvX_9, mvX_9, e7, upX_ne (by decide), upX_ne (by decide)]
      · rw [upX_ne (by decide), mvX_10, mvX_10, e7, upX_ne (by decide), upX_ne (by decide)]
    have v381 : (ea_i w.2 381 l).toInt = stIn G l town := by
      have := (R.2.1 l).1
      rw [upX_ne (by decide), mvX_0, if_pos rfl] at this
      exact this
    rw [ic]
    have D0 : ∀ h3 : ea_H, (∀ k, k ≠ l → hI h3 377 k = hI h 377 k) → (stIn G l town = 3 → hI h3 377 l = 0) → DFm m D (upX (mvX X l mn (stIn G l town) town) 2 l (-1)) h3 := by
      intro h3 p1 p2 l' hl2 hz
      rw [upX_ne (by decide), mvX_0] at hz
      rw [upX_ne (by decide), mvX_5]
      by_cases q : l' = l
      · rw [if_pos q] at hz
        rw [if_pos q, q, hD, p2 hz]
        omega
      · rw [if_neg q] at hz
        rw [if_neg q, p1 l' q]
        exact df l' hl2 hz
    have k377 : ∀ k, hI w.2 377 k = hI h 377 k := fun k => (fw.C 377 rfl rfl k).trans (f4.C 377 rfl rfl k)
    refine sat_gd g1 (sat_ite (fun c => ?_) fun c => ?_)
    · refine sat_gd g1 (sat_let fun H12 q12 => sat_ret ?_)
      have g12 : fq [(377, 377)] [] w.2 H12 := q12 ▸ fq_wi rfl
      refine ⟨F.tr (g12.up rfl rfl), ?_, D0 H12 (fun k hk => ?_) fun _ => ?_⟩
      · obtain ⟨⟨p0, p1⟩, p2, p3, p4, p5⟩ := R
        refine ⟨⟨(g12.I 326 rfl 63 rfl).trans p0, p1⟩, fun k => ?_, fun l' hl2 hz => (g12.C 387 rfl rfl l').trans (p3 l' hl2 hz), fun t d ht hd => (g12.C 386 rfl rfl _).trans (p4 t d ht hd), fun k => or01 (g12.C 387 rfl rfl k) (p5 k)⟩
        show hI H12 381 k = _ ∧ hI H12 382 k = _ ∧ hI H12 383 k = _ ∧ hI H12 384 k = _ ∧ hI H12 385 k = _ ∧ hI H12 376 k = _ ∧ hI H12 388 k = _ ∧ hI H12 389 k = _ ∧ hI H12 390 k = _
        rw [g12.C 381 rfl rfl, g12.C 382 rfl rfl, g12.C 383 rfl rfl, g12.C 384 rfl rfl, g12.C 385 rfl rfl, g12.C 376 rfl rfl, g12.C 388 rfl rfl, g12.C 389 rfl rfl, g12.C 390 rfl rfl]
        exact p2 k
      · rw [q12, hI_nk hk]
        exact k377 k
      · rw [q12, hI_at]
        rfl
    · rw [n_eq, v381, l_3] at c
      exact sat_ret ⟨F, R, D0 w.2 (fun k _ => k377 k) fun z => absurd z c⟩
  refine sat_ite (fun c => ?_) fun c => ?_
  · rw [n_eq, v366, e3] at c
    refine sat_gd g1 (sat_ite (fun c2 => ?_) fun c2 => ?_)
    · rw [n_eq, v380, l_0] at c2
      exact step 2 (by unfold stIn; rw [if_pos c, if_pos c2]; rfl)
    · rw [n_eq, v380, l_0] at c2
      exact step 3 (by unfold stIn; rw [if_pos c, if_neg c2]; rfl)
  · rw [n_eq, v366, e3] at c
    exact step 0 (by unfold stIn; rw [if_neg c]; rfl)
