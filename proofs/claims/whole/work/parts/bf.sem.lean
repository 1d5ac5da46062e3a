/-! the class's constructor: what is linear in it -/
def StC (K : Nat) (D : List (Nat × Nat)) (v : Int) (g h : ea_H) : Prop := Pre K D h ∧ (∀ a k, a < 5 → hI h a k = hI g a k) ∧ (∀ a k, 5 ≤ a → a < K → (a ≠ 24 ∨ k ≠ 2) → hI h a k = 0) ∧ (51 < K → ∀ k, hJ h 51 k = 0) ∧ (24 < K → hI h 24 2 = v)
section CI
variable {K K' c l a f : Nat} {D : List (Nat × Nat)} {v : Int} {g h : ea_H} {x : Option Nat}
theorem StC.new (s : StC K D v g h) (z : Nat) (e : clA K = (c, l)) (ez : obz c l = z) (hK : 5 ≤ K) (hv : K = 24 → v = 0) (eK : K' = K + 1) : StC K' D v g (ea_new h c l z) := by
  obtain ⟨p, s1, s2, s3, s4⟩ := s
  have en := p.1
  subst eK
  refine ⟨p.new z e ez, fun a k ha => ?_, fun a k h1 h2 h3 => ?_, fun h51 k => ?_, fun h24 => ?_⟩
  · rw [new_I, if_neg (by omega)]
    exact s1 a k ha
  · rw [new_I]
    by_cases y : a = ea_n h
    · rw [if_pos y]
    · rw [if_neg y]
      exact s2 a k h1 (by omega) h3
  · rw [new_J]
    by_cases y : 51 = ea_n h
    · rw [if_pos y]
    · rw [if_neg y]
      exact s3 (by omega) k
  · rw [new_I]
    by_cases y : 24 = ea_n h
    · rw [if_pos y]
      exact (hv (by omega)).symm
    · rw [if_neg y]
      exact s4 (by omega)
theorem StC.wr (s : StC K D v g h) (ha : a < K) (w : (RFa.all fun q => !(decide (q.1 = a) && decide (q.2.1 = f)) || decide (q.2.2 = x)) = true) : StC K ((a, f) :: D) v g (ea_wr h a f x) := by
  obtain ⟨p, s1, s2, s3, s4⟩ := s
  exact ⟨p.wr ha w, s1, s2, s3, s4⟩
theorem StC.w24 {x : Int32} (s : StC K D v g h) : StC K D x.toInt g (ea_wi h 24 2 x) := by
  obtain ⟨p, s1, s2, s3, s4⟩ := s
  refine ⟨p.wi, fun a k ha => ?_, fun a k h1 h2 h3 => ?_, fun h51 k => ?_, fun _ => hI_at⟩
  · rw [hI_ne (by omega)]
    exact s1 a k ha
  · rw [hI_wi, if_neg (by omega)]
    exact s2 a k h1 h2 h3
  · rw [hJ_wi]
    exact s3 h51 k
theorem StC.n (s : StC K D v g h) : ea_n h = K := s.1.1
theorem ci_9_5 (s : StC 6 D 0 g h) : sat (qX9_init 5 h) fun y => StC 13 ((5, 7) :: (5, 6) :: (5, 5) :: (5, 4) :: (5, 3) :: (5, 2) :: (5, 1) :: D) 0 g y.2 := by
  unfold qX9_init BX9_init_0
  refine sat_let fun H1 q1 => ?_
  have sH1 : StC 7 (D) 0 g H1 := by
    rw [q1]
    exact s.new (c := 20) (l := 10) 10 rfl rfl (by decide) (by decide) rfl
  rw [s.n]
  refine sat_gd (sH1.1.c (b := 5) (c := 9) (l := 0) (by decide) rfl).1 ?_
  refine sat_let fun H3 q3 => ?_
  have sH3 : StC 7 ((5, 1) :: D) 0 g H3 := by
    rw [q3]
    exact sH1.wr (by decide) (by decide +kernel)
  refine sat_let fun H4 q4 => ?_
  have sH4 : StC 8 ((5, 1) :: D) 0 g H4 := by
    rw [q4]
    exact sH3.new (c := 20) (l := 80) 80 rfl rfl (by decide) (by decide) rfl
  rw [sH3.n]
  refine sat_gd (sH4.1.c (b := 5) (c := 9) (l := 0) (by decide) rfl).1 ?_
  refine sat_let fun H6 q6 => ?_
  have sH6 : StC 8 ((5, 2) :: (5, 1) :: D) 0 g H6 := by
    rw [q6]
    exact sH4.wr (by decide) (by decide +kernel)
  refine sat_let fun H7 q7 => ?_
  have sH7 : StC 9 ((5, 2) :: (5, 1) :: D) 0 g H7 := by
    rw [q7]
    exact sH6.new (c := 20) (l := 80) 80 rfl rfl (by decide) (by decide) rfl
  rw [sH6.n]
  refine sat_gd (sH7.1.c (b := 5) (c := 9) (l := 0) (by decide) rfl).1 ?_
  refine sat_let fun H9 q9 => ?_
  have sH9 : StC 9 ((5, 3) :: (5, 2) :: (5, 1) :: D) 0 g H9 := by
    rw [q9]
    exact sH7.wr (by decide) (by decide +kernel)
  refine sat_let fun H10 q10 => ?_
  have sH10 : StC 10 ((5, 3) :: (5, 2) :: (5, 1) :: D) 0 g H10 := by
    rw [q10]
    exact sH9.new (c := 20) (l := 80) 80 rfl rfl (by decide) (by decide) rfl
  rw [sH9.n]
  refine sat_gd (sH10.1.c (b := 5) (c := 9) (l := 0) (by decide) rfl).1 ?_
  refine sat_let fun H12 q12 => ?_
  have sH12 : StC 10 ((5, 4) :: (5, 3) :: (5, 2) :: (5, 1) :: D) 0 g H12 := by
    rw [q12]
    exact sH10.wr (by decide) (by decide +kernel)
  refine sat_let fun H13 q13 => ?_
  have sH13 : StC 11 ((5, 4) :: (5, 3) :: (5, 2) :: (5, 1) :: D) 0 g H13 := by
    rw [q13]
    exact sH12.new (c := 21) (l := 80) 80 rfl rfl (by decide) (by decide) rfl
  rw [sH12.n]
  refine sat_gd (sH13.1.c (b := 5) (c := 9) (l := 0) (by decide) rfl).1 ?_
  refine sat_let fun H15 q15 => ?_
  have sH15 : StC 11 ((5, 5) :: (5, 4) :: (5, 3) :: (5, 2) :: (5, 1) :: D) 0 g H15 := by
    rw [q15]
    exact sH13.wr (by decide) (by decide +kernel)
  refine sat_let fun H16 q16 => ?_
  have sH16 : StC 12 ((5, 5) :: (5, 4) :: (5, 3) :: (5, 2) :: (5, 1) :: D) 0 g H16 := by
    rw [q16]
    exact sH15.new (c := 20) (l := 70) 70 rfl rfl (by decide) (by decide) rfl
  rw [sH15.n]
  refine sat_gd (sH16.1.c (b := 5) (c := 9) (l := 0) (by decide) rfl).1 ?_
  refine sat_let fun H18 q18 => ?_
  have sH18 : StC 12 ((5, 6) :: (5, 5) :: (5, 4) :: (5, 3) :: (5, 2) :: (5, 1) :: D) 0 g H18 := by
    rw [q18]
    exact sH16.wr (by decide) (by decide +kernel)
  refine sat_let fun H19 q19 => ?_
  have sH19 : StC 13 ((5, 6) :: (5, 5) :: (5, 4) :: (5, 3) :: (5, 2) :: (5, 1) :: D) 0 g H19 := by
    rw [q19]
    exact sH18.new (c := 20) (l := 70) 70 rfl rfl (by decide) (by decide) rfl
  rw [sH18.n]
  refine sat_gd (sH19.1.c (b := 5) (c := 9) (l := 0) (by decide) rfl).1 ?_
  refine sat_let fun H21 q21 => ?_
  have sH21 : StC 13 ((5, 7) :: (5, 6) :: (5, 5) :: (5, 4) :: (5, 3) :: (5, 2) :: (5, 1) :: D) 0 g H21 := by
    rw [q21]
    exact sH19.wr (by decide) (by decide +kernel)
  exact sat_ret sH21
theorem ci_10_13 (s : StC 14 D 0 g h) : sat (qX10_init 13 (some 5) h) fun y => StC 18 ((13, 2) :: (13, 6) :: (13, 5) :: (13, 4) :: (13, 3) :: D) 0 g y.2 := by
  unfold qX10_init BX10_init_0
  refine sat_let fun H1 q1 => ?_
  have sH1 : StC 15 (D) 0 g H1 := by
    rw [q1]
    exact s.new (c := 20) (l := 980) 980 rfl rfl (by decide) (by decide) rfl
  rw [s.n]
  refine sat_gd (sH1.1.c (b := 13) (c := 10) (l := 0) (by decide) rfl).1 ?_
  refine sat_let fun H3 q3 => ?_
  have sH3 : StC 15 ((13, 3) :: D) 0 g H3 := by
    rw [q3]
    exact sH1.wr (by decide) (by decide +kernel)
  refine sat_let fun H4 q4 => ?_
  have sH4 : StC 16 ((13, 3) :: D) 0 g H4 := by
    rw [q4]
    exact sH3.new (c := 22) (l := 560) 560 rfl rfl (by decide) (by decide) rfl
  rw [sH3.n]
  refine sat_gd (sH4.1.c (b := 13) (c := 10) (l := 0) (by decide) rfl).1 ?_
  refine sat_let fun H6 q6 => ?_
  have sH6 : StC 16 ((13, 4) :: (13, 3) :: D) 0 g H6 := by
    rw [q6]
    exact sH4.wr (by decide) (by decide +kernel)
  refine sat_let fun H7 q7 => ?_
  have sH7 : StC 17 ((13, 4) :: (13, 3) :: D) 0 g H7 := by
    rw [q7]
    exact sH6.new (c := 22) (l := 840) 840 rfl rfl (by decide) (by decide) rfl
  rw [sH6.n]
  refine sat_gd (sH7.1.c (b := 13) (c := 10) (l := 0) (by decide) rfl).1 ?_
  refine sat_let fun H9 q9 => ?_
  have sH9 : StC 17 ((13, 5) :: (13, 4) :: (13, 3) :: D) 0 g H9 := by
    rw [q9]
    exact sH7.wr (by decide) (by decide +kernel)
  refine sat_let fun H10 q10 => ?_
  have sH10 : StC 18 ((13, 5) :: (13, 4) :: (13, 3) :: D) 0 g H10 := by
    rw [q10]
    exact sH9.new (c := 22) (l := 144) 144 rfl rfl (by decide) (by decide) rfl
  rw [sH9.n]
  refine sat_gd (sH10.1.c (b := 13) (c := 10) (l := 0) (by decide) rfl).1 ?_
  refine sat_let fun H12 q12 => ?_
  have sH12 : StC 18 ((13, 6) :: (13, 5) :: (13, 4) :: (13, 3) :: D) 0 g H12 := by
    rw [q12]
    exact sH10.wr (by decide) (by decide +kernel)
  refine sat_gd (sH12.1.c (b := 13) (c := 10) (l := 0) (by decide) rfl).1 ?_
  refine sat_let fun H14 q14 => ?_
  have sH14 : StC 18 ((13, 2) :: (13, 6) :: (13, 5) :: (13, 4) :: (13, 3) :: D) 0 g H14 := by
    rw [q14]
    exact sH12.wr (by decide) (by decide +kernel)
  exact sat_ret sH14
theorem ci_3_18 (s : StC 19 D 0 g h) : sat (qX3_init 18 h) fun y => StC 23 ((18, 4) :: (18, 3) :: (18, 2) :: (18, 1) :: D) 0 g y.2 := by
  unfold qX3_init BX3_init_0
  refine sat_let fun H1 q1 => ?_
  have sH1 : StC 20 (D) 0 g H1 := by
    rw [q1]
    exact s.new (c := 20) (l := 8) 8 rfl rfl (by decide) (by decide) rfl
  rw [s.n]
  refine sat_gd (sH1.1.c (b := 18) (c := 3) (l := 0) (by decide) rfl).1 ?_
  refine sat_let fun H3 q3 => ?_
  have sH3 : StC 20 ((18, 1) :: D) 0 g H3 := by
    rw [q3]
    exact sH1.wr (by decide) (by decide +kernel)
  refine sat_let fun H4 q4 => ?_
  have sH4 : StC 21 ((18, 1) :: D) 0 g H4 := by
    rw [q4]
    exact sH3.new (c := 20) (l := 8) 8 rfl rfl (by decide) (by decide) rfl
  rw [sH3.n]
  refine sat_gd (sH4.1.c (b := 18) (c := 3) (l := 0) (by decide) rfl).1 ?_
  refine sat_let fun H6 q6 => ?_
  have sH6 : StC 21 ((18, 2) :: (18, 1) :: D) 0 g H6 := by
    rw [q6]
    exact sH4.wr (by decide) (by decide +kernel)
  refine sat_let fun H7 q7 => ?_
  have sH7 : StC 22 ((18, 2) :: (18, 1) :: D) 0 g H7 := by
    rw [q7]
    exact sH6.new (c := 20) (l := 8) 8 rfl rfl (by decide) (by decide) rfl
  rw [sH6.n]
  refine sat_gd (sH7.1.c (b := 18) (c := 3) (l := 0) (by decide) rfl).1 ?_
  refine sat_let fun H9 q9 => ?_
  have sH9 : StC 22 ((18, 3) :: (18, 2) :: (18, 1) :: D) 0 g H9 := by
    rw [q9]
    exact sH7.wr (by decide) (by decide +kernel)
  refine sat_let fun H10 q10 => ?_
  have sH10 : StC 23 ((18, 3) :: (18, 2) :: (18, 1) :: D) 0 g H10 := by
    rw [q10]
    exact sH9.new (c := 20) (l := 8) 8 rfl rfl (by decide) (by decide) rfl
  rw [sH9.n]
  refine sat_gd (sH10.1.c (b := 18) (c := 3) (l := 0) (by decide) rfl).1 ?_
  refine sat_let fun H12 q12 => ?_
  have sH12 : StC 23 ((18, 4) :: (18, 3) :: (18, 2) :: (18, 1) :: D) 0 g H12 := by
    rw [q12]
    exact sH10.wr (by decide) (by decide +kernel)
  exact sat_ret sH12
theorem ci_6_24 (s : StC 25 D 0 g h) : sat (qX6_init 24 h) fun y => StC 28 ((24, 8) :: (24, 4) :: (24, 3) :: D) (-1) g y.2 := by
  unfold qX6_init BX6_init_0
  refine sat_gd (s.1.c (b := 24) (c := 6) (l := 0) (by decide) rfl).1 ?_
  refine sat_let fun H2 q2 => ?_
  have sH2 : StC 25 (D) (-1) g H2 := by
    rw [q2]
    exact s.w24 (x := -1)
  refine sat_let fun H3 q3 => ?_
  have sH3 : StC 26 (D) (-1) g H3 := by
    rw [q3]
    exact sH2.new (c := 20) (l := 600) 600 rfl rfl (by decide) (by decide) rfl
  rw [sH2.n]
  refine sat_gd (sH3.1.c (b := 24) (c := 6) (l := 0) (by decide) rfl).1 ?_
  refine sat_let fun H5 q5 => ?_
  have sH5 : StC 26 ((24, 3) :: D) (-1) g H5 := by
    rw [q5]
    exact sH3.wr (by decide) (by decide +kernel)
  refine sat_let fun H6 q6 => ?_
  have sH6 : StC 27 ((24, 3) :: D) (-1) g H6 := by
    rw [q6]
    exact sH5.new (c := 20) (l := 601) 601 rfl rfl (by decide) (by decide) rfl
  rw [sH5.n]
  refine sat_gd (sH6.1.c (b := 24) (c := 6) (l := 0) (by decide) rfl).1 ?_
  refine sat_let fun H8 q8 => ?_
  have sH8 : StC 27 ((24, 4) :: (24, 3) :: D) (-1) g H8 := by
    rw [q8]
    exact sH6.wr (by decide) (by decide +kernel)
  refine sat_let fun H9 q9 => ?_
  have sH9 : StC 28 ((24, 4) :: (24, 3) :: D) (-1) g H9 := by
    rw [q9]
    exact sH8.new (c := 22) (l := 900) 900 rfl rfl (by decide) (by decide) rfl
  rw [sH8.n]
  refine sat_gd (sH9.1.c (b := 24) (c := 6) (l := 0) (by decide) rfl).1 ?_
  refine sat_let fun H11 q11 => ?_
  have sH11 : StC 28 ((24, 8) :: (24, 4) :: (24, 3) :: D) (-1) g H11 := by
    rw [q11]
    exact sH9.wr (by decide) (by decide +kernel)
  exact sat_ret sH11
theorem ci_0_31 (s : StC 32 D (-1) g h) : sat (qX0_init 31 h) fun y => StC 34 ((31, 10) :: (31, 9) :: D) (-1) g y.2 := by
  unfold qX0_init BX0_init_0
  refine sat_let fun H1 q1 => ?_
  have sH1 : StC 33 (D) (-1) g H1 := by
    rw [q1]
    exact s.new (c := 20) (l := 24) 24 rfl rfl (by decide) (by decide) rfl
  rw [s.n]
  refine sat_gd (sH1.1.c (b := 31) (c := 0) (l := 0) (by decide) rfl).1 ?_
  refine sat_let fun H3 q3 => ?_
  have sH3 : StC 33 ((31, 9) :: D) (-1) g H3 := by
    rw [q3]
    exact sH1.wr (by decide) (by decide +kernel)
  refine sat_let fun H4 q4 => ?_
  have sH4 : StC 34 ((31, 9) :: D) (-1) g H4 := by
    rw [q4]
    exact sH3.new (c := 20) (l := 24) 24 rfl rfl (by decide) (by decide) rfl
  rw [sH3.n]
  refine sat_gd (sH4.1.c (b := 31) (c := 0) (l := 0) (by decide) rfl).1 ?_
  refine sat_let fun H6 q6 => ?_
  have sH6 : StC 34 ((31, 10) :: (31, 9) :: D) (-1) g H6 := by
    rw [q6]
    exact sH4.wr (by decide) (by decide +kernel)
  exact sat_ret sH6
theorem ci_0_34 (s : StC 35 D (-1) g h) : sat (qX0_init 34 h) fun y => StC 37 ((34, 10) :: (34, 9) :: D) (-1) g y.2 := by
  unfold qX0_init BX0_init_0
  refine sat_let fun H1 q1 => ?_
  have sH1 : StC 36 (D) (-1) g H1 := by
    rw [q1]
    exact s.new (c := 20) (l := 24) 24 rfl rfl (by decide) (by decide) rfl
  rw [s.n]
  refine sat_gd (sH1.1.c (b := 34) (c := 0) (l := 0) (by decide) rfl).1 ?_
  refine sat_let fun H3 q3 => ?_
  have sH3 : StC 36 ((34, 9) :: D) (-1) g H3 := by
    rw [q3]
    exact sH1.wr (by decide) (by decide +kernel)
  refine sat_let fun H4 q4 => ?_
  have sH4 : StC 37 ((34, 9) :: D) (-1) g H4 := by
    rw [q4]
    exact sH3.new (c := 20) (l := 24) 24 rfl rfl (by decide) (by decide) rfl
  rw [sH3.n]
  refine sat_gd (sH4.1.c (b := 34) (c := 0) (l := 0) (by decide) rfl).1 ?_
  refine sat_let fun H6 q6 => ?_
  have sH6 : StC 37 ((34, 10) :: (34, 9) :: D) (-1) g H6 := by
    rw [q6]
    exact sH4.wr (by decide) (by decide +kernel)
  exact sat_ret sH6
theorem ci_0_37 (s : StC 38 D (-1) g h) : sat (qX0_init 37 h) fun y => StC 40 ((37, 10) :: (37, 9) :: D) (-1) g y.2 := by
  unfold qX0_init BX0_init_0
  refine sat_let fun H1 q1 => ?_
  have sH1 : StC 39 (D) (-1) g H1 := by
    rw [q1]
    exact s.new (c := 20) (l := 24) 24 rfl rfl (by decide) (by decide) rfl
  rw [s.n]
  refine sat_gd (sH1.1.c (b := 37) (c := 0) (l := 0) (by decide) rfl).1 ?_
  refine sat_let fun H3 q3 => ?_
  have sH3 : StC 39 ((37, 9) :: D) (-1) g H3 := by
    rw [q3]
    exact sH1.wr (by decide) (by decide +kernel)
  refine sat_let fun H4 q4 => ?_
  have sH4 : StC 40 ((37, 9) :: D) (-1) g H4 := by
    rw [q4]
    exact sH3.new (c := 20) (l := 24) 24 rfl rfl (by decide) (by decide) rfl
  rw [sH3.n]
  refine sat_gd (sH4.1.c (b := 37) (c := 0) (l := 0) (by decide) rfl).1 ?_
  refine sat_let fun H6 q6 => ?_
  have sH6 : StC 40 ((37, 10) :: (37, 9) :: D) (-1) g H6 := by
    rw [q6]
    exact sH4.wr (by decide) (by decide +kernel)
  exact sat_ret sH6
theorem ci_0_40 (s : StC 41 D (-1) g h) : sat (qX0_init 40 h) fun y => StC 43 ((40, 10) :: (40, 9) :: D) (-1) g y.2 := by
  unfold qX0_init BX0_init_0
  refine sat_let fun H1 q1 => ?_
  have sH1 : StC 42 (D) (-1) g H1 := by
    rw [q1]
    exact s.new (c := 20) (l := 24) 24 rfl rfl (by decide) (by decide) rfl
  rw [s.n]
  refine sat_gd (sH1.1.c (b := 40) (c := 0) (l := 0) (by decide) rfl).1 ?_
  refine sat_let fun H3 q3 => ?_
  have sH3 : StC 42 ((40, 9) :: D) (-1) g H3 := by
    rw [q3]
    exact sH1.wr (by decide) (by decide +kernel)
  refine sat_let fun H4 q4 => ?_
  have sH4 : StC 43 ((40, 9) :: D) (-1) g H4 := by
    rw [q4]
    exact sH3.new (c := 20) (l := 24) 24 rfl rfl (by decide) (by decide) rfl
  rw [sH3.n]
  refine sat_gd (sH4.1.c (b := 40) (c := 0) (l := 0) (by decide) rfl).1 ?_
  refine sat_let fun H6 q6 => ?_
  have sH6 : StC 43 ((40, 10) :: (40, 9) :: D) (-1) g H6 := by
    rw [q6]
    exact sH4.wr (by decide) (by decide +kernel)
  exact sat_ret sH6
theorem ci_0_43 (s : StC 44 D (-1) g h) : sat (qX0_init 43 h) fun y => StC 46 ((43, 10) :: (43, 9) :: D) (-1) g y.2 := by
  unfold qX0_init BX0_init_0
  refine sat_let fun H1 q1 => ?_
  have sH1 : StC 45 (D) (-1) g H1 := by
    rw [q1]
    exact s.new (c := 20) (l := 24) 24 rfl rfl (by decide) (by decide) rfl
  rw [s.n]
  refine sat_gd (sH1.1.c (b := 43) (c := 0) (l := 0) (by decide) rfl).1 ?_
  refine sat_let fun H3 q3 => ?_
  have sH3 : StC 45 ((43, 9) :: D) (-1) g H3 := by
    rw [q3]
    exact sH1.wr (by decide) (by decide +kernel)
  refine sat_let fun H4 q4 => ?_
  have sH4 : StC 46 ((43, 9) :: D) (-1) g H4 := by
    rw [q4]
    exact sH3.new (c := 20) (l := 24) 24 rfl rfl (by decide) (by decide) rfl
  rw [sH3.n]
  refine sat_gd (sH4.1.c (b := 43) (c := 0) (l := 0) (by decide) rfl).1 ?_
  refine sat_let fun H6 q6 => ?_
  have sH6 : StC 46 ((43, 10) :: (43, 9) :: D) (-1) g H6 := by
    rw [q6]
    exact sH4.wr (by decide) (by decide +kernel)
  exact sat_ret sH6
theorem ci_0_46 (s : StC 47 D (-1) g h) : sat (qX0_init 46 h) fun y => StC 49 ((46, 10) :: (46, 9) :: D) (-1) g y.2 := by
  unfold qX0_init BX0_init_0
  refine sat_let fun H1 q1 => ?_
  have sH1 : StC 48 (D) (-1) g H1 := by
    rw [q1]
    exact s.new (c := 20) (l := 24) 24 rfl rfl (by decide) (by decide) rfl
  rw [s.n]
  refine sat_gd (sH1.1.c (b := 46) (c := 0) (l := 0) (by decide) rfl).1 ?_
  refine sat_let fun H3 q3 => ?_
  have sH3 : StC 48 ((46, 9) :: D) (-1) g H3 := by
    rw [q3]
    exact sH1.wr (by decide) (by decide +kernel)
  refine sat_let fun H4 q4 => ?_
  have sH4 : StC 49 ((46, 9) :: D) (-1) g H4 := by
    rw [q4]
    exact sH3.new (c := 20) (l := 24) 24 rfl rfl (by decide) (by decide) rfl
  rw [sH3.n]
  refine sat_gd (sH4.1.c (b := 46) (c := 0) (l := 0) (by decide) rfl).1 ?_
  refine sat_let fun H6 q6 => ?_
  have sH6 : StC 49 ((46, 10) :: (46, 9) :: D) (-1) g H6 := by
    rw [q6]
    exact sH4.wr (by decide) (by decide +kernel)
  exact sat_ret sH6
theorem ci_8_23 (s : StC 24 D 0 g h) : sat (qX8_init 23 h) fun y => StC 49 ((28, 5) :: (46, 10) :: (46, 9) :: (28, 4) :: (43, 10) :: (43, 9) :: (28, 3) :: (40, 10) :: (40, 9) :: (28, 2) :: (37, 10) :: (37, 9) :: (28, 1) :: (34, 10) :: (34, 9) :: (28, 0) :: (31, 10) :: (31, 9) :: (23, 4) :: (23, 3) :: (23, 2) :: (23, 0) :: (24, 8) :: (24, 4) :: (24, 3) :: D) (-1) g y.2 := by
  unfold qX8_init
  refine uqX8_init_0 ?_
  unfold BX8_init_0
  refine sat_let fun H1 q1 => ?_
  have sH1 : StC 25 (D) 0 g H1 := by
    rw [q1]
    exact s.new (c := 6) (l := 0) 10 rfl rfl (by decide) (by decide) rfl
  rw [s.n]
  refine sat_bind (ci_6_24 sH1) fun w2 sw2 => ?_
  refine sat_gd (sw2.1.c (b := 23) (c := 8) (l := 0) (by decide) rfl).1 ?_
  refine sat_let fun H4 q4 => ?_
  have sH4 : StC 28 ((23, 0) :: (24, 8) :: (24, 4) :: (24, 3) :: D) (-1) g H4 := by
    rw [q4]
    exact sw2.wr (by decide) (by decide +kernel)
  refine sat_let fun H5 q5 => ?_
  have sH5 : StC 29 ((23, 0) :: (24, 8) :: (24, 4) :: (24, 3) :: D) (-1) g H5 := by
    rw [q5]
    exact sH4.new (c := 25) (l := 6) 6 rfl rfl (by decide) (by decide) rfl
  rw [sH4.n]
  refine sat_gd (sH5.1.c (b := 23) (c := 8) (l := 0) (by decide) rfl).1 ?_
  refine sat_let fun H7 q7 => ?_
  have sH7 : StC 29 ((23, 2) :: (23, 0) :: (24, 8) :: (24, 4) :: (24, 3) :: D) (-1) g H7 := by
    rw [q7]
    exact sH5.wr (by decide) (by decide +kernel)
  refine sat_let fun H8 q8 => ?_
  have sH8 : StC 30 ((23, 2) :: (23, 0) :: (24, 8) :: (24, 4) :: (24, 3) :: D) (-1) g H8 := by
    rw [q8]
    exact sH7.new (c := 20) (l := 7) 7 rfl rfl (by decide) (by decide) rfl
  rw [sH7.n]
  refine sat_gd (sH8.1.c (b := 23) (c := 8) (l := 0) (by decide) rfl).1 ?_
  refine sat_let fun H10 q10 => ?_
  have sH10 : StC 30 ((23, 3) :: (23, 2) :: (23, 0) :: (24, 8) :: (24, 4) :: (24, 3) :: D) (-1) g H10 := by
    rw [q10]
    exact sH8.wr (by decide) (by decide +kernel)
  refine sat_let fun H11 q11 => ?_
  have sH11 : StC 31 ((23, 3) :: (23, 2) :: (23, 0) :: (24, 8) :: (24, 4) :: (24, 3) :: D) (-1) g H11 := by
    rw [q11]
    exact sH10.new (c := 20) (l := 64) 64 rfl rfl (by decide) (by decide) rfl
  rw [sH10.n]
  refine sat_gd (sH11.1.c (b := 23) (c := 8) (l := 0) (by decide) rfl).1 ?_
  refine sat_let fun H13 q13 => ?_
  have sH13 : StC 31 ((23, 4) :: (23, 3) :: (23, 2) :: (23, 0) :: (24, 8) :: (24, 4) :: (24, 3) :: D) (-1) g H13 := by
    rw [q13]
    exact sH11.wr (by decide) (by decide +kernel)
  refine uqX8_init_42 ?_
  unfold BX8_init_42
  rw [show ea_r H13 23 2 = some 28 from sH13.1.r (by simp) (by decide +kernel)]
  refine sat_neg (by decide) (sat_gd (sH13.1.c (b := 23) (c := 8) (l := 0) (by decide) rfl).1 (sat_let fun A0 a0 => ?_))
  have sA0 : StC 32 ((23, 4) :: (23, 3) :: (23, 2) :: (23, 0) :: (24, 8) :: (24, 4) :: (24, 3) :: D) (-1) g A0 := by
    rw [a0]
    exact sH13.new (c := 0) (l := 0) 11 rfl rfl (by decide) (by decide) rfl
  rw [sH13.n]
  refine sat_bind (ci_0_31 sA0) fun u0 su0 => ?_
  have g0 := su0.1.c (b := 28) (c := 25) (l := 6) (by decide) rfl
  refine sat_gd rfl (sat_gd g0.1 (sat_gd (by show vp_in _ (ea_l u0.2 28); rw [g0.2]; exact vp80 (n := 0) rfl (by decide)) (sat_gd (su0.1.c (b := 31) (c := 0) (l := 0) (by decide) rfl).1 (sat_let fun C0 c0 => ?_))))
  have c0 : C0 = ea_wr u0.2 28 0 (some 31) := c0
  have sC0 : StC 34 ((28, 0) :: (31, 10) :: (31, 9) :: (23, 4) :: (23, 3) :: (23, 2) :: (23, 0) :: (24, 8) :: (24, 4) :: (24, 3) :: D) (-1) g C0 := by
    rw [c0]
    exact su0.wr (by decide) (by decide +kernel)
  refine (?_ : sat (qX8_init_42 23 1 C0) _)
  refine uqX8_init_42 ?_
  unfold BX8_init_42
  rw [show ea_r C0 23 2 = some 28 from sC0.1.r (by simp) (by decide +kernel)]
  refine sat_neg (by decide) (sat_gd (sC0.1.c (b := 23) (c := 8) (l := 0) (by decide) rfl).1 (sat_let fun A1 a1 => ?_))
  have sA1 : StC 35 ((28, 0) :: (31, 10) :: (31, 9) :: (23, 4) :: (23, 3) :: (23, 2) :: (23, 0) :: (24, 8) :: (24, 4) :: (24, 3) :: D) (-1) g A1 := by
    rw [a1]
    exact sC0.new (c := 0) (l := 0) 11 rfl rfl (by decide) (by decide) rfl
  rw [sC0.n]
  refine sat_bind (ci_0_34 sA1) fun u1 su1 => ?_
  have g1 := su1.1.c (b := 28) (c := 25) (l := 6) (by decide) rfl
  refine sat_gd rfl (sat_gd g1.1 (sat_gd (by show vp_in _ (ea_l u1.2 28); rw [g1.2]; exact vp80 (n := 1) rfl (by decide)) (sat_gd (su1.1.c (b := 34) (c := 0) (l := 0) (by decide) rfl).1 (sat_let fun C1 c1 => ?_))))
  have c1 : C1 = ea_wr u1.2 28 1 (some 34) := c1
  have sC1 : StC 37 ((28, 1) :: (34, 10) :: (34, 9) :: (28, 0) :: (31, 10) :: (31, 9) :: (23, 4) :: (23, 3) :: (23, 2) :: (23, 0) :: (24, 8) :: (24, 4) :: (24, 3) :: D) (-1) g C1 := by
    rw [c1]
    exact su1.wr (by decide) (by decide +kernel)
  refine (?_ : sat (qX8_init_42 23 2 C1) _)
  refine uqX8_init_42 ?_
  unfold BX8_init_42
  rw [show ea_r C1 23 2 = some 28 from sC1.1.r (by simp) (by decide +kernel)]
  refine sat_neg (by decide) (sat_gd (sC1.1.c (b := 23) (c := 8) (l := 0) (by decide) rfl).1 (sat_let fun A2 a2 => ?_))
  have sA2 : StC 38 ((28, 1) :: (34, 10) :: (34, 9) :: (28, 0) :: (31, 10) :: (31, 9) :: (23, 4) :: (23, 3) :: (23, 2) :: (23, 0) :: (24, 8) :: (24, 4) :: (24, 3) :: D) (-1) g A2 := by
    rw [a2]
    exact sC1.new (c := 0) (l := 0) 11 rfl rfl (by decide) (by decide) rfl
  rw [sC1.n]
  refine sat_bind (ci_0_37 sA2) fun u2 su2 => ?_
  have g2 := su2.1.c (b := 28) (c := 25) (l := 6) (by decide) rfl
  refine sat_gd rfl (sat_gd g2.1 (sat_gd (by show vp_in _ (ea_l u2.2 28); rw [g2.2]; exact vp80 (n := 2) rfl (by decide)) (sat_gd (su2.1.c (b := 37) (c := 0) (l := 0) (by decide) rfl).1 (sat_let fun C2 c2 => ?_))))
  have c2 : C2 = ea_wr u2.2 28 2 (some 37) := c2
  have sC2 : StC 40 ((28, 2) :: (37, 10) :: (37, 9) :: (28, 1) :: (34, 10) :: (34, 9) :: (28, 0) :: (31, 10) :: (31, 9) :: (23, 4) :: (23, 3) :: (23, 2) :: (23, 0) :: (24, 8) :: (24, 4) :: (24, 3) :: D) (-1) g C2 := by
    rw [c2]
    exact su2.wr (by decide) (by decide +kernel)
  refine (?_ : sat (qX8_init_42 23 3 C2) _)
  refine uqX8_init_42 ?_
  unfold BX8_init_42
  rw [show ea_r C2 23 2 = some 28 from sC2.1.r (by simp) (by decide +kernel)]
  refine sat_neg (by decide) (sat_gd (sC2.1.c (b := 23) (c := 8) (l := 0) (by decide) rfl).1 (sat_let fun A3 a3 => ?_))
  have sA3 : StC 41 ((28, 2) :: (37, 10) :: (37, 9) :: (28, 1) :: (34, 10) :: (34, 9) :: (28, 0) :: (31, 10) :: (31, 9) :: (23, 4) :: (23, 3) :: (23, 2) :: (23, 0) :: (24, 8) :: (24, 4) :: (24, 3) :: D) (-1) g A3 := by
    rw [a3]
    exact sC2.new (c := 0) (l := 0) 11 rfl rfl (by decide) (by decide) rfl
  rw [sC2.n]
  refine sat_bind (ci_0_40 sA3) fun u3 su3 => ?_
  have g3 := su3.1.c (b := 28) (c := 25) (l := 6) (by decide) rfl
  refine sat_gd rfl (sat_gd g3.1 (sat_gd (by show vp_in _ (ea_l u3.2 28); rw [g3.2]; exact vp80 (n := 3) rfl (by decide)) (sat_gd (su3.1.c (b := 40) (c := 0) (l := 0) (by decide) rfl).1 (sat_let fun C3 c3 => ?_))))
  have c3 : C3 = ea_wr u3.2 28 3 (some 40) := c3
  have sC3 : StC 43 ((28, 3) :: (40, 10) :: (40, 9) :: (28, 2) :: (37, 10) :: (37, 9) :: (28, 1) :: (34, 10) :: (34, 9) :: (28, 0) :: (31, 10) :: (31, 9) :: (23, 4) :: (23, 3) :: (23, 2) :: (23, 0) :: (24, 8) :: (24, 4) :: (24, 3) :: D) (-1) g C3 := by
    rw [c3]
    exact su3.wr (by decide) (by decide +kernel)
  refine (?_ : sat (qX8_init_42 23 4 C3) _)
  refine uqX8_init_42 ?_
  unfold BX8_init_42
  rw [show ea_r C3 23 2 = some 28 from sC3.1.r (by simp) (by decide +kernel)]
  refine sat_neg (by decide) (sat_gd (sC3.1.c (b := 23) (c := 8) (l := 0) (by decide) rfl).1 (sat_let fun A4 a4 => ?_))
  have sA4 : StC 44 ((28, 3) :: (40, 10) :: (40, 9) :: (28, 2) :: (37, 10) :: (37, 9) :: (28, 1) :: (34, 10) :: (34, 9) :: (28, 0) :: (31, 10) :: (31, 9) :: (23, 4) :: (23, 3) :: (23, 2) :: (23, 0) :: (24, 8) :: (24, 4) :: (24, 3) :: D) (-1) g A4 := by
    rw [a4]
    exact sC3.new (c := 0) (l := 0) 11 rfl rfl (by decide) (by decide) rfl
  rw [sC3.n]
  refine sat_bind (ci_0_43 sA4) fun u4 su4 => ?_
  have g4 := su4.1.c (b := 28) (c := 25) (l := 6) (by decide) rfl
  refine sat_gd rfl (sat_gd g4.1 (sat_gd (by show vp_in _ (ea_l u4.2 28); rw [g4.2]; exact vp80 (n := 4) rfl (by decide)) (sat_gd (su4.1.c (b := 43) (c := 0) (l := 0) (by decide) rfl).1 (sat_let fun C4 c4 => ?_))))
  have c4 : C4 = ea_wr u4.2 28 4 (some 43) := c4
  have sC4 : StC 46 ((28, 4) :: (43, 10) :: (43, 9) :: (28, 3) :: (40, 10) :: (40, 9) :: (28, 2) :: (37, 10) :: (37, 9) :: (28, 1) :: (34, 10) :: (34, 9) :: (28, 0) :: (31, 10) :: (31, 9) :: (23, 4) :: (23, 3) :: (23, 2) :: (23, 0) :: (24, 8) :: (24, 4) :: (24, 3) :: D) (-1) g C4 := by
    rw [c4]
    exact su4.wr (by decide) (by decide +kernel)
  refine (?_ : sat (qX8_init_42 23 5 C4) _)
  refine uqX8_init_42 ?_
  unfold BX8_init_42
  rw [show ea_r C4 23 2 = some 28 from sC4.1.r (by simp) (by decide +kernel)]
  refine sat_neg (by decide) (sat_gd (sC4.1.c (b := 23) (c := 8) (l := 0) (by decide) rfl).1 (sat_let fun A5 a5 => ?_))
  have sA5 : StC 47 ((28, 4) :: (43, 10) :: (43, 9) :: (28, 3) :: (40, 10) :: (40, 9) :: (28, 2) :: (37, 10) :: (37, 9) :: (28, 1) :: (34, 10) :: (34, 9) :: (28, 0) :: (31, 10) :: (31, 9) :: (23, 4) :: (23, 3) :: (23, 2) :: (23, 0) :: (24, 8) :: (24, 4) :: (24, 3) :: D) (-1) g A5 := by
    rw [a5]
    exact sC4.new (c := 0) (l := 0) 11 rfl rfl (by decide) (by decide) rfl
  rw [sC4.n]
  refine sat_bind (ci_0_46 sA5) fun u5 su5 => ?_
  have g5 := su5.1.c (b := 28) (c := 25) (l := 6) (by decide) rfl
  refine sat_gd rfl (sat_gd g5.1 (sat_gd (by show vp_in _ (ea_l u5.2 28); rw [g5.2]; exact vp80 (n := 5) rfl (by decide)) (sat_gd (su5.1.c (b := 46) (c := 0) (l := 0) (by decide) rfl).1 (sat_let fun C5 c5 => ?_))))
  have c5 : C5 = ea_wr u5.2 28 5 (some 46) := c5
  have sC5 : StC 49 ((28, 5) :: (46, 10) :: (46, 9) :: (28, 4) :: (43, 10) :: (43, 9) :: (28, 3) :: (40, 10) :: (40, 9) :: (28, 2) :: (37, 10) :: (37, 9) :: (28, 1) :: (34, 10) :: (34, 9) :: (28, 0) :: (31, 10) :: (31, 9) :: (23, 4) :: (23, 3) :: (23, 2) :: (23, 0) :: (24, 8) :: (24, 4) :: (24, 3) :: D) (-1) g C5 := by
    rw [c5]
    exact su5.wr (by decide) (by decide +kernel)
  refine (?_ : sat (qX8_init_42 23 6 C5) _)
  refine uqX8_init_42 ?_
  unfold BX8_init_42
  exact sat_pos (by decide) (sat_ret sC5)
theorem ci_4_50 (s : StC 51 D (-1) g h) : sat (qX4_init 50 (some 5) (some 13) (some 49) h) fun y => StC 52 ((50, 3) :: (50, 2) :: (50, 1) :: (50, 0) :: D) (-1) g y.2 := by
  unfold qX4_init BX4_init_0
  refine sat_let fun H1 q1 => ?_
  have sH1 : StC 52 (D) (-1) g H1 := by
    rw [q1]
    exact s.new (c := 22) (l := 2240) 2240 rfl rfl (by decide) (by decide) rfl
  rw [s.n]
  refine sat_gd (sH1.1.c (b := 50) (c := 4) (l := 0) (by decide) rfl).1 ?_
  refine sat_let fun H3 q3 => ?_
  have sH3 : StC 52 ((50, 0) :: D) (-1) g H3 := by
    rw [q3]
    exact sH1.wr (by decide) (by decide +kernel)
  refine sat_gd (sH3.1.c (b := 50) (c := 4) (l := 0) (by decide) rfl).1 ?_
  refine sat_let fun H5 q5 => ?_
  have sH5 : StC 52 ((50, 1) :: (50, 0) :: D) (-1) g H5 := by
    rw [q5]
    exact sH3.wr (by decide) (by decide +kernel)
  refine sat_gd (sH5.1.c (b := 50) (c := 4) (l := 0) (by decide) rfl).1 ?_
  refine sat_let fun H7 q7 => ?_
  have sH7 : StC 52 ((50, 2) :: (50, 1) :: (50, 0) :: D) (-1) g H7 := by
    rw [q7]
    exact sH5.wr (by decide) (by decide +kernel)
  refine sat_gd (sH7.1.c (b := 50) (c := 4) (l := 0) (by decide) rfl).1 ?_
  refine sat_let fun H9 q9 => ?_
  have sH9 : StC 52 ((50, 3) :: (50, 2) :: (50, 1) :: (50, 0) :: D) (-1) g H9 := by
    rw [q9]
    exact sH7.wr (by decide) (by decide +kernel)
  exact sat_ret sH9
theorem ci_1_52 (s : StC 53 D (-1) g h) : sat (qX1_init 52 (some 5) (some 13) (some 18) (some 49) (some 50) h) fun y => StC 62 ((52, 15) :: (52, 14) :: (52, 13) :: (52, 12) :: (52, 11) :: (52, 9) :: (52, 8) :: (52, 7) :: (52, 6) :: (52, 5) :: (52, 4) :: (52, 3) :: (52, 2) :: (52, 1) :: D) (-1) g y.2 := by
  unfold qX1_init BX1_init_0
  refine sat_let fun H1 q1 => ?_
  have sH1 : StC 54 (D) (-1) g H1 := by
    rw [q1]
    exact s.new (c := 20) (l := 120) 120 rfl rfl (by decide) (by decide) rfl
  rw [s.n]
  refine sat_gd (sH1.1.c (b := 52) (c := 1) (l := 0) (by decide) rfl).1 ?_
  refine sat_let fun H3 q3 => ?_
  have sH3 : StC 54 ((52, 1) :: D) (-1) g H3 := by
    rw [q3]
    exact sH1.wr (by decide) (by decide +kernel)
  refine sat_let fun H4 q4 => ?_
  have sH4 : StC 55 ((52, 1) :: D) (-1) g H4 := by
    rw [q4]
    exact sH3.new (c := 20) (l := 120) 120 rfl rfl (by decide) (by decide) rfl
  rw [sH3.n]
  refine sat_gd (sH4.1.c (b := 52) (c := 1) (l := 0) (by decide) rfl).1 ?_
  refine sat_let fun H6 q6 => ?_
  have sH6 : StC 55 ((52, 2) :: (52, 1) :: D) (-1) g H6 := by
    rw [q6]
    exact sH4.wr (by decide) (by decide +kernel)
  refine sat_let fun H7 q7 => ?_
  have sH7 : StC 56 ((52, 2) :: (52, 1) :: D) (-1) g H7 := by
    rw [q7]
    exact sH6.new (c := 20) (l := 120) 120 rfl rfl (by decide) (by decide) rfl
  rw [sH6.n]
  refine sat_gd (sH7.1.c (b := 52) (c := 1) (l := 0) (by decide) rfl).1 ?_
  refine sat_let fun H9 q9 => ?_
  have sH9 : StC 56 ((52, 3) :: (52, 2) :: (52, 1) :: D) (-1) g H9 := by
    rw [q9]
    exact sH7.wr (by decide) (by decide +kernel)
  refine sat_let fun H10 q10 => ?_
  have sH10 : StC 57 ((52, 3) :: (52, 2) :: (52, 1) :: D) (-1) g H10 := by
    rw [q10]
    exact sH9.new (c := 20) (l := 120) 120 rfl rfl (by decide) (by decide) rfl
  rw [sH9.n]
  refine sat_gd (sH10.1.c (b := 52) (c := 1) (l := 0) (by decide) rfl).1 ?_
  refine sat_let fun H12 q12 => ?_
  have sH12 : StC 57 ((52, 4) :: (52, 3) :: (52, 2) :: (52, 1) :: D) (-1) g H12 := by
    rw [q12]
    exact sH10.wr (by decide) (by decide +kernel)
  refine sat_let fun H13 q13 => ?_
  have sH13 : StC 58 ((52, 4) :: (52, 3) :: (52, 2) :: (52, 1) :: D) (-1) g H13 := by
    rw [q13]
    exact sH12.new (c := 21) (l := 120) 120 rfl rfl (by decide) (by decide) rfl
  rw [sH12.n]
  refine sat_gd (sH13.1.c (b := 52) (c := 1) (l := 0) (by decide) rfl).1 ?_
  refine sat_let fun H15 q15 => ?_
  have sH15 : StC 58 ((52, 5) :: (52, 4) :: (52, 3) :: (52, 2) :: (52, 1) :: D) (-1) g H15 := by
    rw [q15]
    exact sH13.wr (by decide) (by decide +kernel)
  refine sat_let fun H16 q16 => ?_
  have sH16 : StC 59 ((52, 5) :: (52, 4) :: (52, 3) :: (52, 2) :: (52, 1) :: D) (-1) g H16 := by
    rw [q16]
    exact sH15.new (c := 20) (l := 70) 70 rfl rfl (by decide) (by decide) rfl
  rw [sH15.n]
  refine sat_gd (sH16.1.c (b := 52) (c := 1) (l := 0) (by decide) rfl).1 ?_
  refine sat_let fun H18 q18 => ?_
  have sH18 : StC 59 ((52, 6) :: (52, 5) :: (52, 4) :: (52, 3) :: (52, 2) :: (52, 1) :: D) (-1) g H18 := by
    rw [q18]
    exact sH16.wr (by decide) (by decide +kernel)
  refine sat_let fun H19 q19 => ?_
  have sH19 : StC 60 ((52, 6) :: (52, 5) :: (52, 4) :: (52, 3) :: (52, 2) :: (52, 1) :: D) (-1) g H19 := by
    rw [q19]
    exact sH18.new (c := 20) (l := 120) 120 rfl rfl (by decide) (by decide) rfl
  rw [sH18.n]
  refine sat_gd (sH19.1.c (b := 52) (c := 1) (l := 0) (by decide) rfl).1 ?_
  refine sat_let fun H21 q21 => ?_
  have sH21 : StC 60 ((52, 7) :: (52, 6) :: (52, 5) :: (52, 4) :: (52, 3) :: (52, 2) :: (52, 1) :: D) (-1) g H21 := by
    rw [q21]
    exact sH19.wr (by decide) (by decide +kernel)
  refine sat_let fun H22 q22 => ?_
  have sH22 : StC 61 ((52, 7) :: (52, 6) :: (52, 5) :: (52, 4) :: (52, 3) :: (52, 2) :: (52, 1) :: D) (-1) g H22 := by
    rw [q22]
    exact sH21.new (c := 20) (l := 12) 12 rfl rfl (by decide) (by decide) rfl
  rw [sH21.n]
  refine sat_gd (sH22.1.c (b := 52) (c := 1) (l := 0) (by decide) rfl).1 ?_
  refine sat_let fun H24 q24 => ?_
  have sH24 : StC 61 ((52, 8) :: (52, 7) :: (52, 6) :: (52, 5) :: (52, 4) :: (52, 3) :: (52, 2) :: (52, 1) :: D) (-1) g H24 := by
    rw [q24]
    exact sH22.wr (by decide) (by decide +kernel)
  refine sat_let fun H25 q25 => ?_
  have sH25 : StC 62 ((52, 8) :: (52, 7) :: (52, 6) :: (52, 5) :: (52, 4) :: (52, 3) :: (52, 2) :: (52, 1) :: D) (-1) g H25 := by
    rw [q25]
    exact sH24.new (c := 20) (l := 70) 70 rfl rfl (by decide) (by decide) rfl
  rw [sH24.n]
  refine sat_gd (sH25.1.c (b := 52) (c := 1) (l := 0) (by decide) rfl).1 ?_
  refine sat_let fun H27 q27 => ?_
  have sH27 : StC 62 ((52, 9) :: (52, 8) :: (52, 7) :: (52, 6) :: (52, 5) :: (52, 4) :: (52, 3) :: (52, 2) :: (52, 1) :: D) (-1) g H27 := by
    rw [q27]
    exact sH25.wr (by decide) (by decide +kernel)
  refine sat_gd (sH27.1.c (b := 52) (c := 1) (l := 0) (by decide) rfl).1 ?_
  refine sat_let fun H29 q29 => ?_
  have sH29 : StC 62 ((52, 11) :: (52, 9) :: (52, 8) :: (52, 7) :: (52, 6) :: (52, 5) :: (52, 4) :: (52, 3) :: (52, 2) :: (52, 1) :: D) (-1) g H29 := by
    rw [q29]
    exact sH27.wr (by decide) (by decide +kernel)
  refine sat_gd (sH29.1.c (b := 52) (c := 1) (l := 0) (by decide) rfl).1 ?_
  refine sat_let fun H31 q31 => ?_
  have sH31 : StC 62 ((52, 12) :: (52, 11) :: (52, 9) :: (52, 8) :: (52, 7) :: (52, 6) :: (52, 5) :: (52, 4) :: (52, 3) :: (52, 2) :: (52, 1) :: D) (-1) g H31 := by
    rw [q31]
    exact sH29.wr (by decide) (by decide +kernel)
  refine sat_gd (sH31.1.c (b := 52) (c := 1) (l := 0) (by decide) rfl).1 ?_
  refine sat_let fun H33 q33 => ?_
  have sH33 : StC 62 ((52, 13) :: (52, 12) :: (52, 11) :: (52, 9) :: (52, 8) :: (52, 7) :: (52, 6) :: (52, 5) :: (52, 4) :: (52, 3) :: (52, 2) :: (52, 1) :: D) (-1) g H33 := by
    rw [q33]
    exact sH31.wr (by decide) (by decide +kernel)
  refine sat_gd (sH33.1.c (b := 52) (c := 1) (l := 0) (by decide) rfl).1 ?_
  refine sat_let fun H35 q35 => ?_
  have sH35 : StC 62 ((52, 14) :: (52, 13) :: (52, 12) :: (52, 11) :: (52, 9) :: (52, 8) :: (52, 7) :: (52, 6) :: (52, 5) :: (52, 4) :: (52, 3) :: (52, 2) :: (52, 1) :: D) (-1) g H35 := by
    rw [q35]
    exact sH33.wr (by decide) (by decide +kernel)
  refine sat_gd (sH35.1.c (b := 52) (c := 1) (l := 0) (by decide) rfl).1 ?_
  refine sat_let fun H37 q37 => ?_
  have sH37 : StC 62 ((52, 15) :: (52, 14) :: (52, 13) :: (52, 12) :: (52, 11) :: (52, 9) :: (52, 8) :: (52, 7) :: (52, 6) :: (52, 5) :: (52, 4) :: (52, 3) :: (52, 2) :: (52, 1) :: D) (-1) g H37 := by
    rw [q37]
    exact sH35.wr (by decide) (by decide +kernel)
  exact sat_ret sH37
theorem ci_1_62 (s : StC 63 D (-1) g h) : sat (qX1_init 62 (some 5) (some 13) (some 18) (some 49) (none) h) fun y => StC 72 ((62, 15) :: (62, 14) :: (62, 13) :: (62, 12) :: (62, 11) :: (62, 9) :: (62, 8) :: (62, 7) :: (62, 6) :: (62, 5) :: (62, 4) :: (62, 3) :: (62, 2) :: (62, 1) :: D) (-1) g y.2 := by
  unfold qX1_init BX1_init_0
  refine sat_let fun H1 q1 => ?_
  have sH1 : StC 64 (D) (-1) g H1 := by
    rw [q1]
    exact s.new (c := 20) (l := 120) 120 rfl rfl (by decide) (by decide) rfl
  rw [s.n]
  refine sat_gd (sH1.1.c (b := 62) (c := 1) (l := 0) (by decide) rfl).1 ?_
  refine sat_let fun H3 q3 => ?_
  have sH3 : StC 64 ((62, 1) :: D) (-1) g H3 := by
    rw [q3]
    exact sH1.wr (by decide) (by decide +kernel)
  refine sat_let fun H4 q4 => ?_
  have sH4 : StC 65 ((62, 1) :: D) (-1) g H4 := by
    rw [q4]
    exact sH3.new (c := 20) (l := 120) 120 rfl rfl (by decide) (by decide) rfl
  rw [sH3.n]
  refine sat_gd (sH4.1.c (b := 62) (c := 1) (l := 0) (by decide) rfl).1 ?_
  refine sat_let fun H6 q6 => ?_
  have sH6 : StC 65 ((62, 2) :: (62, 1) :: D) (-1) g H6 := by
    rw [q6]
    exact sH4.wr (by decide) (by decide +kernel)
  refine sat_let fun H7 q7 => ?_
  have sH7 : StC 66 ((62, 2) :: (62, 1) :: D) (-1) g H7 := by
    rw [q7]
    exact sH6.new (c := 20) (l := 120) 120 rfl rfl (by decide) (by decide) rfl
  rw [sH6.n]
  refine sat_gd (sH7.1.c (b := 62) (c := 1) (l := 0) (by decide) rfl).1 ?_
  refine sat_let fun H9 q9 => ?_
  have sH9 : StC 66 ((62, 3) :: (62, 2) :: (62, 1) :: D) (-1) g H9 := by
    rw [q9]
    exact sH7.wr (by decide) (by decide +kernel)
  refine sat_let fun H10 q10 => ?_
  have sH10 : StC 67 ((62, 3) :: (62, 2) :: (62, 1) :: D) (-1) g H10 := by
    rw [q10]
    exact sH9.new (c := 20) (l := 120) 120 rfl rfl (by decide) (by decide) rfl
  rw [sH9.n]
  refine sat_gd (sH10.1.c (b := 62) (c := 1) (l := 0) (by decide) rfl).1 ?_
  refine sat_let fun H12 q12 => ?_
  have sH12 : StC 67 ((62, 4) :: (62, 3) :: (62, 2) :: (62, 1) :: D) (-1) g H12 := by
    rw [q12]
    exact sH10.wr (by decide) (by decide +kernel)
  refine sat_let fun H13 q13 => ?_
  have sH13 : StC 68 ((62, 4) :: (62, 3) :: (62, 2) :: (62, 1) :: D) (-1) g H13 := by
    rw [q13]
    exact sH12.new (c := 21) (l := 120) 120 rfl rfl (by decide) (by decide) rfl
  rw [sH12.n]
  refine sat_gd (sH13.1.c (b := 62) (c := 1) (l := 0) (by decide) rfl).1 ?_
  refine sat_let fun H15 q15 => ?_
  have sH15 : StC 68 ((62, 5) :: (62, 4) :: (62, 3) :: (62, 2) :: (62, 1) :: D) (-1) g H15 := by
    rw [q15]
    exact sH13.wr (by decide) (by decide +kernel)
  refine sat_let fun H16 q16 => ?_
  have sH16 : StC 69 ((62, 5) :: (62, 4) :: (62, 3) :: (62, 2) :: (62, 1) :: D) (-1) g H16 := by
    rw [q16]
    exact sH15.new (c := 20) (l := 70) 70 rfl rfl (by decide) (by decide) rfl
  rw [sH15.n]
  refine sat_gd (sH16.1.c (b := 62) (c := 1) (l := 0) (by decide) rfl).1 ?_
  refine sat_let fun H18 q18 => ?_
  have sH18 : StC 69 ((62, 6) :: (62, 5) :: (62, 4) :: (62, 3) :: (62, 2) :: (62, 1) :: D) (-1) g H18 := by
    rw [q18]
    exact sH16.wr (by decide) (by decide +kernel)
  refine sat_let fun H19 q19 => ?_
  have sH19 : StC 70 ((62, 6) :: (62, 5) :: (62, 4) :: (62, 3) :: (62, 2) :: (62, 1) :: D) (-1) g H19 := by
    rw [q19]
    exact sH18.new (c := 20) (l := 120) 120 rfl rfl (by decide) (by decide) rfl
  rw [sH18.n]
  refine sat_gd (sH19.1.c (b := 62) (c := 1) (l := 0) (by decide) rfl).1 ?_
  refine sat_let fun H21 q21 => ?_
  have sH21 : StC 70 ((62, 7) :: (62, 6) :: (62, 5) :: (62, 4) :: (62, 3) :: (62, 2) :: (62, 1) :: D) (-1) g H21 := by
    rw [q21]
    exact sH19.wr (by decide) (by decide +kernel)
  refine sat_let fun H22 q22 => ?_
  have sH22 : StC 71 ((62, 7) :: (62, 6) :: (62, 5) :: (62, 4) :: (62, 3) :: (62, 2) :: (62, 1) :: D) (-1) g H22 := by
    rw [q22]
    exact sH21.new (c := 20) (l := 12) 12 rfl rfl (by decide) (by decide) rfl
  rw [sH21.n]
  refine sat_gd (sH22.1.c (b := 62) (c := 1) (l := 0) (by decide) rfl).1 ?_
  refine sat_let fun H24 q24 => ?_
  have sH24 : StC 71 ((62, 8) :: (62, 7) :: (62, 6) :: (62, 5) :: (62, 4) :: (62, 3) :: (62, 2) :: (62, 1) :: D) (-1) g H24 := by
    rw [q24]
    exact sH22.wr (by decide) (by decide +kernel)
  refine sat_let fun H25 q25 => ?_
  have sH25 : StC 72 ((62, 8) :: (62, 7) :: (62, 6) :: (62, 5) :: (62, 4) :: (62, 3) :: (62, 2) :: (62, 1) :: D) (-1) g H25 := by
    rw [q25]
    exact sH24.new (c := 20) (l := 70) 70 rfl rfl (by decide) (by decide) rfl
  rw [sH24.n]
  refine sat_gd (sH25.1.c (b := 62) (c := 1) (l := 0) (by decide) rfl).1 ?_
  refine sat_let fun H27 q27 => ?_
  have sH27 : StC 72 ((62, 9) :: (62, 8) :: (62, 7) :: (62, 6) :: (62, 5) :: (62, 4) :: (62, 3) :: (62, 2) :: (62, 1) :: D) (-1) g H27 := by
    rw [q27]
    exact sH25.wr (by decide) (by decide +kernel)
  refine sat_gd (sH27.1.c (b := 62) (c := 1) (l := 0) (by decide) rfl).1 ?_
  refine sat_let fun H29 q29 => ?_
  have sH29 : StC 72 ((62, 11) :: (62, 9) :: (62, 8) :: (62, 7) :: (62, 6) :: (62, 5) :: (62, 4) :: (62, 3) :: (62, 2) :: (62, 1) :: D) (-1) g H29 := by
    rw [q29]
    exact sH27.wr (by decide) (by decide +kernel)
  refine sat_gd (sH29.1.c (b := 62) (c := 1) (l := 0) (by decide) rfl).1 ?_
  refine sat_let fun H31 q31 => ?_
  have sH31 : StC 72 ((62, 12) :: (62, 11) :: (62, 9) :: (62, 8) :: (62, 7) :: (62, 6) :: (62, 5) :: (62, 4) :: (62, 3) :: (62, 2) :: (62, 1) :: D) (-1) g H31 := by
    rw [q31]
    exact sH29.wr (by decide) (by decide +kernel)
  refine sat_gd (sH31.1.c (b := 62) (c := 1) (l := 0) (by decide) rfl).1 ?_
  refine sat_let fun H33 q33 => ?_
  have sH33 : StC 72 ((62, 13) :: (62, 12) :: (62, 11) :: (62, 9) :: (62, 8) :: (62, 7) :: (62, 6) :: (62, 5) :: (62, 4) :: (62, 3) :: (62, 2) :: (62, 1) :: D) (-1) g H33 := by
    rw [q33]
    exact sH31.wr (by decide) (by decide +kernel)
  refine sat_gd (sH33.1.c (b := 62) (c := 1) (l := 0) (by decide) rfl).1 ?_
  refine sat_let fun H35 q35 => ?_
  have sH35 : StC 72 ((62, 14) :: (62, 13) :: (62, 12) :: (62, 11) :: (62, 9) :: (62, 8) :: (62, 7) :: (62, 6) :: (62, 5) :: (62, 4) :: (62, 3) :: (62, 2) :: (62, 1) :: D) (-1) g H35 := by
    rw [q35]
    exact sH33.wr (by decide) (by decide +kernel)
  refine sat_gd (sH35.1.c (b := 62) (c := 1) (l := 0) (by decide) rfl).1 ?_
  refine sat_let fun H37 q37 => ?_
  have sH37 : StC 72 ((62, 15) :: (62, 14) :: (62, 13) :: (62, 12) :: (62, 11) :: (62, 9) :: (62, 8) :: (62, 7) :: (62, 6) :: (62, 5) :: (62, 4) :: (62, 3) :: (62, 2) :: (62, 1) :: D) (-1) g H37 := by
    rw [q37]
    exact sH35.wr (by decide) (by decide +kernel)
  exact sat_ret sH37
def DC1 : List (Nat × Nat) := (0, 12) :: (0, 11) :: (0, 10) :: (0, 9) :: (0, 8) :: (62, 15) :: (62, 14) :: (62, 13) :: (62, 12) :: (62, 11) :: (62, 9) :: (62, 8) :: (62, 7) :: (62, 6) :: (62, 5) :: (62, 4) :: (62, 3) :: (62, 2) :: (62, 1) :: (0, 7) :: (52, 15) :: (52, 14) :: (52, 13) :: (52, 12) :: (52, 11) :: (52, 9) :: (52, 8) :: (52, 7) :: (52, 6) :: (52, 5) :: (52, 4) :: (52, 3) :: (52, 2) :: (52, 1) :: (0, 6) :: (50, 3) :: (50, 2) :: (50, 1) :: (50, 0) :: (0, 5) :: (0, 4) :: (28, 5) :: (46, 10) :: (46, 9) :: (28, 4) :: (43, 10) :: (43, 9) :: (28, 3) :: (40, 10) :: (40, 9) :: (28, 2) :: (37, 10) :: (37, 9) :: (28, 1) :: (34, 10) :: (34, 9) :: (28, 0) :: (31, 10) :: (31, 9) :: (23, 4) :: (23, 3) :: (23, 2) :: (23, 0) :: (24, 8) :: (24, 4) :: (24, 3) :: (0, 3) :: (18, 4) :: (18, 3) :: (18, 2) :: (18, 1) :: (0, 2) :: (13, 2) :: (13, 6) :: (13, 5) :: (13, 4) :: (13, 3) :: (0, 1) :: (5, 7) :: (5, 6) :: (5, 5) :: (5, 4) :: (5, 3) :: (5, 2) :: (5, 1) :: (0, 0) :: [(1, 3), (1, 2), (1, 1)]
theorem ci_11 {P : Unit × ea_H → Prop} (p : Pre 1 [] h) (z : ∀ k, hI h 0 k = 0 ∧ hJ h 0 k = 0) (k : ∀ g h', Rd0 g → (∀ a k, a < 2 → hI g a k = 0) → StC 76 DC1 (-1) g h' → sat (qX11_init_189 0 0 h') P) : sat (qX11_init 0 h) P := by
  unfold qX11_init
  refine uqX11_init_0 ?_
  unfold BX11_init_0
  refine sat_let fun H1 q1 => ?_
  have n0 : ea_n h = 1 := p.1
  have p1 : Pre 2 [] H1 := by
    rw [q1]
    exact p.new (c := 7) (l := 0) 4 rfl rfl
  have z1 : ∀ a k, a < 2 → hI H1 a k = 0 ∧ hJ H1 a k = 0 := fun a k ha => by
    rw [q1, new_I, new_J, n0]
    by_cases y : a = 1
    · rw [if_pos y, if_pos y]
      exact ⟨rfl, rfl⟩
    · rw [if_neg y, if_neg y, show a = 0 by omega]
      exact z k
  rw [n0]
  refine sat_bind (c_roads p1 z1) fun g hg => ?_
  obtain ⟨p5, rd, z2⟩ := hg
  have s : StC 5 [(1, 3), (1, 2), (1, 1)] 0 g.2 g.2 := ⟨p5, fun _ _ _ => rfl, fun a k h1 h2 => absurd h2 (by omega), fun h => absurd h (by decide), fun h => absurd h (by decide)⟩
  refine sat_gd (s.1.c (b := 0) (c := 11) (l := 0) (by decide) rfl).1 ?_
  refine sat_let fun H4 q4 => ?_
  have sH4 : StC 5 ((0, 0) :: [(1, 3), (1, 2), (1, 1)]) 0 g.2 H4 := by
    rw [q4]
    exact s.wr (by decide) (by decide +kernel)
  refine sat_let fun H5 q5 => ?_
  have sH5 : StC 6 ((0, 0) :: [(1, 3), (1, 2), (1, 1)]) 0 g.2 H5 := by
    rw [q5]
    exact sH4.new (c := 9) (l := 0) 8 rfl rfl (by decide) (by decide) rfl
  rw [sH4.n]
  refine sat_bind (ci_9_5 sH5) fun w6 sw6 => ?_
  refine sat_gd (sw6.1.c (b := 0) (c := 11) (l := 0) (by decide) rfl).1 ?_
  refine sat_let fun H8 q8 => ?_
  have sH8 : StC 13 ((0, 1) :: (5, 7) :: (5, 6) :: (5, 5) :: (5, 4) :: (5, 3) :: (5, 2) :: (5, 1) :: (0, 0) :: [(1, 3), (1, 2), (1, 1)]) 0 g.2 H8 := by
    rw [q8]
    exact sw6.wr (by decide) (by decide +kernel)
  refine sat_let fun H9 q9 => ?_
  have sH9 : StC 14 ((0, 1) :: (5, 7) :: (5, 6) :: (5, 5) :: (5, 4) :: (5, 3) :: (5, 2) :: (5, 1) :: (0, 0) :: [(1, 3), (1, 2), (1, 1)]) 0 g.2 H9 := by
    rw [q9]
    exact sH8.new (c := 10) (l := 0) 7 rfl rfl (by decide) (by decide) rfl
  rw [sH8.n]
  refine sat_gd (sH9.1.c (b := 0) (c := 11) (l := 0) (by decide) rfl).1 ?_
  rw [show ea_r H9 0 1 = some 5 from sH9.1.r (by decide) (by decide +kernel)]
  refine sat_bind (ci_10_13 sH9) fun w11 sw11 => ?_
  refine sat_gd (sw11.1.c (b := 0) (c := 11) (l := 0) (by decide) rfl).1 ?_
  refine sat_let fun H13 q13 => ?_
  have sH13 : StC 18 ((0, 2) :: (13, 2) :: (13, 6) :: (13, 5) :: (13, 4) :: (13, 3) :: (0, 1) :: (5, 7) :: (5, 6) :: (5, 5) :: (5, 4) :: (5, 3) :: (5, 2) :: (5, 1) :: (0, 0) :: [(1, 3), (1, 2), (1, 1)]) 0 g.2 H13 := by
    rw [q13]
    exact sw11.wr (by decide) (by decide +kernel)
  refine sat_let fun H14 q14 => ?_
  have sH14 : StC 19 ((0, 2) :: (13, 2) :: (13, 6) :: (13, 5) :: (13, 4) :: (13, 3) :: (0, 1) :: (5, 7) :: (5, 6) :: (5, 5) :: (5, 4) :: (5, 3) :: (5, 2) :: (5, 1) :: (0, 0) :: [(1, 3), (1, 2), (1, 1)]) 0 g.2 H14 := by
    rw [q14]
    exact sH13.new (c := 3) (l := 0) 5 rfl rfl (by decide) (by decide) rfl
  rw [sH13.n]
  refine sat_bind (ci_3_18 sH14) fun w15 sw15 => ?_
  refine sat_gd (sw15.1.c (b := 0) (c := 11) (l := 0) (by decide) rfl).1 ?_
  refine sat_let fun H17 q17 => ?_
  have sH17 : StC 23 ((0, 3) :: (18, 4) :: (18, 3) :: (18, 2) :: (18, 1) :: (0, 2) :: (13, 2) :: (13, 6) :: (13, 5) :: (13, 4) :: (13, 3) :: (0, 1) :: (5, 7) :: (5, 6) :: (5, 5) :: (5, 4) :: (5, 3) :: (5, 2) :: (5, 1) :: (0, 0) :: [(1, 3), (1, 2), (1, 1)]) 0 g.2 H17 := by
    rw [q17]
    exact sw15.wr (by decide) (by decide +kernel)
  refine sat_let fun H18 q18 => ?_
  have sH18 : StC 24 ((0, 3) :: (18, 4) :: (18, 3) :: (18, 2) :: (18, 1) :: (0, 2) :: (13, 2) :: (13, 6) :: (13, 5) :: (13, 4) :: (13, 3) :: (0, 1) :: (5, 7) :: (5, 6) :: (5, 5) :: (5, 4) :: (5, 3) :: (5, 2) :: (5, 1) :: (0, 0) :: [(1, 3), (1, 2), (1, 1)]) 0 g.2 H18 := by
    rw [q18]
    exact sH17.new (c := 8) (l := 0) 5 rfl rfl (by decide) (by decide) rfl
  rw [sH17.n]
  refine sat_bind (ci_8_23 sH18) fun w19 sw19 => ?_
  refine sat_gd (sw19.1.c (b := 0) (c := 11) (l := 0) (by decide) rfl).1 ?_
  refine sat_let fun H21 q21 => ?_
  have sH21 : StC 49 ((0, 4) :: (28, 5) :: (46, 10) :: (46, 9) :: (28, 4) :: (43, 10) :: (43, 9) :: (28, 3) :: (40, 10) :: (40, 9) :: (28, 2) :: (37, 10) :: (37, 9) :: (28, 1) :: (34, 10) :: (34, 9) :: (28, 0) :: (31, 10) :: (31, 9) :: (23, 4) :: (23, 3) :: (23, 2) :: (23, 0) :: (24, 8) :: (24, 4) :: (24, 3) :: (0, 3) :: (18, 4) :: (18, 3) :: (18, 2) :: (18, 1) :: (0, 2) :: (13, 2) :: (13, 6) :: (13, 5) :: (13, 4) :: (13, 3) :: (0, 1) :: (5, 7) :: (5, 6) :: (5, 5) :: (5, 4) :: (5, 3) :: (5, 2) :: (5, 1) :: (0, 0) :: [(1, 3), (1, 2), (1, 1)]) (-1) g.2 H21 := by
    rw [q21]
    exact sw19.wr (by decide) (by decide +kernel)
  refine sat_let fun H22 q22 => ?_
  have sH22 : StC 50 ((0, 4) :: (28, 5) :: (46, 10) :: (46, 9) :: (28, 4) :: (43, 10) :: (43, 9) :: (28, 3) :: (40, 10) :: (40, 9) :: (28, 2) :: (37, 10) :: (37, 9) :: (28, 1) :: (34, 10) :: (34, 9) :: (28, 0) :: (31, 10) :: (31, 9) :: (23, 4) :: (23, 3) :: (23, 2) :: (23, 0) :: (24, 8) :: (24, 4) :: (24, 3) :: (0, 3) :: (18, 4) :: (18, 3) :: (18, 2) :: (18, 1) :: (0, 2) :: (13, 2) :: (13, 6) :: (13, 5) :: (13, 4) :: (13, 3) :: (0, 1) :: (5, 7) :: (5, 6) :: (5, 5) :: (5, 4) :: (5, 3) :: (5, 2) :: (5, 1) :: (0, 0) :: [(1, 3), (1, 2), (1, 1)]) (-1) g.2 H22 := by
    rw [q22]
    exact sH21.new (c := 23) (l := 120) 120 rfl rfl (by decide) (by decide) rfl
  rw [sH21.n]
  refine sat_gd (sH22.1.c (b := 0) (c := 11) (l := 0) (by decide) rfl).1 ?_
  refine sat_let fun H24 q24 => ?_
  have sH24 : StC 50 ((0, 5) :: (0, 4) :: (28, 5) :: (46, 10) :: (46, 9) :: (28, 4) :: (43, 10) :: (43, 9) :: (28, 3) :: (40, 10) :: (40, 9) :: (28, 2) :: (37, 10) :: (37, 9) :: (28, 1) :: (34, 10) :: (34, 9) :: (28, 0) :: (31, 10) :: (31, 9) :: (23, 4) :: (23, 3) :: (23, 2) :: (23, 0) :: (24, 8) :: (24, 4) :: (24, 3) :: (0, 3) :: (18, 4) :: (18, 3) :: (18, 2) :: (18, 1) :: (0, 2) :: (13, 2) :: (13, 6) :: (13, 5) :: (13, 4) :: (13, 3) :: (0, 1) :: (5, 7) :: (5, 6) :: (5, 5) :: (5, 4) :: (5, 3) :: (5, 2) :: (5, 1) :: (0, 0) :: [(1, 3), (1, 2), (1, 1)]) (-1) g.2 H24 := by
    rw [q24]
    exact sH22.wr (by decide) (by decide +kernel)
  refine sat_let fun H25 q25 => ?_
  have sH25 : StC 51 ((0, 5) :: (0, 4) :: (28, 5) :: (46, 10) :: (46, 9) :: (28, 4) :: (43, 10) :: (43, 9) :: (28, 3) :: (40, 10) :: (40, 9) :: (28, 2) :: (37, 10) :: (37, 9) :: (28, 1) :: (34, 10) :: (34, 9) :: (28, 0) :: (31, 10) :: (31, 9) :: (23, 4) :: (23, 3) :: (23, 2) :: (23, 0) :: (24, 8) :: (24, 4) :: (24, 3) :: (0, 3) :: (18, 4) :: (18, 3) :: (18, 2) :: (18, 1) :: (0, 2) :: (13, 2) :: (13, 6) :: (13, 5) :: (13, 4) :: (13, 3) :: (0, 1) :: (5, 7) :: (5, 6) :: (5, 5) :: (5, 4) :: (5, 3) :: (5, 2) :: (5, 1) :: (0, 0) :: [(1, 3), (1, 2), (1, 1)]) (-1) g.2 H25 := by
    rw [q25]
    exact sH24.new (c := 4) (l := 0) 4 rfl rfl (by decide) (by decide) rfl
  rw [sH24.n]
  refine sat_gd (sH25.1.c (b := 0) (c := 11) (l := 0) (by decide) rfl).1 ?_
  refine sat_gd (sH25.1.c (b := 0) (c := 11) (l := 0) (by decide) rfl).1 ?_
  refine sat_gd (sH25.1.c (b := 0) (c := 11) (l := 0) (by decide) rfl).1 ?_
  rw [show ea_r H25 0 1 = some 5 from sH25.1.r (by decide) (by decide +kernel)]
  rw [show ea_r H25 0 2 = some 13 from sH25.1.r (by decide) (by decide +kernel)]
  rw [show ea_r H25 0 5 = some 49 from sH25.1.r (by decide) (by decide +kernel)]
  refine sat_bind (ci_4_50 sH25) fun w29 sw29 => ?_
  refine sat_gd (sw29.1.c (b := 0) (c := 11) (l := 0) (by decide) rfl).1 ?_
  refine sat_let fun H31 q31 => ?_
  have sH31 : StC 52 ((0, 6) :: (50, 3) :: (50, 2) :: (50, 1) :: (50, 0) :: (0, 5) :: (0, 4) :: (28, 5) :: (46, 10) :: (46, 9) :: (28, 4) :: (43, 10) :: (43, 9) :: (28, 3) :: (40, 10) :: (40, 9) :: (28, 2) :: (37, 10) :: (37, 9) :: (28, 1) :: (34, 10) :: (34, 9) :: (28, 0) :: (31, 10) :: (31, 9) :: (23, 4) :: (23, 3) :: (23, 2) :: (23, 0) :: (24, 8) :: (24, 4) :: (24, 3) :: (0, 3) :: (18, 4) :: (18, 3) :: (18, 2) :: (18, 1) :: (0, 2) :: (13, 2) :: (13, 6) :: (13, 5) :: (13, 4) :: (13, 3) :: (0, 1) :: (5, 7) :: (5, 6) :: (5, 5) :: (5, 4) :: (5, 3) :: (5, 2) :: (5, 1) :: (0, 0) :: [(1, 3), (1, 2), (1, 1)]) (-1) g.2 H31 := by
    rw [q31]
    exact sw29.wr (by decide) (by decide +kernel)
  refine sat_let fun H32 q32 => ?_
  have sH32 : StC 53 ((0, 6) :: (50, 3) :: (50, 2) :: (50, 1) :: (50, 0) :: (0, 5) :: (0, 4) :: (28, 5) :: (46, 10) :: (46, 9) :: (28, 4) :: (43, 10) :: (43, 9) :: (28, 3) :: (40, 10) :: (40, 9) :: (28, 2) :: (37, 10) :: (37, 9) :: (28, 1) :: (34, 10) :: (34, 9) :: (28, 0) :: (31, 10) :: (31, 9) :: (23, 4) :: (23, 3) :: (23, 2) :: (23, 0) :: (24, 8) :: (24, 4) :: (24, 3) :: (0, 3) :: (18, 4) :: (18, 3) :: (18, 2) :: (18, 1) :: (0, 2) :: (13, 2) :: (13, 6) :: (13, 5) :: (13, 4) :: (13, 3) :: (0, 1) :: (5, 7) :: (5, 6) :: (5, 5) :: (5, 4) :: (5, 3) :: (5, 2) :: (5, 1) :: (0, 0) :: [(1, 3), (1, 2), (1, 1)]) (-1) g.2 H32 := by
    rw [q32]
    exact sH31.new (c := 1) (l := 0) 16 rfl rfl (by decide) (by decide) rfl
  rw [sH31.n]
  refine sat_gd (sH32.1.c (b := 0) (c := 11) (l := 0) (by decide) rfl).1 ?_
  refine sat_gd (sH32.1.c (b := 0) (c := 11) (l := 0) (by decide) rfl).1 ?_
  refine sat_gd (sH32.1.c (b := 0) (c := 11) (l := 0) (by decide) rfl).1 ?_
  refine sat_gd (sH32.1.c (b := 0) (c := 11) (l := 0) (by decide) rfl).1 ?_
  refine sat_gd (sH32.1.c (b := 0) (c := 11) (l := 0) (by decide) rfl).1 ?_
  rw [show ea_r H32 0 1 = some 5 from sH32.1.r (by decide) (by decide +kernel)]
  rw [show ea_r H32 0 2 = some 13 from sH32.1.r (by decide) (by decide +kernel)]
  rw [show ea_r H32 0 3 = some 18 from sH32.1.r (by decide) (by decide +kernel)]
  rw [show ea_r H32 0 5 = some 49 from sH32.1.r (by decide) (by decide +kernel)]
  rw [show ea_r H32 0 6 = some 50 from sH32.1.r (by decide) (by decide +kernel)]
  refine sat_bind (ci_1_52 sH32) fun w38 sw38 => ?_
  refine sat_gd (sw38.1.c (b := 0) (c := 11) (l := 0) (by decide) rfl).1 ?_
  refine sat_let fun H40 q40 => ?_
  have sH40 : StC 62 ((0, 7) :: (52, 15) :: (52, 14) :: (52, 13) :: (52, 12) :: (52, 11) :: (52, 9) :: (52, 8) :: (52, 7) :: (52, 6) :: (52, 5) :: (52, 4) :: (52, 3) :: (52, 2) :: (52, 1) :: (0, 6) :: (50, 3) :: (50, 2) :: (50, 1) :: (50, 0) :: (0, 5) :: (0, 4) :: (28, 5) :: (46, 10) :: (46, 9) :: (28, 4) :: (43, 10) :: (43, 9) :: (28, 3) :: (40, 10) :: (40, 9) :: (28, 2) :: (37, 10) :: (37, 9) :: (28, 1) :: (34, 10) :: (34, 9) :: (28, 0) :: (31, 10) :: (31, 9) :: (23, 4) :: (23, 3) :: (23, 2) :: (23, 0) :: (24, 8) :: (24, 4) :: (24, 3) :: (0, 3) :: (18, 4) :: (18, 3) :: (18, 2) :: (18, 1) :: (0, 2) :: (13, 2) :: (13, 6) :: (13, 5) :: (13, 4) :: (13, 3) :: (0, 1) :: (5, 7) :: (5, 6) :: (5, 5) :: (5, 4) :: (5, 3) :: (5, 2) :: (5, 1) :: (0, 0) :: [(1, 3), (1, 2), (1, 1)]) (-1) g.2 H40 := by
    rw [q40]
    exact sw38.wr (by decide) (by decide +kernel)
  refine sat_let fun H41 q41 => ?_
  have sH41 : StC 63 ((0, 7) :: (52, 15) :: (52, 14) :: (52, 13) :: (52, 12) :: (52, 11) :: (52, 9) :: (52, 8) :: (52, 7) :: (52, 6) :: (52, 5) :: (52, 4) :: (52, 3) :: (52, 2) :: (52, 1) :: (0, 6) :: (50, 3) :: (50, 2) :: (50, 1) :: (50, 0) :: (0, 5) :: (0, 4) :: (28, 5) :: (46, 10) :: (46, 9) :: (28, 4) :: (43, 10) :: (43, 9) :: (28, 3) :: (40, 10) :: (40, 9) :: (28, 2) :: (37, 10) :: (37, 9) :: (28, 1) :: (34, 10) :: (34, 9) :: (28, 0) :: (31, 10) :: (31, 9) :: (23, 4) :: (23, 3) :: (23, 2) :: (23, 0) :: (24, 8) :: (24, 4) :: (24, 3) :: (0, 3) :: (18, 4) :: (18, 3) :: (18, 2) :: (18, 1) :: (0, 2) :: (13, 2) :: (13, 6) :: (13, 5) :: (13, 4) :: (13, 3) :: (0, 1) :: (5, 7) :: (5, 6) :: (5, 5) :: (5, 4) :: (5, 3) :: (5, 2) :: (5, 1) :: (0, 0) :: [(1, 3), (1, 2), (1, 1)]) (-1) g.2 H41 := by
    rw [q41]
    exact sH40.new (c := 1) (l := 0) 16 rfl rfl (by decide) (by decide) rfl
  rw [sH40.n]
  refine sat_gd (sH41.1.c (b := 0) (c := 11) (l := 0) (by decide) rfl).1 ?_
  refine sat_gd (sH41.1.c (b := 0) (c := 11) (l := 0) (by decide) rfl).1 ?_
  refine sat_gd (sH41.1.c (b := 0) (c := 11) (l := 0) (by decide) rfl).1 ?_
  refine sat_gd (sH41.1.c (b := 0) (c := 11) (l := 0) (by decide) rfl).1 ?_
  rw [show ea_r H41 0 1 = some 5 from sH41.1.r (by decide) (by decide +kernel)]
  rw [show ea_r H41 0 2 = some 13 from sH41.1.r (by decide) (by decide +kernel)]
  rw [show ea_r H41 0 3 = some 18 from sH41.1.r (by decide) (by decide +kernel)]
  rw [show ea_r H41 0 5 = some 49 from sH41.1.r (by decide) (by decide +kernel)]
  refine sat_bind (ci_1_62 sH41) fun w46 sw46 => ?_
  refine sat_gd (sw46.1.c (b := 0) (c := 11) (l := 0) (by decide) rfl).1 ?_
  refine sat_let fun H48 q48 => ?_
  have sH48 : StC 72 ((0, 8) :: (62, 15) :: (62, 14) :: (62, 13) :: (62, 12) :: (62, 11) :: (62, 9) :: (62, 8) :: (62, 7) :: (62, 6) :: (62, 5) :: (62, 4) :: (62, 3) :: (62, 2) :: (62, 1) :: (0, 7) :: (52, 15) :: (52, 14) :: (52, 13) :: (52, 12) :: (52, 11) :: (52, 9) :: (52, 8) :: (52, 7) :: (52, 6) :: (52, 5) :: (52, 4) :: (52, 3) :: (52, 2) :: (52, 1) :: (0, 6) :: (50, 3) :: (50, 2) :: (50, 1) :: (50, 0) :: (0, 5) :: (0, 4) :: (28, 5) :: (46, 10) :: (46, 9) :: (28, 4) :: (43, 10) :: (43, 9) :: (28, 3) :: (40, 10) :: (40, 9) :: (28, 2) :: (37, 10) :: (37, 9) :: (28, 1) :: (34, 10) :: (34, 9) :: (28, 0) :: (31, 10) :: (31, 9) :: (23, 4) :: (23, 3) :: (23, 2) :: (23, 0) :: (24, 8) :: (24, 4) :: (24, 3) :: (0, 3) :: (18, 4) :: (18, 3) :: (18, 2) :: (18, 1) :: (0, 2) :: (13, 2) :: (13, 6) :: (13, 5) :: (13, 4) :: (13, 3) :: (0, 1) :: (5, 7) :: (5, 6) :: (5, 5) :: (5, 4) :: (5, 3) :: (5, 2) :: (5, 1) :: (0, 0) :: [(1, 3), (1, 2), (1, 1)]) (-1) g.2 H48 := by
    rw [q48]
    exact sw46.wr (by decide) (by decide +kernel)
  refine sat_let fun H49 q49 => ?_
  have sH49 : StC 73 ((0, 8) :: (62, 15) :: (62, 14) :: (62, 13) :: (62, 12) :: (62, 11) :: (62, 9) :: (62, 8) :: (62, 7) :: (62, 6) :: (62, 5) :: (62, 4) :: (62, 3) :: (62, 2) :: (62, 1) :: (0, 7) :: (52, 15) :: (52, 14) :: (52, 13) :: (52, 12) :: (52, 11) :: (52, 9) :: (52, 8) :: (52, 7) :: (52, 6) :: (52, 5) :: (52, 4) :: (52, 3) :: (52, 2) :: (52, 1) :: (0, 6) :: (50, 3) :: (50, 2) :: (50, 1) :: (50, 0) :: (0, 5) :: (0, 4) :: (28, 5) :: (46, 10) :: (46, 9) :: (28, 4) :: (43, 10) :: (43, 9) :: (28, 3) :: (40, 10) :: (40, 9) :: (28, 2) :: (37, 10) :: (37, 9) :: (28, 1) :: (34, 10) :: (34, 9) :: (28, 0) :: (31, 10) :: (31, 9) :: (23, 4) :: (23, 3) :: (23, 2) :: (23, 0) :: (24, 8) :: (24, 4) :: (24, 3) :: (0, 3) :: (18, 4) :: (18, 3) :: (18, 2) :: (18, 1) :: (0, 2) :: (13, 2) :: (13, 6) :: (13, 5) :: (13, 4) :: (13, 3) :: (0, 1) :: (5, 7) :: (5, 6) :: (5, 5) :: (5, 4) :: (5, 3) :: (5, 2) :: (5, 1) :: (0, 0) :: [(1, 3), (1, 2), (1, 1)]) (-1) g.2 H49 := by
    rw [q49]
    exact sH48.new (c := 24) (l := 10) 10 rfl rfl (by decide) (by decide) rfl
  rw [sH48.n]
  refine sat_gd (sH49.1.c (b := 0) (c := 11) (l := 0) (by decide) rfl).1 ?_
  refine sat_let fun H51 q51 => ?_
  have sH51 : StC 73 ((0, 9) :: (0, 8) :: (62, 15) :: (62, 14) :: (62, 13) :: (62, 12) :: (62, 11) :: (62, 9) :: (62, 8) :: (62, 7) :: (62, 6) :: (62, 5) :: (62, 4) :: (62, 3) :: (62, 2) :: (62, 1) :: (0, 7) :: (52, 15) :: (52, 14) :: (52, 13) :: (52, 12) :: (52, 11) :: (52, 9) :: (52, 8) :: (52, 7) :: (52, 6) :: (52, 5) :: (52, 4) :: (52, 3) :: (52, 2) :: (52, 1) :: (0, 6) :: (50, 3) :: (50, 2) :: (50, 1) :: (50, 0) :: (0, 5) :: (0, 4) :: (28, 5) :: (46, 10) :: (46, 9) :: (28, 4) :: (43, 10) :: (43, 9) :: (28, 3) :: (40, 10) :: (40, 9) :: (28, 2) :: (37, 10) :: (37, 9) :: (28, 1) :: (34, 10) :: (34, 9) :: (28, 0) :: (31, 10) :: (31, 9) :: (23, 4) :: (23, 3) :: (23, 2) :: (23, 0) :: (24, 8) :: (24, 4) :: (24, 3) :: (0, 3) :: (18, 4) :: (18, 3) :: (18, 2) :: (18, 1) :: (0, 2) :: (13, 2) :: (13, 6) :: (13, 5) :: (13, 4) :: (13, 3) :: (0, 1) :: (5, 7) :: (5, 6) :: (5, 5) :: (5, 4) :: (5, 3) :: (5, 2) :: (5, 1) :: (0, 0) :: [(1, 3), (1, 2), (1, 1)]) (-1) g.2 H51 := by
    rw [q51]
    exact sH49.wr (by decide) (by decide +kernel)
  refine sat_let fun H52 q52 => ?_
  have sH52 : StC 74 ((0, 9) :: (0, 8) :: (62, 15) :: (62, 14) :: (62, 13) :: (62, 12) :: (62, 11) :: (62, 9) :: (62, 8) :: (62, 7) :: (62, 6) :: (62, 5) :: (62, 4) :: (62, 3) :: (62, 2) :: (62, 1) :: (0, 7) :: (52, 15) :: (52, 14) :: (52, 13) :: (52, 12) :: (52, 11) :: (52, 9) :: (52, 8) :: (52, 7) :: (52, 6) :: (52, 5) :: (52, 4) :: (52, 3) :: (52, 2) :: (52, 1) :: (0, 6) :: (50, 3) :: (50, 2) :: (50, 1) :: (50, 0) :: (0, 5) :: (0, 4) :: (28, 5) :: (46, 10) :: (46, 9) :: (28, 4) :: (43, 10) :: (43, 9) :: (28, 3) :: (40, 10) :: (40, 9) :: (28, 2) :: (37, 10) :: (37, 9) :: (28, 1) :: (34, 10) :: (34, 9) :: (28, 0) :: (31, 10) :: (31, 9) :: (23, 4) :: (23, 3) :: (23, 2) :: (23, 0) :: (24, 8) :: (24, 4) :: (24, 3) :: (0, 3) :: (18, 4) :: (18, 3) :: (18, 2) :: (18, 1) :: (0, 2) :: (13, 2) :: (13, 6) :: (13, 5) :: (13, 4) :: (13, 3) :: (0, 1) :: (5, 7) :: (5, 6) :: (5, 5) :: (5, 4) :: (5, 3) :: (5, 2) :: (5, 1) :: (0, 0) :: [(1, 3), (1, 2), (1, 1)]) (-1) g.2 H52 := by
    rw [q52]
    exact sH51.new (c := 20) (l := 20) 20 rfl rfl (by decide) (by decide) rfl
  rw [sH51.n]
  refine sat_gd (sH52.1.c (b := 0) (c := 11) (l := 0) (by decide) rfl).1 ?_
  refine sat_let fun H54 q54 => ?_
  have sH54 : StC 74 ((0, 10) :: (0, 9) :: (0, 8) :: (62, 15) :: (62, 14) :: (62, 13) :: (62, 12) :: (62, 11) :: (62, 9) :: (62, 8) :: (62, 7) :: (62, 6) :: (62, 5) :: (62, 4) :: (62, 3) :: (62, 2) :: (62, 1) :: (0, 7) :: (52, 15) :: (52, 14) :: (52, 13) :: (52, 12) :: (52, 11) :: (52, 9) :: (52, 8) :: (52, 7) :: (52, 6) :: (52, 5) :: (52, 4) :: (52, 3) :: (52, 2) :: (52, 1) :: (0, 6) :: (50, 3) :: (50, 2) :: (50, 1) :: (50, 0) :: (0, 5) :: (0, 4) :: (28, 5) :: (46, 10) :: (46, 9) :: (28, 4) :: (43, 10) :: (43, 9) :: (28, 3) :: (40, 10) :: (40, 9) :: (28, 2) :: (37, 10) :: (37, 9) :: (28, 1) :: (34, 10) :: (34, 9) :: (28, 0) :: (31, 10) :: (31, 9) :: (23, 4) :: (23, 3) :: (23, 2) :: (23, 0) :: (24, 8) :: (24, 4) :: (24, 3) :: (0, 3) :: (18, 4) :: (18, 3) :: (18, 2) :: (18, 1) :: (0, 2) :: (13, 2) :: (13, 6) :: (13, 5) :: (13, 4) :: (13, 3) :: (0, 1) :: (5, 7) :: (5, 6) :: (5, 5) :: (5, 4) :: (5, 3) :: (5, 2) :: (5, 1) :: (0, 0) :: [(1, 3), (1, 2), (1, 1)]) (-1) g.2 H54 := by
    rw [q54]
    exact sH52.wr (by decide) (by decide +kernel)
  refine sat_let fun H55 q55 => ?_
  have sH55 : StC 75 ((0, 10) :: (0, 9) :: (0, 8) :: (62, 15) :: (62, 14) :: (62, 13) :: (62, 12) :: (62, 11) :: (62, 9) :: (62, 8) :: (62, 7) :: (62, 6) :: (62, 5) :: (62, 4) :: (62, 3) :: (62, 2) :: (62, 1) :: (0, 7) :: (52, 15) :: (52, 14) :: (52, 13) :: (52, 12) :: (52, 11) :: (52, 9) :: (52, 8) :: (52, 7) :: (52, 6) :: (52, 5) :: (52, 4) :: (52, 3) :: (52, 2) :: (52, 1) :: (0, 6) :: (50, 3) :: (50, 2) :: (50, 1) :: (50, 0) :: (0, 5) :: (0, 4) :: (28, 5) :: (46, 10) :: (46, 9) :: (28, 4) :: (43, 10) :: (43, 9) :: (28, 3) :: (40, 10) :: (40, 9) :: (28, 2) :: (37, 10) :: (37, 9) :: (28, 1) :: (34, 10) :: (34, 9) :: (28, 0) :: (31, 10) :: (31, 9) :: (23, 4) :: (23, 3) :: (23, 2) :: (23, 0) :: (24, 8) :: (24, 4) :: (24, 3) :: (0, 3) :: (18, 4) :: (18, 3) :: (18, 2) :: (18, 1) :: (0, 2) :: (13, 2) :: (13, 6) :: (13, 5) :: (13, 4) :: (13, 3) :: (0, 1) :: (5, 7) :: (5, 6) :: (5, 5) :: (5, 4) :: (5, 3) :: (5, 2) :: (5, 1) :: (0, 0) :: [(1, 3), (1, 2), (1, 1)]) (-1) g.2 H55 := by
    rw [q55]
    exact sH54.new (c := 20) (l := 20) 20 rfl rfl (by decide) (by decide) rfl
  rw [sH54.n]
  refine sat_gd (sH55.1.c (b := 0) (c := 11) (l := 0) (by decide) rfl).1 ?_
  refine sat_let fun H57 q57 => ?_
  have sH57 : StC 75 ((0, 11) :: (0, 10) :: (0, 9) :: (0, 8) :: (62, 15) :: (62, 14) :: (62, 13) :: (62, 12) :: (62, 11) :: (62, 9) :: (62, 8) :: (62, 7) :: (62, 6) :: (62, 5) :: (62, 4) :: (62, 3) :: (62, 2) :: (62, 1) :: (0, 7) :: (52, 15) :: (52, 14) :: (52, 13) :: (52, 12) :: (52, 11) :: (52, 9) :: (52, 8) :: (52, 7) :: (52, 6) :: (52, 5) :: (52, 4) :: (52, 3) :: (52, 2) :: (52, 1) :: (0, 6) :: (50, 3) :: (50, 2) :: (50, 1) :: (50, 0) :: (0, 5) :: (0, 4) :: (28, 5) :: (46, 10) :: (46, 9) :: (28, 4) :: (43, 10) :: (43, 9) :: (28, 3) :: (40, 10) :: (40, 9) :: (28, 2) :: (37, 10) :: (37, 9) :: (28, 1) :: (34, 10) :: (34, 9) :: (28, 0) :: (31, 10) :: (31, 9) :: (23, 4) :: (23, 3) :: (23, 2) :: (23, 0) :: (24, 8) :: (24, 4) :: (24, 3) :: (0, 3) :: (18, 4) :: (18, 3) :: (18, 2) :: (18, 1) :: (0, 2) :: (13, 2) :: (13, 6) :: (13, 5) :: (13, 4) :: (13, 3) :: (0, 1) :: (5, 7) :: (5, 6) :: (5, 5) :: (5, 4) :: (5, 3) :: (5, 2) :: (5, 1) :: (0, 0) :: [(1, 3), (1, 2), (1, 1)]) (-1) g.2 H57 := by
    rw [q57]
    exact sH55.wr (by decide) (by decide +kernel)
  refine sat_let fun H58 q58 => ?_
  have sH58 : StC 76 ((0, 11) :: (0, 10) :: (0, 9) :: (0, 8) :: (62, 15) :: (62, 14) :: (62, 13) :: (62, 12) :: (62, 11) :: (62, 9) :: (62, 8) :: (62, 7) :: (62, 6) :: (62, 5) :: (62, 4) :: (62, 3) :: (62, 2) :: (62, 1) :: (0, 7) :: (52, 15) :: (52, 14) :: (52, 13) :: (52, 12) :: (52, 11) :: (52, 9) :: (52, 8) :: (52, 7) :: (52, 6) :: (52, 5) :: (52, 4) :: (52, 3) :: (52, 2) :: (52, 1) :: (0, 6) :: (50, 3) :: (50, 2) :: (50, 1) :: (50, 0) :: (0, 5) :: (0, 4) :: (28, 5) :: (46, 10) :: (46, 9) :: (28, 4) :: (43, 10) :: (43, 9) :: (28, 3) :: (40, 10) :: (40, 9) :: (28, 2) :: (37, 10) :: (37, 9) :: (28, 1) :: (34, 10) :: (34, 9) :: (28, 0) :: (31, 10) :: (31, 9) :: (23, 4) :: (23, 3) :: (23, 2) :: (23, 0) :: (24, 8) :: (24, 4) :: (24, 3) :: (0, 3) :: (18, 4) :: (18, 3) :: (18, 2) :: (18, 1) :: (0, 2) :: (13, 2) :: (13, 6) :: (13, 5) :: (13, 4) :: (13, 3) :: (0, 1) :: (5, 7) :: (5, 6) :: (5, 5) :: (5, 4) :: (5, 3) :: (5, 2) :: (5, 1) :: (0, 0) :: [(1, 3), (1, 2), (1, 1)]) (-1) g.2 H58 := by
    rw [q58]
    exact sH57.new (c := 20) (l := 120) 120 rfl rfl (by decide) (by decide) rfl
  rw [sH57.n]
  refine sat_gd (sH58.1.c (b := 0) (c := 11) (l := 0) (by decide) rfl).1 ?_
  refine sat_let fun H60 q60 => ?_
  have sH60 : StC 76 ((0, 12) :: (0, 11) :: (0, 10) :: (0, 9) :: (0, 8) :: (62, 15) :: (62, 14) :: (62, 13) :: (62, 12) :: (62, 11) :: (62, 9) :: (62, 8) :: (62, 7) :: (62, 6) :: (62, 5) :: (62, 4) :: (62, 3) :: (62, 2) :: (62, 1) :: (0, 7) :: (52, 15) :: (52, 14) :: (52, 13) :: (52, 12) :: (52, 11) :: (52, 9) :: (52, 8) :: (52, 7) :: (52, 6) :: (52, 5) :: (52, 4) :: (52, 3) :: (52, 2) :: (52, 1) :: (0, 6) :: (50, 3) :: (50, 2) :: (50, 1) :: (50, 0) :: (0, 5) :: (0, 4) :: (28, 5) :: (46, 10) :: (46, 9) :: (28, 4) :: (43, 10) :: (43, 9) :: (28, 3) :: (40, 10) :: (40, 9) :: (28, 2) :: (37, 10) :: (37, 9) :: (28, 1) :: (34, 10) :: (34, 9) :: (28, 0) :: (31, 10) :: (31, 9) :: (23, 4) :: (23, 3) :: (23, 2) :: (23, 0) :: (24, 8) :: (24, 4) :: (24, 3) :: (0, 3) :: (18, 4) :: (18, 3) :: (18, 2) :: (18, 1) :: (0, 2) :: (13, 2) :: (13, 6) :: (13, 5) :: (13, 4) :: (13, 3) :: (0, 1) :: (5, 7) :: (5, 6) :: (5, 5) :: (5, 4) :: (5, 3) :: (5, 2) :: (5, 1) :: (0, 0) :: [(1, 3), (1, 2), (1, 1)]) (-1) g.2 H60 := by
    rw [q60]
    exact sH58.wr (by decide) (by decide +kernel)
  exact k g.2 _ rd z2 sH60
end CI
