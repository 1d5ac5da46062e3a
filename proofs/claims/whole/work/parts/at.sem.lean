/-! the reference's constructor -/
def StM (K : Nat) (D : List (Nat × Nat)) (v : Int) (h0 h : ea_H) : Prop := Pre K D h ∧ (∀ a k, a < 327 → (a ≠ 326 ∨ k ≠ 62) → hI h a k = hI h0 a k) ∧ (∀ a k, 327 ≤ a → a < K → hI h a k = 0) ∧ (∀ a k, a < 327 → hJ h a k = hJ h0 a k) ∧ hI h 326 62 = v
section MIN
variable {K K' c l z f : Nat} {D : List (Nat × Nat)} {v : Int} {h0 h : ea_H}
theorem StM.one (s : StM K D v h0 h) (e : clA K = (c, l)) (ez : obz c l = z) (hK : 327 ≤ K) (eK : K' = K + 1) (w : (RFa.all fun q => !(decide (q.1 = 326) && decide (q.2.1 = f)) || decide (q.2.2 = some K)) = true) : (326 < ea_n (ea_new h c l z) ∧ ea_c (ea_new h c l z) 326 = 12) ∧ StM K' ((326, f) :: D) v h0 (ea_wr (ea_new h c l z) 326 f (some (ea_n h))) := by
  obtain ⟨p, s1, s2, s3, s4⟩ := s
  have en := p.1
  have p1 := p.new z e ez
  subst eK
  refine ⟨(p1.c (b := 326) (c := 12) (l := 0) (by omega) rfl).1, ?_, fun a k ha hk => ?_, fun a k ha hk => ?_, fun a k ha => ?_, ?_⟩
  · rw [en]
    exact p1.wr (by omega) w
  · rw [wr_I, new_I, if_neg (by omega)]
    exact s1 a k ha hk
  · rw [wr_I, new_I]
    by_cases y : a = ea_n h
    · rw [if_pos y]
    · rw [if_neg y]
      exact s2 a k ha (by omega)
  · rw [wr_J, new_J, if_neg (by omega)]
    exact s3 a k ha
  · rw [wr_I, new_I, if_neg (by omega)]
    exact s4
theorem StM.w62 {x : Int32} (s : StM K D v h0 h) : StM K D x.toInt h0 (ea_wi h 326 62 x) := by
  obtain ⟨p, s1, s2, s3, s4⟩ := s
  refine ⟨p, fun a k ha hk => ?_, fun a k ha hk => ?_, fun a k ha => ?_, hI_at⟩
  · rw [hI_wi, if_neg (by omega)]
    exact s1 a k ha hk
  · rw [hI_wi, if_neg (by omega)]
    exact s2 a k ha hk
  · rw [hJ_wi]
    exact s3 a k ha
theorem mi_0 {P : Unit × ea_H → Prop} (s : StM 327 (D) (0) h0 h) (k : ∀ h, StM 332 ((326, 7) :: (326, 6) :: (326, 5) :: (326, 4) :: (326, 3) :: D) (0) h0 h → sat (qX12_init_45 326 h) P) : sat (qX12_init_0 326 h) P := by
  refine uqX12_init_0 ?_
  unfold BX12_init_0
  obtain ⟨g1, s3⟩ := s.one (K' := 328) (c := 20) (l := 144) (z := 144) (f := 3) rfl rfl (by decide) rfl (by decide +kernel)
  refine sat_let fun H1 q1 => ?_
  subst q1
  refine sat_gd g1 (sat_let fun H3 q3 => ?_)
  subst q3
  obtain ⟨g4, s6⟩ := s3.one (K' := 329) (c := 20) (l := 10) (z := 10) (f := 4) rfl rfl (by decide) rfl (by decide +kernel)
  refine sat_let fun H4 q4 => ?_
  subst q4
  refine sat_gd g4 (sat_let fun H6 q6 => ?_)
  subst q6
  obtain ⟨g7, s9⟩ := s6.one (K' := 330) (c := 20) (l := 80) (z := 80) (f := 5) rfl rfl (by decide) rfl (by decide +kernel)
  refine sat_let fun H7 q7 => ?_
  subst q7
  refine sat_gd g7 (sat_let fun H9 q9 => ?_)
  subst q9
  obtain ⟨g10, s12⟩ := s9.one (K' := 331) (c := 20) (l := 80) (z := 80) (f := 6) rfl rfl (by decide) rfl (by decide +kernel)
  refine sat_let fun H10 q10 => ?_
  subst q10
  refine sat_gd g10 (sat_let fun H12 q12 => ?_)
  subst q12
  obtain ⟨g13, s15⟩ := s12.one (K' := 332) (c := 20) (l := 80) (z := 80) (f := 7) rfl rfl (by decide) rfl (by decide +kernel)
  refine sat_let fun H13 q13 => ?_
  subst q13
  refine sat_gd g13 (sat_let fun H15 q15 => ?_)
  subst q15
  exact k _ s15
theorem mi_45 {P : Unit × ea_H → Prop} (s : StM 332 ((326, 7) :: (326, 6) :: (326, 5) :: (326, 4) :: (326, 3) :: D) (0) h0 h) (k : ∀ h, StM 338 ((326, 15) :: (326, 14) :: (326, 11) :: (326, 10) :: (326, 9) :: (326, 8) :: (326, 7) :: (326, 6) :: (326, 5) :: (326, 4) :: (326, 3) :: D) (0) h0 h → sat (qX12_init_96 326 h) P) : sat (qX12_init_45 326 h) P := by
  refine uqX12_init_45 ?_
  unfold BX12_init_45
  obtain ⟨g16, s18⟩ := s.one (K' := 333) (c := 20) (l := 70) (z := 70) (f := 8) rfl rfl (by decide) rfl (by decide +kernel)
  refine sat_let fun H16 q16 => ?_
  subst q16
  refine sat_gd g16 (sat_let fun H18 q18 => ?_)
  subst q18
  obtain ⟨g19, s21⟩ := s18.one (K' := 334) (c := 21) (l := 80) (z := 80) (f := 9) rfl rfl (by decide) rfl (by decide +kernel)
  refine sat_let fun H19 q19 => ?_
  subst q19
  refine sat_gd g19 (sat_let fun H21 q21 => ?_)
  subst q21
  obtain ⟨g22, s24⟩ := s21.one (K' := 335) (c := 21) (l := 560) (z := 560) (f := 10) rfl rfl (by decide) rfl (by decide +kernel)
  refine sat_let fun H22 q22 => ?_
  subst q22
  refine sat_gd g22 (sat_let fun H24 q24 => ?_)
  subst q24
  obtain ⟨g25, s27⟩ := s24.one (K' := 336) (c := 20) (l := 12) (z := 12) (f := 11) rfl rfl (by decide) rfl (by decide +kernel)
  refine sat_let fun H25 q25 => ?_
  subst q25
  refine sat_gd g25 (sat_let fun H27 q27 => ?_)
  subst q27
  obtain ⟨g28, s30⟩ := s27.one (K' := 337) (c := 20) (l := 1000) (z := 1000) (f := 14) rfl rfl (by decide) rfl (by decide +kernel)
  refine sat_let fun H28 q28 => ?_
  subst q28
  refine sat_gd g28 (sat_let fun H30 q30 => ?_)
  subst q30
  obtain ⟨g31, s33⟩ := s30.one (K' := 338) (c := 20) (l := 1000) (z := 1000) (f := 15) rfl rfl (by decide) rfl (by decide +kernel)
  refine sat_let fun H31 q31 => ?_
  subst q31
  refine sat_gd g31 (sat_let fun H33 q33 => ?_)
  subst q33
  exact k _ s33
theorem mi_96 {P : Unit × ea_H → Prop} (s : StM 338 ((326, 15) :: (326, 14) :: (326, 11) :: (326, 10) :: (326, 9) :: (326, 8) :: (326, 7) :: (326, 6) :: (326, 5) :: (326, 4) :: (326, 3) :: D) (0) h0 h) (k : ∀ h, StM 344 ((326, 21) :: (326, 20) :: (326, 19) :: (326, 18) :: (326, 17) :: (326, 16) :: (326, 15) :: (326, 14) :: (326, 11) :: (326, 10) :: (326, 9) :: (326, 8) :: (326, 7) :: (326, 6) :: (326, 5) :: (326, 4) :: (326, 3) :: D) (0) h0 h → sat (qX12_init_149 326 h) P) : sat (qX12_init_96 326 h) P := by
  refine uqX12_init_96 ?_
  unfold BX12_init_96
  obtain ⟨g34, s36⟩ := s.one (K' := 339) (c := 20) (l := 1000) (z := 1000) (f := 16) rfl rfl (by decide) rfl (by decide +kernel)
  refine sat_let fun H34 q34 => ?_
  subst q34
  refine sat_gd g34 (sat_let fun H36 q36 => ?_)
  subst q36
  obtain ⟨g37, s39⟩ := s36.one (K' := 340) (c := 20) (l := 1000) (z := 1000) (f := 17) rfl rfl (by decide) rfl (by decide +kernel)
  refine sat_let fun H37 q37 => ?_
  subst q37
  refine sat_gd g37 (sat_let fun H39 q39 => ?_)
  subst q39
  obtain ⟨g40, s42⟩ := s39.one (K' := 341) (c := 20) (l := 70) (z := 70) (f := 18) rfl rfl (by decide) rfl (by decide +kernel)
  refine sat_let fun H40 q40 => ?_
  subst q40
  refine sat_gd g40 (sat_let fun H42 q42 => ?_)
  subst q42
  obtain ⟨g43, s45⟩ := s42.one (K' := 342) (c := 20) (l := 12000) (z := 12000) (f := 19) rfl rfl (by decide) rfl (by decide +kernel)
  refine sat_let fun H43 q43 => ?_
  subst q43
  refine sat_gd g43 (sat_let fun H45 q45 => ?_)
  subst q45
  obtain ⟨g46, s48⟩ := s45.one (K' := 343) (c := 20) (l := 12000) (z := 12000) (f := 20) rfl rfl (by decide) rfl (by decide +kernel)
  refine sat_let fun H46 q46 => ?_
  subst q46
  refine sat_gd g46 (sat_let fun H48 q48 => ?_)
  subst q48
  obtain ⟨g49, s51⟩ := s48.one (K' := 344) (c := 20) (l := 12000) (z := 12000) (f := 21) rfl rfl (by decide) rfl (by decide +kernel)
  refine sat_let fun H49 q49 => ?_
  subst q49
  refine sat_gd g49 (sat_let fun H51 q51 => ?_)
  subst q51
  exact k _ s51
theorem mi_149 {P : Unit × ea_H → Prop} (s : StM 344 ((326, 21) :: (326, 20) :: (326, 19) :: (326, 18) :: (326, 17) :: (326, 16) :: (326, 15) :: (326, 14) :: (326, 11) :: (326, 10) :: (326, 9) :: (326, 8) :: (326, 7) :: (326, 6) :: (326, 5) :: (326, 4) :: (326, 3) :: D) (0) h0 h) (k : ∀ h, StM 350 ((326, 28) :: (326, 27) :: (326, 26) :: (326, 24) :: (326, 23) :: (326, 22) :: (326, 21) :: (326, 20) :: (326, 19) :: (326, 18) :: (326, 17) :: (326, 16) :: (326, 15) :: (326, 14) :: (326, 11) :: (326, 10) :: (326, 9) :: (326, 8) :: (326, 7) :: (326, 6) :: (326, 5) :: (326, 4) :: (326, 3) :: D) (0) h0 h → sat (qX12_init_199 326 h) P) : sat (qX12_init_149 326 h) P := by
  refine uqX12_init_149 ?_
  unfold BX12_init_149
  obtain ⟨g52, s54⟩ := s.one (K' := 345) (c := 20) (l := 12000) (z := 12000) (f := 22) rfl rfl (by decide) rfl (by decide +kernel)
  refine sat_let fun H52 q52 => ?_
  subst q52
  refine sat_gd g52 (sat_let fun H54 q54 => ?_)
  subst q54
  obtain ⟨g55, s57⟩ := s54.one (K' := 346) (c := 20) (l := 1000) (z := 1000) (f := 23) rfl rfl (by decide) rfl (by decide +kernel)
  refine sat_let fun H55 q55 => ?_
  subst q55
  refine sat_gd g55 (sat_let fun H57 q57 => ?_)
  subst q57
  obtain ⟨g58, s60⟩ := s57.one (K' := 347) (c := 20) (l := 12) (z := 12) (f := 24) rfl rfl (by decide) rfl (by decide +kernel)
  refine sat_let fun H58 q58 => ?_
  subst q58
  refine sat_gd g58 (sat_let fun H60 q60 => ?_)
  subst q60
  obtain ⟨g61, s63⟩ := s60.one (K' := 348) (c := 20) (l := 6) (z := 6) (f := 26) rfl rfl (by decide) rfl (by decide +kernel)
  refine sat_let fun H61 q61 => ?_
  subst q61
  refine sat_gd g61 (sat_let fun H63 q63 => ?_)
  subst q63
  obtain ⟨g64, s66⟩ := s63.one (K' := 349) (c := 20) (l := 6) (z := 6) (f := 27) rfl rfl (by decide) rfl (by decide +kernel)
  refine sat_let fun H64 q64 => ?_
  subst q64
  refine sat_gd g64 (sat_let fun H66 q66 => ?_)
  subst q66
  obtain ⟨g67, s69⟩ := s66.one (K' := 350) (c := 20) (l := 6) (z := 6) (f := 28) rfl rfl (by decide) rfl (by decide +kernel)
  refine sat_let fun H67 q67 => ?_
  subst q67
  refine sat_gd g67 (sat_let fun H69 q69 => ?_)
  subst q69
  exact k _ s69
theorem mi_199 {P : Unit × ea_H → Prop} (s : StM 350 ((326, 28) :: (326, 27) :: (326, 26) :: (326, 24) :: (326, 23) :: (326, 22) :: (326, 21) :: (326, 20) :: (326, 19) :: (326, 18) :: (326, 17) :: (326, 16) :: (326, 15) :: (326, 14) :: (326, 11) :: (326, 10) :: (326, 9) :: (326, 8) :: (326, 7) :: (326, 6) :: (326, 5) :: (326, 4) :: (326, 3) :: D) (0) h0 h) (k : ∀ h, StM 356 ((326, 34) :: (326, 33) :: (326, 32) :: (326, 31) :: (326, 30) :: (326, 29) :: (326, 28) :: (326, 27) :: (326, 26) :: (326, 24) :: (326, 23) :: (326, 22) :: (326, 21) :: (326, 20) :: (326, 19) :: (326, 18) :: (326, 17) :: (326, 16) :: (326, 15) :: (326, 14) :: (326, 11) :: (326, 10) :: (326, 9) :: (326, 8) :: (326, 7) :: (326, 6) :: (326, 5) :: (326, 4) :: (326, 3) :: D) (0) h0 h → sat (qX12_init_247 326 h) P) : sat (qX12_init_199 326 h) P := by
  refine uqX12_init_199 ?_
  unfold BX12_init_199
  obtain ⟨g70, s72⟩ := s.one (K' := 351) (c := 20) (l := 6) (z := 6) (f := 29) rfl rfl (by decide) rfl (by decide +kernel)
  refine sat_let fun H70 q70 => ?_
  subst q70
  refine sat_gd g70 (sat_let fun H72 q72 => ?_)
  subst q72
  obtain ⟨g73, s75⟩ := s72.one (K' := 352) (c := 20) (l := 6) (z := 6) (f := 30) rfl rfl (by decide) rfl (by decide +kernel)
  refine sat_let fun H73 q73 => ?_
  subst q73
  refine sat_gd g73 (sat_let fun H75 q75 => ?_)
  subst q75
  obtain ⟨g76, s78⟩ := s75.one (K' := 353) (c := 20) (l := 6) (z := 6) (f := 31) rfl rfl (by decide) rfl (by decide +kernel)
  refine sat_let fun H76 q76 => ?_
  subst q76
  refine sat_gd g76 (sat_let fun H78 q78 => ?_)
  subst q78
  obtain ⟨g79, s81⟩ := s78.one (K' := 354) (c := 20) (l := 6) (z := 6) (f := 32) rfl rfl (by decide) rfl (by decide +kernel)
  refine sat_let fun H79 q79 => ?_
  subst q79
  refine sat_gd g79 (sat_let fun H81 q81 => ?_)
  subst q81
  obtain ⟨g82, s84⟩ := s81.one (K' := 355) (c := 20) (l := 6) (z := 6) (f := 33) rfl rfl (by decide) rfl (by decide +kernel)
  refine sat_let fun H82 q82 => ?_
  subst q82
  refine sat_gd g82 (sat_let fun H84 q84 => ?_)
  subst q84
  obtain ⟨g85, s87⟩ := s84.one (K' := 356) (c := 20) (l := 6) (z := 6) (f := 34) rfl rfl (by decide) rfl (by decide +kernel)
  refine sat_let fun H85 q85 => ?_
  subst q85
  refine sat_gd g85 (sat_let fun H87 q87 => ?_)
  subst q87
  exact k _ s87
theorem mi_247 {P : Unit × ea_H → Prop} (s : StM 356 ((326, 34) :: (326, 33) :: (326, 32) :: (326, 31) :: (326, 30) :: (326, 29) :: (326, 28) :: (326, 27) :: (326, 26) :: (326, 24) :: (326, 23) :: (326, 22) :: (326, 21) :: (326, 20) :: (326, 19) :: (326, 18) :: (326, 17) :: (326, 16) :: (326, 15) :: (326, 14) :: (326, 11) :: (326, 10) :: (326, 9) :: (326, 8) :: (326, 7) :: (326, 6) :: (326, 5) :: (326, 4) :: (326, 3) :: D) (0) h0 h) (k : ∀ h, StM 362 ((326, 40) :: (326, 39) :: (326, 38) :: (326, 37) :: (326, 36) :: (326, 35) :: (326, 34) :: (326, 33) :: (326, 32) :: (326, 31) :: (326, 30) :: (326, 29) :: (326, 28) :: (326, 27) :: (326, 26) :: (326, 24) :: (326, 23) :: (326, 22) :: (326, 21) :: (326, 20) :: (326, 19) :: (326, 18) :: (326, 17) :: (326, 16) :: (326, 15) :: (326, 14) :: (326, 11) :: (326, 10) :: (326, 9) :: (326, 8) :: (326, 7) :: (326, 6) :: (326, 5) :: (326, 4) :: (326, 3) :: D) (0) h0 h → sat (qX12_init_299 326 h) P) : sat (qX12_init_247 326 h) P := by
  refine uqX12_init_247 ?_
  unfold BX12_init_247
  obtain ⟨g88, s90⟩ := s.one (K' := 357) (c := 20) (l := 150) (z := 150) (f := 35) rfl rfl (by decide) rfl (by decide +kernel)
  refine sat_let fun H88 q88 => ?_
  subst q88
  refine sat_gd g88 (sat_let fun H90 q90 => ?_)
  subst q90
  obtain ⟨g91, s93⟩ := s90.one (K' := 358) (c := 20) (l := 144) (z := 144) (f := 36) rfl rfl (by decide) rfl (by decide +kernel)
  refine sat_let fun H91 q91 => ?_
  subst q91
  refine sat_gd g91 (sat_let fun H93 q93 => ?_)
  subst q93
  obtain ⟨g94, s96⟩ := s93.one (K' := 359) (c := 20) (l := 7320) (z := 7320) (f := 37) rfl rfl (by decide) rfl (by decide +kernel)
  refine sat_let fun H94 q94 => ?_
  subst q94
  refine sat_gd g94 (sat_let fun H96 q96 => ?_)
  subst q96
  obtain ⟨g97, s99⟩ := s96.one (K' := 360) (c := 20) (l := 25) (z := 25) (f := 38) rfl rfl (by decide) rfl (by decide +kernel)
  refine sat_let fun H97 q97 => ?_
  subst q97
  refine sat_gd g97 (sat_let fun H99 q99 => ?_)
  subst q99
  obtain ⟨g100, s102⟩ := s99.one (K' := 361) (c := 20) (l := 24) (z := 24) (f := 39) rfl rfl (by decide) rfl (by decide +kernel)
  refine sat_let fun H100 q100 => ?_
  subst q100
  refine sat_gd g100 (sat_let fun H102 q102 => ?_)
  subst q102
  obtain ⟨g103, s105⟩ := s102.one (K' := 362) (c := 20) (l := 1220) (z := 1220) (f := 40) rfl rfl (by decide) rfl (by decide +kernel)
  refine sat_let fun H103 q103 => ?_
  subst q103
  refine sat_gd g103 (sat_let fun H105 q105 => ?_)
  subst q105
  exact k _ s105
theorem mi_299 {P : Unit × ea_H → Prop} (s : StM 362 ((326, 40) :: (326, 39) :: (326, 38) :: (326, 37) :: (326, 36) :: (326, 35) :: (326, 34) :: (326, 33) :: (326, 32) :: (326, 31) :: (326, 30) :: (326, 29) :: (326, 28) :: (326, 27) :: (326, 26) :: (326, 24) :: (326, 23) :: (326, 22) :: (326, 21) :: (326, 20) :: (326, 19) :: (326, 18) :: (326, 17) :: (326, 16) :: (326, 15) :: (326, 14) :: (326, 11) :: (326, 10) :: (326, 9) :: (326, 8) :: (326, 7) :: (326, 6) :: (326, 5) :: (326, 4) :: (326, 3) :: D) (0) h0 h) (k : ∀ h, StM 367 ((326, 66) :: (326, 65) :: (326, 64) :: (326, 42) :: (326, 41) :: (326, 40) :: (326, 39) :: (326, 38) :: (326, 37) :: (326, 36) :: (326, 35) :: (326, 34) :: (326, 33) :: (326, 32) :: (326, 31) :: (326, 30) :: (326, 29) :: (326, 28) :: (326, 27) :: (326, 26) :: (326, 24) :: (326, 23) :: (326, 22) :: (326, 21) :: (326, 20) :: (326, 19) :: (326, 18) :: (326, 17) :: (326, 16) :: (326, 15) :: (326, 14) :: (326, 11) :: (326, 10) :: (326, 9) :: (326, 8) :: (326, 7) :: (326, 6) :: (326, 5) :: (326, 4) :: (326, 3) :: D) (-1) h0 h → sat (qX12_init_346 326 h) P) : sat (qX12_init_299 326 h) P := by
  refine uqX12_init_299 ?_
  unfold BX12_init_299
  obtain ⟨g106, s108⟩ := s.one (K' := 363) (c := 20) (l := 600) (z := 600) (f := 41) rfl rfl (by decide) rfl (by decide +kernel)
  refine sat_let fun H106 q106 => ?_
  subst q106
  refine sat_gd g106 (sat_let fun H108 q108 => ?_)
  subst q108
  obtain ⟨g109, s111⟩ := s108.one (K' := 364) (c := 20) (l := 620) (z := 620) (f := 42) rfl rfl (by decide) rfl (by decide +kernel)
  refine sat_let fun H109 q109 => ?_
  subst q109
  refine sat_gd g109 (sat_let fun H111 q111 => ?_)
  subst q111
  refine sat_gd ((s111.1.c (b := 326) (c := 12) (l := 0) (by decide) rfl).1) (sat_let fun H113 q113 => ?_)
  subst q113
  have s113 := s111.w62 (x := -1)
  obtain ⟨g114, s116⟩ := s113.one (K' := 365) (c := 20) (l := 120) (z := 120) (f := 64) rfl rfl (by decide) rfl (by decide +kernel)
  refine sat_let fun H114 q114 => ?_
  subst q114
  refine sat_gd g114 (sat_let fun H116 q116 => ?_)
  subst q116
  obtain ⟨g117, s119⟩ := s116.one (K' := 366) (c := 20) (l := 120) (z := 120) (f := 65) rfl rfl (by decide) rfl (by decide +kernel)
  refine sat_let fun H117 q117 => ?_
  subst q117
  refine sat_gd g117 (sat_let fun H119 q119 => ?_)
  subst q119
  obtain ⟨g120, s122⟩ := s119.one (K' := 367) (c := 20) (l := 120) (z := 120) (f := 66) rfl rfl (by decide) rfl (by decide +kernel)
  refine sat_let fun H120 q120 => ?_
  subst q120
  refine sat_gd g120 (sat_let fun H122 q122 => ?_)
  subst q122
  exact k _ s122
theorem mi_346 {P : Unit × ea_H → Prop} (s : StM 367 ((326, 66) :: (326, 65) :: (326, 64) :: (326, 42) :: (326, 41) :: (326, 40) :: (326, 39) :: (326, 38) :: (326, 37) :: (326, 36) :: (326, 35) :: (326, 34) :: (326, 33) :: (326, 32) :: (326, 31) :: (326, 30) :: (326, 29) :: (326, 28) :: (326, 27) :: (326, 26) :: (326, 24) :: (326, 23) :: (326, 22) :: (326, 21) :: (326, 20) :: (326, 19) :: (326, 18) :: (326, 17) :: (326, 16) :: (326, 15) :: (326, 14) :: (326, 11) :: (326, 10) :: (326, 9) :: (326, 8) :: (326, 7) :: (326, 6) :: (326, 5) :: (326, 4) :: (326, 3) :: D) (-1) h0 h) (k : ∀ h, StM 373 ((326, 72) :: (326, 71) :: (326, 70) :: (326, 69) :: (326, 68) :: (326, 67) :: (326, 66) :: (326, 65) :: (326, 64) :: (326, 42) :: (326, 41) :: (326, 40) :: (326, 39) :: (326, 38) :: (326, 37) :: (326, 36) :: (326, 35) :: (326, 34) :: (326, 33) :: (326, 32) :: (326, 31) :: (326, 30) :: (326, 29) :: (326, 28) :: (326, 27) :: (326, 26) :: (326, 24) :: (326, 23) :: (326, 22) :: (326, 21) :: (326, 20) :: (326, 19) :: (326, 18) :: (326, 17) :: (326, 16) :: (326, 15) :: (326, 14) :: (326, 11) :: (326, 10) :: (326, 9) :: (326, 8) :: (326, 7) :: (326, 6) :: (326, 5) :: (326, 4) :: (326, 3) :: D) (-1) h0 h → sat (qX12_init_394 326 h) P) : sat (qX12_init_346 326 h) P := by
  refine uqX12_init_346 ?_
  unfold BX12_init_346
  obtain ⟨g123, s125⟩ := s.one (K' := 368) (c := 20) (l := 120) (z := 120) (f := 67) rfl rfl (by decide) rfl (by decide +kernel)
  refine sat_let fun H123 q123 => ?_
  subst q123
  refine sat_gd g123 (sat_let fun H125 q125 => ?_)
  subst q125
  obtain ⟨g126, s128⟩ := s125.one (K' := 369) (c := 20) (l := 120) (z := 120) (f := 68) rfl rfl (by decide) rfl (by decide +kernel)
  refine sat_let fun H126 q126 => ?_
  subst q126
  refine sat_gd g126 (sat_let fun H128 q128 => ?_)
  subst q128
  obtain ⟨g129, s131⟩ := s128.one (K' := 370) (c := 20) (l := 120) (z := 120) (f := 69) rfl rfl (by decide) rfl (by decide +kernel)
  refine sat_let fun H129 q129 => ?_
  subst q129
  refine sat_gd g129 (sat_let fun H131 q131 => ?_)
  subst q131
  obtain ⟨g132, s134⟩ := s131.one (K' := 371) (c := 20) (l := 120) (z := 120) (f := 70) rfl rfl (by decide) rfl (by decide +kernel)
  refine sat_let fun H132 q132 => ?_
  subst q132
  refine sat_gd g132 (sat_let fun H134 q134 => ?_)
  subst q134
  obtain ⟨g135, s137⟩ := s134.one (K' := 372) (c := 20) (l := 120) (z := 120) (f := 71) rfl rfl (by decide) rfl (by decide +kernel)
  refine sat_let fun H135 q135 => ?_
  subst q135
  refine sat_gd g135 (sat_let fun H137 q137 => ?_)
  subst q137
  obtain ⟨g138, s140⟩ := s137.one (K' := 373) (c := 20) (l := 120) (z := 120) (f := 72) rfl rfl (by decide) rfl (by decide +kernel)
  refine sat_let fun H138 q138 => ?_
  subst q138
  refine sat_gd g138 (sat_let fun H140 q140 => ?_)
  subst q140
  exact k _ s140
theorem mi_394 {P : Unit × ea_H → Prop} (s : StM 373 ((326, 72) :: (326, 71) :: (326, 70) :: (326, 69) :: (326, 68) :: (326, 67) :: (326, 66) :: (326, 65) :: (326, 64) :: (326, 42) :: (326, 41) :: (326, 40) :: (326, 39) :: (326, 38) :: (326, 37) :: (326, 36) :: (326, 35) :: (326, 34) :: (326, 33) :: (326, 32) :: (326, 31) :: (326, 30) :: (326, 29) :: (326, 28) :: (326, 27) :: (326, 26) :: (326, 24) :: (326, 23) :: (326, 22) :: (326, 21) :: (326, 20) :: (326, 19) :: (326, 18) :: (326, 17) :: (326, 16) :: (326, 15) :: (326, 14) :: (326, 11) :: (326, 10) :: (326, 9) :: (326, 8) :: (326, 7) :: (326, 6) :: (326, 5) :: (326, 4) :: (326, 3) :: D) (-1) h0 h) (k : ∀ h, StM 379 ((326, 78) :: (326, 77) :: (326, 76) :: (326, 75) :: (326, 74) :: (326, 73) :: (326, 72) :: (326, 71) :: (326, 70) :: (326, 69) :: (326, 68) :: (326, 67) :: (326, 66) :: (326, 65) :: (326, 64) :: (326, 42) :: (326, 41) :: (326, 40) :: (326, 39) :: (326, 38) :: (326, 37) :: (326, 36) :: (326, 35) :: (326, 34) :: (326, 33) :: (326, 32) :: (326, 31) :: (326, 30) :: (326, 29) :: (326, 28) :: (326, 27) :: (326, 26) :: (326, 24) :: (326, 23) :: (326, 22) :: (326, 21) :: (326, 20) :: (326, 19) :: (326, 18) :: (326, 17) :: (326, 16) :: (326, 15) :: (326, 14) :: (326, 11) :: (326, 10) :: (326, 9) :: (326, 8) :: (326, 7) :: (326, 6) :: (326, 5) :: (326, 4) :: (326, 3) :: D) (-1) h0 h → sat (qX12_init_442 326 h) P) : sat (qX12_init_394 326 h) P := by
  refine uqX12_init_394 ?_
  unfold BX12_init_394
  obtain ⟨g141, s143⟩ := s.one (K' := 374) (c := 20) (l := 120) (z := 120) (f := 73) rfl rfl (by decide) rfl (by decide +kernel)
  refine sat_let fun H141 q141 => ?_
  subst q141
  refine sat_gd g141 (sat_let fun H143 q143 => ?_)
  subst q143
  obtain ⟨g144, s146⟩ := s143.one (K' := 375) (c := 20) (l := 120) (z := 120) (f := 74) rfl rfl (by decide) rfl (by decide +kernel)
  refine sat_let fun H144 q144 => ?_
  subst q144
  refine sat_gd g144 (sat_let fun H146 q146 => ?_)
  subst q146
  obtain ⟨g147, s149⟩ := s146.one (K' := 376) (c := 20) (l := 120) (z := 120) (f := 75) rfl rfl (by decide) rfl (by decide +kernel)
  refine sat_let fun H147 q147 => ?_
  subst q147
  refine sat_gd g147 (sat_let fun H149 q149 => ?_)
  subst q149
  obtain ⟨g150, s152⟩ := s149.one (K' := 377) (c := 20) (l := 120) (z := 120) (f := 76) rfl rfl (by decide) rfl (by decide +kernel)
  refine sat_let fun H150 q150 => ?_
  subst q150
  refine sat_gd g150 (sat_let fun H152 q152 => ?_)
  subst q152
  obtain ⟨g153, s155⟩ := s152.one (K' := 378) (c := 20) (l := 120) (z := 120) (f := 77) rfl rfl (by decide) rfl (by decide +kernel)
  refine sat_let fun H153 q153 => ?_
  subst q153
  refine sat_gd g153 (sat_let fun H155 q155 => ?_)
  subst q155
  obtain ⟨g156, s158⟩ := s155.one (K' := 379) (c := 21) (l := 120) (z := 120) (f := 78) rfl rfl (by decide) rfl (by decide +kernel)
  refine sat_let fun H156 q156 => ?_
  subst q156
  refine sat_gd g156 (sat_let fun H158 q158 => ?_)
  subst q158
  exact k _ s158
theorem mi_442 {P : Unit × ea_H → Prop} (s : StM 379 ((326, 78) :: (326, 77) :: (326, 76) :: (326, 75) :: (326, 74) :: (326, 73) :: (326, 72) :: (326, 71) :: (326, 70) :: (326, 69) :: (326, 68) :: (326, 67) :: (326, 66) :: (326, 65) :: (326, 64) :: (326, 42) :: (326, 41) :: (326, 40) :: (326, 39) :: (326, 38) :: (326, 37) :: (326, 36) :: (326, 35) :: (326, 34) :: (326, 33) :: (326, 32) :: (326, 31) :: (326, 30) :: (326, 29) :: (326, 28) :: (326, 27) :: (326, 26) :: (326, 24) :: (326, 23) :: (326, 22) :: (326, 21) :: (326, 20) :: (326, 19) :: (326, 18) :: (326, 17) :: (326, 16) :: (326, 15) :: (326, 14) :: (326, 11) :: (326, 10) :: (326, 9) :: (326, 8) :: (326, 7) :: (326, 6) :: (326, 5) :: (326, 4) :: (326, 3) :: D) (-1) h0 h) (k : ∀ h, StM 385 ((326, 84) :: (326, 83) :: (326, 82) :: (326, 81) :: (326, 80) :: (326, 79) :: (326, 78) :: (326, 77) :: (326, 76) :: (326, 75) :: (326, 74) :: (326, 73) :: (326, 72) :: (326, 71) :: (326, 70) :: (326, 69) :: (326, 68) :: (326, 67) :: (326, 66) :: (326, 65) :: (326, 64) :: (326, 42) :: (326, 41) :: (326, 40) :: (326, 39) :: (326, 38) :: (326, 37) :: (326, 36) :: (326, 35) :: (326, 34) :: (326, 33) :: (326, 32) :: (326, 31) :: (326, 30) :: (326, 29) :: (326, 28) :: (326, 27) :: (326, 26) :: (326, 24) :: (326, 23) :: (326, 22) :: (326, 21) :: (326, 20) :: (326, 19) :: (326, 18) :: (326, 17) :: (326, 16) :: (326, 15) :: (326, 14) :: (326, 11) :: (326, 10) :: (326, 9) :: (326, 8) :: (326, 7) :: (326, 6) :: (326, 5) :: (326, 4) :: (326, 3) :: D) (-1) h0 h → sat (qX12_init_490 326 h) P) : sat (qX12_init_442 326 h) P := by
  refine uqX12_init_442 ?_
  unfold BX12_init_442
  obtain ⟨g159, s161⟩ := s.one (K' := 380) (c := 21) (l := 120) (z := 120) (f := 79) rfl rfl (by decide) rfl (by decide +kernel)
  refine sat_let fun H159 q159 => ?_
  subst q159
  refine sat_gd g159 (sat_let fun H161 q161 => ?_)
  subst q161
  obtain ⟨g162, s164⟩ := s161.one (K' := 381) (c := 21) (l := 120) (z := 120) (f := 80) rfl rfl (by decide) rfl (by decide +kernel)
  refine sat_let fun H162 q162 => ?_
  subst q162
  refine sat_gd g162 (sat_let fun H164 q164 => ?_)
  subst q164
  obtain ⟨g165, s167⟩ := s164.one (K' := 382) (c := 20) (l := 120) (z := 120) (f := 81) rfl rfl (by decide) rfl (by decide +kernel)
  refine sat_let fun H165 q165 => ?_
  subst q165
  refine sat_gd g165 (sat_let fun H167 q167 => ?_)
  subst q167
  obtain ⟨g168, s170⟩ := s167.one (K' := 383) (c := 20) (l := 120) (z := 120) (f := 82) rfl rfl (by decide) rfl (by decide +kernel)
  refine sat_let fun H168 q168 => ?_
  subst q168
  refine sat_gd g168 (sat_let fun H170 q170 => ?_)
  subst q170
  obtain ⟨g171, s173⟩ := s170.one (K' := 384) (c := 20) (l := 120) (z := 120) (f := 83) rfl rfl (by decide) rfl (by decide +kernel)
  refine sat_let fun H171 q171 => ?_
  subst q171
  refine sat_gd g171 (sat_let fun H173 q173 => ?_)
  subst q173
  obtain ⟨g174, s176⟩ := s173.one (K' := 385) (c := 20) (l := 120) (z := 120) (f := 84) rfl rfl (by decide) rfl (by decide +kernel)
  refine sat_let fun H174 q174 => ?_
  subst q174
  refine sat_gd g174 (sat_let fun H176 q176 => ?_)
  subst q176
  exact k _ s176
theorem mi_490 {P : Unit × ea_H → Prop} (s : StM 385 ((326, 84) :: (326, 83) :: (326, 82) :: (326, 81) :: (326, 80) :: (326, 79) :: (326, 78) :: (326, 77) :: (326, 76) :: (326, 75) :: (326, 74) :: (326, 73) :: (326, 72) :: (326, 71) :: (326, 70) :: (326, 69) :: (326, 68) :: (326, 67) :: (326, 66) :: (326, 65) :: (326, 64) :: (326, 42) :: (326, 41) :: (326, 40) :: (326, 39) :: (326, 38) :: (326, 37) :: (326, 36) :: (326, 35) :: (326, 34) :: (326, 33) :: (326, 32) :: (326, 31) :: (326, 30) :: (326, 29) :: (326, 28) :: (326, 27) :: (326, 26) :: (326, 24) :: (326, 23) :: (326, 22) :: (326, 21) :: (326, 20) :: (326, 19) :: (326, 18) :: (326, 17) :: (326, 16) :: (326, 15) :: (326, 14) :: (326, 11) :: (326, 10) :: (326, 9) :: (326, 8) :: (326, 7) :: (326, 6) :: (326, 5) :: (326, 4) :: (326, 3) :: D) (-1) h0 h) (k : ∀ h, StM 391 ((326, 90) :: (326, 89) :: (326, 88) :: (326, 87) :: (326, 86) :: (326, 85) :: (326, 84) :: (326, 83) :: (326, 82) :: (326, 81) :: (326, 80) :: (326, 79) :: (326, 78) :: (326, 77) :: (326, 76) :: (326, 75) :: (326, 74) :: (326, 73) :: (326, 72) :: (326, 71) :: (326, 70) :: (326, 69) :: (326, 68) :: (326, 67) :: (326, 66) :: (326, 65) :: (326, 64) :: (326, 42) :: (326, 41) :: (326, 40) :: (326, 39) :: (326, 38) :: (326, 37) :: (326, 36) :: (326, 35) :: (326, 34) :: (326, 33) :: (326, 32) :: (326, 31) :: (326, 30) :: (326, 29) :: (326, 28) :: (326, 27) :: (326, 26) :: (326, 24) :: (326, 23) :: (326, 22) :: (326, 21) :: (326, 20) :: (326, 19) :: (326, 18) :: (326, 17) :: (326, 16) :: (326, 15) :: (326, 14) :: (326, 11) :: (326, 10) :: (326, 9) :: (326, 8) :: (326, 7) :: (326, 6) :: (326, 5) :: (326, 4) :: (326, 3) :: D) (-1) h0 h → sat (qX12_init_538 326 h) P) : sat (qX12_init_490 326 h) P := by
  refine uqX12_init_490 ?_
  unfold BX12_init_490
  obtain ⟨g177, s179⟩ := s.one (K' := 386) (c := 20) (l := 120) (z := 120) (f := 85) rfl rfl (by decide) rfl (by decide +kernel)
  refine sat_let fun H177 q177 => ?_
  subst q177
  refine sat_gd g177 (sat_let fun H179 q179 => ?_)
  subst q179
  obtain ⟨g180, s182⟩ := s179.one (K' := 387) (c := 20) (l := 70) (z := 70) (f := 86) rfl rfl (by decide) rfl (by decide +kernel)
  refine sat_let fun H180 q180 => ?_
  subst q180
  refine sat_gd g180 (sat_let fun H182 q182 => ?_)
  subst q182
  obtain ⟨g183, s185⟩ := s182.one (K' := 388) (c := 21) (l := 120) (z := 120) (f := 87) rfl rfl (by decide) rfl (by decide +kernel)
  refine sat_let fun H183 q183 => ?_
  subst q183
  refine sat_gd g183 (sat_let fun H185 q185 => ?_)
  subst q185
  obtain ⟨g186, s188⟩ := s185.one (K' := 389) (c := 20) (l := 120000) (z := 120000) (f := 88) rfl rfl (by decide) rfl (by decide +kernel)
  refine sat_let fun H186 q186 => ?_
  subst q186
  refine sat_gd g186 (sat_let fun H188 q188 => ?_)
  subst q188
  obtain ⟨g189, s191⟩ := s188.one (K' := 390) (c := 20) (l := 120000) (z := 120000) (f := 89) rfl rfl (by decide) rfl (by decide +kernel)
  refine sat_let fun H189 q189 => ?_
  subst q189
  refine sat_gd g189 (sat_let fun H191 q191 => ?_)
  subst q191
  obtain ⟨g192, s194⟩ := s191.one (K' := 391) (c := 20) (l := 120000) (z := 120000) (f := 90) rfl rfl (by decide) rfl (by decide +kernel)
  refine sat_let fun H192 q192 => ?_
  subst q192
  refine sat_gd g192 (sat_let fun H194 q194 => ?_)
  subst q194
  exact k _ s194
theorem mi_538 {P : Unit × ea_H → Prop} (s : StM 391 ((326, 90) :: (326, 89) :: (326, 88) :: (326, 87) :: (326, 86) :: (326, 85) :: (326, 84) :: (326, 83) :: (326, 82) :: (326, 81) :: (326, 80) :: (326, 79) :: (326, 78) :: (326, 77) :: (326, 76) :: (326, 75) :: (326, 74) :: (326, 73) :: (326, 72) :: (326, 71) :: (326, 70) :: (326, 69) :: (326, 68) :: (326, 67) :: (326, 66) :: (326, 65) :: (326, 64) :: (326, 42) :: (326, 41) :: (326, 40) :: (326, 39) :: (326, 38) :: (326, 37) :: (326, 36) :: (326, 35) :: (326, 34) :: (326, 33) :: (326, 32) :: (326, 31) :: (326, 30) :: (326, 29) :: (326, 28) :: (326, 27) :: (326, 26) :: (326, 24) :: (326, 23) :: (326, 22) :: (326, 21) :: (326, 20) :: (326, 19) :: (326, 18) :: (326, 17) :: (326, 16) :: (326, 15) :: (326, 14) :: (326, 11) :: (326, 10) :: (326, 9) :: (326, 8) :: (326, 7) :: (326, 6) :: (326, 5) :: (326, 4) :: (326, 3) :: D) (-1) h0 h) (k : ∀ h, StM 397 ((326, 97) :: (326, 96) :: (326, 95) :: (326, 94) :: (326, 93) :: (326, 91) :: (326, 90) :: (326, 89) :: (326, 88) :: (326, 87) :: (326, 86) :: (326, 85) :: (326, 84) :: (326, 83) :: (326, 82) :: (326, 81) :: (326, 80) :: (326, 79) :: (326, 78) :: (326, 77) :: (326, 76) :: (326, 75) :: (326, 74) :: (326, 73) :: (326, 72) :: (326, 71) :: (326, 70) :: (326, 69) :: (326, 68) :: (326, 67) :: (326, 66) :: (326, 65) :: (326, 64) :: (326, 42) :: (326, 41) :: (326, 40) :: (326, 39) :: (326, 38) :: (326, 37) :: (326, 36) :: (326, 35) :: (326, 34) :: (326, 33) :: (326, 32) :: (326, 31) :: (326, 30) :: (326, 29) :: (326, 28) :: (326, 27) :: (326, 26) :: (326, 24) :: (326, 23) :: (326, 22) :: (326, 21) :: (326, 20) :: (326, 19) :: (326, 18) :: (326, 17) :: (326, 16) :: (326, 15) :: (326, 14) :: (326, 11) :: (326, 10) :: (326, 9) :: (326, 8) :: (326, 7) :: (326, 6) :: (326, 5) :: (326, 4) :: (326, 3) :: D) (-1) h0 h → sat (qX12_init_586 326 h) P) : sat (qX12_init_538 326 h) P := by
  refine uqX12_init_538 ?_
  unfold BX12_init_538
  obtain ⟨g195, s197⟩ := s.one (K' := 392) (c := 20) (l := 8) (z := 8) (f := 91) rfl rfl (by decide) rfl (by decide +kernel)
  refine sat_let fun H195 q195 => ?_
  subst q195
  refine sat_gd g195 (sat_let fun H197 q197 => ?_)
  subst q197
  obtain ⟨g198, s200⟩ := s197.one (K' := 393) (c := 20) (l := 8) (z := 8) (f := 93) rfl rfl (by decide) rfl (by decide +kernel)
  refine sat_let fun H198 q198 => ?_
  subst q198
  refine sat_gd g198 (sat_let fun H200 q200 => ?_)
  subst q200
  obtain ⟨g201, s203⟩ := s200.one (K' := 394) (c := 20) (l := 8) (z := 8) (f := 94) rfl rfl (by decide) rfl (by decide +kernel)
  refine sat_let fun H201 q201 => ?_
  subst q201
  refine sat_gd g201 (sat_let fun H203 q203 => ?_)
  subst q203
  obtain ⟨g204, s206⟩ := s203.one (K' := 395) (c := 20) (l := 8) (z := 8) (f := 95) rfl rfl (by decide) rfl (by decide +kernel)
  refine sat_let fun H204 q204 => ?_
  subst q204
  refine sat_gd g204 (sat_let fun H206 q206 => ?_)
  subst q206
  obtain ⟨g207, s209⟩ := s206.one (K' := 396) (c := 20) (l := 8) (z := 8) (f := 96) rfl rfl (by decide) rfl (by decide +kernel)
  refine sat_let fun H207 q207 => ?_
  subst q207
  refine sat_gd g207 (sat_let fun H209 q209 => ?_)
  subst q209
  obtain ⟨g210, s212⟩ := s209.one (K' := 397) (c := 20) (l := 120) (z := 120) (f := 97) rfl rfl (by decide) rfl (by decide +kernel)
  refine sat_let fun H210 q210 => ?_
  subst q210
  refine sat_gd g210 (sat_let fun H212 q212 => ?_)
  subst q212
  exact k _ s212
theorem mi_586 {P : Unit × ea_H → Prop} (s : StM 397 ((326, 97) :: (326, 96) :: (326, 95) :: (326, 94) :: (326, 93) :: (326, 91) :: (326, 90) :: (326, 89) :: (326, 88) :: (326, 87) :: (326, 86) :: (326, 85) :: (326, 84) :: (326, 83) :: (326, 82) :: (326, 81) :: (326, 80) :: (326, 79) :: (326, 78) :: (326, 77) :: (326, 76) :: (326, 75) :: (326, 74) :: (326, 73) :: (326, 72) :: (326, 71) :: (326, 70) :: (326, 69) :: (326, 68) :: (326, 67) :: (326, 66) :: (326, 65) :: (326, 64) :: (326, 42) :: (326, 41) :: (326, 40) :: (326, 39) :: (326, 38) :: (326, 37) :: (326, 36) :: (326, 35) :: (326, 34) :: (326, 33) :: (326, 32) :: (326, 31) :: (326, 30) :: (326, 29) :: (326, 28) :: (326, 27) :: (326, 26) :: (326, 24) :: (326, 23) :: (326, 22) :: (326, 21) :: (326, 20) :: (326, 19) :: (326, 18) :: (326, 17) :: (326, 16) :: (326, 15) :: (326, 14) :: (326, 11) :: (326, 10) :: (326, 9) :: (326, 8) :: (326, 7) :: (326, 6) :: (326, 5) :: (326, 4) :: (326, 3) :: D) (-1) h0 h) (k : ∀ h, StM 403 ((326, 104) :: (326, 103) :: (326, 102) :: (326, 101) :: (326, 99) :: (326, 98) :: (326, 97) :: (326, 96) :: (326, 95) :: (326, 94) :: (326, 93) :: (326, 91) :: (326, 90) :: (326, 89) :: (326, 88) :: (326, 87) :: (326, 86) :: (326, 85) :: (326, 84) :: (326, 83) :: (326, 82) :: (326, 81) :: (326, 80) :: (326, 79) :: (326, 78) :: (326, 77) :: (326, 76) :: (326, 75) :: (326, 74) :: (326, 73) :: (326, 72) :: (326, 71) :: (326, 70) :: (326, 69) :: (326, 68) :: (326, 67) :: (326, 66) :: (326, 65) :: (326, 64) :: (326, 42) :: (326, 41) :: (326, 40) :: (326, 39) :: (326, 38) :: (326, 37) :: (326, 36) :: (326, 35) :: (326, 34) :: (326, 33) :: (326, 32) :: (326, 31) :: (326, 30) :: (326, 29) :: (326, 28) :: (326, 27) :: (326, 26) :: (326, 24) :: (326, 23) :: (326, 22) :: (326, 21) :: (326, 20) :: (326, 19) :: (326, 18) :: (326, 17) :: (326, 16) :: (326, 15) :: (326, 14) :: (326, 11) :: (326, 10) :: (326, 9) :: (326, 8) :: (326, 7) :: (326, 6) :: (326, 5) :: (326, 4) :: (326, 3) :: D) (-1) h0 h → sat (qX12_init_636 326 h) P) : sat (qX12_init_586 326 h) P := by
  refine uqX12_init_586 ?_
  unfold BX12_init_586
  obtain ⟨g213, s215⟩ := s.one (K' := 398) (c := 20) (l := 480) (z := 480) (f := 98) rfl rfl (by decide) rfl (by decide +kernel)
  refine sat_let fun H213 q213 => ?_
  subst q213
  refine sat_gd g213 (sat_let fun H215 q215 => ?_)
  subst q215
  obtain ⟨g216, s218⟩ := s215.one (K' := 399) (c := 20) (l := 480) (z := 480) (f := 99) rfl rfl (by decide) rfl (by decide +kernel)
  refine sat_let fun H216 q216 => ?_
  subst q216
  refine sat_gd g216 (sat_let fun H218 q218 => ?_)
  subst q218
  obtain ⟨g219, s221⟩ := s218.one (K' := 400) (c := 20) (l := 20) (z := 20) (f := 101) rfl rfl (by decide) rfl (by decide +kernel)
  refine sat_let fun H219 q219 => ?_
  subst q219
  refine sat_gd g219 (sat_let fun H221 q221 => ?_)
  subst q221
  obtain ⟨g222, s224⟩ := s221.one (K' := 401) (c := 20) (l := 20) (z := 20) (f := 102) rfl rfl (by decide) rfl (by decide +kernel)
  refine sat_let fun H222 q222 => ?_
  subst q222
  refine sat_gd g222 (sat_let fun H224 q224 => ?_)
  subst q224
  obtain ⟨g225, s227⟩ := s224.one (K' := 402) (c := 20) (l := 20) (z := 20) (f := 103) rfl rfl (by decide) rfl (by decide +kernel)
  refine sat_let fun H225 q225 => ?_
  subst q225
  refine sat_gd g225 (sat_let fun H227 q227 => ?_)
  subst q227
  obtain ⟨g228, s230⟩ := s227.one (K' := 403) (c := 20) (l := 20) (z := 20) (f := 104) rfl rfl (by decide) rfl (by decide +kernel)
  refine sat_let fun H228 q228 => ?_
  subst q228
  refine sat_gd g228 (sat_let fun H230 q230 => ?_)
  subst q230
  exact k _ s230
theorem mi_636 {P : Unit × ea_H → Prop} (s : StM 403 ((326, 104) :: (326, 103) :: (326, 102) :: (326, 101) :: (326, 99) :: (326, 98) :: (326, 97) :: (326, 96) :: (326, 95) :: (326, 94) :: (326, 93) :: (326, 91) :: (326, 90) :: (326, 89) :: (326, 88) :: (326, 87) :: (326, 86) :: (326, 85) :: (326, 84) :: (326, 83) :: (326, 82) :: (326, 81) :: (326, 80) :: (326, 79) :: (326, 78) :: (326, 77) :: (326, 76) :: (326, 75) :: (326, 74) :: (326, 73) :: (326, 72) :: (326, 71) :: (326, 70) :: (326, 69) :: (326, 68) :: (326, 67) :: (326, 66) :: (326, 65) :: (326, 64) :: (326, 42) :: (326, 41) :: (326, 40) :: (326, 39) :: (326, 38) :: (326, 37) :: (326, 36) :: (326, 35) :: (326, 34) :: (326, 33) :: (326, 32) :: (326, 31) :: (326, 30) :: (326, 29) :: (326, 28) :: (326, 27) :: (326, 26) :: (326, 24) :: (326, 23) :: (326, 22) :: (326, 21) :: (326, 20) :: (326, 19) :: (326, 18) :: (326, 17) :: (326, 16) :: (326, 15) :: (326, 14) :: (326, 11) :: (326, 10) :: (326, 9) :: (326, 8) :: (326, 7) :: (326, 6) :: (326, 5) :: (326, 4) :: (326, 3) :: D) (-1) h0 h) (k : ∀ h, StM 409 ((326, 110) :: (326, 109) :: (326, 108) :: (326, 107) :: (326, 106) :: (326, 105) :: (326, 104) :: (326, 103) :: (326, 102) :: (326, 101) :: (326, 99) :: (326, 98) :: (326, 97) :: (326, 96) :: (326, 95) :: (326, 94) :: (326, 93) :: (326, 91) :: (326, 90) :: (326, 89) :: (326, 88) :: (326, 87) :: (326, 86) :: (326, 85) :: (326, 84) :: (326, 83) :: (326, 82) :: (326, 81) :: (326, 80) :: (326, 79) :: (326, 78) :: (326, 77) :: (326, 76) :: (326, 75) :: (326, 74) :: (326, 73) :: (326, 72) :: (326, 71) :: (326, 70) :: (326, 69) :: (326, 68) :: (326, 67) :: (326, 66) :: (326, 65) :: (326, 64) :: (326, 42) :: (326, 41) :: (326, 40) :: (326, 39) :: (326, 38) :: (326, 37) :: (326, 36) :: (326, 35) :: (326, 34) :: (326, 33) :: (326, 32) :: (326, 31) :: (326, 30) :: (326, 29) :: (326, 28) :: (326, 27) :: (326, 26) :: (326, 24) :: (326, 23) :: (326, 22) :: (326, 21) :: (326, 20) :: (326, 19) :: (326, 18) :: (326, 17) :: (326, 16) :: (326, 15) :: (326, 14) :: (326, 11) :: (326, 10) :: (326, 9) :: (326, 8) :: (326, 7) :: (326, 6) :: (326, 5) :: (326, 4) :: (326, 3) :: D) (-1) h0 h → sat (qX12_init_685 326 h) P) : sat (qX12_init_636 326 h) P := by
  refine uqX12_init_636 ?_
  unfold BX12_init_636
  obtain ⟨g231, s233⟩ := s.one (K' := 404) (c := 20) (l := 2400) (z := 2400) (f := 105) rfl rfl (by decide) rfl (by decide +kernel)
  refine sat_let fun H231 q231 => ?_
  subst q231
  refine sat_gd g231 (sat_let fun H233 q233 => ?_)
  subst q233
  obtain ⟨g234, s236⟩ := s233.one (K' := 405) (c := 20) (l := 10) (z := 10) (f := 106) rfl rfl (by decide) rfl (by decide +kernel)
  refine sat_let fun H234 q234 => ?_
  subst q234
  refine sat_gd g234 (sat_let fun H236 q236 => ?_)
  subst q236
  obtain ⟨g237, s239⟩ := s236.one (K' := 406) (c := 20) (l := 10) (z := 10) (f := 107) rfl rfl (by decide) rfl (by decide +kernel)
  refine sat_let fun H237 q237 => ?_
  subst q237
  refine sat_gd g237 (sat_let fun H239 q239 => ?_)
  subst q239
  obtain ⟨g240, s242⟩ := s239.one (K' := 407) (c := 20) (l := 10) (z := 10) (f := 108) rfl rfl (by decide) rfl (by decide +kernel)
  refine sat_let fun H240 q240 => ?_
  subst q240
  refine sat_gd g240 (sat_let fun H242 q242 => ?_)
  subst q242
  obtain ⟨g243, s245⟩ := s242.one (K' := 408) (c := 20) (l := 120) (z := 120) (f := 109) rfl rfl (by decide) rfl (by decide +kernel)
  refine sat_let fun H243 q243 => ?_
  subst q243
  refine sat_gd g243 (sat_let fun H245 q245 => ?_)
  subst q245
  obtain ⟨g246, s248⟩ := s245.one (K' := 409) (c := 20) (l := 120) (z := 120) (f := 110) rfl rfl (by decide) rfl (by decide +kernel)
  refine sat_let fun H246 q246 => ?_
  subst q246
  refine sat_gd g246 (sat_let fun H248 q248 => ?_)
  subst q248
  exact k _ s248
theorem mi_685 {P : Unit × ea_H → Prop} (s : StM 409 ((326, 110) :: (326, 109) :: (326, 108) :: (326, 107) :: (326, 106) :: (326, 105) :: (326, 104) :: (326, 103) :: (326, 102) :: (326, 101) :: (326, 99) :: (326, 98) :: (326, 97) :: (326, 96) :: (326, 95) :: (326, 94) :: (326, 93) :: (326, 91) :: (326, 90) :: (326, 89) :: (326, 88) :: (326, 87) :: (326, 86) :: (326, 85) :: (326, 84) :: (326, 83) :: (326, 82) :: (326, 81) :: (326, 80) :: (326, 79) :: (326, 78) :: (326, 77) :: (326, 76) :: (326, 75) :: (326, 74) :: (326, 73) :: (326, 72) :: (326, 71) :: (326, 70) :: (326, 69) :: (326, 68) :: (326, 67) :: (326, 66) :: (326, 65) :: (326, 64) :: (326, 42) :: (326, 41) :: (326, 40) :: (326, 39) :: (326, 38) :: (326, 37) :: (326, 36) :: (326, 35) :: (326, 34) :: (326, 33) :: (326, 32) :: (326, 31) :: (326, 30) :: (326, 29) :: (326, 28) :: (326, 27) :: (326, 26) :: (326, 24) :: (326, 23) :: (326, 22) :: (326, 21) :: (326, 20) :: (326, 19) :: (326, 18) :: (326, 17) :: (326, 16) :: (326, 15) :: (326, 14) :: (326, 11) :: (326, 10) :: (326, 9) :: (326, 8) :: (326, 7) :: (326, 6) :: (326, 5) :: (326, 4) :: (326, 3) :: D) (-1) h0 h) (k : ∀ h, StM 415 ((326, 116) :: (326, 115) :: (326, 114) :: (326, 113) :: (326, 112) :: (326, 111) :: (326, 110) :: (326, 109) :: (326, 108) :: (326, 107) :: (326, 106) :: (326, 105) :: (326, 104) :: (326, 103) :: (326, 102) :: (326, 101) :: (326, 99) :: (326, 98) :: (326, 97) :: (326, 96) :: (326, 95) :: (326, 94) :: (326, 93) :: (326, 91) :: (326, 90) :: (326, 89) :: (326, 88) :: (326, 87) :: (326, 86) :: (326, 85) :: (326, 84) :: (326, 83) :: (326, 82) :: (326, 81) :: (326, 80) :: (326, 79) :: (326, 78) :: (326, 77) :: (326, 76) :: (326, 75) :: (326, 74) :: (326, 73) :: (326, 72) :: (326, 71) :: (326, 70) :: (326, 69) :: (326, 68) :: (326, 67) :: (326, 66) :: (326, 65) :: (326, 64) :: (326, 42) :: (326, 41) :: (326, 40) :: (326, 39) :: (326, 38) :: (326, 37) :: (326, 36) :: (326, 35) :: (326, 34) :: (326, 33) :: (326, 32) :: (326, 31) :: (326, 30) :: (326, 29) :: (326, 28) :: (326, 27) :: (326, 26) :: (326, 24) :: (326, 23) :: (326, 22) :: (326, 21) :: (326, 20) :: (326, 19) :: (326, 18) :: (326, 17) :: (326, 16) :: (326, 15) :: (326, 14) :: (326, 11) :: (326, 10) :: (326, 9) :: (326, 8) :: (326, 7) :: (326, 6) :: (326, 5) :: (326, 4) :: (326, 3) :: D) (-1) h0 h → sat (qX12_init_733 326 h) P) : sat (qX12_init_685 326 h) P := by
  refine uqX12_init_685 ?_
  unfold BX12_init_685
  obtain ⟨g249, s251⟩ := s.one (K' := 410) (c := 20) (l := 120) (z := 120) (f := 111) rfl rfl (by decide) rfl (by decide +kernel)
  refine sat_let fun H249 q249 => ?_
  subst q249
  refine sat_gd g249 (sat_let fun H251 q251 => ?_)
  subst q251
  obtain ⟨g252, s254⟩ := s251.one (K' := 411) (c := 20) (l := 120) (z := 120) (f := 112) rfl rfl (by decide) rfl (by decide +kernel)
  refine sat_let fun H252 q252 => ?_
  subst q252
  refine sat_gd g252 (sat_let fun H254 q254 => ?_)
  subst q254
  obtain ⟨g255, s257⟩ := s254.one (K' := 412) (c := 20) (l := 120) (z := 120) (f := 113) rfl rfl (by decide) rfl (by decide +kernel)
  refine sat_let fun H255 q255 => ?_
  subst q255
  refine sat_gd g255 (sat_let fun H257 q257 => ?_)
  subst q257
  obtain ⟨g258, s260⟩ := s257.one (K' := 413) (c := 20) (l := 120) (z := 120) (f := 114) rfl rfl (by decide) rfl (by decide +kernel)
  refine sat_let fun H258 q258 => ?_
  subst q258
  refine sat_gd g258 (sat_let fun H260 q260 => ?_)
  subst q260
  obtain ⟨g261, s263⟩ := s260.one (K' := 414) (c := 20) (l := 120) (z := 120) (f := 115) rfl rfl (by decide) rfl (by decide +kernel)
  refine sat_let fun H261 q261 => ?_
  subst q261
  refine sat_gd g261 (sat_let fun H263 q263 => ?_)
  subst q263
  obtain ⟨g264, s266⟩ := s263.one (K' := 415) (c := 20) (l := 70) (z := 70) (f := 116) rfl rfl (by decide) rfl (by decide +kernel)
  refine sat_let fun H264 q264 => ?_
  subst q264
  refine sat_gd g264 (sat_let fun H266 q266 => ?_)
  subst q266
  exact k _ s266
theorem mi_733 {P : Unit × ea_H → Prop} (s : StM 415 ((326, 116) :: (326, 115) :: (326, 114) :: (326, 113) :: (326, 112) :: (326, 111) :: (326, 110) :: (326, 109) :: (326, 108) :: (326, 107) :: (326, 106) :: (326, 105) :: (326, 104) :: (326, 103) :: (326, 102) :: (326, 101) :: (326, 99) :: (326, 98) :: (326, 97) :: (326, 96) :: (326, 95) :: (326, 94) :: (326, 93) :: (326, 91) :: (326, 90) :: (326, 89) :: (326, 88) :: (326, 87) :: (326, 86) :: (326, 85) :: (326, 84) :: (326, 83) :: (326, 82) :: (326, 81) :: (326, 80) :: (326, 79) :: (326, 78) :: (326, 77) :: (326, 76) :: (326, 75) :: (326, 74) :: (326, 73) :: (326, 72) :: (326, 71) :: (326, 70) :: (326, 69) :: (326, 68) :: (326, 67) :: (326, 66) :: (326, 65) :: (326, 64) :: (326, 42) :: (326, 41) :: (326, 40) :: (326, 39) :: (326, 38) :: (326, 37) :: (326, 36) :: (326, 35) :: (326, 34) :: (326, 33) :: (326, 32) :: (326, 31) :: (326, 30) :: (326, 29) :: (326, 28) :: (326, 27) :: (326, 26) :: (326, 24) :: (326, 23) :: (326, 22) :: (326, 21) :: (326, 20) :: (326, 19) :: (326, 18) :: (326, 17) :: (326, 16) :: (326, 15) :: (326, 14) :: (326, 11) :: (326, 10) :: (326, 9) :: (326, 8) :: (326, 7) :: (326, 6) :: (326, 5) :: (326, 4) :: (326, 3) :: D) (-1) h0 h) (k : ∀ h, StM 416 ((326, 117) :: (326, 116) :: (326, 115) :: (326, 114) :: (326, 113) :: (326, 112) :: (326, 111) :: (326, 110) :: (326, 109) :: (326, 108) :: (326, 107) :: (326, 106) :: (326, 105) :: (326, 104) :: (326, 103) :: (326, 102) :: (326, 101) :: (326, 99) :: (326, 98) :: (326, 97) :: (326, 96) :: (326, 95) :: (326, 94) :: (326, 93) :: (326, 91) :: (326, 90) :: (326, 89) :: (326, 88) :: (326, 87) :: (326, 86) :: (326, 85) :: (326, 84) :: (326, 83) :: (326, 82) :: (326, 81) :: (326, 80) :: (326, 79) :: (326, 78) :: (326, 77) :: (326, 76) :: (326, 75) :: (326, 74) :: (326, 73) :: (326, 72) :: (326, 71) :: (326, 70) :: (326, 69) :: (326, 68) :: (326, 67) :: (326, 66) :: (326, 65) :: (326, 64) :: (326, 42) :: (326, 41) :: (326, 40) :: (326, 39) :: (326, 38) :: (326, 37) :: (326, 36) :: (326, 35) :: (326, 34) :: (326, 33) :: (326, 32) :: (326, 31) :: (326, 30) :: (326, 29) :: (326, 28) :: (326, 27) :: (326, 26) :: (326, 24) :: (326, 23) :: (326, 22) :: (326, 21) :: (326, 20) :: (326, 19) :: (326, 18) :: (326, 17) :: (326, 16) :: (326, 15) :: (326, 14) :: (326, 11) :: (326, 10) :: (326, 9) :: (326, 8) :: (326, 7) :: (326, 6) :: (326, 5) :: (326, 4) :: (326, 3) :: D) (-1) h0 h → sat (qX12_init_743 326 0 h) P) : sat (qX12_init_733 326 h) P := by
  refine uqX12_init_733 ?_
  unfold BX12_init_733
  obtain ⟨g267, s269⟩ := s.one (K' := 416) (c := 21) (l := 120) (z := 120) (f := 117) rfl rfl (by decide) rfl (by decide +kernel)
  refine sat_let fun H267 q267 => ?_
  subst q267
  refine sat_gd g267 (sat_let fun H269 q269 => ?_)
  subst q269
  exact k _ s269
end MIN
