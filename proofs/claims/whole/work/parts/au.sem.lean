/-! the reference's constructor, whole -/
def DMl : List (Nat × Nat) := [(326, 117), (326, 116), (326, 115), (326, 114), (326, 113), (326, 112), (326, 111), (326, 110), (326, 109), (326, 108), (326, 107), (326, 106), (326, 105), (326, 104), (326, 103), (326, 102), (326, 101), (326, 99), (326, 98), (326, 97), (326, 96), (326, 95), (326, 94), (326, 93), (326, 91), (326, 90), (326, 89), (326, 88), (326, 87), (326, 86), (326, 85), (326, 84), (326, 83), (326, 82), (326, 81), (326, 80), (326, 79), (326, 78), (326, 77), (326, 76), (326, 75), (326, 74), (326, 73), (326, 72), (326, 71), (326, 70), (326, 69), (326, 68), (326, 67), (326, 66), (326, 65), (326, 64), (326, 42), (326, 41), (326, 40), (326, 39), (326, 38), (326, 37), (326, 36), (326, 35), (326, 34), (326, 33), (326, 32), (326, 31), (326, 30), (326, 29), (326, 28), (326, 27), (326, 26), (326, 24), (326, 23), (326, 22), (326, 21), (326, 20), (326, 19), (326, 18), (326, 17), (326, 16), (326, 15), (326, 14), (326, 11), (326, 10), (326, 9), (326, 8), (326, 7), (326, 6), (326, 5), (326, 4), (326, 3)]
section MI2
variable {D : List (Nat × Nat)} {h0 h : ea_H}
theorem mi_773 {P : Unit × ea_H → Prop} (p : Pre 416 (DMl ++ D) h) (k : ∀ h2, fq [(394, 394)] [] h h2 → (∀ k, k < 8 → hI h2 394 k = -1) → P ((), h2)) : sat (qX12_init_773 326 0 h) P := by
  have H : ∀ (j e : Nat) (x1 : Int32) (h2 : ea_H), e + j = 8 → x1.toInt = e → fq [(394, 394)] [] h h2 → (∀ k, k < e → hI h2 394 k = -1) → sat (qX12_init_773 326 x1 h2) P := by
    intro j
    induction j with
    | zero =>
      intro e x1 h2 he e1 f i
      refine uqX12_init_773 ?_
      unfold BX12_init_773
      refine sat_pos (by rw [n_le, l_8, e1]; omega) (sat_ret (k h2 f fun q hq => i q (by omega)))
    | succ j ih =>
      intro e x1 h2 he e1 f i
      have p2 : Pre 416 (DMl ++ D) h2 := p.core f.1
      have r2 : ea_r h2 326 95 = some 394 := p2.r (List.mem_append_left _ (by decide)) (by decide +kernel)
      obtain ⟨g326, -⟩ := p2.c (b := 326) (c := 12) (l := 0) (by decide) rfl
      obtain ⟨g394, l394⟩ := p2.c (b := 394) (c := 20) (l := 8) (by decide) rfl
      have ic : x1.toNatClampNeg = e := by
        rw [n_idx, e1]
        rfl
      refine uqX12_init_773 ?_
      unfold BX12_init_773
      refine sat_neg (by rw [n_le, l_8, e1]; omega) (uqX12_init_779 ?_)
      unfold BX12_init_779
      rw [r2, ic]
      dsimp only [Option.getD]
      rw [l394]
      refine sat_gd g326 (sat_gd rfl (sat_gd g394 (sat_gd (vp80 e1 (by omega)) (sat_let fun H286 q286 => ?_))))
      have f3 : fq [(394, 394)] [] h2 H286 := q286 ▸ fq_wi rfl
      refine ih (e + 1) (x1 + 1) H286 (by omega) (n_inc e1 (by omega)) (f.tr f3) fun q hq => ?_
      rw [q286, hI_row]
      by_cases z : q = e
      · rw [if_pos z]
        rfl
      · rw [if_neg z]
        exact i q (by omega)
  exact H 8 0 0 h (by decide) rfl (fq_rfl _ _ _) fun k hk => absurd hk (Nat.not_lt_zero k)
theorem mi_743 {P : Unit × ea_H → Prop} (s : StM 416 (DMl ++ D) (-1) h0 h) (k : ∀ h2, fq [(394, 394), (404, 405)] [] h h2 → (∀ k, k < 8 → hI h2 394 k = -1) → (∀ t, t < 10 → hI h2 404 t = -60 ∧ hI h2 405 t = 60) → P ((), h2)) : sat (qX12_init_743 326 0 h) P := by
  have p := s.1
  have H : ∀ (j e : Nat) (x1 : Int32) (h2 : ea_H), e + j = 10 → x1.toInt = e → fq [(404, 405)] [] h h2 → (∀ t, t < e → hI h2 404 t = -60 ∧ hI h2 405 t = 60) → sat (qX12_init_743 326 x1 h2) P := by
    intro j
    induction j with
    | zero =>
      intro e x1 h2 he e1 f i
      refine uqX12_init_743 ?_
      unfold BX12_init_743
      refine sat_pos (by rw [n_le, l_10, e1]; omega) (mi_773 (p.core f.1) fun h3 f3 i3 => k h3 ((f.up rfl rfl).tr (f3.up rfl rfl)) i3 fun t ht => ?_)
      rw [f3.C 404 rfl rfl, f3.C 405 rfl rfl]
      exact i t (by omega)
    | succ j ih =>
      intro e x1 h2 he e1 f i
      have p2 : Pre 416 (DMl ++ D) h2 := p.core f.1
      have r2 : ea_r h2 326 106 = some 404 := p2.r (List.mem_append_left _ (by decide)) (by decide +kernel)
      obtain ⟨g326, -⟩ := p2.c (b := 326) (c := 12) (l := 0) (by decide) rfl
      obtain ⟨g404, l404⟩ := p2.c (b := 404) (c := 20) (l := 10) (by decide) rfl
      have ic : x1.toNatClampNeg = e := by
        rw [n_idx, e1]
        rfl
      refine uqX12_init_743 ?_
      unfold BX12_init_743
      rw [r2, ic]
      dsimp only [Option.getD]
      rw [l404]
      refine sat_neg (by rw [n_le, l_10, e1]; omega) (sat_gd g326 (sat_gd rfl (sat_gd g404 (sat_gd (vp80 e1 (by omega)) (sat_let fun H274 q274 => ?_)))))
      have f274 : fq [(404, 405)] [] h2 H274 := q274 ▸ fq_wi rfl
      have p3 : Pre 416 (DMl ++ D) H274 := p2.core f274.1
      have r3 : ea_r H274 326 107 = some 405 := p3.r (List.mem_append_left _ (by decide)) (by decide +kernel)
      obtain ⟨h326, -⟩ := p3.c (b := 326) (c := 12) (l := 0) (by decide) rfl
      obtain ⟨g405, l405⟩ := p3.c (b := 405) (c := 20) (l := 10) (by decide) rfl
      rw [r3]
      dsimp only [Option.getD]
      rw [l405]
      refine sat_gd h326 (sat_gd rfl (sat_gd g405 (sat_gd (vp80 e1 (by omega)) (sat_let fun H279 q279 => ?_))))
      have f279 : fq [(404, 405)] [] H274 H279 := q279 ▸ fq_wi rfl
      refine ih (e + 1) (x1 + 1) H279 (by omega) (n_inc e1 (by omega)) (f.tr (f274.tr f279)) fun t ht => ?_
      rw [q279, hI_ne (by decide), hI_row, q274, hI_row, hI_ne (by decide)]
      by_cases z : t = e
      · rw [if_pos z, if_pos z]
        exact ⟨rfl, rfl⟩
      · rw [if_neg z, if_neg z]
        exact i t (by omega)
  exact H 10 0 0 h (by decide) rfl (fq_rfl _ _ _) fun k hk => absurd hk (Nat.not_lt_zero k)
theorem m_init (s : StM 327 D 0 h0 h) (z : ∀ k, hI h0 326 k = 0) : sat (qX12_init 326 h) fun y => Pre 416 (DMl ++ D) y.2 ∧ (∀ a k, a < 326 → hI y.2 a k = hI h0 a k ∧ hJ y.2 a k = hJ h0 a k) ∧ (∀ a k, 326 ≤ a → a < 416 → a ≠ 394 → a ≠ 404 → a ≠ 405 → (a ≠ 326 ∨ k ≠ 62) → hI y.2 a k = 0) ∧ hI y.2 326 62 = -1 ∧ (∀ k, k < 8 → hI y.2 394 k = -1) ∧ ∀ t, t < 10 → hI y.2 404 t = -60 ∧ hI y.2 405 t = 60 := by
  unfold qX12_init
  refine mi_0 s fun w0 s0 => mi_45 s0 fun w45 s45 => mi_96 s45 fun w96 s96 => mi_149 s96 fun w149 s149 => mi_199 s149 fun w199 s199 => mi_247 s199 fun w247 s247 => mi_299 s247 fun w299 s299 => mi_346 s299 fun w346 s346 => mi_394 s346 fun w394 s394 => mi_442 s394 fun w442 s442 => mi_490 s442 fun w490 s490 => mi_538 s490 fun w538 s538 => mi_586 s538 fun w586 s586 => mi_636 s586 fun w636 s636 => mi_685 s636 fun w685 s685 => mi_733 s685 fun w733 s733 => ?_
  have sE : StM 416 (DMl ++ D) (-1) h0 w733 := s733
  refine mi_743 sE fun h2 f i3 i4 => ?_
  obtain ⟨p, s1, s2, s3, s4⟩ := sE
  have fI : ∀ a k, a ≠ 394 → a ≠ 404 → a ≠ 405 → hI h2 a k = hI w733 a k := fun a k n1 n2 n3 => by
    refine f.C a ?_ rfl k
    rw [Bool.eq_false_iff]
    intro y
    obtain ⟨r, y1, y2, y3⟩ := inB_iff.mp y
    simp at y1
    rcases y1 with rfl | rfl <;> dsimp only at y2 y3 <;> omega
  have fJ : ∀ a k, a < 326 → hJ h2 a k = hJ w733 a k := fun a k ha => by
    refine f.J a ?_ k
    rw [Bool.eq_false_iff]
    intro y
    obtain ⟨r, y1, y2, y3⟩ := inB_iff.mp y
    simp at y1
    rcases y1 with rfl | rfl <;> dsimp only at y2 y3 <;> omega
  refine ⟨p.core f.1, fun a k ha => ⟨(fI a k (by omega) (by omega) (by omega)).trans (s1 a k (by omega) (Or.inl (by omega))), (fJ a k ha).trans (s3 a k (by omega))⟩, fun a k h1 h2' n1 n2 n3 n4 => ?_, (fI 326 62 (by decide) (by decide) (by decide)).trans s4, i3, i4⟩
  show hI h2 a k = 0
  rw [fI a k n1 n2 n3]
  by_cases q : a = 326
  · rw [s1 a k (by omega) n4, q]
    exact z k
  · exact s2 a k (by omega) h2'
end MI2
