/-! the class's constructor: clocks; both made -/
section CK2
variable {K l a0 : Nat} {D : List (Nat × Nat)} {h h0 : ea_H}
theorem c_clockI (p : Pre K D h) (ha : a0 < K) (e : clA a0 = (2, l)) : sat (qX2_init a0 h) fun y => Pre K D y.2 ∧ (∀ a k, a ≠ a0 → hI y.2 a k = hI h a k) ∧ (∀ k, hI y.2 a0 k = if k = 1 then -60 else if k = 2 then 60 else hI h a0 k) ∧ ∀ a k, hJ y.2 a k = hJ h a k := by
  unfold qX2_init BX2_init_0
  refine sat_gd (p.c ha e).1 (sat_let fun H2 q2 => ?_)
  have p2 : Pre K D H2 := q2 ▸ p.wi
  refine sat_gd (p2.c ha e).1 (sat_let fun H4 q4 => sat_ret ⟨q4 ▸ p2.wi, fun a k hn => ?_, fun k => ?_, fun a k => ?_⟩)
  · rw [q4, hI_ne hn, q2, hI_ne hn]
  · rw [q4]
    by_cases z : k = 2
    · rw [z, hI_at]
      rfl
    · rw [hI_nk z, q2]
      by_cases y : k = 1
      · rw [y, hI_at, if_pos rfl]
        rfl
      · rw [hI_nk y, if_neg y, if_neg z]
  · rw [q4, hJ_wi, q2, hJ_wi]
theorem ck_cl : ∀ t, t < 10 → clA (316 + t) = (2, 0) := by decide +kernel
theorem ck_w : ∀ t, t < 10 → (RFa.all fun q => !(decide (q.1 = 72) && decide (q.2.1 = t)) || decide (q.2.2 = some (316 + t))) = true := by decide +kernel
def DK : Nat → List (Nat × Nat)
  | 0 => []
  | t + 1 => (72, t) :: DK t
def StK (D : List (Nat × Nat)) (h0 : ea_H) (t : Nat) (h : ea_H) : Prop := Pre (316 + t) (DK t ++ D) h ∧ (∀ a k, a < 316 → hI h a k = hI h0 a k) ∧ (∀ j k, j < t → hI h (316 + j) k = if k = 1 then -60 else if k = 2 then 60 else 0) ∧ ∀ a k, a < 316 → hJ h a k = hJ h0 a k
theorem c_clocks {P : Unit × ea_H → Prop} (p0 : Pre 316 D h0) (m9 : (0, 9) ∈ D) (k : ∀ h, StK D h0 10 h → P ((), h)) : sat (qX11_init_216 0 0 h0) P := by
  have H : ∀ (j t : Nat) (x1 : Int32) (h : ea_H), t + j = 10 → x1.toInt = t → StK D h0 t h → sat (qX11_init_216 0 x1 h) P := by
    intro j
    induction j with
    | zero =>
      intro t x1 h ht e1 s
      have et : t = 10 := by omega
      subst et
      refine uqX11_init_216 ?_
      unfold BX11_init_216
      exact sat_pos (by rw [n_le, l_10, e1]; decide) (sat_ret (k h s))
    | succ j ih =>
      intro t x1 h ht e1 s
      obtain ⟨p, s1, s2, s3⟩ := s
      have ht' : t < 10 := by omega
      have en : ea_n h = 316 + t := p.1
      have r9 : ea_r h 0 9 = some 72 := p.r (List.mem_append_right _ m9) (by decide +kernel)
      have ic : x1.toNatClampNeg = t := by
        rw [n_idx, e1]
        rfl
      refine uqX11_init_216 ?_
      unfold BX11_init_216
      rw [r9, ic, en]
      dsimp only [Option.getD]
      refine sat_neg (by rw [n_le, l_10, e1]; omega) (sat_gd ⟨by omega, (p.c (b := 0) (c := 11) (l := 0) (by omega) rfl).1.2⟩ (sat_let fun H71 q71 => ?_))
      have p71 : Pre (316 + t + 1) (DK t ++ D) H71 := by
        rw [q71]
        exact p.new 3 (ck_cl t ht') rfl
      have i71 : ∀ a k, hI H71 a k = if a = 316 + t then 0 else hI h a k := fun a k => by rw [q71, new_I, en]
      refine sat_bind (c_clockI p71 (by omega) (ck_cl t ht')) fun w72 hw => ?_
      obtain ⟨p72, t1, t2, t3⟩ := hw
      obtain ⟨g72, l72⟩ := p72.c (b := 72) (c := 24) (l := 10) (by omega) rfl
      rw [l72]
      refine sat_gd rfl (sat_gd g72 (sat_gd (vp80 e1 ht') (sat_gd (p72.c (by omega) (ck_cl t ht')).1 (sat_let fun H77 q77 => ?_))))
      refine ih (t + 1) (x1 + 1) H77 (by omega) (n_inc e1 (by omega)) ⟨?_, fun a k ha => ?_, fun i k hi => ?_, fun a k ha => ?_⟩
      · rw [q77]
        exact p72.wr (by omega) (ck_w t ht')
      · rw [q77, wr_I, t1 a k (by omega), i71, if_neg (by omega)]
        exact s1 a k ha
      · rw [q77, wr_I]
        by_cases z : i = t
        · rw [z, t2, i71, if_pos rfl]
        · rw [t1 _ _ (by omega), i71, if_neg (by omega)]
          exact s2 i k (by omega)
      · rw [q77, wr_J, t3, q71, new_J, if_neg (by omega)]
        exact s3 a k ha
  exact H 10 0 0 h0 rfl rfl ⟨p0, fun _ _ _ => rfl, fun j k hj => absurd hj (Nat.not_lt_zero j), fun _ _ _ => rfl⟩
def DC : List (Nat × Nat) := DK 10 ++ (DL 120 ++ DC1)
/-- what the class's constructor leaves -/
def InC (h : ea_H) : Prop := Pre 326 DC h ∧ Rd0 h ∧ (∀ a k, a < 76 → a ≠ 2 → a ≠ 3 → a ≠ 4 → (a ≠ 24 ∨ k ≠ 2) → hI h a k = 0) ∧ hI h 24 2 = -1 ∧ (∀ k, hJ h 51 k = 0) ∧ (∀ l k, l < 120 → hI h (76 + 2 * l) k = if k = 11 ∨ k = 12 then -1 else if k = 14 then 3 else 0) ∧ ∀ t k, t < 10 → hI h (316 + t) k = if k = 1 then -60 else if k = 2 then 60 else 0
theorem c_init (p : Pre 1 [] h) (z : ∀ k, hI h 0 k = 0 ∧ hJ h 0 k = 0) : sat (qX11_init 0 h) fun y => InC y.2 := by
  refine ci_11 p z fun g h1 rd z2 s => ?_
  obtain ⟨p1, s1, s2, s3, s4⟩ := s
  refine c_letters (D := DC1) p1 (by decide +kernel) fun h2 sl => ?_
  obtain ⟨p2, t1, t2, t3⟩ := sl
  refine c_clocks (D := DL 120 ++ DC1) p2 (List.mem_append_right _ (by decide +kernel)) fun h3 sk => ?_
  obtain ⟨p3, u1, u2, u3⟩ := sk
  have lo : ∀ a k, a < 5 → hI h3 a k = hI g a k := fun a k ha => (u1 a k (by omega)).trans ((t1 a k (by omega)).trans (s1 a k ha))
  obtain ⟨r1, ⟨D0, r2, r3⟩, D1, r4, r5⟩ := rd
  refine ⟨p3, ⟨fun a b ha hb => (lo 2 _ (by decide)).trans (r1 a b ha hb), ⟨D0, r2, fun a b ha hb => (lo 3 _ (by decide)).trans (r3 a b ha hb)⟩, D1, r4, fun a b ha hb => (lo 4 _ (by decide)).trans (r5 a b ha hb)⟩, fun a k ha h2 h3' h4 h5 => ?_, ?_, fun k => ?_, fun l k hl => ?_, fun t k ht => u2 t k ht⟩
  · by_cases y : a < 2
    · rw [lo a k (by omega)]
      exact z2 a k y
    · rw [u1 a k (by omega), t1 a k ha]
      exact s2 a k (by omega) ha h5
  · rw [u1 24 2 (by decide), t1 24 2 (by decide)]
    exact s4 (by decide)
  · rw [u3 51 k (by decide), t3 51 k (by decide)]
    exact s3 (by decide) k
  · rw [u1 _ k (by omega)]
    exact t2 l k hl
theorem all_w : (RFa.all fun q => (DMl ++ DC).any fun d => decide (d = (q.1, q.2.1))) = true := by decide +kernel
theorem sA_416 : sA 416 ≤ 7302250 := by decide +kernel
theorem both_init (p : Pre 326 DC h) (i : InC h) : sat (qX12_init 326 (ea_new h 12 0 118)) fun z => Fst z.2 ∧ ea_n z.2 = 416 ∧ ea_s z.2 ≤ 7302250 := by
  obtain ⟨-, ⟨r1, r2, r3⟩, i1, i2, i3, i4, i5⟩ := i
  have en : ea_n h = 326 := p.1
  have p1 : Pre 327 DC (ea_new h 12 0 118) := p.new 118 rfl rfl
  have z326 : ∀ k, hI (ea_new h 12 0 118) 326 k = 0 := fun k => by rw [new_I, if_pos en.symm]
  have lo : ∀ a k, a < 326 → hI (ea_new h 12 0 118) a k = hI h a k ∧ hJ (ea_new h 12 0 118) a k = hJ h a k := fun a k ha => by
    rw [new_I, new_J, if_neg (by omega), if_neg (by omega)]
    exact ⟨rfl, rfl⟩
  refine sat_mono (m_init (D := DC) (h0 := ea_new h 12 0 118) (h := ea_new h 12 0 118) ⟨p1, fun _ _ _ _ => rfl, fun a k h1 h2 => absurd h2 (by omega), fun _ _ _ => rfl, z326 62⟩ z326) fun y hy => ?_
  obtain ⟨q, m1, m2, m3, m4, m5⟩ := hy
  obtain ⟨sC, sM⟩ := q.fin all_w
  have C : ∀ a k, a < 326 → hI y.2 a k = hI h a k := fun a k ha => ((m1 a k ha).1).trans (lo a k ha).1
  refine ⟨⟨sC, sM, fun a k ha a2 a3 a4 a24 a76 a94 a04 a05 a62 => ?_, fun l k hl => (C _ k (by omega)).trans (i4 l k hl), fun t ht => ⟨(C _ 0 (by omega)).trans (i5 t 0 ht), (C _ 1 (by omega)).trans (i5 t 1 ht), (C _ 2 (by omega)).trans (i5 t 2 ht)⟩, ⟨?_, ?_, ?_, ?_, m3⟩, m4, m5, fun k => ((m1 51 k (by decide)).2).trans ((lo 51 k (by decide)).2.trans (i3 k)), fun a b ha hb => (C 2 _ (by decide)).trans (r1 a b ha hb), ?_, ?_⟩, q.1, ?_⟩
  · by_cases y' : a < 326
    · rw [C a k y']
      exact i1 a k (by omega) a2 a3 a4 (Or.inl a24)
    · exact m2 a k (by omega) ha a94 a04 a05 a62
  · rw [C 24 0 (by decide)]
    exact i1 24 0 (by decide) (by decide) (by decide) (by decide) (Or.inr (by decide))
  · rw [C 24 1 (by decide)]
    exact i1 24 1 (by decide) (by decide) (by decide) (by decide) (Or.inr (by decide))
  · rw [C 24 2 (by decide)]
    exact i2
  · rw [C 24 9 (by decide)]
    exact i1 24 9 (by decide) (by decide) (by decide) (by decide) (Or.inr (by decide))
  · obtain ⟨D0, d1, d2⟩ := r2
    exact ⟨D0, d1, fun a b ha hb => (C 3 _ (by decide)).trans (d2 a b ha hb)⟩
  · obtain ⟨D1, d1, d2⟩ := r3
    exact ⟨D1, d1, fun a b ha hb => (C 4 _ (by decide)).trans (d2 a b ha hb)⟩
  · rw [q.2.2.2.2]
    exact sA_416
end CK2
