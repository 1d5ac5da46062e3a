/-! the class's constructor: letters -/
section LI
variable {K a0 l5 : Nat} {D : List (Nat × Nat)} {h h0 : ea_H}
theorem c_letter (p : Pre K D h) (hK : a0 < K) (e5 : clA a0 = (5, l5)) (eK : clA K = (20, 4)) (w : (RFa.all fun q => !(decide (q.1 = a0) && decide (q.2.1 = 19)) || decide (q.2.2 = some K)) = true) : sat (qX5_init a0 h) fun y => Pre (K + 1) ((a0, 19) :: D) y.2 ∧ (∀ a k, a < K → a ≠ a0 → hI y.2 a k = hI h a k) ∧ (∀ k, hI y.2 K k = 0) ∧ (∀ k, hI y.2 a0 k = if k = 11 ∨ k = 12 then -1 else if k = 14 then 3 else hI h a0 k) ∧ ∀ a k, a < K → hJ y.2 a k = hJ h a k := by
  have en : ea_n h = K := p.1
  unfold qX5_init BX5_init_0
  refine sat_gd (p.c hK e5).1 (sat_let fun H2 q2 => ?_)
  have p2 : Pre K D H2 := q2 ▸ p.wi
  refine sat_gd (p2.c hK e5).1 (sat_let fun H4 q4 => ?_)
  have p4 : Pre K D H4 := q4 ▸ p2.wi
  refine sat_gd (p4.c hK e5).1 (sat_let fun H6 q6 => sat_let fun H7 q7 => ?_)
  have p6 : Pre K D H6 := q6 ▸ p4.wi
  have p7 : Pre (K + 1) D H7 := q7 ▸ p6.new 4 eK rfl
  have e6 : ea_n H6 = K := p6.1
  refine sat_gd (p7.c (by omega) e5).1 (sat_let fun H9 q9 => sat_ret ⟨?_, fun a k ha hn => ?_, fun k => ?_, fun k => ?_, fun a k ha => ?_⟩)
  · rw [q9, e6]
    exact p7.wr (by omega) w
  · rw [q9, wr_I, q7, new_I, if_neg (by omega), q6, hI_ne hn, q4, hI_ne hn, q2, hI_ne hn]
  · rw [q9, wr_I, q7, new_I, if_pos e6.symm]
  · rw [q9, wr_I, q7, new_I, if_neg (by omega), q6]
    by_cases c : k = 14
    · rw [c, hI_at, if_neg (by decide), if_pos rfl]
      rfl
    · rw [hI_nk c, if_neg c, q4]
      by_cases d : k = 12
      · rw [d, hI_at, if_pos (Or.inr rfl)]
        rfl
      · rw [hI_nk d, q2]
        by_cases e : k = 11
        · rw [e, hI_at, if_pos (Or.inl rfl)]
          rfl
        · rw [hI_nk e, if_neg (by omega)]
  · rw [q9, wr_J, q7, new_J, if_neg (by omega), q6, hJ_wi, q4, hJ_wi, q2, hJ_wi]
theorem le_cl : ∀ l, l < 120 → clA (76 + 2 * l) = (5, 0) ∧ clA (77 + 2 * l) = (20, 4) := by decide +kernel
theorem le_w1 : ∀ l, l < 120 → (RFa.all fun q => !(decide (q.1 = 76 + 2 * l) && decide (q.2.1 = 19)) || decide (q.2.2 = some (77 + 2 * l))) = true := by decide +kernel
theorem le_w2 : ∀ l, l < 120 → (RFa.all fun q => !(decide (q.1 = 49) && decide (q.2.1 = l)) || decide (q.2.2 = some (76 + 2 * l))) = true := by decide +kernel
def DL : Nat → List (Nat × Nat)
  | 0 => []
  | l + 1 => (49, l) :: (76 + 2 * l, 19) :: DL l
/-- the letters made so far -/
def StL (D : List (Nat × Nat)) (h0 : ea_H) (l : Nat) (h : ea_H) : Prop := Pre (76 + 2 * l) (DL l ++ D) h ∧ (∀ a k, a < 76 → hI h a k = hI h0 a k) ∧ (∀ j k, j < l → hI h (76 + 2 * j) k = if k = 11 ∨ k = 12 then -1 else if k = 14 then 3 else 0) ∧ ∀ a k, a < 76 → hJ h a k = hJ h0 a k
theorem c_letters {P : Unit × ea_H → Prop} (p0 : Pre 76 D h0) (m5 : (0, 5) ∈ D) (k : ∀ h, StL D h0 120 h → sat (qX11_init_216 0 0 h) P) : sat (qX11_init_189 0 0 h0) P := by
  have H : ∀ (j l : Nat) (x1 : Int32) (h : ea_H), l + j = 120 → x1.toInt = l → StL D h0 l h → sat (qX11_init_189 0 x1 h) P := by
    intro j
    induction j with
    | zero =>
      intro l x1 h hl e1 s
      refine uqX11_init_189 ?_
      unfold BX11_init_189
      have el : l = 120 := by omega
      subst el
      exact sat_pos (by rw [n_le, l_120, e1]; decide) (k h s)
    | succ j ih =>
      intro l x1 h hl e1 s
      obtain ⟨p, s1, s2, s3⟩ := s
      have hl' : l < 120 := by omega
      obtain ⟨c1, c2⟩ := le_cl l hl'
      have en : ea_n h = 76 + 2 * l := p.1
      have r5 : ea_r h 0 5 = some 49 := p.r (List.mem_append_right _ m5) (by decide +kernel)
      have ic : x1.toNatClampNeg = l := by
        rw [n_idx, e1]
        rfl
      refine uqX11_init_189 ?_
      unfold BX11_init_189
      rw [r5, ic, en]
      dsimp only [Option.getD]
      refine sat_neg (by rw [n_le, l_120, e1]; omega) (sat_gd ⟨by omega, (p.c (b := 0) (c := 11) (l := 0) (by omega) rfl).1.2⟩ (sat_let fun H62 q62 => ?_))
      have p62 : Pre (77 + 2 * l) (DL l ++ D) H62 := by
        rw [q62, show 77 + 2 * l = 76 + 2 * l + 1 by omega]
        exact p.new 20 c1 rfl
      have i62 : ∀ a k, hI H62 a k = if a = 76 + 2 * l then 0 else hI h a k := fun a k => by rw [q62, new_I, en]
      refine sat_bind (c_letter p62 (by omega) c1 c2 (le_w1 l hl')) fun w63 hw => ?_
      obtain ⟨p63, t1, t2, t3, t4⟩ := hw
      obtain ⟨g49, l49⟩ := p63.c (b := 49) (c := 23) (l := 120) (by omega) rfl
      rw [l49]
      refine sat_gd rfl (sat_gd g49 (sat_gd (vp80 e1 hl') (sat_gd (p63.c (by omega) c1).1 (sat_let fun H68 q68 => ?_))))
      refine ih (l + 1) (x1 + 1) H68 (by omega) (n_inc e1 (by omega)) ⟨?_, fun a k ha => ?_, fun i k hi => ?_, fun a k ha => ?_⟩
      · rw [q68, show 76 + 2 * (l + 1) = 77 + 2 * l + 1 by omega]
        exact p63.wr (by omega) (le_w2 l hl')
      · rw [q68, wr_I, t1 a k (by omega) (by omega), i62, if_neg (by omega)]
        exact s1 a k ha
      · rw [q68, wr_I]
        by_cases z : i = l
        · rw [z, t3 k, i62, if_pos rfl]
        · rw [t1 _ k (by omega) (by omega), i62, if_neg (by omega)]
          exact s2 i k (by omega)
      · rw [q68, wr_J, t4 a k (by omega), q62, new_J, if_neg (by omega)]
        exact s3 a k ha
  exact H 120 0 0 h0 (by decide) rfl ⟨p0, fun _ _ _ => rfl, fun j k hj => absurd hj (Nat.not_lt_zero j), fun _ _ _ => rfl⟩
end LI
