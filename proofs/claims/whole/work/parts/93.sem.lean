/-! the class: a letter moves -/
theorem inB_no {a b c : Nat} (h : c < a) : inB [(b, c)] a = false := by
  rw [Bool.eq_false_iff]
  intro z
  obtain ⟨q, q1, q2, q3⟩ := inB_iff.mp z
  rw [List.mem_singleton.mp q1] at q3
  have : a ≤ c := q3
  omega
theorem outP_one {a b c : Nat} {q : Nat × Nat} (h : a < b ∨ c < a) : outP [((b, c), q)] a = true := by
  show ((decide (a < b) || decide (c < a)) && true) = true
  rw [Bool.and_true, Bool.or_eq_true, decide_eq_true_eq, decide_eq_true_eq]
  exact h
theorem outP_no {a b c : Nat} {q : Nat × Nat} (h : c < a) (hb : b ≤ c) : outP [((b, c), q)] a = true := outP_one (Or.inr h)
theorem mkB_fq {A : List (Nat × Nat)} {B : List ((Nat × Nat) × Nat × Nat)} {h h' : ea_H} (f : fq A B h h') (w : inB A 51 = false) (c l : Nat) : mkB h' c l = mkB h c l := by
  unfold mkB
  have : ea_j h' 51 (2 * c + l / 64) = ea_j h 51 (2 * c + l / 64) := n_eqJ.mpr (f.J 51 w _)
  rw [this]
/-- letters not yet posted have no rows, and no run has left one -/
def UN (m : Nat) (h : ea_H) : Prop := ∀ l, m ≤ l → l < 120 → hI h (76 + 2 * l) 16 = 0 ∧ hI h 56 l = 0 ∧ ∀ c, mkB h c l = false
theorem UN_mk {b b' : Bool} {P : Prop} {l j : Nat} (z : b' = true ↔ b = true ∨ (P ∧ l = j)) (h : l ≠ j) (hb : b = false) : b' = false := by
  rw [Bool.eq_false_iff]
  intro w
  rcases z.mp w with w | w
  · rw [hb] at w
    cases w
  · exact h w.2
def RN (m : Nat) (X : Nat → Nat → Int) (h : ea_H) : Prop := (∀ l, l < m → hI h (76 + 2 * l) 16 = X 7 l ∧ hI h (76 + 2 * l) 17 = X 8 (1000 * l + (X 7 l - 1).toNat) * 1024 + X 9 (1000 * l + (X 7 l - 1).toNat) * 128 + X 10 (1000 * l + (X 7 l - 1).toNat)) ∧ UN m h
def RC52 (m : Nat) (X : Nat → Nat → Int) (h : ea_H) : Prop := (hI h 52 0 = m ∧ m ≤ 120) ∧ (∀ l, l < m → hI h 53 l = X 0 l ∧ hI h 54 l = X 1 l ∧ hI h 56 l = X 3 l ∧ (X 0 l = 1 → hI h 55 l = X 2 l ∧ hI h 57 l = X 4 l) ∧ (X 0 l = 2 ∨ X 0 l = 3 → hI h 59 l = X 5 l)) ∧ (∀ r, r < 70 → hI h 58 r = X 6 r) ∧ (∀ a : Nat, a < 12 → hI h 60 a = cnt (fun q => X 0 q = 0 ∧ X 1 q = a) m) ∧ (∀ r : Nat, r < 70 → hI h 61 r = cnt (fun q => X 0 q = 1 ∧ X 1 q = r) m) ∧ hI h 52 10 = cnt (fun q => X 0 q = 0 ∨ X 0 q = 1) m ∧ ∀ k, hI h 57 k = 0 ∨ hI h 57 k = 1
theorem c_move52 {m l : Nat} {X : Nat → Nat → Int} {mn st pl : Int} {x1 x2 x3 x4 : Int32} (e1 : x1.toInt = l) (e2 : x2.toInt = mn) (e3 : x3.toInt = st) (e4 : x4.toInt = pl) {h : ea_H} (hs : ShC h) (hl : l < m) (r : RC52 m X h) (hX0 : X 0 l = 0 → 0 ≤ X 1 l ∧ X 1 l < 12) (hX1 : X 0 l = 1 → 0 ≤ X 1 l ∧ X 1 l < 70) (s0 : 0 ≤ st) (s1 : st ≤ 6) (t0 : st = 0 → 0 ≤ pl ∧ pl < 12) (t1 : st = 1 → 0 ≤ pl ∧ pl < 70) (p0 : 0 ≤ pl) (p1 : pl < 128) (m0 : 0 ≤ mn) (m1 : mn ≤ 10079) (hg : st = 1 → hI h 55 l = X 2 l) (rn : RN m X h) (h7a : ∀ k, k < m → 1 ≤ X 7 k ∧ X 7 k < 1001) (h7b : X 7 l < 1000) :
    sat (qX1_move_at52 x1 x2 x3 x4 h) fun y => fq [(53, 54), (57, 57), (59, 61)] [((52, 52), 10, 10), ((76, 315), 16, 17)] h y.2 ∧ RC52 m (mvX X l mn st pl) y.2 ∧ RN m (mvX X l mn st pl) y.2 := by
  obtain ⟨⟨r0, r1⟩, r2, r3, r4, r5, r6, r7⟩ := r
  have hl' : l < 120 := by omega
  have g1 := vp80 e1 hl'
  have ic : x1.toNatClampNeg = l := by
    rw [n_idx, e1]
    rfl
  have v0 : (ea_i h 53 l).toInt = X 0 l := (r2 l hl).1
  have v1 : (ea_i h 54 l).toInt = X 1 l := (r2 l hl).2.1
  have cb := fun (P : Nat → Prop) => cnt_b P m
  have h7 := (h7a l hl).1
  -- the last step
  have stepC : ∀ h2 : ea_H, fq [(60, 61)] [((52, 52), 10, 10)] h h2 → (∀ a : Nat, a < 12 → hI h2 60 a = cnt (fun q => X 0 q = 0 ∧ X 1 q = a) m - one (X 0 l = 0 ∧ X 1 l = a) + one (st = 0 ∧ pl = a)) → (∀ q : Nat, q < 70 → hI h2 61 q = cnt (fun k => X 0 k = 1 ∧ X 1 k = q) m - one (X 0 l = 1 ∧ X 1 l = q) + one (st = 1 ∧ pl = q)) → hI h2 52 10 = cnt (fun q => X 0 q = 0 ∨ X 0 q = 1) m - one (X 0 l = 0 ∨ X 0 l = 1) + one (st = 0 ∨ st = 1) →
      sat (qX1_move_at52_126 x1 x2 x3 x4 h2) fun y => fq [(53, 54), (57, 57), (59, 61)] [((52, 52), 10, 10), ((76, 315), 16, 17)] h y.2 ∧ RC52 m (mvX X l mn st pl) y.2 ∧ RN m (mvX X l mn st pl) y.2 := by
    intro h2 f2 B8 B9 B10
    refine uqX1_move_at52_126 ?_
    unfold BX1_move_at52_126
    rw [ic]
    refine sat_gd g1 (sat_let fun H26 q26 => sat_gd g1 (sat_let fun H28 q28 => sat_gd g1 (sat_let fun H30 q30 => sat_gd g1 (sat_let fun H32 q32 => ?_))))
    have f32 : fq [(53, 54), (57, 57), (59, 59)] [] h2 H32 := (q26 ▸ fq_wi rfl : fq [(53, 54), (57, 57), (59, 59)] [] h2 H26).tr ((q28 ▸ fq_wi rfl : fq [(53, 54), (57, 57), (59, 59)] [] H26 H28).tr ((q30 ▸ fq_wi rfl : fq [(53, 54), (57, 57), (59, 59)] [] H28 H30).tr (q32 ▸ fq_wi rfl)))
    have fin : ∀ h3 : ea_H, fq [] [((76, 315), 16, 17)] H32 h3 → RC52 m (mvX X l mn st pl) h3 := by
      intro h3 f3
      have F : ∀ k, hI h3 53 k = if k = l then st else hI h 53 k := fun k => by
        rw [f3.C 53 rfl rfl, q32, hI_ne (by decide), q30, hI_ne (by decide), q28, hI_ne (by decide), q26, hI_row, e3, f2.C 53 rfl rfl]
      have F2 : ∀ k, hI h3 54 k = if k = l then pl else hI h 54 k := fun k => by
        rw [f3.C 54 rfl rfl, q32, hI_ne (by decide), q30, hI_ne (by decide), q28, hI_row, e4, q26, hI_ne (by decide), f2.C 54 rfl rfl]
      have F7 : ∀ k, hI h3 59 k = if k = l then mn else hI h 59 k := fun k => by
        rw [f3.C 59 rfl rfl, q32, hI_ne (by decide), q30, hI_row, e2, q28, hI_ne (by decide), q26, hI_ne (by decide), f2.C 59 rfl rfl]
      have F5 : ∀ k, hI h3 57 k = if k = l then 0 else hI h 57 k := fun k => by
        rw [f3.C 57 rfl rfl, q32, hI_row, q30, hI_ne (by decide), q28, hI_ne (by decide), q26, hI_ne (by decide), f2.C 57 rfl rfl]
        rfl
      have F3 : ∀ k, hI h3 55 k = hI h 55 k := fun k => by rw [f3.C 55 rfl rfl, f32.C 55 rfl rfl, f2.C 55 rfl rfl]
      have F4 : ∀ k, hI h3 56 k = hI h 56 k := fun k => by rw [f3.C 56 rfl rfl, f32.C 56 rfl rfl, f2.C 56 rfl rfl]
      have F6 : ∀ k, hI h3 58 k = hI h 58 k := fun k => by rw [f3.C 58 rfl rfl, f32.C 58 rfl rfl, f2.C 58 rfl rfl]
      have F8 : ∀ k, hI h3 60 k = hI h2 60 k := fun k => by rw [f3.C 60 rfl rfl, f32.C 60 rfl rfl]
      have F9 : ∀ k, hI h3 61 k = hI h2 61 k := fun k => by rw [f3.C 61 rfl rfl, f32.C 61 rfl rfl]
      have F0 : hI h3 52 0 = hI h 52 0 := by rw [f3.C 52 rfl rfl, f32.C 52 rfl rfl, f2.I 52 rfl 0 rfl]
      have F10 : hI h3 52 10 = hI h2 52 10 := by rw [f3.C 52 rfl rfl, f32.C 52 rfl rfl]
      refine ⟨⟨F0.trans r0, r1⟩, fun k hk => ?_, fun q hq => ?_, fun a ha => ?_, fun q hq => ?_, ?_, fun k => ?_⟩
      · obtain ⟨w0, w1, w3, w4, w5⟩ := r2 k hk
        rw [F, F2, F3, F4, F5, F7, mvX_0, mvX_1, mvX_2, mvX_3, mvX_4, mvX_5]
        by_cases q : k = l
        · rw [if_pos q, if_pos q, if_pos q, if_pos q, if_pos q, if_pos q, if_pos q, if_pos q]
          refine ⟨rfl, rfl, w3, fun z => ⟨?_, rfl⟩, fun _ => rfl⟩
          rw [q]
          exact hg z
        · rw [if_neg q, if_neg q, if_neg q, if_neg q, if_neg q, if_neg q, if_neg q, if_neg q]
          exact ⟨w0, w1, w3, w4, w5⟩
      · rw [F6, mvX_6]
        exact r3 q hq
      · have e := cnt_upd (P := fun q => X 0 q = 0 ∧ X 1 q = a) (Q := fun q => mvX X l mn st pl 0 q = 0 ∧ mvX X l mn st pl 1 q = a) hl fun k hk hkl => by rw [mvX_0, mvX_1, if_neg hkl, if_neg hkl]
        rw [mvX_0, mvX_1, if_pos rfl, if_pos rfl] at e
        rw [F8, B8 a ha, e]
      · have e := cnt_upd (P := fun k => X 0 k = 1 ∧ X 1 k = q) (Q := fun k => mvX X l mn st pl 0 k = 1 ∧ mvX X l mn st pl 1 k = q) hl fun k hk hkl => by rw [mvX_0, mvX_1, if_neg hkl, if_neg hkl]
        rw [mvX_0, mvX_1, if_pos rfl, if_pos rfl] at e
        rw [F9, B9 q hq, e]
      · have e := cnt_upd (P := fun q => X 0 q = 0 ∨ X 0 q = 1) (Q := fun q => mvX X l mn st pl 0 q = 0 ∨ mvX X l mn st pl 0 q = 1) hl fun k hk hkl => by rw [mvX_0, if_neg hkl]
        rw [mvX_0, if_pos rfl] at e
        rw [F10, B10, e]
      · rw [F5]
        split
        · exact Or.inl rfl
        · exact r7 k
    have hs32 : ShC H32 := ShC_core f32.1 (ShC_core f2.1 hs)
    obtain ⟨k1, k2⟩ := ltr_ref hs32 hl'
    rw [k1]
    have c16 : hI H32 (76 + 2 * l) 16 = X 7 l := by
      rw [f32.C (76 + 2 * l) (inB_sub (A := [(52, 62)]) rfl _ (inB_no (by show 62 < 76 + 2 * l; omega))) rfl, f2.C (76 + 2 * l) (inB_sub (A := [(52, 62)]) rfl _ (inB_no (by show 62 < 76 + 2 * l; omega))) (outP_no (b := 52) (c := 52) (by omega) (by decide))]
      exact (rn.1 l hl).1
    refine sat_gd g1 (sat_gd rfl (sat_gd k2 (sat_bind (c_note e2 e3 e4 m0 m1 s0 s1 p0 p1 hl' hs32 c16 (by omega) h7b) fun y hy => sat_ret ?_)))
    obtain ⟨y1, y2, y3⟩ := hy
    have f3 : fq [] [((76, 315), 16, 17)] H32 y.2 := y1.wid (fun a ha => ha) fun a k _ hk => by
      rw [Bool.eq_false_iff] at hk ⊢
      intro z
      obtain ⟨q, q1, q2, q3⟩ := inP_iff.mp z
      rw [List.mem_singleton.mp q1] at q2 q3
      exact hk (inP_at (r := ((76, 315), 16, 17)) List.mem_cons_self (by show 76 ≤ a; have := q2.1; dsimp only at this; omega) (by show a ≤ 315; have := q2.2; dsimp only at this; omega) q3.1 q3.2)
    have un : UN m y.2 := fun k hk hk2 => by
      obtain ⟨u1, u2, u3⟩ := rn.2 k hk hk2
      refine ⟨?_, ?_, fun c => ((mkB_fq f3 rfl c k).trans ((mkB_fq f32 rfl c k).trans (mkB_fq f2 rfl c k))).trans (u3 c)⟩
      · rw [y1.C (76 + 2 * k) rfl (outP_one (by omega)), f32.C (76 + 2 * k) (inB_sub (A := [(52, 62)]) rfl _ (inB_no (by show 62 < 76 + 2 * k; omega))) rfl, f2.C (76 + 2 * k) (inB_sub (A := [(52, 62)]) rfl _ (inB_no (by show 62 < 76 + 2 * k; omega))) (outP_no (b := 52) (c := 52) (by omega) (by decide))]
        exact u1
      · rw [f3.C 56 rfl rfl, f32.C 56 rfl rfl, f2.C 56 rfl rfl]
        exact u2
    refine ⟨(f2.up rfl rfl).tr ((f32.up rfl rfl).tr (f3.up rfl rfl)), fin y.2 f3, fun k hk => ?_, un⟩
    rw [mvX_7, mvX_8, mvX_9, mvX_10]
    by_cases q : k = l
    · subst q
      rw [if_pos rfl, if_pos (by omega), if_pos (by omega), if_pos (by omega)]
      exact ⟨y2, y3⟩
    · have hn := rn.1 k hk
      have o1 : ∀ c : Nat, hI y.2 (76 + 2 * k) c = hI h (76 + 2 * k) c := fun c => by
        rw [y1.C (76 + 2 * k) rfl (outP_one (by omega)), f32.C (76 + 2 * k) (inB_sub (A := [(52, 62)]) rfl _ (inB_no (by show 62 < 76 + 2 * k; omega))) rfl, f2.C (76 + 2 * k) (inB_sub (A := [(52, 62)]) rfl _ (inB_no (by show 62 < 76 + 2 * k; omega))) (outP_no (b := 52) (c := 52) (by omega) (by decide))]
      by_cases hk1 : 1 ≤ X 7 k ∧ X 7 k < 1001
      · rw [if_neg q, o1, o1, if_neg (by omega), if_neg (by omega), if_neg (by omega)]
        exact hn
      · exact absurd (h7a k hk) hk1
  -- the step ahead of it
  have stepB : ∀ h1 : ea_H, fq [(60, 61)] [((52, 52), 10, 10)] h h1 → (∀ a : Nat, a < 12 → hI h1 60 a = cnt (fun q => X 0 q = 0 ∧ X 1 q = a) m - one (X 0 l = 0 ∧ X 1 l = a)) → (∀ q : Nat, q < 70 → hI h1 61 q = cnt (fun k => X 0 k = 1 ∧ X 1 k = q) m - one (X 0 l = 1 ∧ X 1 l = q)) → hI h1 52 10 = cnt (fun q => X 0 q = 0 ∨ X 0 q = 1) m - one (X 0 l = 0 ∨ X 0 l = 1) →
      sat (qX1_move_at52_72 x1 x2 x3 x4 h1) fun y => fq [(53, 54), (57, 57), (59, 61)] [((52, 52), 10, 10), ((76, 315), 16, 17)] h y.2 ∧ RC52 m (mvX X l mn st pl) y.2 ∧ RN m (mvX X l mn st pl) y.2 := by
    intro h1 f1 A8 A9 A10
    have b10 := cb fun q => X 0 q = 0 ∨ X 0 q = 1
    have o10 := one_b (X 0 l = 0 ∨ X 0 l = 1)
    refine uqX1_move_at52_72 ?_
    unfold BX1_move_at52_72
    refine sat_ite (fun c => ?_) fun c => ?_
    · rw [n_eq, e3, l_0] at c
      have hp := t0 c
      have e4' : x4.toInt = (pl.toNat : Int) := by omega
      have ic4 : x4.toNatClampNeg = pl.toNat := by
        rw [n_idx, e4]
      have gp := vp80 e4' (show pl.toNat < 12 by omega)
      rw [ic4]
      refine sat_gd gp (sat_gd gp (sat_let fun H22 q22 => sat_let fun H23 q23 => ?_))
      have r22 : ea_i H22 52 10 = ea_i h1 52 10 := by
        rw [q22]
        exact i_ne (by decide)
      rw [r22] at q23
      have f23 : fq [(60, 61)] [((52, 52), 10, 10)] h1 H23 := (q22 ▸ fq_wi rfl : fq [(60, 61)] [((52, 52), 10, 10)] h1 H22).tr (q23 ▸ fq_wf rfl)
      refine stepC H23 (f1.tr f23) (fun a ha => ?_) (fun q hq => ?_) ?_
      · have b8 := cb fun q => X 0 q = 0 ∧ X 1 q = (a : Int)
        have o8 := one_b (X 0 l = 0 ∧ X 1 l = (a : Int))
        have A := A8 a ha
        rw [q23, hI_ne (by decide), q22, hI_row]
        by_cases z : a = pl.toNat
        · rw [if_pos z, n_add, hI_eq, ← z, A, l_1, n_bm (by omega) (by omega), one_pos (show st = 0 ∧ pl = (a : Int) from ⟨c, by omega⟩)]
        · rw [if_neg z, A, one_neg (show ¬ (st = 0 ∧ pl = (a : Int)) from fun w => z (by omega))]
          omega
      · rw [q23, hI_ne (by decide), q22, hI_ne (by decide), A9 q hq, one_neg (show ¬ (st = 1 ∧ pl = (q : Int)) from fun w => by omega)]
        omega
      · rw [q23, hI_at, n_add, hI_eq, A10, l_1, n_bm (by omega) (by omega), one_pos (show st = 0 ∨ st = 1 from Or.inl c)]
    rw [n_eq, e3, l_0] at c
    refine sat_ite (fun c2 => ?_) fun c2 => ?_
    · rw [n_eq, e3, l_1] at c2
      have hp := t1 c2
      have e4' : x4.toInt = (pl.toNat : Int) := by omega
      have ic4 : x4.toNatClampNeg = pl.toNat := by
        rw [n_idx, e4]
      have gp := vp80 e4' (show pl.toNat < 70 by omega)
      rw [ic4]
      refine sat_gd gp (sat_gd gp (sat_let fun H22 q22 => sat_let fun H23 q23 => ?_))
      have r22 : ea_i H22 52 10 = ea_i h1 52 10 := by
        rw [q22]
        exact i_ne (by decide)
      rw [r22] at q23
      have f23 : fq [(60, 61)] [((52, 52), 10, 10)] h1 H23 := (q22 ▸ fq_wi rfl : fq [(60, 61)] [((52, 52), 10, 10)] h1 H22).tr (q23 ▸ fq_wf rfl)
      refine stepC H23 (f1.tr f23) (fun a ha => ?_) (fun q hq => ?_) ?_
      · rw [q23, hI_ne (by decide), q22, hI_ne (by decide), A8 a ha, one_neg (show ¬ (st = 0 ∧ pl = (a : Int)) from fun w => by omega)]
        omega
      · have b8 := cb fun k => X 0 k = 1 ∧ X 1 k = (q : Int)
        have o8 := one_b (X 0 l = 1 ∧ X 1 l = (q : Int))
        have A := A9 q hq
        rw [q23, hI_ne (by decide), q22, hI_row]
        by_cases z : q = pl.toNat
        · rw [if_pos z, n_add, hI_eq, ← z, A, l_1, n_bm (by omega) (by omega), one_pos (show st = 1 ∧ pl = (q : Int) from ⟨c2, by omega⟩)]
        · rw [if_neg z, A, one_neg (show ¬ (st = 1 ∧ pl = (q : Int)) from fun w => z (by omega))]
          omega
      · rw [q23, hI_at, n_add, hI_eq, A10, l_1, n_bm (by omega) (by omega), one_pos (show st = 0 ∨ st = 1 from Or.inr c2)]
    rw [n_eq, e3, l_1] at c2
    refine stepC h1 f1 (fun a ha => ?_) (fun q hq => ?_) ?_
    · rw [A8 a ha, one_neg (show ¬ (st = 0 ∧ pl = (a : Int)) from fun w => c w.1)]
      omega
    · rw [A9 q hq, one_neg (show ¬ (st = 1 ∧ pl = (q : Int)) from fun w => c2 w.1)]
      omega
    · rw [A10, one_neg (show ¬ (st = 0 ∨ st = 1) by omega)]
      omega
  have b10 := cb fun q => X 0 q = 0 ∨ X 0 q = 1
  unfold qX1_move_at52
  refine uqX1_move_at52_0 ?_
  unfold BX1_move_at52_0
  rw [ic]
  refine sat_gd g1 (sat_ite (fun c => ?_) fun c => ?_)
  · rw [n_eq, v0, l_0] at c
    have hp := hX0 c
    have e4' : (ea_i h 54 l).toInt = ((X 1 l).toNat : Int) := by omega
    have ic4 : (ea_i h 54 l).toNatClampNeg = (X 1 l).toNat := by
      rw [n_idx, v1]
    have gp := vp80 e4' (show (X 1 l).toNat < 12 by omega)
    rw [ic4]
    refine sat_gd g1 (sat_gd gp (sat_gd gp (sat_let fun H12 q12 => sat_let fun H13 q13 => ?_)))
    have r12 : ea_i H12 52 10 = ea_i h 52 10 := by
      rw [q12]
      exact i_ne (by decide)
    rw [r12] at q13
    refine stepB H13 ((q12 ▸ fq_wi rfl : fq [(60, 61)] [((52, 52), 10, 10)] h H12).tr (q13 ▸ fq_wf rfl)) (fun a ha => ?_) (fun q hq => ?_) ?_
    · have b8 := cb fun q => X 0 q = 0 ∧ X 1 q = (a : Int)
      have A := r4 a ha
      rw [q13, hI_ne (by decide), q12, hI_row]
      by_cases z : a = (X 1 l).toNat
      · rw [if_pos z, n_sub, hI_eq, ← z, A, l_1, n_bm (by omega) (by omega), one_pos (show X 0 l = 0 ∧ X 1 l = (a : Int) from ⟨c, by omega⟩)]
      · rw [if_neg z, A, one_neg (show ¬ (X 0 l = 0 ∧ X 1 l = (a : Int)) from fun w => z (by omega))]
        omega
    · rw [q13, hI_ne (by decide), q12, hI_ne (by decide), r5 q hq, one_neg (show ¬ (X 0 l = 1 ∧ X 1 l = (q : Int)) from fun w => by omega)]
      omega
    · rw [q13, hI_at, n_sub, hI_eq, r6, l_1, n_bm (by omega) (by omega), one_pos (show X 0 l = 0 ∨ X 0 l = 1 from Or.inl c)]
  rw [n_eq, v0, l_0] at c
  refine sat_gd g1 (sat_ite (fun c2 => ?_) fun c2 => ?_)
  · rw [n_eq, v0, l_1] at c2
    have hp := hX1 c2
    have e4' : (ea_i h 54 l).toInt = ((X 1 l).toNat : Int) := by omega
    have ic4 : (ea_i h 54 l).toNatClampNeg = (X 1 l).toNat := by
      rw [n_idx, v1]
    have gp := vp80 e4' (show (X 1 l).toNat < 70 by omega)
    rw [ic4]
    refine sat_gd g1 (sat_gd gp (sat_gd gp (sat_let fun H12 q12 => sat_let fun H13 q13 => ?_)))
    have r12 : ea_i H12 52 10 = ea_i h 52 10 := by
      rw [q12]
      exact i_ne (by decide)
    rw [r12] at q13
    refine stepB H13 ((q12 ▸ fq_wi rfl : fq [(60, 61)] [((52, 52), 10, 10)] h H12).tr (q13 ▸ fq_wf rfl)) (fun a ha => ?_) (fun q hq => ?_) ?_
    · rw [q13, hI_ne (by decide), q12, hI_ne (by decide), r4 a ha, one_neg (show ¬ (X 0 l = 0 ∧ X 1 l = (a : Int)) from fun w => by omega)]
      omega
    · have b8 := cb fun k => X 0 k = 1 ∧ X 1 k = (q : Int)
      have A := r5 q hq
      rw [q13, hI_ne (by decide), q12, hI_row]
      by_cases z : q = (X 1 l).toNat
      · rw [if_pos z, n_sub, hI_eq, ← z, A, l_1, n_bm (by omega) (by omega), one_pos (show X 0 l = 1 ∧ X 1 l = (q : Int) from ⟨c2, by omega⟩)]
      · rw [if_neg z, A, one_neg (show ¬ (X 0 l = 1 ∧ X 1 l = (q : Int)) from fun w => z (by omega))]
        omega
    · rw [q13, hI_at, n_sub, hI_eq, r6, l_1, n_bm (by omega) (by omega), one_pos (show X 0 l = 0 ∨ X 0 l = 1 from Or.inr c2)]
  rw [n_eq, v0, l_1] at c2
  refine stepB h (fq_rfl _ _ _) (fun a ha => ?_) (fun q hq => ?_) ?_
  · rw [r4 a ha, one_neg (show ¬ (X 0 l = 0 ∧ X 1 l = (a : Int)) from fun w => c w.1)]
    omega
  · rw [r5 q hq, one_neg (show ¬ (X 0 l = 1 ∧ X 1 l = (q : Int)) from fun w => c2 w.1)]
    omega
  · rw [r6, one_neg (show ¬ (X 0 l = 0 ∨ X 0 l = 1) by omega)]
    omega
def RC62 (m : Nat) (X : Nat → Nat → Int) (h : ea_H) : Prop := (hI h 62 0 = m ∧ m ≤ 120) ∧ (∀ l, l < m → hI h 63 l = X 0 l ∧ hI h 64 l = X 1 l ∧ hI h 66 l = X 3 l ∧ (X 0 l = 1 → hI h 65 l = X 2 l ∧ hI h 67 l = X 4 l) ∧ (X 0 l = 2 ∨ X 0 l = 3 → hI h 69 l = X 5 l)) ∧ (∀ r, r < 70 → hI h 68 r = X 6 r) ∧ (∀ a : Nat, a < 12 → hI h 70 a = cnt (fun q => X 0 q = 0 ∧ X 1 q = a) m) ∧ (∀ r : Nat, r < 70 → hI h 71 r = cnt (fun q => X 0 q = 1 ∧ X 1 q = r) m) ∧ hI h 62 10 = cnt (fun q => X 0 q = 0 ∨ X 0 q = 1) m ∧ ∀ k, hI h 67 k = 0 ∨ hI h 67 k = 1
theorem c_move62 {m l : Nat} {X : Nat → Nat → Int} {mn st pl : Int} {x1 x2 x3 x4 : Int32} (e1 : x1.toInt = l) (e2 : x2.toInt = mn) (e3 : x3.toInt = st) (e4 : x4.toInt = pl) {h : ea_H} (hs : ShC h) (hl : l < m) (r : RC62 m X h) (hX0 : X 0 l = 0 → 0 ≤ X 1 l ∧ X 1 l < 12) (hX1 : X 0 l = 1 → 0 ≤ X 1 l ∧ X 1 l < 70) (s0 : 0 ≤ st) (s1 : st ≤ 6) (t0 : st = 0 → 0 ≤ pl ∧ pl < 12) (t1 : st = 1 → 0 ≤ pl ∧ pl < 70) (p0 : 0 ≤ pl) (p1 : pl < 128) (m0 : 0 ≤ mn) (m1 : mn ≤ 10079) (hg : st = 1 → hI h 65 l = X 2 l) :
    sat (qX1_move_at62 x1 x2 x3 x4 h) fun y => fq [(63, 64), (67, 67), (69, 71)] [((62, 62), 10, 10)] h y.2 ∧ RC62 m (mvX X l mn st pl) y.2 := by
  obtain ⟨⟨r0, r1⟩, r2, r3, r4, r5, r6, r7⟩ := r
  have hl' : l < 120 := by omega
  have g1 := vp80 e1 hl'
  have ic : x1.toNatClampNeg = l := by
    rw [n_idx, e1]
    rfl
  have v0 : (ea_i h 63 l).toInt = X 0 l := (r2 l hl).1
  have v1 : (ea_i h 64 l).toInt = X 1 l := (r2 l hl).2.1
  have cb := fun (P : Nat → Prop) => cnt_b P m
  -- the last step
  have stepC : ∀ h2 : ea_H, fq [(70, 71)] [((62, 62), 10, 10)] h h2 → (∀ a : Nat, a < 12 → hI h2 70 a = cnt (fun q => X 0 q = 0 ∧ X 1 q = a) m - one (X 0 l = 0 ∧ X 1 l = a) + one (st = 0 ∧ pl = a)) → (∀ q : Nat, q < 70 → hI h2 71 q = cnt (fun k => X 0 k = 1 ∧ X 1 k = q) m - one (X 0 l = 1 ∧ X 1 l = q) + one (st = 1 ∧ pl = q)) → hI h2 62 10 = cnt (fun q => X 0 q = 0 ∨ X 0 q = 1) m - one (X 0 l = 0 ∨ X 0 l = 1) + one (st = 0 ∨ st = 1) →
      sat (qX1_move_at62_126 x1 x2 x3 x4 h2) fun y => fq [(63, 64), (67, 67), (69, 71)] [((62, 62), 10, 10)] h y.2 ∧ RC62 m (mvX X l mn st pl) y.2 := by
    intro h2 f2 B8 B9 B10
    refine uqX1_move_at62_126 ?_
    unfold BX1_move_at62_126
    rw [ic]
    refine sat_gd g1 (sat_let fun H26 q26 => sat_gd g1 (sat_let fun H28 q28 => sat_gd g1 (sat_let fun H30 q30 => sat_gd g1 (sat_let fun H32 q32 => ?_))))
    have f32 : fq [(63, 64), (67, 67), (69, 69)] [] h2 H32 := (q26 ▸ fq_wi rfl : fq [(63, 64), (67, 67), (69, 69)] [] h2 H26).tr ((q28 ▸ fq_wi rfl : fq [(63, 64), (67, 67), (69, 69)] [] H26 H28).tr ((q30 ▸ fq_wi rfl : fq [(63, 64), (67, 67), (69, 69)] [] H28 H30).tr (q32 ▸ fq_wi rfl)))
    have fin : ∀ h3 : ea_H, fq [] [] H32 h3 → RC62 m (mvX X l mn st pl) h3 := by
      intro h3 f3
      have F : ∀ k, hI h3 63 k = if k = l then st else hI h 63 k := fun k => by
        rw [f3.C 63 rfl rfl, q32, hI_ne (by decide), q30, hI_ne (by decide), q28, hI_ne (by decide), q26, hI_row, e3, f2.C 63 rfl rfl]
      have F2 : ∀ k, hI h3 64 k = if k = l then pl else hI h 64 k := fun k => by
        rw [f3.C 64 rfl rfl, q32, hI_ne (by decide), q30, hI_ne (by decide), q28, hI_row, e4, q26, hI_ne (by decide), f2.C 64 rfl rfl]
      have F7 : ∀ k, hI h3 69 k = if k = l then mn else hI h 69 k := fun k => by
        rw [f3.C 69 rfl rfl, q32, hI_ne (by decide), q30, hI_row, e2, q28, hI_ne (by decide), q26, hI_ne (by decide), f2.C 69 rfl rfl]
      have F5 : ∀ k, hI h3 67 k = if k = l then 0 else hI h 67 k := fun k => by
        rw [f3.C 67 rfl rfl, q32, hI_row, q30, hI_ne (by decide), q28, hI_ne (by decide), q26, hI_ne (by decide), f2.C 67 rfl rfl]
        rfl
      have F3 : ∀ k, hI h3 65 k = hI h 65 k := fun k => by rw [f3.C 65 rfl rfl, f32.C 65 rfl rfl, f2.C 65 rfl rfl]
      have F4 : ∀ k, hI h3 66 k = hI h 66 k := fun k => by rw [f3.C 66 rfl rfl, f32.C 66 rfl rfl, f2.C 66 rfl rfl]
      have F6 : ∀ k, hI h3 68 k = hI h 68 k := fun k => by rw [f3.C 68 rfl rfl, f32.C 68 rfl rfl, f2.C 68 rfl rfl]
      have F8 : ∀ k, hI h3 70 k = hI h2 70 k := fun k => by rw [f3.C 70 rfl rfl, f32.C 70 rfl rfl]
      have F9 : ∀ k, hI h3 71 k = hI h2 71 k := fun k => by rw [f3.C 71 rfl rfl, f32.C 71 rfl rfl]
      have F0 : hI h3 62 0 = hI h 62 0 := by rw [f3.C 62 rfl rfl, f32.C 62 rfl rfl, f2.I 62 rfl 0 rfl]
      have F10 : hI h3 62 10 = hI h2 62 10 := by rw [f3.C 62 rfl rfl, f32.C 62 rfl rfl]
      refine ⟨⟨F0.trans r0, r1⟩, fun k hk => ?_, fun q hq => ?_, fun a ha => ?_, fun q hq => ?_, ?_, fun k => ?_⟩
      · obtain ⟨w0, w1, w3, w4, w5⟩ := r2 k hk
        rw [F, F2, F3, F4, F5, F7, mvX_0, mvX_1, mvX_2, mvX_3, mvX_4, mvX_5]
        by_cases q : k = l
        · rw [if_pos q, if_pos q, if_pos q, if_pos q, if_pos q, if_pos q, if_pos q, if_pos q]
          refine ⟨rfl, rfl, w3, fun z => ⟨?_, rfl⟩, fun _ => rfl⟩
          rw [q]
          exact hg z
        · rw [if_neg q, if_neg q, if_neg q, if_neg q, if_neg q, if_neg q, if_neg q, if_neg q]
          exact ⟨w0, w1, w3, w4, w5⟩
      · rw [F6, mvX_6]
        exact r3 q hq
      · have e := cnt_upd (P := fun q => X 0 q = 0 ∧ X 1 q = a) (Q := fun q => mvX X l mn st pl 0 q = 0 ∧ mvX X l mn st pl 1 q = a) hl fun k hk hkl => by rw [mvX_0, mvX_1, if_neg hkl, if_neg hkl]
        rw [mvX_0, mvX_1, if_pos rfl, if_pos rfl] at e
        rw [F8, B8 a ha, e]
      · have e := cnt_upd (P := fun k => X 0 k = 1 ∧ X 1 k = q) (Q := fun k => mvX X l mn st pl 0 k = 1 ∧ mvX X l mn st pl 1 k = q) hl fun k hk hkl => by rw [mvX_0, mvX_1, if_neg hkl, if_neg hkl]
        rw [mvX_0, mvX_1, if_pos rfl, if_pos rfl] at e
        rw [F9, B9 q hq, e]
      · have e := cnt_upd (P := fun q => X 0 q = 0 ∨ X 0 q = 1) (Q := fun q => mvX X l mn st pl 0 q = 0 ∨ mvX X l mn st pl 0 q = 1) hl fun k hk hkl => by rw [mvX_0, if_neg hkl]
        rw [mvX_0, if_pos rfl] at e
        rw [F10, B10, e]
      · rw [F5]
        split
        · exact Or.inl rfl
        · exact r7 k
    exact sat_ret ⟨(f2.up rfl rfl).tr (f32.up rfl rfl), fin H32 (fq_rfl _ _ _)⟩
  -- the step ahead of it
  have stepB : ∀ h1 : ea_H, fq [(70, 71)] [((62, 62), 10, 10)] h h1 → (∀ a : Nat, a < 12 → hI h1 70 a = cnt (fun q => X 0 q = 0 ∧ X 1 q = a) m - one (X 0 l = 0 ∧ X 1 l = a)) → (∀ q : Nat, q < 70 → hI h1 71 q = cnt (fun k => X 0 k = 1 ∧ X 1 k = q) m - one (X 0 l = 1 ∧ X 1 l = q)) → hI h1 62 10 = cnt (fun q => X 0 q = 0 ∨ X 0 q = 1) m - one (X 0 l = 0 ∨ X 0 l = 1) →
      sat (qX1_move_at62_72 x1 x2 x3 x4 h1) fun y => fq [(63, 64), (67, 67), (69, 71)] [((62, 62), 10, 10)] h y.2 ∧ RC62 m (mvX X l mn st pl) y.2 := by
    intro h1 f1 A8 A9 A10
    have b10 := cb fun q => X 0 q = 0 ∨ X 0 q = 1
    have o10 := one_b (X 0 l = 0 ∨ X 0 l = 1)
    refine uqX1_move_at62_72 ?_
    unfold BX1_move_at62_72
    refine sat_ite (fun c => ?_) fun c => ?_
    · rw [n_eq, e3, l_0] at c
      have hp := t0 c
      have e4' : x4.toInt = (pl.toNat : Int) := by omega
      have ic4 : x4.toNatClampNeg = pl.toNat := by
        rw [n_idx, e4]
      have gp := vp80 e4' (show pl.toNat < 12 by omega)
      rw [ic4]
      refine sat_gd gp (sat_gd gp (sat_let fun H22 q22 => sat_let fun H23 q23 => ?_))
      have r22 : ea_i H22 62 10 = ea_i h1 62 10 := by
        rw [q22]
        exact i_ne (by decide)
      rw [r22] at q23
      have f23 : fq [(70, 71)] [((62, 62), 10, 10)] h1 H23 := (q22 ▸ fq_wi rfl : fq [(70, 71)] [((62, 62), 10, 10)] h1 H22).tr (q23 ▸ fq_wf rfl)
      refine stepC H23 (f1.tr f23) (fun a ha => ?_) (fun q hq => ?_) ?_
      · have b8 := cb fun q => X 0 q = 0 ∧ X 1 q = (a : Int)
        have o8 := one_b (X 0 l = 0 ∧ X 1 l = (a : Int))
        have A := A8 a ha
        rw [q23, hI_ne (by decide), q22, hI_row]
        by_cases z : a = pl.toNat
        · rw [if_pos z, n_add, hI_eq, ← z, A, l_1, n_bm (by omega) (by omega), one_pos (show st = 0 ∧ pl = (a : Int) from ⟨c, by omega⟩)]
        · rw [if_neg z, A, one_neg (show ¬ (st = 0 ∧ pl = (a : Int)) from fun w => z (by omega))]
          omega
      · rw [q23, hI_ne (by decide), q22, hI_ne (by decide), A9 q hq, one_neg (show ¬ (st = 1 ∧ pl = (q : Int)) from fun w => by omega)]
        omega
      · rw [q23, hI_at, n_add, hI_eq, A10, l_1, n_bm (by omega) (by omega), one_pos (show st = 0 ∨ st = 1 from Or.inl c)]
    rw [n_eq, e3, l_0] at c
    refine sat_ite (fun c2 => ?_) fun c2 => ?_
    · rw [n_eq, e3, l_1] at c2
      have hp := t1 c2
      have e4' : x4.toInt = (pl.toNat : Int) := by omega
      have ic4 : x4.toNatClampNeg = pl.toNat := by
        rw [n_idx, e4]
      have gp := vp80 e4' (show pl.toNat < 70 by omega)
      rw [ic4]
      refine sat_gd gp (sat_gd gp (sat_let fun H22 q22 => sat_let fun H23 q23 => ?_))
      have r22 : ea_i H22 62 10 = ea_i h1 62 10 := by
        rw [q22]
        exact i_ne (by decide)
      rw [r22] at q23
      have f23 : fq [(70, 71)] [((62, 62), 10, 10)] h1 H23 := (q22 ▸ fq_wi rfl : fq [(70, 71)] [((62, 62), 10, 10)] h1 H22).tr (q23 ▸ fq_wf rfl)
      refine stepC H23 (f1.tr f23) (fun a ha => ?_) (fun q hq => ?_) ?_
      · rw [q23, hI_ne (by decide), q22, hI_ne (by decide), A8 a ha, one_neg (show ¬ (st = 0 ∧ pl = (a : Int)) from fun w => by omega)]
        omega
      · have b8 := cb fun k => X 0 k = 1 ∧ X 1 k = (q : Int)
        have o8 := one_b (X 0 l = 1 ∧ X 1 l = (q : Int))
        have A := A9 q hq
        rw [q23, hI_ne (by decide), q22, hI_row]
        by_cases z : q = pl.toNat
        · rw [if_pos z, n_add, hI_eq, ← z, A, l_1, n_bm (by omega) (by omega), one_pos (show st = 1 ∧ pl = (q : Int) from ⟨c2, by omega⟩)]
        · rw [if_neg z, A, one_neg (show ¬ (st = 1 ∧ pl = (q : Int)) from fun w => z (by omega))]
          omega
      · rw [q23, hI_at, n_add, hI_eq, A10, l_1, n_bm (by omega) (by omega), one_pos (show st = 0 ∨ st = 1 from Or.inr c2)]
    rw [n_eq, e3, l_1] at c2
    refine stepC h1 f1 (fun a ha => ?_) (fun q hq => ?_) ?_
    · rw [A8 a ha, one_neg (show ¬ (st = 0 ∧ pl = (a : Int)) from fun w => c w.1)]
      omega
    · rw [A9 q hq, one_neg (show ¬ (st = 1 ∧ pl = (q : Int)) from fun w => c2 w.1)]
      omega
    · rw [A10, one_neg (show ¬ (st = 0 ∨ st = 1) by omega)]
      omega
  have b10 := cb fun q => X 0 q = 0 ∨ X 0 q = 1
  unfold qX1_move_at62
  refine uqX1_move_at62_0 ?_
  unfold BX1_move_at62_0
  rw [ic]
  refine sat_gd g1 (sat_ite (fun c => ?_) fun c => ?_)
  · rw [n_eq, v0, l_0] at c
    have hp := hX0 c
    have e4' : (ea_i h 64 l).toInt = ((X 1 l).toNat : Int) := by omega
    have ic4 : (ea_i h 64 l).toNatClampNeg = (X 1 l).toNat := by
      rw [n_idx, v1]
    have gp := vp80 e4' (show (X 1 l).toNat < 12 by omega)
    rw [ic4]
    refine sat_gd g1 (sat_gd gp (sat_gd gp (sat_let fun H12 q12 => sat_let fun H13 q13 => ?_)))
    have r12 : ea_i H12 62 10 = ea_i h 62 10 := by
      rw [q12]
      exact i_ne (by decide)
    rw [r12] at q13
    refine stepB H13 ((q12 ▸ fq_wi rfl : fq [(70, 71)] [((62, 62), 10, 10)] h H12).tr (q13 ▸ fq_wf rfl)) (fun a ha => ?_) (fun q hq => ?_) ?_
    · have b8 := cb fun q => X 0 q = 0 ∧ X 1 q = (a : Int)
      have A := r4 a ha
      rw [q13, hI_ne (by decide), q12, hI_row]
      by_cases z : a = (X 1 l).toNat
      · rw [if_pos z, n_sub, hI_eq, ← z, A, l_1, n_bm (by omega) (by omega), one_pos (show X 0 l = 0 ∧ X 1 l = (a : Int) from ⟨c, by omega⟩)]
      · rw [if_neg z, A, one_neg (show ¬ (X 0 l = 0 ∧ X 1 l = (a : Int)) from fun w => z (by omega))]
        omega
    · rw [q13, hI_ne (by decide), q12, hI_ne (by decide), r5 q hq, one_neg (show ¬ (X 0 l = 1 ∧ X 1 l = (q : Int)) from fun w => by omega)]
      omega
    · rw [q13, hI_at, n_sub, hI_eq, r6, l_1, n_bm (by omega) (by omega), one_pos (show X 0 l = 0 ∨ X 0 l = 1 from Or.inl c)]
  rw [n_eq, v0, l_0] at c
  refine sat_gd g1 (sat_ite (fun c2 => ?_) fun c2 => ?_)
  · rw [n_eq, v0, l_1] at c2
    have hp := hX1 c2
    have e4' : (ea_i h 64 l).toInt = ((X 1 l).toNat : Int) := by omega
    have ic4 : (ea_i h 64 l).toNatClampNeg = (X 1 l).toNat := by
      rw [n_idx, v1]
    have gp := vp80 e4' (show (X 1 l).toNat < 70 by omega)
    rw [ic4]
    refine sat_gd g1 (sat_gd gp (sat_gd gp (sat_let fun H12 q12 => sat_let fun H13 q13 => ?_)))
    have r12 : ea_i H12 62 10 = ea_i h 62 10 := by
      rw [q12]
      exact i_ne (by decide)
    rw [r12] at q13
    refine stepB H13 ((q12 ▸ fq_wi rfl : fq [(70, 71)] [((62, 62), 10, 10)] h H12).tr (q13 ▸ fq_wf rfl)) (fun a ha => ?_) (fun q hq => ?_) ?_
    · rw [q13, hI_ne (by decide), q12, hI_ne (by decide), r4 a ha, one_neg (show ¬ (X 0 l = 0 ∧ X 1 l = (a : Int)) from fun w => by omega)]
      omega
    · have b8 := cb fun k => X 0 k = 1 ∧ X 1 k = (q : Int)
      have A := r5 q hq
      rw [q13, hI_ne (by decide), q12, hI_row]
      by_cases z : q = (X 1 l).toNat
      · rw [if_pos z, n_sub, hI_eq, ← z, A, l_1, n_bm (by omega) (by omega), one_pos (show X 0 l = 1 ∧ X 1 l = (q : Int) from ⟨c2, by omega⟩)]
      · rw [if_neg z, A, one_neg (show ¬ (X 0 l = 1 ∧ X 1 l = (q : Int)) from fun w => z (by omega))]
        omega
    · rw [q13, hI_at, n_sub, hI_eq, r6, l_1, n_bm (by omega) (by omega), one_pos (show X 0 l = 0 ∨ X 0 l = 1 from Or.inr c2)]
  rw [n_eq, v0, l_1] at c2
  refine stepB h (fq_rfl _ _ _) (fun a ha => ?_) (fun q hq => ?_) ?_
  · rw [r4 a ha, one_neg (show ¬ (X 0 l = 0 ∧ X 1 l = (a : Int)) from fun w => c w.1)]
    omega
  · rw [r5 q hq, one_neg (show ¬ (X 0 l = 1 ∧ X 1 l = (q : Int)) from fun w => c2 w.1)]
    omega
  · rw [r6, one_neg (show ¬ (X 0 l = 0 ∨ X 0 l = 1) by omega)]
    omega
