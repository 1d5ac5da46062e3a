/-! the first state -/
def Fst (h : ea_H) : Prop := ShC h ∧ ShM h ∧ (∀ a k, a < 416 → a ≠ 2 → a ≠ 3 → a ≠ 4 → a ≠ 24 → (a < 76 ∨ 326 ≤ a) → a ≠ 394 → a ≠ 404 → a ≠ 405 → (a ≠ 326 ∨ k ≠ 62) → hI h a k = 0) ∧ (∀ l k, l < 120 → hI h (76 + 2 * l) k = if k = 11 ∨ k = 12 then -1 else if k = 14 then 3 else 0) ∧ (∀ t, t < 10 → hI h (316 + t) 0 = 0 ∧ hI h (316 + t) 1 = -60 ∧ hI h (316 + t) 2 = 60) ∧ (hI h 24 0 = 0 ∧ hI h 24 1 = 0 ∧ hI h 24 2 = -1 ∧ hI h 24 9 = 0 ∧ hI h 326 62 = -1) ∧ (∀ k, k < 8 → hI h 394 k = -1) ∧ (∀ t, t < 10 → hI h 404 t = -60 ∧ hI h 405 t = 60) ∧ (∀ k, hJ h 51 k = 0) ∧ (∀ a b, a < 12 → b < 12 → hI h 2 (12 * a + b) = ((if a = b then 0 else 1000000 : Nat) : Int)) ∧ (∃ D0, fwI 0 12 (fun _ _ => 0) D0 ∧ ∀ a b, a < 12 → b < 12 → hI h 3 (12 * a + b) = D0 a b) ∧ ∃ D1, fwI 1 12 (fun _ _ => 0) D1 ∧ ∀ a b, a < 12 → b < 12 → hI h 4 (12 * a + b) = D1 a b
theorem Fst.sim {h : ea_H} (f : Fst h) : SIM h := by
  obtain ⟨hC, hM, z, zl, zc, ⟨z0, z1, z2, z9, z62⟩, zs, zk, zj, zr, ⟨D0, d1, d2⟩, D1, d3, d4⟩ := f
  have Z : ∀ a k, a < 416 → a ≠ 2 → a ≠ 3 → a ≠ 4 → a ≠ 24 → (a < 76 ∨ 326 < a) → a ≠ 394 → a ≠ 404 → a ≠ 405 → hI h a k = 0 := fun a k hh h2 h3 h4 h24 h7 h9 h10 h11 => z a k hh h2 h3 h4 h24 (by omega) h9 h10 h11 (by omega)
  have Y : ∀ k, k ≠ 62 → hI h 326 k = 0 := fun k hk => z 326 k (by decide) (by decide) (by decide) (by decide) (by decide) (by decide) (by decide) (by decide) (by decide) (Or.inr hk)
  have mk : ∀ c l, mkB h c l = false := fun c l => by
    have e : ea_j h 51 (2 * c + l / 64) = 0 := n_eqJ.mpr (zj _)
    unfold mkB
    rw [e]
    simp
  have ok : tOk (fun _ _ _ => 0) := ⟨Nat.zero_le _, fun _ _ => Nat.zero_le _, fun _ _ => rfl, fun _ _ _ hi => absurd hi (Nat.not_lt_zero _), fun _ _ _ hi => absurd hi (Nat.not_lt_zero _), fun _ _ _ _ => Nat.zero_le _⟩
  obtain ⟨L, hL⟩ := t_exists (fun _ _ _ => 0)
  obtain ⟨p, hp⟩ := fstB_ex (t_wL ok hL) (hI h 326 0).toNat
  refine ⟨0, fun _ _ _ => 0, 0, fun _ _ => 0, fun _ _ => 0, hC, hM, ?_, ?_, ?_, ?_, ?_, ?_, ?_, ?_, ?_, ?_, ?_, ?_, ?_, ?_, fun l hl => absurd hl (Nat.not_lt_zero l)⟩
  · exact ⟨(Z 0 14 (by decide) (by decide) (by decide) (by decide) (by decide) (by decide) (by decide) (by decide) (by decide)).trans (Y 0 (by decide)).symm, by rw [Y 0 (by decide)]; decide, by rw [Y 0 (by decide)]; decide, Z 1 0 (by decide) (by decide) (by decide) (by decide) (by decide) (by decide) (by decide) (by decide) (by decide), Y 1 (by decide), by decide⟩
  · refine ⟨fun _ _ => 0, D0, D1, fun _ _ => Nat.zero_le _, fun _ _ _ => rfl, fun b c hb hc => ?_, fun a b ha hb => ?_, ⟨d1, d2⟩, d3, d4⟩
    · exact Z 327 _ (by decide) (by decide) (by decide) (by decide) (by decide) (by decide) (by decide) (by decide) (by decide)
    · rw [zr a b ha hb]
      rfl
  · refine ⟨fun k hk => ?_, fun t d ht hd => ⟨0, ?_, by decide, fun i hi => ?_⟩⟩
    · rw [Z 10 k (by decide) (by decide) (by decide) (by decide) (by decide) (by decide) (by decide) (by decide) (by decide), Z 333 k (by decide) (by decide) (by decide) (by decide) (by decide) (by decide) (by decide) (by decide) (by decide)]
      exact ⟨rfl, Or.inl rfl⟩
    · exact Z 12 _ (by decide) (by decide) (by decide) (by decide) (by decide) (by decide) (by decide) (by decide) (by decide)
    · rw [Z 334 _ (by decide) (by decide) (by decide) (by decide) (by decide) (by decide) (by decide) (by decide) (by decide), Nat.zero_div]
      rfl
  · refine ⟨ok, ⟨Z 5 0 (by decide) (by decide) (by decide) (by decide) (by decide) (by decide) (by decide) (by decide) (by decide), fun t _ => Z 6 _ (by decide) (by decide) (by decide) (by decide) (by decide) (by decide) (by decide) (by decide) (by decide), fun t i _ _ => ⟨?_, ?_, ?_⟩, fun t d _ _ => Z 11 _ (by decide) (by decide) (by decide) (by decide) (by decide) (by decide) (by decide) (by decide) (by decide)⟩, Y 2 (by decide), fun t _ => Z 328 _ (by decide) (by decide) (by decide) (by decide) (by decide) (by decide) (by decide) (by decide) (by decide), fun t i _ _ => ⟨?_, ?_, ?_⟩, fun t d _ _ => Z 332 _ (by decide) (by decide) (by decide) (by decide) (by decide) (by decide) (by decide) (by decide) (by decide)⟩
    · exact Z 7 _ (by decide) (by decide) (by decide) (by decide) (by decide) (by decide) (by decide) (by decide) (by decide)
    · exact Z 8 _ (by decide) (by decide) (by decide) (by decide) (by decide) (by decide) (by decide) (by decide) (by decide)
    · exact Z 9 _ (by decide) (by decide) (by decide) (by decide) (by decide) (by decide) (by decide) (by decide) (by decide)
    · exact Z 329 _ (by decide) (by decide) (by decide) (by decide) (by decide) (by decide) (by decide) (by decide) (by decide)
    · exact Z 330 _ (by decide) (by decide) (by decide) (by decide) (by decide) (by decide) (by decide) (by decide) (by decide)
    · exact Z 331 _ (by decide) (by decide) (by decide) (by decide) (by decide) (by decide) (by decide) (by decide) (by decide)
  · exact Or.inl (Z 13 0 (by decide) (by decide) (by decide) (by decide) (by decide) (by decide) (by decide) (by decide) (by decide))
  · exact Or.inl (Y 12 (by decide))
  · exact ⟨0, Z 18 0 (by decide) (by decide) (by decide) (by decide) (by decide) (by decide) (by decide) (by decide) (by decide), Y 92 (by decide), by decide, fun k _ hk => zs k hk, fun k hk => absurd hk (Nat.not_lt_zero k)⟩
  · exact ⟨0, z0, Y 52 (by decide), by decide, fun k hk => absurd hk (Nat.not_lt_zero k), z1.trans (Y 59 (by decide)).symm, z2.trans z62.symm⟩
  · intro t ht
    obtain ⟨c0, c1, c2⟩ := zc t ht
    obtain ⟨k4, k5⟩ := zk t ht
    rw [c0, c1, c2, k4, k5, Z 406 t (by decide) (by decide) (by decide) (by decide) (by decide) (by decide) (by decide) (by decide) (by decide), Y 0 (by decide)]
    decide
  · have lt : ∀ l k, l < 120 → k ≠ 11 → k ≠ 12 → k ≠ 14 → hI h (76 + 2 * l) k = 0 := fun l k hl h1 h2 h3 => by rw [zl l k hl, if_neg (by omega), if_neg h3]
    refine ⟨⟨rfl, ?_, ?_, ?_, ?_, ?_, fun l hl => absurd hl (Nat.not_lt_zero l), L, p, hL, hp, fun l hl => absurd hl (Nat.not_lt_zero l), fun l hl => absurd hl (Nat.not_lt_zero l)⟩, fun l hl => absurd hl (Nat.not_lt_zero l), fun l _ hl => ?_, fun l hl => absurd hl (Nat.not_lt_zero l), fun l hl => absurd hl (Nat.not_lt_zero l), fun l hl => absurd hl (Nat.not_lt_zero l), fun l hl => absurd hl (Nat.not_lt_zero l), ?_⟩
    · refine ⟨0, 0, ⟨rfl, rfl, by decide, by decide, Z 18 0 (by decide) (by decide) (by decide) (by decide) (by decide) (by decide) (by decide) (by decide) (by decide)⟩, fun l hl => absurd hl (Nat.not_lt_zero l), fun r hr => ⟨0, Z 12 r (by decide) (by decide) (by decide) (by decide) (by decide) (by decide) (by decide) (by decide) (by decide), by decide, fun i hi => ?_⟩, fun k hk => absurd hk (Nat.not_lt_zero k)⟩
      rw [Nat.zero_div]
      rfl
    · exact ⟨0, 0, ⟨rfl, rfl, by decide, by decide, Y 63 (by decide), Y 92 (by decide)⟩, fun l hl => absurd hl (Nat.not_lt_zero l), fun t d i _ _ _ => Z 334 _ (by decide) (by decide) (by decide) (by decide) (by decide) (by decide) (by decide) (by decide) (by decide), fun k hk => absurd hk (Nat.not_lt_zero k)⟩
    · exact ⟨⟨Z 52 0 (by decide) (by decide) (by decide) (by decide) (by decide) (by decide) (by decide) (by decide) (by decide), by decide⟩, fun l hl => absurd hl (Nat.not_lt_zero l), fun r _ => Z 58 r (by decide) (by decide) (by decide) (by decide) (by decide) (by decide) (by decide) (by decide) (by decide), fun a _ => Z 60 a (by decide) (by decide) (by decide) (by decide) (by decide) (by decide) (by decide) (by decide) (by decide), fun r _ => Z 61 r (by decide) (by decide) (by decide) (by decide) (by decide) (by decide) (by decide) (by decide) (by decide), Z 52 10 (by decide) (by decide) (by decide) (by decide) (by decide) (by decide) (by decide) (by decide) (by decide), fun k => Or.inl (Z 57 k (by decide) (by decide) (by decide) (by decide) (by decide) (by decide) (by decide) (by decide) (by decide))⟩
    · exact ⟨fun l hl => absurd hl (Nat.not_lt_zero l), fun l _ hl => ⟨lt l 16 hl (by decide) (by decide) (by decide), Z 56 l (by decide) (by decide) (by decide) (by decide) (by decide) (by decide) (by decide) (by decide) (by decide), fun c => mk c l⟩⟩
    · refine ⟨⟨Y 63 (by decide), by decide⟩, fun k => ⟨?_, ?_, ?_, ?_, ?_, ?_, ?_, ?_, ?_⟩, fun l hl => absurd hl (Nat.not_lt_zero l), fun t d _ _ => ?_, fun k => Or.inl ?_⟩ <;> exact Z _ _ (by decide) (by decide) (by decide) (by decide) (by decide) (by decide) (by decide) (by decide) (by decide)
    · refine ⟨⟨lt l 10 hl (by decide) (by decide) (by decide), ?_, ?_, lt l 13 hl (by decide) (by decide) (by decide), ?_, lt l 15 hl (by decide) (by decide) (by decide), lt l 18 hl (by decide) (by decide) (by decide)⟩, Z 380 l (by decide) (by decide) (by decide) (by decide) (by decide) (by decide) (by decide) (by decide) (by decide), Z 396 l (by decide) (by decide) (by decide) (by decide) (by decide) (by decide) (by decide) (by decide) (by decide), rfl, rfl⟩
      · rw [zl l 11 hl]
        rfl
      · rw [zl l 12 hl]
        rfl
      · rw [zl l 14 hl]
        rfl
    · exact ⟨0, ⟨Z 0 13 (by decide) (by decide) (by decide) (by decide) (by decide) (by decide) (by decide) (by decide) (by decide), Y 100 (by decide), by decide⟩, fun l hl => absurd hl (Nat.not_lt_zero l), fun i hi => absurd hi (Nat.not_lt_zero i), fun i _ _ => ⟨Z 401 i (by decide) (by decide) (by decide) (by decide) (by decide) (by decide) (by decide) (by decide) (by decide), Z 402 i (by decide) (by decide) (by decide) (by decide) (by decide) (by decide) (by decide) (by decide) (by decide)⟩⟩
  · exact ⟨0, 0, ⟨Z 23 1 (by decide) (by decide) (by decide) (by decide) (by decide) (by decide) (by decide) (by decide) (by decide), Y 25 (by decide), by decide⟩, ⟨z9, by decide⟩, fun k hk => absurd hk (Nat.not_lt_zero k)⟩
  · exact Or.inl (Z 0 15 (by decide) (by decide) (by decide) (by decide) (by decide) (by decide) (by decide) (by decide) (by decide))
  · exact fun k => Or.inl (Z 67 k (by decide) (by decide) (by decide) (by decide) (by decide) (by decide) (by decide) (by decide) (by decide))
  · exact fun k => Int.le_of_eq (Z 347 k (by decide) (by decide) (by decide) (by decide) (by decide) (by decide) (by decide) (by decide) (by decide)).symm
