/-! the letters' part when misses or sorters change -/
section GCH
variable {T : Nat → Nat → Nat → Nat} {G X : Nat → Nat → Int} {m n : Nat} {h h' : ea_H}
def gMi (h' : ea_H) (G : Nat → Nat → Int) : Nat → Nat → Int := fun f k => if f = 3 then hI h' 334 (8 * (7 * (k / 8 % 10) + k / 8 / 10) + k % 8) else G f k
theorem gMi_f {f k : Nat} (hf : f ≠ 3) : gMi h' G f k = G f k := if_neg hf
theorem gMi_3 {r i : Nat} (hi : i < 8) : gMi h' G 3 (8 * r + i) = hI h' 334 (8 * (7 * (r % 10) + r / 10) + i) := by
  show (if 3 = 3 then _ else _) = _
  rw [if_pos rfl, show (8 * r + i) / 8 = r by omega, show (8 * r + i) % 8 = i by omega]
theorem SLe.mis (s : keq [(19, 21), (51, 51), (53, 61), (73, 75), (76, 315), (354, 354), (364, 390), (392, 394), (396, 403)] V_Le h h') (mi : SMis h') (sl : SLe h n T m X G) : ∃ G', SLe h' n T m X G' := by
  have gc := sl.1.2.1
  have gm := sl.1.2.2.1
  refine ⟨gMi h' G, SLe.core (s.sub rfl rfl) (gMi_f (by decide)) (fun _ => gMi_f (by decide)) (fun _ => gMi_f (by decide)) ?_ ?_ sl⟩
  · obtain ⟨m2, k, ⟨a1, a2, a3, a4, a5⟩, b, c, d⟩ := gc
    have e : ∀ l j, l < 120 → hI h' (76 + 2 * l) j = hI h (76 + 2 * l) j := fun l j hl => s.W (76 + 2 * l) (inB_at (r := (76, 315)) (by simp) (by show 76 ≤ 76 + 2 * l; omega) (by show 76 + 2 * l ≤ 315; omega)) j
    refine ⟨m2, k, ⟨(gMi_f (by decide)).trans a1, (gMi_f (by decide)).trans a2, a3, a4, (s.V 18 0 rfl).trans a5⟩, fun l hl => ?_, fun r hr => ?_, fun q hq => ?_⟩
    · rw [e l _ (by omega), e l _ (by omega), e l _ (by omega), gMi_f (by decide), gMi_f (by decide), gMi_f (by decide)]
      exact b l hl
    · obtain ⟨M, M1, M2, M3⟩ := mi.2 (r % 10) (r / 10) (by omega) (by omega)
      rw [show 10 * (r / 10) + r % 10 = r by omega] at M1
      exact ⟨M, M1, M2, fun i hi => (gMi_3 hi).trans (M3 i hi)⟩
    · rw [s.W 19 rfl, s.W 20 rfl, s.W 21 rfl, gMi_f (by decide), gMi_f (by decide), gMi_f (by decide)]
      exact d q hq
  · obtain ⟨m2, k, ⟨a1, a2, a3, a4, a5, a6⟩, b, c, d⟩ := gm
    refine ⟨m2, k, ⟨(gMi_f (by decide)).trans a1, (gMi_f (by decide)).trans a2, a3, a4, (s.V 326 63 rfl).trans a5, (s.V 326 92 rfl).trans a6⟩, fun l hl => ?_, fun t d' i ht hd hi => ?_, fun q hq => ?_⟩
    · rw [s.W 366 rfl, s.W 380 rfl, s.W 373 rfl, gMi_f (by decide), gMi_f (by decide), gMi_f (by decide)]
      obtain ⟨b1, b2, b3⟩ := b l hl
      refine ⟨b1, b2, ?_⟩
      rcases b3 with b3 | ⟨a, b4, b5, b6, b7⟩
      · exact Or.inl b3
      · exact Or.inr ⟨a, b4, b5, (s.W 354 rfl a).trans b6, b7⟩
    · rw [gMi_3 hi, show (10 * d' + t) % 10 = t by omega, show (10 * d' + t) / 10 = d' by omega]
    · rw [s.W 392 rfl, s.W 393 rfl, s.W 394 rfl, gMi_f (by decide), gMi_f (by decide), gMi_f (by decide)]
      exact d q hq
def gCr (h' : ea_H) (s : Nat) (G : Nat → Nat → Int) : Nat → Nat → Int := fun f k => if f = 4 then hI h' 394 k else if f = 5 then hI h' 392 k else if f = 6 then hI h' 393 k else if f = 7 ∧ k = 1 then (s : Int) else G f k
theorem gCr_f {s f k : Nat} (h4 : f ≠ 4) (h5 : f ≠ 5) (h6 : f ≠ 6) (h7 : f ≠ 7 ∨ k ≠ 1) : gCr h' s G f k = G f k := by
  unfold gCr
  rw [if_neg h4, if_neg h5, if_neg h6, if_neg (fun z => by rcases h7 with q | q; exact q z.1; exact q z.2)]
theorem SLe.crew (s : keq [(12, 12), (51, 51), (53, 61), (73, 75), (76, 315), (334, 334), (354, 354), (364, 390), (396, 403)] [((0, 0), 13, 13), ((52, 52), 0, 0), ((52, 52), 10, 10), ((326, 326), 0, 0), ((326, 326), 63, 63), ((326, 326), 100, 100)] h h') (cr : SCr h') (sl : SLe h n T m X G) : ∃ G', SLe h' n T m X G' := by
  have gc := sl.1.2.1
  have gm := sl.1.2.2.1
  obtain ⟨S, r1, r2, r3, r4, r5⟩ := cr
  refine ⟨gCr h' S G, SLe.core (s.sub rfl rfl) (gCr_f (by decide) (by decide) (by decide) (Or.inr (by decide))) (fun _ => gCr_f (by decide) (by decide) (by decide) (Or.inl (by decide))) (fun _ => gCr_f (by decide) (by decide) (by decide) (Or.inl (by decide))) ?_ ?_ sl⟩
  · obtain ⟨m2, k, ⟨a1, a2, a3, a4, a5⟩, b, c, d⟩ := gc
    have e : ∀ l j, l < 120 → hI h' (76 + 2 * l) j = hI h (76 + 2 * l) j := fun l j hl => s.W (76 + 2 * l) (inB_at (r := (76, 315)) (by simp) (by show 76 ≤ 76 + 2 * l; omega) (by show 76 + 2 * l ≤ 315; omega)) j
    refine ⟨m2, S, ⟨(gCr_f (by decide) (by decide) (by decide) (Or.inr (by decide))).trans a1, rfl, a3, r3, r1⟩, fun l hl => ?_, fun r hr => ?_, fun q hq => ?_⟩
    · rw [e l _ (by omega), e l _ (by omega), e l _ (by omega), gCr_f (by decide) (by decide) (by decide) (Or.inl (by decide)), gCr_f (by decide) (by decide) (by decide) (Or.inl (by decide)), gCr_f (by decide) (by decide) (by decide) (Or.inl (by decide))]
      exact b l hl
    · obtain ⟨M, M1, M2, M3⟩ := c r hr
      exact ⟨M, (s.W 12 rfl r).trans M1, M2, fun i hi => (gCr_f (by decide) (by decide) (by decide) (Or.inl (by decide))).trans (M3 i hi)⟩
    · obtain ⟨⟨u1, u2⟩, ⟨u3, u4⟩, u5, u6⟩ := r5 q hq
      exact ⟨⟨u1, u2⟩, ⟨u3, u4⟩, u5⟩
  · obtain ⟨m2, k, ⟨a1, a2, a3, a4, a5, a6⟩, b, c, d⟩ := gm
    refine ⟨m2, S, ⟨(gCr_f (by decide) (by decide) (by decide) (Or.inr (by decide))).trans a1, rfl, a3, r3, (s.V 326 63 rfl).trans a5, r2⟩, fun l hl => ?_, fun t d' i ht hd hi => ?_, fun q hq => ?_⟩
    · rw [s.W 366 rfl, s.W 380 rfl, s.W 373 rfl, gCr_f (by decide) (by decide) (by decide) (Or.inl (by decide)), gCr_f (by decide) (by decide) (by decide) (Or.inl (by decide)), gCr_f (by decide) (by decide) (by decide) (Or.inl (by decide))]
      obtain ⟨b1, b2, b3⟩ := b l hl
      refine ⟨b1, b2, ?_⟩
      rcases b3 with b3 | ⟨a, b4, b5, b6, b7⟩
      · exact Or.inl b3
      · exact Or.inr ⟨a, b4, b5, (s.W 354 rfl a).trans b6, b7⟩
    · rw [s.W 334 rfl, gCr_f (by decide) (by decide) (by decide) (Or.inl (by decide))]
      exact c t d' i ht hd hi
    · obtain ⟨⟨u1, u2⟩, ⟨u3, u4⟩, u5, u6⟩ := r5 q hq
      exact ⟨⟨rfl, u2⟩, ⟨rfl, u4⟩, rfl⟩
end GCH
