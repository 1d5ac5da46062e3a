/-! ways, purely, 3: the first that is taken; how a way is followed; which is the better -/
section WAYS3
variable {tw : Nat → Nat → Nat} {gm cm : Nat → Nat → Nat → Nat}
/-- goings not ahead of minute m: those behind a place of the list -/
def wFrom (L : List Nat) (m : Nat) : List Nat := L.filter fun x => decide (m ≤ kMin x)
theorem wFrom_app {L : List Nat} (h : wL L) (m : Nat) : ∃ P, L = P ++ wFrom L m ∧ ∀ y ∈ P, kMin y < m := by
  induction L with
  | nil => exact ⟨[], rfl, fun _ h => by cases h⟩
  | cons x L ih =>
    by_cases hx : m ≤ kMin x
    · refine ⟨[], ?_, fun _ h => by cases h⟩
      have hall : ∀ y ∈ x :: L, decide (m ≤ kMin y) = true := by
        intro y hy
        rcases List.mem_cons.mp hy with rfl | hy
        · simpa using hx
        · have := k_min_le (Nat.le_of_lt (wL_gt (P := []) h y hy))
          simp
          omega
      unfold wFrom
      rw [List.filter_eq_self.mpr hall]
      rfl
    · obtain ⟨P, h1, h2⟩ := ih (wL_tail (P := [x]) h)
      refine ⟨x :: P, ?_, fun y hy => ?_⟩
      · unfold wFrom at h1 ⊢
        rw [List.filter_cons_of_neg (by simpa using hx), List.cons_append, ← h1]
      · rcases List.mem_cons.mp hy with rfl | hy
        · omega
        · exact h2 y hy
theorem wFrom_in {L : List Nat} {m y : Nat} : y ∈ wFrom L m ↔ y ∈ L ∧ m ≤ kMin y := by
  unfold wFrom
  rw [List.mem_filter, decide_eq_true_eq]
/-- comings ahead change nothing of what stands in the towns -/
theorem wS_com (P S : List Nat) (hP : ∀ x ∈ P, kGo x ≠ 1) : (wRS tw (P ++ S)).2 = (wRS tw S).2 := by
  induction P with
  | nil => rfl
  | cons x P ih =>
    show (wRS tw (x :: (P ++ S))).2 = _
    conv => lhs; unfold wRS
    rw [if_neg (hP x List.mem_cons_self)]
    exact ih fun y hy => hP y (List.mem_cons_of_mem _ hy)
/-- behind a coming: as from its minute on -/
theorem wS_min {L : List Nat} (h : wL L) {P S : List Nat} {c : Nat} (hL : L = P ++ c :: S) (hc : kGo c ≠ 1) : (wRS tw (wFrom L (kMin c))).2 = (wRS tw S).2 := by
  obtain ⟨Q, q1, q2⟩ := wFrom_app h (kMin c)
  have hcm : c ∈ wFrom L (kMin c) := wFrom_in.mpr ⟨by rw [hL]; simp, Nat.le_refl _⟩
  obtain ⟨R, S2, hR⟩ := List.append_of_mem hcm
  have hL2 : L = (Q ++ R) ++ c :: S2 := by
    rw [List.append_assoc, ← hR]
    exact q1
  have hSS : S2 = S := by
    have a1 : ∀ y, y ∈ S ↔ y ∈ L ∧ c < y := fun y => ⟨fun hy => ⟨by rw [hL]; simp [hy], wL_gt (hL ▸ h) y hy⟩, fun hy => wL_ff (hL ▸ h) (hL ▸ hy.1) hy.2⟩
    have a2 : ∀ y, y ∈ S2 ↔ y ∈ L ∧ c < y := fun y => ⟨fun hy => ⟨by rw [hL2]; simp [hy], wL_gt (hL2 ▸ h) y hy⟩, fun hy => wL_ff (hL2 ▸ h) (hL2 ▸ hy.1) hy.2⟩
    have p1 : S.Pairwise (· < ·) := (List.pairwise_cons.mp (wL_tail (hL ▸ h)).1).2
    have p2 : S2.Pairwise (· < ·) := (List.pairwise_cons.mp (wL_tail (hL2 ▸ h)).1).2
    exact wSorted p2 p1 fun y => (a2 y).trans (a1 y).symm
  rw [hR, hSS, show R ++ c :: S = (R ++ [c]) ++ S by simp]
  refine wS_com _ _ fun x hx => ?_
  rcases List.mem_append.mp hx with hx | hx
  · intro hg
    have h1 : x < c := wL_lt (hL2 ▸ h) x (by simp [hx])
    have h2 : kMin c ≤ kMin x := (wFrom_in.mp (by rw [hR]; simp [hx])).2
    have := (k_gc hg hc).mpr h2
    omega
  · rw [List.mem_singleton.mp hx]
    exact hc
theorem wFirst {L : List Nat} (h : wL L) (hl : L.length ≤ 1000) (hg : ∀ x ∈ L, kGo x = 1 → gm (kT x) (kD x) (kI x) = kMin x) (a m to : Nat) :
    ((wRS tw (wFrom L m)).2 a to = NOW ∧ ∀ x ∈ L, kGo x = 1 → m ≤ kMin x → kA tw x = a → wLv gm tw L (kS x) to = 0) ∨
    ∃ z f, (z, f) ∈ wG tw L ∧ m ≤ kMin z ∧ kA tw z = a ∧ f to = (wRS tw (wFrom L m)).2 a to ∧ f to ≠ NOW ∧ wLv gm tw L (kS z) to = f to % 8 ∧ 0 < f to % 8 ∧ ∀ x ∈ L, kGo x = 1 → m ≤ kMin x → kA tw x = a → x < z → wLv gm tw L (kS x) to = 0 := by
  obtain ⟨P, q1, q2⟩ := wFrom_app h m
  have hF : wL (wFrom L m) := wL_tail (P := P) (q1 ▸ h)
  have hin : ∀ q, q ∈ wG tw (wFrom L m) → q ∈ wG tw L := fun q hq => by
    have h2 := wG_app (tw := tw) P (wFrom L m) hq
    rw [← q1] at h2
    exact h2
  have hout : ∀ x f, (x, f) ∈ wG tw L → m ≤ kMin x → (x, f) ∈ wG tw (wFrom L m) := fun x f hx hm => by
    obtain ⟨f2, hf2⟩ := wG_of (tw := tw) (wFrom_in.mpr ⟨(wG_in hx).1, hm⟩) (wG_in hx).2
    rw [wG_uniq h hx (hin _ hf2)]
    exact hf2
  rcases wS_at (tw := tw) (S := wFrom L m) a to with e | ⟨z, f, z1, z2, z3⟩
  · refine Or.inl ⟨e, fun x hx hgx hmx hax => ?_⟩
    obtain ⟨f, hf⟩ := wG_of (tw := tw) hx hgx
    refine (wQ (gm := gm) h hl hg hf (to := to)).2 fun hb => ?_
    have h1 := wS_le (hout x f hf hmx) to
    rw [hax, e] at h1
    have h2 := wG_le_NOW h hl hf (to := to)
    have h3 := hb.1
    omega
  · by_cases hN : (wRS tw (wFrom L m)).2 a to = NOW
    · refine Or.inl ⟨hN, fun x hx hgx hmx hax => ?_⟩
      obtain ⟨f, hf⟩ := wG_of (tw := tw) hx hgx
      refine (wQ (gm := gm) h hl hg hf (to := to)).2 fun hb => ?_
      have h1 := wS_le (hout x f hf hmx) to
      rw [hax, hN] at h1
      have h2 := wG_le_NOW h hl hf (to := to)
      have h3 := hb.1
      omega
    · have hzL := hin _ z1
      have hfN : f to ≠ NOW := by rw [← z3]; exact hN
      have hb : wBest tw L z to f := by
        refine ⟨hfN, fun z2' f2 h2 h3 h4 h5 => ?_⟩
        have hm2 : m ≤ kMin z2' := by
          have h8 : m ≤ kMin z := (wFrom_in.mp (wG_in z1).1).2
          have h6 : kMin z ≤ kMin z2' := h4
          omega
        have h6 := wS_le (hout z2' f2 h2 hm2) to
        rw [h3, z2, z3] at h6
        have h7 := wDist h hzL h2 (Ne.symm h5) hfN
        omega
      refine Or.inr ⟨z, f, hzL, (wFrom_in.mp (wG_in z1).1).2, z2, z3.symm, hfN, (wQ (gm := gm) h hl hg hzL (to := to)).1 hb, (wF h hzL hfN).2.2.2.1, fun x hx hgx hmx hax hlt => ?_⟩
      obtain ⟨f2, hf2⟩ := wG_of (tw := tw) hx hgx
      refine (wQ (gm := gm) h hl hg hf2 (to := to)).2 fun hb2 => ?_
      have h1 := hb2.2 z f hzL (z2.trans hax.symm) (k_min_le (Nat.le_of_lt hlt)) (by omega)
      have h2 := wS_le (hout x f2 hf2 hmx) to
      rw [hax, z3] at h2
      omega
/-- the next run of a way -/
theorem wNext {L : List Nat} (h : wL L) {z to : Nat} {f : Nat → Nat} (hz : (z, f) ∈ wG tw L) (hf : f to ≠ NOW) : ∃ c ∈ L, kGo c ≠ 1 ∧ kT c = kT z ∧ kD c = kD z ∧ kI c = f to % 8 ∧
    ((to = kA tw c ∧ f to / 8192 = kMin c * 256 + 1) ∨ (to ≠ kA tw c ∧ (wRS tw (wFrom L (kMin c))).2 (kA tw c) to ≠ NOW ∧ f to / 8192 = (wRS tw (wFrom L (kMin c))).2 (kA tw c) to / 8192 + 1)) := by
  obtain ⟨-, -, -, -, P, c, S', e1, e2, e3, e4, e5, e6, e7⟩ := wF h hz hf
  refine ⟨c, by rw [e1]; simp, e3, e4, e5, e6, ?_⟩
  rw [wS_min h e1 e3]
  exact e7
/-- which of two ways is the better -/
theorem wLess {L : List Nat} (h : wL L) (hl : L.length ≤ 1000) {z z2 to : Nat} {f f2 : Nat → Nat} (hz : (z, f) ∈ wG tw L) (hz2 : (z2, f2) ∈ wG tw L) (hne : z ≠ z2) (hf : f to ≠ NOW) (hf2 : f2 to ≠ NOW) :
    f to < f2 to ↔ if f to / 2097152 ≠ f2 to / 2097152 then f to / 2097152 < f2 to / 2097152 else if f to / 8192 % 256 ≠ f2 to / 8192 % 256 then f to / 8192 % 256 < f2 to / 8192 % 256 else if 7 * kT z + kD z ≠ 7 * kT z2 + kD z2 then 7 * kT z + kD z < 7 * kT z2 + kD z2 else kI z < kI z2 := by
  obtain ⟨a1, a2, a3, -⟩ := wF h hz hf
  obtain ⟨b1, b2, b3, -⟩ := wF h hz2 hf2
  have t1 := (h.2.1 z (wG_in hz).1).1
  have t2 := (h.2.1 z2 (wG_in hz2).1).1
  have hx : ¬ (kT z = kT z2 ∧ kD z = kD z2 ∧ kI z = kI z2) := by
    intro ⟨e1, e2, e3⟩
    refine hne (kS_inj h (wG_in hz).1 (wG_in hz2).1 (wG_in hz).2 (wG_in hz2).2 ?_)
    unfold kS kR
    rw [e1, e2, e3]
  have i1 := kI_lt z
  have i2 := kI_lt z2
  obtain ⟨m, k, r1, r2, r3, r4⟩ := wRuns h hl hz hf
  obtain ⟨m2, k2, s1, s2, s3, s4⟩ := wRuns h hl hz2 hf2
  -- the low bits' own numbers
  have hT : ∀ x : Nat, x / 8192 = x / 2097152 * 256 + x / 8192 % 256 := fun x => by omega
  have c1 : f to = (f to / 8192) * 8192 + kT z * 512 + kD z * 64 + kI z * 8 + f to % 8 := by omega
  have c2 : f2 to = (f2 to / 8192) * 8192 + kT z2 * 512 + kD z2 * 64 + kI z2 * 8 + f2 to % 8 := by omega
  have l1 : f to % 8 < 8 := Nat.mod_lt _ (by decide)
  have l2 : f2 to % 8 < 8 := Nat.mod_lt _ (by decide)
  generalize f to % 8 = x1 at *
  generalize f2 to % 8 = x2 at *
  have g1 : f to / 2097152 = m := by omega
  have g2 : f2 to / 2097152 = m2 := by omega
  have g3 : f to / 8192 % 256 = k := by omega
  have g4 : f2 to / 8192 % 256 = k2 := by omega
  rw [g1, g2, g3, g4]
  rw [r1] at c1
  rw [s1] at c2
  rw [c1, c2]
  clear a1 a2 a3 b1 b2 b3 hT c1 c2 g1 g2 g3 g4 r1 s1
  constructor
  · intro hlt
    split
    · omega
    · split
      · omega
      · split
        · omega
        · omega
  · intro hlt
    split at hlt
    · omega
    · split at hlt
      · omega
      · split at hlt
        · omega
        · omega
end WAYS3
