/-! ways, purely: keys are numbers (minute, coming or going, train, day, stop); a way is a number of which the lesser is the better -/
def kMin (x : Nat) : Nat := x / 2048
def kGo (x : Nat) : Nat := x / 1024 % 2
def kT (x : Nat) : Nat := x / 64 % 16
def kD (x : Nat) : Nat := x / 8 % 8
def kI (x : Nat) : Nat := x % 8
def kR (x : Nat) : Nat := 10 * kD x + kT x
def kLeg (x : Nat) : Nat := kT x * 512 + kD x * 64
def kA (tw : Nat → Nat → Nat) (x : Nat) : Nat := tw (kT x) (kI x)
def NOW : Nat := 4611686018427387904
theorem NOW_eq : NOW = 4611686018427387904 := rfl
def wOpt (tw : Nat → Nat → Nat) (sy : Nat → Nat → Nat) (x to : Nat) : Nat := if to = kA tw x then kMin x * 2097152 + 8192 + (kLeg x + kI x) else if sy (kA tw x) to = NOW then NOW else (sy (kA tw x) to / 8192 + 1) * 8192 + (kLeg x + kI x)
def wTak (rd : Nat → Nat → Nat) (x to : Nat) : Nat := if rd (kR x) to = NOW then NOW else rd (kR x) to + kI x * 8
def wRS (tw : Nat → Nat → Nat) : List Nat → (Nat → Nat → Nat) × (Nat → Nat → Nat)
  | [] => (fun _ _ => NOW, fun _ _ => NOW)
  | x :: S => if kGo x = 1 then ((wRS tw S).1, fun a to => if a = kA tw x then min ((wRS tw S).2 a to) (wTak (wRS tw S).1 x to) else (wRS tw S).2 a to)
    else (fun r to => if r = kR x then min ((wRS tw S).1 r to) (wOpt tw (wRS tw S).2 x to) else (wRS tw S).1 r to, (wRS tw S).2)
/-- the goings, each with its ways -/
def wG (tw : Nat → Nat → Nat) : List Nat → List (Nat × (Nat → Nat))
  | [] => []
  | x :: S => if kGo x = 1 then (x, wTak (wRS tw S).1 x) :: wG tw S else wG tw S
theorem wSorted {A B : List Nat} (ha : A.Pairwise (· < ·)) (hb : B.Pairwise (· < ·)) (h : ∀ y, y ∈ A ↔ y ∈ B) : A = B := by
  induction A generalizing B with
  | nil =>
    cases B with
    | nil => rfl
    | cons b B => exact absurd ((h b).mpr List.mem_cons_self) List.not_mem_nil
  | cons a A ih =>
    cases B with
    | nil => exact absurd ((h a).mp List.mem_cons_self) List.not_mem_nil
    | cons b B =>
      obtain ⟨a1, a2⟩ := List.pairwise_cons.mp ha
      obtain ⟨b1, b2⟩ := List.pairwise_cons.mp hb
      have hab : a = b := by
        rcases List.mem_cons.mp ((h a).mp List.mem_cons_self) with e | e
        · exact e
        · rcases List.mem_cons.mp ((h b).mpr List.mem_cons_self) with e2 | e2
          · exact e2.symm
          · have := a1 b e2
            have := b1 a e
            omega
      subst hab
      rw [ih a2 b2 fun y => ⟨fun hy => ?_, fun hy => ?_⟩]
      · rcases List.mem_cons.mp ((h y).mp (List.mem_cons_of_mem _ hy)) with e | e
        · subst e
          exact absurd (a1 y hy) (Nat.lt_irrefl _)
        · exact e
      · rcases List.mem_cons.mp ((h y).mpr (List.mem_cons_of_mem _ hy)) with e | e
        · subst e
          exact absurd (b1 y hy) (Nat.lt_irrefl _)
        · exact e
section WAYS
variable {tw : Nat → Nat → Nat}
theorem wG_in {S : List Nat} {q : Nat × (Nat → Nat)} (h : q ∈ wG tw S) : q.1 ∈ S ∧ kGo q.1 = 1 := by
  induction S with
  | nil => cases h
  | cons x S ih =>
    unfold wG at h
    split at h
    · rename_i hx
      rcases List.mem_cons.mp h with rfl | h
      · exact ⟨List.mem_cons_self, hx⟩
      · exact ⟨List.mem_cons_of_mem _ (ih h).1, (ih h).2⟩
    · exact ⟨List.mem_cons_of_mem _ (ih h).1, (ih h).2⟩
theorem wG_of {S : List Nat} {z : Nat} (h : z ∈ S) (hz : kGo z = 1) : ∃ f, (z, f) ∈ wG tw S := by
  induction S with
  | nil => cases h
  | cons x S ih =>
    unfold wG
    rcases List.mem_cons.mp h with rfl | h
    · rw [if_pos hz]
      exact ⟨_, List.mem_cons_self⟩
    · obtain ⟨f, hf⟩ := ih h
      split
      · exact ⟨f, List.mem_cons_of_mem _ hf⟩
      · exact ⟨f, hf⟩
theorem wS_le {S : List Nat} {z : Nat} {f : Nat → Nat} (h : (z, f) ∈ wG tw S) (to : Nat) : (wRS tw S).2 (kA tw z) to ≤ f to := by
  induction S with
  | nil => cases h
  | cons x S ih =>
    unfold wG at h
    unfold wRS
    split at h
    · rename_i hx
      rw [if_pos hx]
      dsimp only
      rcases List.mem_cons.mp h with e | h
      · injection e with e1 e2
        subst e1
        rw [if_pos rfl, e2]
        exact Nat.min_le_right _ _
      · have h1 := ih h
        split
        · exact Nat.le_trans (Nat.min_le_left _ _) h1
        · exact h1
    · rename_i hx
      rw [if_neg hx]
      exact ih h
theorem wS_at {S : List Nat} (a to : Nat) : (wRS tw S).2 a to = NOW ∨ ∃ z f, (z, f) ∈ wG tw S ∧ kA tw z = a ∧ (wRS tw S).2 a to = f to := by
  induction S with
  | nil => exact Or.inl rfl
  | cons x S ih =>
    unfold wRS wG
    by_cases hx : kGo x = 1
    · rw [if_pos hx, if_pos hx]
      dsimp only
      by_cases ha : a = kA tw x
      · rw [if_pos ha]
        rcases Nat.le_total ((wRS tw S).2 a to) (wTak (wRS tw S).1 x to) with hm | hm
        · rw [Nat.min_eq_left hm]
          rcases ih with h | ⟨z, f, h1, h2, h3⟩
          · exact Or.inl h
          · exact Or.inr ⟨z, f, List.mem_cons_of_mem _ h1, h2, h3⟩
        · rw [Nat.min_eq_right hm]
          exact Or.inr ⟨x, _, List.mem_cons_self, ha.symm, rfl⟩
      · rw [if_neg ha]
        rcases ih with h | ⟨z, f, h1, h2, h3⟩
        · exact Or.inl h
        · exact Or.inr ⟨z, f, List.mem_cons_of_mem _ h1, h2, h3⟩
    · rw [if_neg hx, if_neg hx]
      exact ih
theorem wR_le_tail (x : Nat) (S : List Nat) (r to : Nat) : (wRS tw (x :: S)).1 r to ≤ (wRS tw S).1 r to := by
  conv => lhs; unfold wRS
  split
  · exact Nat.le_refl _
  · dsimp only
    split
    · exact Nat.min_le_left _ _
    · exact Nat.le_refl _
theorem wR_le_app (P S : List Nat) (r to : Nat) : (wRS tw (P ++ S)).1 r to ≤ (wRS tw S).1 r to := by
  induction P with
  | nil => exact Nat.le_refl _
  | cons x P ih => exact Nat.le_trans (wR_le_tail x (P ++ S) r to) ih
theorem wR_le_opt {S : List Nat} {c : Nat} (P S' : List Nat) (hS : S = P ++ c :: S') (hc : kGo c ≠ 1) (to : Nat) : (wRS tw S).1 (kR c) to ≤ wOpt tw (wRS tw S').2 c to := by
  subst hS
  refine Nat.le_trans (wR_le_app P (c :: S') (kR c) to) ?_
  conv => lhs; unfold wRS
  rw [if_neg hc]
  dsimp only
  rw [if_pos rfl]
  exact Nat.min_le_right _ _
theorem wR_at {S : List Nat} (r to : Nat) : (wRS tw S).1 r to = NOW ∨ ∃ P c S', S = P ++ c :: S' ∧ kGo c ≠ 1 ∧ kR c = r ∧ (wRS tw S).1 r to = wOpt tw (wRS tw S').2 c to := by
  induction S with
  | nil => exact Or.inl rfl
  | cons x S ih =>
    have keep : (wRS tw S).1 r to = NOW ∨ (∃ P c S', x :: S = P ++ c :: S' ∧ kGo c ≠ 1 ∧ kR c = r ∧ (wRS tw S).1 r to = wOpt tw (wRS tw S').2 c to) := by
      rcases ih with h | ⟨P, c, S', h1, h2, h3, h4⟩
      · exact Or.inl h
      · exact Or.inr ⟨x :: P, c, S', by rw [h1]; rfl, h2, h3, h4⟩
    have e : (wRS tw (x :: S)).1 r to = if kGo x = 1 then (wRS tw S).1 r to else if r = kR x then min ((wRS tw S).1 r to) (wOpt tw (wRS tw S).2 x to) else (wRS tw S).1 r to := by
      conv => lhs; unfold wRS
      split <;> rfl
    rw [e]
    by_cases hx : kGo x = 1
    · rw [if_pos hx]
      exact keep
    · rw [if_neg hx]
      by_cases hr : r = kR x
      · rw [if_pos hr]
        rcases Nat.le_total ((wRS tw S).1 r to) (wOpt tw (wRS tw S).2 x to) with hm | hm
        · rw [Nat.min_eq_left hm]
          exact keep
        · rw [Nat.min_eq_right hm]
          exact Or.inr ⟨[], x, S, rfl, hx, hr.symm, rfl⟩
      · rw [if_neg hr]
        exact keep
theorem wG_split {S : List Nat} {z : Nat} {f : Nat → Nat} (h : (z, f) ∈ wG tw S) : ∃ P S', S = P ++ z :: S' ∧ f = wTak (wRS tw S').1 z := by
  induction S with
  | nil => cases h
  | cons x S ih =>
    unfold wG at h
    split at h
    · rcases List.mem_cons.mp h with e | h
      · injection e with e1 e2
        subst e1
        exact ⟨[], S, rfl, e2⟩
      · obtain ⟨P, S', h1, h2⟩ := ih h
        exact ⟨x :: P, S', by rw [h1]; rfl, h2⟩
    · obtain ⟨P, S', h1, h2⟩ := ih h
      exact ⟨x :: P, S', by rw [h1]; rfl, h2⟩
theorem wG_app (P S : List Nat) {q : Nat × (Nat → Nat)} (h : q ∈ wG tw S) : q ∈ wG tw (P ++ S) := by
  induction P with
  | nil => exact h
  | cons x P ih =>
    show q ∈ wG tw (x :: (P ++ S))
    unfold wG
    split
    · exact List.mem_cons_of_mem _ ih
    · exact ih
/-- the list's keys: in their order, of trains 0 .. 9, runs in the order of their stops -/
def wL (L : List Nat) : Prop := L.Pairwise (· < ·) ∧ (∀ x ∈ L, (kT x < 10 ∧ kD x < 7) ∧ kMin x ≤ 10079) ∧ ∀ x ∈ L, ∀ y ∈ L, kR x = kR y → x < y → kI x < kI y ∨ kI x = kI y ∧ kGo x = 0 ∧ kGo y = 1
theorem wL_tail {P S : List Nat} (h : wL (P ++ S)) : wL S := ⟨(List.pairwise_append.mp h.1).2.1, fun x hx => h.2.1 x (List.mem_append_right _ hx), fun x hx y hy => h.2.2 x (List.mem_append_right _ hx) y (List.mem_append_right _ hy)⟩
theorem wL_gt {P S : List Nat} {x : Nat} (h : wL (P ++ x :: S)) : ∀ y ∈ S, x < y := by
  have h1 := (List.pairwise_append.mp h.1).2.1
  exact (List.pairwise_cons.mp h1).1
theorem wL_lt {P S : List Nat} {x : Nat} (h : wL (P ++ x :: S)) : ∀ y ∈ P, y < x := fun y hy => (List.pairwise_append.mp h.1).2.2 y hy x List.mem_cons_self
theorem wL_ff {P S : List Nat} {x : Nat} (h : wL (P ++ x :: S)) {y : Nat} (hy : y ∈ P ++ x :: S) (hxy : x < y) : y ∈ S := by
  rcases List.mem_append.mp hy with h1 | h1
  · have := wL_lt h y h1
    omega
  · rcases List.mem_cons.mp h1 with rfl | h1
    · omega
    · exact h1
theorem kR_inj {x y : Nat} (hx : kT x < 10 ∧ kD x < 7) (hy : kT y < 10 ∧ kD y < 7) (h : kR x = kR y) : kT x = kT y ∧ kD x = kD y := by
  unfold kR at h
  omega
/-- for a going and a coming: it is behind it iff its minute is not ahead of it -/
theorem k_gc {z c : Nat} (hz : kGo z = 1) (hc : kGo c ≠ 1) : c < z ↔ kMin c ≤ kMin z := by
  unfold kGo at hz hc
  unfold kMin
  omega
theorem k_min_le {x y : Nat} (h : x ≤ y) : kMin x ≤ kMin y := by
  unfold kMin
  omega
theorem kLeg_lt (x : Nat) : kLeg x + kI x < 8136 := by
  unfold kLeg kI kT kD
  omega
theorem kI_lt (x : Nat) : kI x < 8 := by
  unfold kI
  omega
theorem kLeg_lt2 (x : Nat) (i : Nat) (hi : i < 8) : kLeg x + kI x * 8 + i < 8192 := by
  unfold kLeg kI kT kD
  omega
theorem kLeg_eq {x y : Nat} (h : kT x = kT y ∧ kD x = kD y) : kLeg x = kLeg y := by
  unfold kLeg
  rw [h.1, h.2]
theorem NOW_big (S : List Nat) (h : wL S) : ∀ (a to : Nat), ((wRS tw S).2 a to = NOW ∨ (wRS tw S).2 a to < 8192 * (10079 * 256 + S.length + 1) + 8192) ∧ ((wRS tw S).1 a to = NOW ∨ (wRS tw S).1 a to < 8192 * (10079 * 256 + S.length + 1) + 8136) := by
  induction S with
  | nil => exact fun a to => ⟨Or.inl rfl, Or.inl rfl⟩
  | cons x S ih =>
    have ih := ih (wL_tail (P := [x]) h)
    have hx := (h.2.1 x List.mem_cons_self).2
    intro a to
    have hl : (x :: S).length = S.length + 1 := rfl
    rw [hl]
    unfold wRS
    by_cases hg : kGo x = 1
    · rw [if_pos hg]
      dsimp only
      refine ⟨?_, ?_⟩
      · obtain ⟨h1, -⟩ := ih a to
        obtain ⟨-, h2⟩ := ih (kR x) to
        have hk := kLeg_lt2 x 0 (by omega)
        have hk2 := kI_lt x
        have h3 : wTak (wRS tw S).1 x to = NOW ∨ wTak (wRS tw S).1 x to < 8192 * (10079 * 256 + (S.length + 1) + 1) + 8192 := by
          unfold wTak
          by_cases e : (wRS tw S).1 (kR x) to = NOW
          · exact Or.inl (by rw [if_pos e])
          · rw [if_neg e]
            rcases h2 with h2 | h2
            · exact absurd h2 e
            · exact Or.inr (by omega)
        split
        · rcases Nat.le_total ((wRS tw S).2 a to) (wTak (wRS tw S).1 x to) with hm | hm
          · rw [Nat.min_eq_left hm]
            rcases h1 with h1 | h1
            · exact Or.inl h1
            · exact Or.inr (by omega)
          · rw [Nat.min_eq_right hm]
            exact h3
        · rcases h1 with h1 | h1
          · exact Or.inl h1
          · exact Or.inr (by omega)
      · rcases (ih a to).2 with h1 | h1
        · exact Or.inl h1
        · exact Or.inr (by omega)
    · rw [if_neg hg]
      dsimp only
      refine ⟨?_, ?_⟩
      · rcases (ih a to).1 with h1 | h1
        · exact Or.inl h1
        · exact Or.inr (by omega)
      · obtain ⟨-, h1⟩ := ih a to
        obtain ⟨h2, -⟩ := ih (kA tw x) to
        have hk := kLeg_lt x
        have h3 : wOpt tw (wRS tw S).2 x to = NOW ∨ wOpt tw (wRS tw S).2 x to < 8192 * (10079 * 256 + (S.length + 1) + 1) + 8136 := by
          unfold wOpt
          split
          · exact Or.inr (by omega)
          · split
            · exact Or.inl rfl
            · rename_i e
              rcases h2 with h2 | h2
              · exact absurd h2 e
              · exact Or.inr (by omega)
        split
        · rcases Nat.le_total ((wRS tw S).1 a to) (wOpt tw (wRS tw S).2 x to) with hm | hm
          · rw [Nat.min_eq_left hm]
            rcases h1 with h1 | h1
            · exact Or.inl h1
            · exact Or.inr (by omega)
          · rw [Nat.min_eq_right hm]
            exact h3
        · rcases h1 with h1 | h1
          · exact Or.inl h1
          · exact Or.inr (by omega)
/-- a going's way: where it leaves the run, and how it goes on from there -/
theorem wE {S : List Nat} (h : wL S) {z to : Nat} {f : Nat → Nat} (hz : (z, f) ∈ wG tw S) (hf : f to ≠ NOW) : ∃ P c S', S = P ++ c :: S' ∧ z ∈ P ∧ kGo c ≠ 1 ∧ kR c = kR z ∧ kI z < kI c ∧
    ((to = kA tw c ∧ f to = (kMin c * 256 + 1) * 8192 + (kLeg z + kI z * 8 + kI c)) ∨ (to ≠ kA tw c ∧ (wRS tw S').2 (kA tw c) to ≠ NOW ∧ f to = ((wRS tw S').2 (kA tw c) to / 8192 + 1) * 8192 + (kLeg z + kI z * 8 + kI c))) := by
  obtain ⟨P1, S1, e1, e2⟩ := wG_split hz
  have hz2 := wG_in hz
  rw [e2] at hf ⊢
  unfold wTak at hf ⊢
  by_cases hn : (wRS tw S1).1 (kR z) to = NOW
  · rw [if_pos hn] at hf
    exact absurd rfl hf
  rw [if_neg hn]
  rcases wR_at (tw := tw) (S := S1) (kR z) to with q | ⟨P, c, S', q1, q2, q3, q4⟩
  · exact absurd q hn
  have hS : S = (P1 ++ z :: P) ++ c :: S' := by rw [e1, q1]; simp
  have hc : c ∈ S := by rw [hS]; simp
  have hzc : z < c := wL_gt (e1 ▸ h) c (by rw [q1]; simp)
  have hkr := kR_inj (h.2.1 c hc).1 (h.2.1 z hz2.1).1 q3
  have hi : kI z < kI c := by
    rcases h.2.2 z hz2.1 c hc q3.symm hzc with k | ⟨k1, k2, k3⟩
    · exact k
    · rw [hz2.2] at k2
      omega
  refine ⟨P1 ++ z :: P, c, S', hS, by simp, q2, q3, hi, ?_⟩
  rw [q4] at hn ⊢
  have hl := kLeg_eq hkr
  unfold wOpt at hn ⊢
  by_cases ht : to = kA tw c
  · refine Or.inl ⟨ht, ?_⟩
    rw [if_pos ht, hl]
    omega
  · rw [if_neg ht] at hn ⊢
    by_cases hs : (wRS tw S').2 (kA tw c) to = NOW
    · rw [if_pos hs] at hn
      exact absurd rfl hn
    · refine Or.inr ⟨ht, hs, ?_⟩
      rw [if_neg hs, hl]
      omega
theorem wE_div {S : List Nat} (h : wL S) {z to : Nat} {f : Nat → Nat} (hz : (z, f) ∈ wG tw S) (hf : f to ≠ NOW) {P S1 : List Nat} (hS : S = P ++ z :: S1) : f to / 8192 = (wRS tw S1).1 (kR z) to / 8192 ∧ (wRS tw S1).1 (kR z) to ≠ NOW := by
  obtain ⟨P2, S2, e1, e2⟩ := wG_split hz
  have hSS : S2 = S1 := by
    have h1 : ∀ y, y ∈ S1 ↔ y ∈ S ∧ z < y := fun y => ⟨fun hy => ⟨by rw [hS]; simp [hy], wL_gt (hS ▸ h) y hy⟩, fun hy => wL_ff (hS ▸ h) (hS ▸ hy.1) hy.2⟩
    have h2 : ∀ y, y ∈ S2 ↔ y ∈ S ∧ z < y := fun y => ⟨fun hy => ⟨by rw [e1]; simp [hy], wL_gt (e1 ▸ h) y hy⟩, fun hy => wL_ff (e1 ▸ h) (e1 ▸ hy.1) hy.2⟩
    have p1 : S1.Pairwise (· < ·) := (List.pairwise_cons.mp (wL_tail (hS ▸ h)).1).2
    have p2 : S2.Pairwise (· < ·) := (List.pairwise_cons.mp (wL_tail (e1 ▸ h)).1).2
    exact wSorted p2 p1 fun y => (h2 y).trans (h1 y).symm
  subst hSS
  rw [e2] at hf ⊢
  unfold wTak at hf ⊢
  by_cases hn : (wRS tw S2).1 (kR z) to = NOW
  · rw [if_pos hn] at hf
    exact absurd rfl hf
  · rw [if_neg hn]
    refine ⟨?_, hn⟩
    rcases wR_at (tw := tw) (S := S2) (kR z) to with q | ⟨P, c, S', q1, q2, q3, q4⟩
    · exact absurd q hn
    have hz2 := wG_in hz
    have hc : c ∈ S := by rw [e1, q1]; simp
    have hl := kLeg_eq (kR_inj (h.2.1 c hc).1 (h.2.1 z hz2.1).1 q3)
    have hb := kLeg_lt2 z (kI c) (kI_lt c)
    have hb2 := kLeg_lt c
    rw [q4] at hn ⊢
    unfold wOpt at hn ⊢
    split
    · rw [hl]
      omega
    · rename_i ht
      rw [if_neg ht] at hn
      split
      · rename_i hs
        rw [if_pos hs] at hn
        exact absurd rfl hn
      · rw [hl]
        omega
/-- along a run no later going is better than an earlier one -/
theorem NOW_S {S : List Nat} (h : wL S) (hn : S.length ≤ 1000) (a to : Nat) (hv : (wRS tw S).2 a to ≠ NOW) : (wRS tw S).2 a to < 30000000000 := by
  rcases (NOW_big (tw := tw) S h a to).1 with e | e
  · exact absurd e hv
  · omega
theorem NOW_R {S : List Nat} (h : wL S) (hn : S.length ≤ 1000) (a to : Nat) (hv : (wRS tw S).1 a to ≠ NOW) : (wRS tw S).1 a to < 30000000000 := by
  rcases (NOW_big (tw := tw) S h a to).2 with e | e
  · exact absurd e hv
  · omega
theorem NOW_G {S : List Nat} (h : wL S) (hn : S.length ≤ 1000) {z to : Nat} {f : Nat → Nat} (hz : (z, f) ∈ wG tw S) (hv : f to ≠ NOW) : f to < 30000001000 := by
  obtain ⟨P, S1, e1, e2⟩ := wG_split hz
  have h1 : wL S1 := wL_tail (P := P ++ [z]) (by rw [List.append_assoc]; exact e1 ▸ h)
  have h2 : S1.length ≤ 1000 := by
    have := congrArg List.length e1
    simp at this
    omega
  have hk := kI_lt z
  rw [e2] at hv ⊢
  unfold wTak at hv ⊢
  split
  · rename_i e
    rw [if_pos e] at hv
    exact absurd rfl hv
  · rename_i e
    have := NOW_R h1 h2 _ _ e
    omega
theorem wMono {S : List Nat} (h : wL S) (hlen : S.length ≤ 1000) {z z2 to : Nat} {f f2 : Nat → Nat} (hz : (z, f) ∈ wG tw S) (hz2 : (z2, f2) ∈ wG tw S) (hr : kR z = kR z2) (hlt : z < z2) (hf : f2 to ≠ NOW) : f to / 8192 ≤ f2 to / 8192 := by
  obtain ⟨P, S1, e1, e2⟩ := wG_split hz
  have hm : z2 ∈ S1 := wL_ff (e1 ▸ h) (e1 ▸ (wG_in hz2).1) hlt
  obtain ⟨P2, S2, e3⟩ := List.append_of_mem hm
  have hS : S = (P ++ z :: P2) ++ z2 :: S2 := by rw [e1, e3]; simp
  obtain ⟨d1, d2⟩ := wE_div h hz2 hf hS
  have hle : (wRS tw S1).1 (kR z) to ≤ (wRS tw S2).1 (kR z2) to := by
    rw [hr, e3, show P2 ++ z2 :: S2 = (P2 ++ [z2]) ++ S2 by simp]
    exact wR_le_app _ _ _ _
  by_cases hn : f to = NOW
  · exfalso
    rw [e2] at hn
    unfold wTak at hn
    have h1 : wL S1 := wL_tail (P := P ++ [z]) (by rw [List.append_assoc]; exact e1 ▸ h)
    have h2 : wL S2 := wL_tail (P := (P ++ z :: P2) ++ [z2]) (by rw [List.append_assoc]; exact hS ▸ h)
    have l1 : S1.length ≤ 1000 := by
      have := congrArg List.length e1
      simp at this
      omega
    have l2 : S2.length ≤ 1000 := by
      have := congrArg List.length hS
      simp at this
      omega
    have k2 := NOW_R h2 l2 _ _ d2
    have hk := kI_lt z
    have hN := NOW_eq
    split at hn
    · omega
    · rename_i hne
      have k1 := NOW_R h1 l1 _ _ hne
      omega
  · obtain ⟨d3, d4⟩ := wE_div h hz hn e1
    rw [d1, d3]
    exact Nat.div_le_div_right hle
theorem pigeon : ∀ (n : Nat) (l : List Nat), l.Nodup → (∀ x ∈ l, x < n) → l.length ≤ n := by
  intro n
  induction n with
  | zero =>
    intro l _ h
    cases l with
    | nil => exact Nat.le_refl _
    | cons x l => exact absurd (h x List.mem_cons_self) (Nat.not_lt_zero _)
  | succ n ih =>
    intro l hn h
    by_cases hm : n ∈ l
    · have h1 := ih (l.erase n) (hn.erase n) fun x hx => by
        have h2 := (hn.mem_erase_iff).mp hx
        have h3 := h x h2.2
        omega
      rw [List.length_erase_of_mem hm] at h1
      omega
    · have h1 := ih l hn fun x hx => by
        have h3 := h x hx
        have h4 : x ≠ n := fun e => hm (e ▸ hx)
        omega
      omega
/-- a best way takes each run once: so it has at most 70 of them -/
theorem wC : ∀ (n : Nat) (S : List Nat), S.length = n → wL S → n ≤ 1000 → ∀ (z to : Nat) (f : Nat → Nat), (z, f) ∈ wG tw S → f to ≠ NOW →
    ∃ (rs : List Nat) (m : Nat), rs.Nodup ∧ (∀ r ∈ rs, r < 70) ∧ f to / 8192 = m * 256 + rs.length ∧ m ≤ 10079 ∧ rs.length ≠ 0 ∧ ∀ r ∈ rs, ∃ z2 f2, (z2, f2) ∈ wG tw S ∧ kR z2 = r ∧ z ≤ z2 ∧ f2 to ≠ NOW ∧ f2 to / 8192 ≤ f to / 8192 := by
  intro n
  induction n using Nat.strongRecOn with
  | _ n ih =>
    intro S hn h hlen z to f hz hf
    obtain ⟨P, c, S', e1, e2, e3, e4, e5, e6⟩ := wE h hz hf
    have hb := kLeg_lt2 z (kI c) (kI_lt c)
    have hr : kR z < 70 := by
      have := (h.2.1 z (wG_in hz).1).1
      unfold kR
      omega
    have hc10 := (h.2.1 c (by rw [e1]; simp)).2
    rcases e6 with ⟨-, e6⟩ | ⟨-, e7, e6⟩
    · refine ⟨[kR z], kMin c, by simp, fun r hr2 => ?_, ?_, hc10, by simp, fun r hr2 => ?_⟩
      · rw [List.mem_singleton.mp hr2]
        exact hr
      · rw [e6]
        simp only [List.length_singleton]
        omega
      · rw [List.mem_singleton.mp hr2]
        exact ⟨z, f, hz, rfl, Nat.le_refl _, hf, Nat.le_refl _⟩
    · have hl : S'.length < n := by
        have := congrArg List.length e1
        simp at this
        omega
      have hS' : wL S' := wL_tail (P := P ++ [c]) (by rw [List.append_assoc]; exact e1 ▸ h)
      rcases wS_at (tw := tw) (S := S') (kA tw c) to with q | ⟨z', f', q1, q2, q3⟩
      · exact absurd q e7
      obtain ⟨rs, m, r1, r2, r3, r4, r5, r6⟩ := ih S'.length hl S' rfl hS' (by omega) z' to f' q1 (by rw [← q3]; exact e7)
      have hdiv : f to / 8192 = f' to / 8192 + 1 := by
        rw [e6, q3]
        omega
      have hin : ∀ q, q ∈ wG tw S' → q ∈ wG tw S := fun q hq => by
        rw [e1, show P ++ c :: S' = (P ++ [c]) ++ S' by simp]
        exact wG_app _ _ hq
      have hgt : ∀ y ∈ S', z < y := fun y hy => by
        have h1 := wL_lt (e1 ▸ h) z e2
        have h2 := wL_gt (e1 ▸ h) y hy
        omega
      refine ⟨kR z :: rs, m, List.nodup_cons.mpr ⟨fun hm => ?_, r1⟩, fun r hr2 => ?_, ?_, r4, by simp, fun r hr2 => ?_⟩
      · obtain ⟨z2, f2, s1, s2, s3, s4, s5⟩ := r6 _ hm
        have h1 := wMono h (by omega) hz (hin _ s1) s2.symm (hgt z2 (wG_in s1).1) s4
        omega
      · rcases List.mem_cons.mp hr2 with rfl | hr2
        · exact hr
        · exact r2 r hr2
      · rw [hdiv, r3]
        simp only [List.length_cons]
        omega
      · rcases List.mem_cons.mp hr2 with rfl | hr2
        · exact ⟨z, f, hz, rfl, Nat.le_refl _, hf, Nat.le_refl _⟩
        · obtain ⟨z2, f2, s1, s2, s3, s4, s5⟩ := r6 r hr2
          exact ⟨z2, f2, hin _ s1, s2, Nat.le_of_lt (hgt z2 (wG_in s1).1), s4, by omega⟩
theorem wRuns {S : List Nat} (h : wL S) (hlen : S.length ≤ 1000) {z to : Nat} {f : Nat → Nat} (hz : (z, f) ∈ wG tw S) (hf : f to ≠ NOW) : ∃ m k, f to / 8192 = m * 256 + k ∧ m ≤ 10079 ∧ 1 ≤ k ∧ k ≤ 70 := by
  obtain ⟨rs, m, r1, r2, r3, r4, r5, -⟩ := wC _ S rfl h hlen z to f hz hf
  exact ⟨m, rs.length, r3, r4, by omega, pigeon 70 rs r1 r2⟩
end WAYS
