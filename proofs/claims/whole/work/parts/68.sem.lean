/-! what a run offers, stop by stop -/
section OI
variable {T : Nat → Nat → Nat → Nat} {L : List Nat}
def oI (T : Nat → Nat → Nat → Nat) (L : List Nat) (t d b i : Nat) : Nat := if tCm T t d i ≤ 10079 then (if b = tW T t i then tCm T t d i * 2097152 + 8192 + (t * 512 + d * 64 + i) else if (wRS (tW T) (wFrom L (tCm T t d i))).2 (tW T t i) b = NOW then NOW else ((wRS (tW T) (wFrom L (tCm T t d i))).2 (tW T t i) b / 8192 + 1) * 8192 + (t * 512 + d * 64 + i)) else NOW
def oMin (T : Nat → Nat → Nat → Nat) (L : List Nat) (t d b i0 : Nat) : Nat → Nat
  | 0 => NOW
  | k + 1 => min (oMin T L t d b i0 k) (oI T L t d b (i0 + k))
theorem oMin_le {t d b i0 j : Nat} : ∀ k, j < k → oMin T L t d b i0 k ≤ oI T L t d b (i0 + j) := by
  intro k
  induction k with
  | zero => exact fun h => absurd h (Nat.not_lt_zero _)
  | succ k ih =>
    intro h
    show min _ _ ≤ _
    by_cases q : j < k
    · exact Nat.le_trans (Nat.min_le_left _ _) (ih q)
    · rw [show j = k by omega]
      exact Nat.min_le_right _ _
theorem oMin_at {t d b i0 : Nat} : ∀ k, oMin T L t d b i0 k = NOW ∨ ∃ j, j < k ∧ oMin T L t d b i0 k = oI T L t d b (i0 + j) := by
  intro k
  induction k with
  | zero => exact Or.inl rfl
  | succ k ih =>
    show min _ _ = _ ∨ ∃ j, _ ∧ min _ _ = _
    rcases Nat.le_total (oMin T L t d b i0 k) (oI T L t d b (i0 + k)) with q | q
    · rw [Nat.min_eq_left q]
      rcases ih with z | ⟨j, z1, z2⟩
      · exact Or.inl z
      · exact Or.inr ⟨j, by omega, z2⟩
    · rw [Nat.min_eq_right q]
      exact Or.inr ⟨k, by omega, rfl⟩
theorem o_code (ok : tOk T) (hL : tList T L) (t d b i : Nat) : oI T L t d b i = NOW ∨ ∃ m k, oI T L t d b i = (m * 256 + k) * 8192 + (t * 512 + d * 64 + i) ∧ m ≤ 10079 ∧ 1 ≤ k ∧ k ≤ 71 := by
  have hw := wFrom_wL (t_wL ok hL) (tCm T t d i)
  have hl := wFrom_len L (tCm T t d i)
  have h9 := t_len2 ok hL
  unfold oI
  by_cases q : tCm T t d i ≤ 10079
  · rw [if_pos q]
    by_cases q2 : b = tW T t i
    · rw [if_pos q2]
      exact Or.inr ⟨_, 1, by omega, q, Nat.le_refl _, by omega⟩
    · rw [if_neg q2]
      by_cases q3 : (wRS (tW T) (wFrom L (tCm T t d i))).2 (tW T t i) b = NOW
      · rw [if_pos q3]
        exact Or.inl rfl
      · rw [if_neg q3]
        rcases wS_at (tw := tW T) (S := wFrom L (tCm T t d i)) (tW T t i) b with z | ⟨z, f, z1, z2, z3⟩
        · exact absurd z q3
        · have q4 : f b ≠ NOW := z3 ▸ q3
          obtain ⟨m, k, r1, r2, r3, r4⟩ := wRuns hw (by omega) z1 q4
          rw [z3, r1]
          exact Or.inr ⟨m, k + 1, by omega, r2, by omega, by omega⟩
  · rw [if_neg q]
    exact Or.inl rfl
theorem o_le (ok : tOk T) (hL : tList T L) {t d : Nat} (ht : t < 10) (hd : d < 7) (b : Nat) {i : Nat} (hi : i < 8) : oI T L t d b i ≤ NOW := by
  have := NOW_eq
  rcases o_code ok hL t d b i with q | ⟨m, k, q, q2, q3, q4⟩ <;> omega
theorem oA (ok : tOk T) (hL : tList T L) (t d b i0 j : Nat) : oMin T L t d b i0 j = NOW ∨ ∃ m k i, oMin T L t d b i0 j = (m * 256 + k) * 8192 + (t * 512 + d * 64 + i) ∧ m ≤ 10079 ∧ 1 ≤ k ∧ k ≤ 71 ∧ i < i0 + j := by
  rcases oMin_at (T := T) (L := L) (t := t) (d := d) (b := b) (i0 := i0) j with q | ⟨j2, q1, q2⟩
  · exact Or.inl q
  · rw [q2]
    rcases o_code ok hL t d b (i0 + j2) with q | ⟨m, k, r1, r2, r3, r4⟩
    · exact Or.inl q
    · exact Or.inr ⟨m, k, i0 + j2, r1, r2, r3, r4, by omega⟩
theorem oMin_stop (ok : tOk T) (hL : tList T L) {t d b i0 j : Nat} (ht : t < 10) (hd : d < 7) (hi0 : i0 + j ≤ 8) : ∀ n, (∀ q, j ≤ q → q < j + n → oI T L t d b (i0 + q) = NOW) → oMin T L t d b i0 (j + n) = oMin T L t d b i0 j := by
  intro n
  induction n with
  | zero => exact fun _ => rfl
  | succ n ih =>
    intro h
    have h1 := ih fun q h1 h2 => h q h1 (by omega)
    have h2 := h (j + n) (by omega) (by omega)
    have h3 : oMin T L t d b i0 j ≤ NOW := by
      have := NOW_eq
      rcases oA ok hL t d b i0 j with q | ⟨m, k, i, q1, q2, q3, q4, q5⟩ <;> omega
    show min (oMin T L t d b i0 (j + n)) (oI T L t d b (i0 + (j + n))) = _
    rw [h1, h2]
    exact Nat.min_eq_left h3
theorem t_cmono (ok : tOk T) {t d i i2 : Nat} (ht : t < 10) (hi : i ≤ i2) (hi2 : i2 < tS T t) : tCm T t d i ≤ tCm T t d i2 := by
  by_cases q : i = i2
  · rw [q]
    exact Nat.le_refl _
  · have h1 := t_lt ok ht (i2 - i - 1) i (by omega)
    rw [show i + (i2 - i - 1) + 1 = i2 by omega] at h1
    have h2 := (ok.2.2.2.1 t i ht (by omega)).2.1
    unfold tCm
    omega
theorem t_ckey {t d i : Nat} (ht : t < tN T) (ht2 : t < 10) (hd : d < 7) (hi : 0 < i) (hi2 : i < tS T t) (hi8 : i < 8) (hm : tCm T t d i ≤ 10079) : ∃ c, tKey T c ∧ kMin c = tCm T t d i ∧ kGo c = 0 ∧ kT c = t ∧ kD c = d ∧ kI c = i := by
  obtain ⟨a1, a2, a3, a4, a5⟩ := k_of (m := tCm T t d i) (g := 0) (t := t) (d := d) (i := i) (by omega) (by omega) (by omega) hi8
  refine ⟨_, ⟨?_, ?_, ?_, ?_⟩, a1, a2, a3, a4, a5⟩
  · rw [a3]
    exact ht
  · rw [a4]
    exact hd
  · rw [a1]
    exact hm
  · rw [a1, a2, a3, a4, a5]
    exact Or.inl ⟨rfl, hi, hi2, rfl⟩
theorem o_opt (ok : tOk T) (hL : tList T L) {c : Nat} (hgo : kGo c ≠ 1) {P S' : List Nat} (hS : L = P ++ c :: S') (b : Nat) : wOpt (tW T) (wRS (tW T) S').2 c b = oI T L (kT c) (kD c) b (kI c) := by
  have hc : c ∈ L := by
    rw [hS]
    exact List.mem_append_right _ List.mem_cons_self
  have hm := ((hL.2 c).mp hc).2.2.1
  unfold oI
  rw [t_cm hL c hc hgo, if_pos hm, ← wS_min (t_wL ok hL) hS hgo]
  rfl
theorem oR (ok : tOk T) (hL : tList T L) {e b : Nat} (he : e < L.length) (hg : kGo (L.getD e 0) = 1) : (wRS (tW T) (L.drop (e + 1))).1 (kR (L.getD e 0)) b = oMin T L (kT (L.getD e 0)) (kD (L.getD e 0)) b (kI (L.getD e 0) + 1) (tS T (kT (L.getD e 0)) - (kI (L.getD e 0) + 1)) := by
  have h := t_wL ok hL
  have hl := t_len2 ok hL
  have hcut := take_cons he
  have hzL := getD_mem he
  generalize hz : L.getD e 0 = z at *
  have hzk := (hL.2 z).mp hzL
  have hn := ok.1
  have hz1 := hzk.1
  have hz2 := hzk.2.1
  have hs := ok.2.1 (kT z) (by omega)
  have hL2 : L = (L.take e ++ [z]) ++ L.drop (e + 1) := by
    rw [List.append_assoc]
    exact hcut
  have hw2 : wL (L.take e ++ z :: L.drop (e + 1)) := by
    rw [← hcut]
    exact h
  have hw : wL (L.drop (e + 1)) := wL_tail (P := L.take e ++ [z]) (by rw [← hL2]; exact h)
  have hdl : (L.drop (e + 1)).length ≤ 1000 := by
    rw [List.length_drop]
    omega
  have big : (wRS (tW T) (L.drop (e + 1))).1 (kR z) b ≤ NOW := by
    by_cases q : (wRS (tW T) (L.drop (e + 1))).1 (kR z) b = NOW
    · exact Nat.le_of_eq q
    · have := NOW_R hw hdl _ _ q
      have := NOW_eq
      omega
  apply Nat.le_antisymm
  · rcases oMin_at (T := T) (L := L) (t := kT z) (d := kD z) (b := b) (i0 := kI z + 1) (tS T (kT z) - (kI z + 1)) with q | ⟨j, q1, q2⟩
    · rw [q]
      exact big
    · rw [q2]
      by_cases hm : tCm T (kT z) (kD z) (kI z + 1 + j) ≤ 10079
      · obtain ⟨c, c1, c2, c3, c4, c5, c6⟩ := t_ckey (T := T) hz1 (by omega) hz2 (i := kI z + 1 + j) (by omega) (by omega) (by omega) hm
        have hcL := (hL.2 c).mpr c1
        have hzc : z < c := by
          rcases Nat.lt_trichotomy z c with r | r | r
          · exact r
          · rw [← r] at c3
            omega
          · have := h.2.2 c hcL z hzL (by unfold kR; rw [c4, c5]) r
            omega
        have hcS : c ∈ L.drop (e + 1) := wL_ff hw2 (by rw [← hcut]; exact hcL) hzc
        obtain ⟨P, S', hP⟩ := List.append_of_mem hcS
        have h1 := wR_le_opt (tw := tW T) P S' hP (by omega : kGo c ≠ 1) b
        have h2 := o_opt ok hL (by omega : kGo c ≠ 1) (P := L.take e ++ [z] ++ P) (S' := S') (by rw [List.append_assoc, ← hP]; exact hL2) b
        rw [h2, c4, c5, c6] at h1
        have h3 : kR c = kR z := by
          unfold kR
          rw [c4, c5]
        rw [h3] at h1
        exact h1
      · unfold oI
        rw [if_neg hm]
        exact big
  · rcases wR_at (tw := tW T) (S := L.drop (e + 1)) (kR z) b with q | ⟨P, c, S', q1, q2, q3, q4⟩
    · rw [q]
      have := NOW_eq
      rcases oMin_at (T := T) (L := L) (t := kT z) (d := kD z) (b := b) (i0 := kI z + 1) (tS T (kT z) - (kI z + 1)) with q | ⟨j, r1, r2⟩
      · omega
      · rw [r2]
        exact o_le ok hL (by omega) hz2 b (by omega)
    · have hcL : L = (L.take e ++ [z] ++ P) ++ c :: S' := by
        rw [List.append_assoc, ← q1]
        exact hL2
      have hc : c ∈ L := by
        rw [hcL]
        exact List.mem_append_right _ List.mem_cons_self
      have hck := (hL.2 c).mp hc
      have hkr := kR_inj (h.2.1 c hc).1 (h.2.1 z hzL).1 q3
      have hzc : z < c := wL_gt hw2 c (by rw [q1]; exact List.mem_append_right _ List.mem_cons_self)
      have hi : kI z < kI c := by
        rcases h.2.2 z hzL c hc q3.symm hzc with k | ⟨k1, k2, k3⟩
        · exact k
        · omega
      have hci : kI c < tS T (kT c) := by
        rcases hck.2.2.2 with ⟨r1, r2, r3, r4⟩ | ⟨r1, r2, r3⟩ <;> omega
      rw [q4, o_opt ok hL q2 hcL b, hkr.1, hkr.2]
      rw [hkr.1] at hci
      have h1 := oMin_le (T := T) (L := L) (t := kT z) (d := kD z) (b := b) (i0 := kI z + 1) (j := kI c - (kI z + 1)) (tS T (kT z) - (kI z + 1)) (by omega)
      rw [show kI z + 1 + (kI c - (kI z + 1)) = kI c by omega] at h1
      exact h1
end OI
