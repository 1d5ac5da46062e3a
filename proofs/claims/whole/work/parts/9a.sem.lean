/-! the leads: the marked keys in their order are the rows behind the first -/
def ldK (L : List Nat) (M : Nat → Bool) (e : Nat) : List Nat := (L.take e).filter fun x => M (kC x)
def ldRow (T : Nat → Nat → Nat → Nat) (G : Nat → Nat → Int) (X : Nat → Nat → Int) (l i x : Nat) : Prop := X 8 (1000 * l + (1 + i)) = kMin x ∧ X 9 (1000 * l + (1 + i)) = (if kGo x = 1 then 1 else stIn G l (kA (tW T) x)) ∧ X 10 (1000 * l + (1 + i)) = (if kGo x = 1 then (kR x : Int) else (kA (tW T) x : Int))
def Ld1 (T : Nat → Nat → Nat → Nat) (L : List Nat) (G : Nat → Nat → Int) (pf fr : Nat → Int) (M : Nat → Bool) (e : Nat) (X : Nat → Nat → Int) (l : Nat) : Prop :=
  (∀ c, M c = true → ∃ j, j < e ∧ j < L.length ∧ kC (L.getD j 0) = c ∧ pf l < kMin (L.getD j 0)) ∧ X 7 l = 1 + ((ldK L M e).length : Int) + (if 4 ≤ X 0 l then 1 else 0) ∧ (X 8 (1000 * l) = pf l ∧ X 9 (1000 * l) = 0 ∧ X 10 (1000 * l) = fr l) ∧
  (∀ i, i < (ldK L M e).length → ldRow T G X l i ((ldK L M e).getD i 0)) ∧ (X 0 l ≤ 1 → ∀ x ∈ ldK L M e, kGo x ≠ 1 → (kA (tW T) x : Int) ≠ G 0 l) ∧ (4 ≤ X 0 l → X 9 (1000 * l + (1 + (ldK L M e).length)) = X 0 l ∧ X 10 (1000 * l + (1 + (ldK L M e).length)) = X 1 l ∧ ∀ x ∈ ldK L M e, (kMin x : Int) ≤ X 8 (1000 * l + (1 + (ldK L M e).length)))
section LDS
variable {T : Nat → Nat → Nat → Nat} {L : List Nat} {G : Nat → Nat → Int} {pf fr : Nat → Int}
theorem kC_inj {x y : Nat} (hx : tKey T x) (hy : tKey T y) (ok : tOk T) (e : kC x = kC y) : x = y := by
  have bx := t_bounds ok hx
  have bY := t_bounds ok hy
  have g1 := kGo_lt x
  have g2 := kGo_lt y
  unfold kC kS kR at e
  refine tKey_inj hx hy ?_
  have e1 : kGo x = kGo y := by omega
  have e2 : kI x = kI y := by omega
  have e3 : kT x = kT y := by omega
  have e4 : kD x = kD y := by omega
  unfold cPos
  rw [e1, e2, e3, e4]
theorem take_next {e : Nat} (he : e < L.length) : L.take (e + 1) = L.take e ++ [L.getD e 0] := by
  rw [List.take_succ, List.getD_eq_getElem?_getD, List.getElem?_eq_getElem he]
  rfl
theorem getD_inj (hp : L.Pairwise (· < ·)) {i j : Nat} (hi : i < L.length) (hj : j < L.length) (e : L.getD i 0 = L.getD j 0) : i = j := by
  rcases Nat.lt_trichotomy i j with q | q | q
  · have := getD_lt hp q hj
    omega
  · exact q
  · have := getD_lt hp q hi
    omega
theorem take_at {e y : Nat} (h : y ∈ L.take e) : ∃ j, j < e ∧ j < L.length ∧ L.getD j 0 = y := by
  obtain ⟨j, hj, e2⟩ := List.getElem_of_mem h
  rw [List.length_take] at hj
  rw [List.getElem_take] at e2
  refine ⟨j, by omega, by omega, ?_⟩
  rw [List.getD_eq_getElem?_getD, List.getElem?_eq_getElem (by omega)]
  exact e2
theorem ldK_next (ok : tOk T) (hL : tList T L) {M M' : Nat → Bool} {e : Nat} (he : e < L.length) (hM : ∀ c, c ≠ kC (L.getD e 0) → M' c = M c) : ldK L M' (e + 1) = ldK L M e ++ (if M' (kC (L.getD e 0)) then [L.getD e 0] else []) := by
  unfold ldK
  rw [take_next he, List.filter_append]
  congr 1
  · refine List.filter_congr fun y hy => ?_
    obtain ⟨j, j1, j2, j3⟩ := take_at hy
    refine hM _ fun q => ?_
    have := kC_inj ((hL.2 _).mp (j3 ▸ getD_mem j2)) ((hL.2 _).mp (getD_mem he)) ok q
    rw [← j3] at this
    have := getD_inj hL.1 j2 he this
    omega
  · by_cases c : M' (kC (L.getD e 0)) = true
    · rw [if_pos c]
      exact List.filter_cons_of_pos c
    · rw [if_neg c]
      exact List.filter_cons_of_neg c
theorem ld_ev (ok : tOk T) (hL : tList T L) {M M' : Nat → Bool} {e l : Nat} {X Y : Nat → Nat → Int} (he : e < L.length) (hpf : pf l < kMin (L.getD e 0)) (h7 : 0 ≤ X 7 l ∧ (X 0 l ≤ 3 → X 7 l < 1000)) (h0 : 0 ≤ X 0 l) (h7b : X 7 l ≤ 1000)
    (hev : SAl X Y l ∨ ∃ st pl : Int, MVl X Y l (kMin (L.getD e 0)) st pl ∧ ((kGo (L.getD e 0) = 1 ∧ X 0 l = 0 ∧ st = 1 ∧ pl = kR (L.getD e 0)) ∨ (kGo (L.getD e 0) ≠ 1 ∧ X 0 l = 1 ∧ st = stIn G l (kA (tW T) (L.getD e 0)) ∧ pl = kA (tW T) (L.getD e 0))))
    (hM : ∀ c, M' c = true ↔ M c = true ∨ (c = kC (L.getD e 0) ∧ Y 7 l ≠ X 7 l)) (h : Ld1 T L G pf fr M e X l) : Ld1 T L G pf fr M' (e + 1) Y l := by
  obtain ⟨a1, a2, a3, a4, a5, a6⟩ := h
  have hMx : M (kC (L.getD e 0)) = false := by
    rw [Bool.eq_false_iff]
    intro q
    obtain ⟨j, j1, j2, j3, -⟩ := a1 _ q
    have := kC_inj ((hL.2 _).mp (getD_mem j2)) ((hL.2 _).mp (getD_mem he)) ok j3
    have := getD_inj hL.1 j2 he this
    omega
  have hMo : ∀ c, c ≠ kC (L.getD e 0) → M' c = M c := by
    intro c hc
    have := hM c
    by_cases q : M c = true
    · rw [q]
      exact this.mpr (Or.inl q)
    · rw [Bool.eq_false_iff.mpr q]
      rw [Bool.eq_false_iff]
      intro w
      rcases this.mp w with z | z
      · exact q z
      · exact hc z.1
  have nx := ldK_next ok hL (M := M) (M' := M') he hMo
  have hKl : ((ldK L M e).length : Int) ≤ 999 := by
    have : 0 ≤ (if 4 ≤ X 0 l then (1 : Int) else 0) := by split <;> decide
    omega
  rcases hev with hs | ⟨st, pl, hmv, hcase⟩
  · obtain ⟨⟨s0, s1, s7, s5⟩, s8⟩ := hs
    have hM2 : ¬ M' (kC (L.getD e 0)) = true := by
      intro q
      rcases (hM _).mp q with z | z
      · rw [hMx] at z
        cases z
      · exact z.2 s7
    rw [if_neg hM2, List.append_nil] at nx
    unfold Ld1
    rw [nx, s0, s1, s7]
    have r0 := s8 0 (by decide)
    rw [Nat.add_zero] at r0
    refine ⟨fun c hc => ?_, a2, by rw [r0.1, r0.2.1, r0.2.2]; exact a3, fun i hi => ?_, a5, fun z => ?_⟩
    · rcases (hM c).mp hc with w | w
      · obtain ⟨j, j1, j2, j3, j4⟩ := a1 c w
        exact ⟨j, by omega, j2, j3, j4⟩
      · exact absurd s7 w.2
    · have r := s8 (1 + i) (by omega)
      unfold ldRow
      rw [r.1, r.2.1, r.2.2]
      exact a4 i hi
    · have a2' := a2
      rw [if_pos z] at a2'
      have r := s8 (1 + (ldK L M e).length) (by omega)
      rw [r.1, r.2.1, r.2.2]
      exact a6 z
  · obtain ⟨⟨s0, s1, s7, s5⟩, s8, n8, n9, n10⟩ := hmv
    have hx01 : X 0 l ≤ 1 := by rcases hcase with w | w <;> omega
    have hst : st ≤ 3 := by
      rcases hcase with w | w
      · omega
      · have := stIn_c G l (kA (tW T) (L.getD e 0) : Int)
        omega
    have b7 := h7.2 (by omega)
    rw [if_neg (by omega)] at a2
    have hM2 : M' (kC (L.getD e 0)) = true := (hM _).mpr (Or.inr ⟨rfl, by omega⟩)
    rw [if_pos hM2] at nx
    have idx : (X 7 l).toNat = 1 + (ldK L M e).length := by omega
    rw [idx] at n8 n9 n10
    have hst9 : st = if kGo (L.getD e 0) = 1 then 1 else stIn G l (kA (tW T) (L.getD e 0)) := by
      rcases hcase with w | w
      · rw [if_pos w.1]
        exact w.2.2.1
      · rw [if_neg w.1]
        exact w.2.2.1
    have hpl : pl = if kGo (L.getD e 0) = 1 then (kR (L.getD e 0) : Int) else (kA (tW T) (L.getD e 0) : Int) := by
      rcases hcase with w | w
      · rw [if_pos w.1]
        exact w.2.2.2
      · rw [if_neg w.1]
        exact w.2.2.2
    unfold Ld1
    rw [nx, s0, s1, s7, List.length_append, List.length_singleton]
    refine ⟨fun c hc => ?_, ?_, ?_, fun i hi => ?_, fun z y hy hgy => ?_, fun z => by omega⟩
    · rcases (hM c).mp hc with w | w
      · obtain ⟨j, j1, j2, j3, j4⟩ := a1 c w
        exact ⟨j, by omega, j2, j3, j4⟩
      · exact ⟨e, by omega, he, w.1.symm, hpf⟩
    · rw [if_neg (by omega), a2]
      omega
    · have r0 := s8 0 (by decide) (by omega)
      rw [Nat.add_zero] at r0
      rw [r0.1, r0.2.1, r0.2.2]
      exact a3
    · by_cases q : i < (ldK L M e).length
      · rw [getD_app1 q]
        have r := s8 (1 + i) (by omega) (by omega)
        unfold ldRow
        rw [r.1, r.2.1, r.2.2]
        exact a4 i q
      · have hi2 : i = (ldK L M e).length := by omega
        rw [hi2, getD_app2]
        exact ⟨n8, n9.trans hst9, n10.trans hpl⟩
    · rcases List.mem_append.mp hy with w | w
      · exact a5 hx01 y w hgy
      · rw [List.mem_singleton.mp w] at hgy ⊢
        rcases hcase with w | w
        · exact absurd w.1 hgy
        · intro k
          have w3 := w.2.2.1
          unfold stIn at w3
          rw [if_pos k.symm] at w3
          split at w3 <;> omega
theorem ld_br {M : Nat → Bool} {e l day : Nat} {X Y : Nat → Nat → Int} (hd : ∀ j, j < e → j < L.length → kMin (L.getD j 0) < 1440 * day) (h7 : 0 ≤ X 7 l ∧ (X 0 l ≤ 3 → X 7 l < 1000)) (h7b : X 7 l ≤ 1000)
    (hbr : SAl X Y l ∨ (X 0 l = 3 ∧ MVl X Y l (1440 * day) 6 (X 1 l))) (h : Ld1 T L G pf fr M e X l) : Ld1 T L G pf fr M e Y l := by
  obtain ⟨a1, a2, a3, a4, a5, a6⟩ := h
  have hKl : ((ldK L M e).length : Int) ≤ 999 := by
    have : 0 ≤ (if 4 ≤ X 0 l then (1 : Int) else 0) := by split <;> decide
    omega
  rcases hbr with hs | ⟨x3, hmv⟩
  · obtain ⟨⟨s0, s1, s7, s5⟩, s8⟩ := hs
    unfold Ld1
    rw [s0, s1, s7]
    have r0 := s8 0 (by decide)
    rw [Nat.add_zero] at r0
    refine ⟨a1, a2, by rw [r0.1, r0.2.1, r0.2.2]; exact a3, fun i hi => ?_, a5, fun z => ?_⟩
    · have r := s8 (1 + i) (by omega)
      unfold ldRow
      rw [r.1, r.2.1, r.2.2]
      exact a4 i hi
    · have a2' := a2
      rw [if_pos z] at a2'
      have r := s8 (1 + (ldK L M e).length) (by omega)
      rw [r.1, r.2.1, r.2.2]
      exact a6 z
  · obtain ⟨⟨s0, s1, s7, s5⟩, s8, n8, n9, n10⟩ := hmv
    have b7 := h7.2 (by omega)
    rw [if_neg (by omega)] at a2
    have idx : (X 7 l).toNat = 1 + (ldK L M e).length := by omega
    rw [idx] at n8 n9 n10
    unfold Ld1
    rw [s0, s1, s7]
    refine ⟨a1, ?_, ?_, fun i hi => ?_, fun z => by omega, fun _ => ⟨n9, n10, fun y hy => ?_⟩⟩
    · rw [if_pos (by decide), a2]
      omega
    · have r0 := s8 0 (by decide) (by omega)
      rw [Nat.add_zero] at r0
      rw [r0.1, r0.2.1, r0.2.2]
      exact a3
    · have r := s8 (1 + i) (by omega) (by omega)
      unfold ldRow
      rw [r.1, r.2.1, r.2.2]
      exact a4 i hi
    · rw [n8]
      obtain ⟨j, j1, j2, j3⟩ := take_at (List.mem_filter.mp hy).1
      have := hd j j1 j2
      rw [j3] at this
      omega
/-- further keys, none of them marked -/
theorem ld_more (ok : tOk T) (hL : tList T L) {M : Nat → Bool} {l : Nat} {X : Nat → Nat → Int} {e : Nat} (h : Ld1 T L G pf fr M e X l) : ∀ n, e + n ≤ L.length → Ld1 T L G pf fr M (e + n) X l := by
  have hM : ∀ j, e ≤ j → j < L.length → M (kC (L.getD j 0)) = false := by
    intro j hj hj2
    rw [Bool.eq_false_iff]
    intro q
    obtain ⟨i, i1, i2, i3, -⟩ := h.1 _ q
    have := kC_inj ((hL.2 _).mp (getD_mem i2)) ((hL.2 _).mp (getD_mem hj2)) ok i3
    have := getD_inj hL.1 i2 hj2 this
    omega
  intro n
  induction n with
  | zero => exact fun _ => h
  | succ n ih =>
    intro hn
    have i := ih (by omega)
    have nx := ldK_next ok hL (M := M) (M' := M) (e := e + n) (by omega) fun _ _ => rfl
    rw [hM (e + n) (by omega) (by omega)] at nx
    have nx : ldK L M (e + n + 1) = ldK L M (e + n) := nx.trans (List.append_nil _)
    unfold Ld1 at i ⊢
    rw [show e + (n + 1) = e + n + 1 by omega, nx]
    obtain ⟨i1, i2⟩ := i
    refine ⟨fun c hc => ?_, i2⟩
    obtain ⟨j, j1, j2⟩ := i1 c hc
    exact ⟨j, by omega, j2⟩
end LDS
