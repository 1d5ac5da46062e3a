/-! what stays in the letters' parts; places: told purely -/
section LQ
variable {T : Nat → Nat → Nat → Nat} {m : Nat} {X G : Nat → Nat → Int} {h h' : ea_H}
theorem SLs.lq (hm : m ≤ 120) (s : keq [(364, 370), (378, 378)] [] h h') (e : ltE [0, 1, 2, 3, 4, 5, 6, 8] h h') (c : SLs h m) : SLs h' m := fun l hl => by
  obtain ⟨c1, c2⟩ := c l hl
  refine ⟨fun k hk => ?_, ?_⟩
  · rw [e l k (by omega) (by have : k = 0 ∨ k = 1 ∨ k = 2 ∨ k = 3 ∨ k = 4 ∨ k = 5 ∨ k = 6 := by omega
                             rcases this with z | z | z | z | z | z | z <;> rw [z] <;> decide), s.W (364 + k) (inB_at (r := (364, 370)) List.mem_cons_self (by show 364 ≤ 364 + k; omega) (by show 364 + k ≤ 370; omega))]
    exact c1 k hk
  · rw [e l 8 (by omega) (by decide), s.W 378 rfl]
    exact c2
theorem SLc.lq (hm : m ≤ 120) (s : keq [(373, 375), (379, 379)] [] h h') (e : ltE [10, 11, 12, 13] h h') (c : SLc h m) : SLc h' m := fun l hl => by
  rw [e l 10 (by omega) (by decide), e l 11 (by omega) (by decide), e l 12 (by omega) (by decide), e l 13 (by omega) (by decide), s.W 373 rfl, s.W 374 rfl, s.W 375 rfl, s.W 379 rfl]
  exact c l hl
theorem SBh.lq (hm : m ≤ 120) (hn : hI h 326 0 ≤ hI h' 326 0) (e : ltE [1] h h') (c : SBh h m X) : SBh h' m X := fun l hl => by
  rw [e l 1 (by omega) (by decide)]
  obtain ⟨c1, c2⟩ := c l hl
  exact ⟨c1, fun z => ⟨(c2 z).1, Int.le_trans (c2 z).2 hn⟩⟩
end LQ
/-- the class's rows of places are the reference's places in their order -/
def PlR (c : Nat) (R tw ch : Nat → Int) : Prop := c ≤ 4 ∧ (∀ k, k < c → (0 ≤ tw k ∧ tw k < 12) ∧ 1 ≤ ch k ∧ ch k ≤ 99) ∧ (∀ j k, j < k → k < c → tw j ≠ tw k) ∧ (∀ i j, i < j → j < c → R i < R j) ∧ (∀ i, i < c → ∃ k, k < c ∧ R i = (100 - ch k) * 16 + tw k) ∧ ∀ k, k < c → ∃ i, i < c ∧ R i = (100 - ch k) * 16 + tw k
def SPl (h : ea_H) (m : Nat) : Prop := ∀ l, l < m → ∃ c : Nat, hI h (76 + 2 * l) 18 = c ∧ hI h 396 l = c ∧ PlR c (hI h (77 + 2 * l)) (fun k => hI h 397 (4 * l + k)) (fun k => hI h 398 (4 * l + k))
theorem PlR.cg {c : Nat} {R R' tw tw' ch ch' : Nat → Int} (e : ∀ i, i < 4 → R' i = R i) (e1 : ∀ k, k < c → tw' k = tw k) (e2 : ∀ k, k < c → ch' k = ch k) (p : PlR c R tw ch) : PlR c R' tw' ch' := by
  obtain ⟨p1, p2, p3, p4, p5, p6⟩ := p
  refine ⟨p1, fun k hk => ?_, fun j k hj hk => ?_, fun i j hij hj => ?_, fun i hi => ?_, fun k hk => ?_⟩
  · rw [e1 k hk, e2 k hk]
    exact p2 k hk
  · rw [e1 k hk, e1 j (by omega)]
    exact p3 j k hj hk
  · rw [e i (by omega), e j (by omega)]
    exact p4 i j hij hj
  · obtain ⟨k, k1, k2⟩ := p5 i hi
    exact ⟨k, k1, by rw [e i (by omega), e1 k k1, e2 k k1]; exact k2⟩
  · obtain ⟨i, i1, i2⟩ := p6 k hk
    exact ⟨i, i1, by rw [e i (by omega), e1 k hk, e2 k hk]; exact i2⟩
theorem SPl.lq {h h' : ea_H} {m : Nat} (s : keq [(396, 398)] [] h h') (e : ltE [18] h h') (r : ∀ l i, l < 120 → i < 4 → hI h' (77 + 2 * l) i = hI h (77 + 2 * l) i) (hm : m ≤ 120) (c : SPl h m) : SPl h' m := by
  intro l hl
  obtain ⟨c, c1, c2, c3⟩ := c l hl
  exact ⟨c, (e l 18 (by omega) (by decide)).trans c1, (s.W 396 rfl l).trans c2, PlR.cg (fun i hi => r l i (by omega) hi) (fun k _ => s.W 397 rfl _) (fun k _ => s.W 398 rfl _) c3⟩
theorem keq.pl {W : List (Nat × Nat)} {V : List ((Nat × Nat) × Nat × Nat)} {h h' : ea_H} (s : keq W V h h') (w : ((76, 315), 0, 3) ∈ V) : ∀ l i, l < 120 → i < 4 → hI h' (77 + 2 * l) i = hI h (77 + 2 * l) i := fun l i hl hi => s.V _ _ (inP_at w (by show 76 ≤ 77 + 2 * l; omega) (by show 77 + 2 * l ≤ 315; omega) (Nat.zero_le _) (by show i ≤ 3; omega))
/-- but for the g-th, the rows stand in their order, and are just the S -/
def Ho (c g : Nat) (R : Nat → Int) (S : Int → Prop) : Prop := g < c ∧ (∀ i j, i < j → j < c → i ≠ g → j ≠ g → R i < R j) ∧ ∀ v, (∃ i, i < c ∧ i ≠ g ∧ R i = v) ↔ S v
section HO
variable {c g : Nat} {R R' : Nat → Int} {S : Int → Prop}
theorem Ho.up (h : Ho c g R S) (hg : g + 1 < c) (e : ∀ i, R' i = if i = g then R (g + 1) else R i) : Ho c (g + 1) R' S := by
  obtain ⟨h1, h2, h3⟩ := h
  refine ⟨hg, fun i j hij hj hi hj2 => ?_, fun v => ?_⟩
  · rw [e i, e j]
    by_cases q : i = g
    · rw [if_pos q, if_neg (by omega)]
      exact h2 (g + 1) j (by omega) hj (by omega) (by omega)
    · rw [if_neg q]
      by_cases w : j = g
      · rw [if_pos w]
        exact h2 i (g + 1) (by omega) hg q (by omega)
      · rw [if_neg w]
        exact h2 i j hij hj q w
  · rw [← h3 v]
    constructor
    · rintro ⟨i, i1, i2, i3⟩
      rw [e i] at i3
      by_cases q : i = g
      · rw [if_pos q] at i3
        exact ⟨g + 1, hg, by omega, i3⟩
      · rw [if_neg q] at i3
        exact ⟨i, i1, q, i3⟩
    · rintro ⟨i, i1, i2, i3⟩
      by_cases q : i = g + 1
      · refine ⟨g, by omega, by omega, ?_⟩
        rw [e g, if_pos rfl, ← q]
        exact i3
      · refine ⟨i, i1, q, ?_⟩
        rw [e i, if_neg i2]
        exact i3
theorem Ho.dn (h : Ho c g R S) (hg : 0 < g) (e : ∀ i, R' i = if i = g then R (g - 1) else R i) : Ho c (g - 1) R' S := by
  obtain ⟨h1, h2, h3⟩ := h
  refine ⟨by omega, fun i j hij hj hi hj2 => ?_, fun v => ?_⟩
  · rw [e i, e j]
    by_cases q : i = g
    · rw [if_pos q, if_neg (by omega)]
      exact h2 (g - 1) j (by omega) hj (by omega) (by omega)
    · rw [if_neg q]
      by_cases w : j = g
      · rw [if_pos w]
        exact h2 i (g - 1) (by omega) (by omega) q (by omega)
      · rw [if_neg w]
        exact h2 i j hij hj q w
  · rw [← h3 v]
    constructor
    · rintro ⟨i, i1, i2, i3⟩
      rw [e i] at i3
      by_cases q : i = g
      · rw [if_pos q] at i3
        exact ⟨g - 1, by omega, by omega, i3⟩
      · rw [if_neg q] at i3
        exact ⟨i, i1, q, i3⟩
    · rintro ⟨i, i1, i2, i3⟩
      by_cases q : i = g - 1
      · refine ⟨g, by omega, by omega, ?_⟩
        rw [e g, if_pos rfl, ← q]
        exact i3
      · refine ⟨i, i1, q, ?_⟩
        rw [e i, if_neg i2]
        exact i3
theorem Ho.fin {row : Int} (h : Ho c g R S) (hS : ∀ v, S v → v ≠ row) (lo : ∀ i, i < g → R i ≤ row) (hi : ∀ i, g < i → i < c → row ≤ R i) (e : ∀ i, R' i = if i = g then row else R i) : (∀ i j, i < j → j < c → R' i < R' j) ∧ ∀ v, (∃ i, i < c ∧ R' i = v) ↔ v = row ∨ S v := by
  obtain ⟨h1, h2, h3⟩ := h
  have ne : ∀ i, i < c → i ≠ g → R i ≠ row := fun i i1 i2 => hS _ ((h3 _).mp ⟨i, i1, i2, rfl⟩)
  refine ⟨fun i j hij hj => ?_, fun v => ?_⟩
  · rw [e i, e j]
    by_cases q : i = g
    · rw [if_pos q, if_neg (by omega)]
      have a := hi j (by omega) hj
      have b := ne j hj (by omega)
      omega
    · rw [if_neg q]
      by_cases w : j = g
      · rw [if_pos w]
        have a := lo i (by omega)
        have b := ne i (by omega) q
        omega
      · rw [if_neg w]
        exact h2 i j hij hj q w
  · constructor
    · rintro ⟨i, i1, i3⟩
      rw [e i] at i3
      by_cases q : i = g
      · rw [if_pos q] at i3
        exact Or.inl i3.symm
      · rw [if_neg q] at i3
        exact Or.inr ((h3 v).mp ⟨i, i1, q, i3⟩)
    · rintro (z | z)
      · exact ⟨g, h1, by rw [e g, if_pos rfl]; exact z.symm⟩
      · obtain ⟨i, i1, i2, i3⟩ := (h3 v).mpr z
        exact ⟨i, i1, by rw [e i, if_neg i2]; exact i3⟩
end HO
/-- the codes of the other places -/
def plS (c k : Nat) (tw ch : Nat → Int) : Int → Prop := fun v => ∃ j, j < c ∧ j ≠ k ∧ v = (100 - ch j) * 16 + tw j
section PL
variable {c k : Nat} {R tw ch : Nat → Int} {a b : Int}
theorem PlR.rep (p : PlR c R tw ch) (k1 : k < c) (ka : tw k = a) {i0 : Nat} (i1 : i0 < c) (ia : R i0 % 16 = a) : Ho c i0 R (plS c k tw ch) := by
  obtain ⟨p1, p2, p3, p4, p5, p6⟩ := p
  have inj : ∀ j, j < c → tw j = a → j = k := fun j hj e => by
    rcases Nat.lt_trichotomy j k with q | q | q
    · exact absurd (e.trans ka.symm) (p3 j k q k1)
    · exact q
    · exact absurd (ka.trans e.symm) (p3 k j q hj)
  have e0 : R i0 = (100 - ch k) * 16 + tw k := by
    obtain ⟨j, j1, j2⟩ := p5 i0 i1
    have := p2 j j1
    rw [inj j j1 (by omega)] at j2
    exact j2
  refine ⟨i1, fun i j hij hj _ _ => p4 i j hij hj, fun v => ⟨?_, ?_⟩⟩
  · rintro ⟨i, h1, h2, h3⟩
    obtain ⟨j, j1, j2⟩ := p5 i h1
    refine ⟨j, j1, fun z => ?_, h3.symm.trans j2⟩
    rw [z, ← e0] at j2
    rcases Nat.lt_trichotomy i i0 with q | q | q
    · have := p4 i i0 q i1
      omega
    · exact h2 q
    · have := p4 i0 i q h1
      omega
  · rintro ⟨j, j1, j2, j3⟩
    obtain ⟨i, h1, h2⟩ := p6 j j1
    refine ⟨i, h1, fun z => j2 (inj j j1 ?_), h2.trans j3.symm⟩
    rw [z, e0] at h2
    have w1 := p2 j j1
    have w2 := p2 k k1
    omega
theorem PlR.app (p : PlR c R tw ch) : Ho (c + 1) c R (plS c c tw ch) := by
  obtain ⟨p1, p2, p3, p4, p5, p6⟩ := p
  refine ⟨Nat.lt_succ_self c, fun i j hij hj _ hj2 => p4 i j hij (by omega), fun v => ⟨?_, ?_⟩⟩
  · rintro ⟨i, h1, h2, h3⟩
    obtain ⟨j, j1, j2⟩ := p5 i (by omega)
    exact ⟨j, j1, by omega, h3.symm.trans j2⟩
  · rintro ⟨j, j1, j2, j3⟩
    obtain ⟨i, h1, h2⟩ := p6 j j1
    exact ⟨i, by omega, by omega, h2.trans j3.symm⟩
theorem PlR.new {c' : Nat} {R' tw' ch' : Nat → Int} (p : PlR c R tw ch) (hk : (k < c ∧ c' = c ∧ tw k = a) ∨ (k = c ∧ c' = c + 1 ∧ c < 4 ∧ ∀ j, j < c → tw j ≠ a)) (a0 : 0 ≤ a) (a1 : a < 12) (b0 : 1 ≤ b) (b1 : b ≤ 99) (e1 : ∀ j, tw' j = if j = k then a else tw j) (e2 : ∀ j, ch' j = if j = k then b else ch j)
    (srt : ∀ i j, i < j → j < c' → R' i < R' j) (st : ∀ v, (∃ i, i < c' ∧ R' i = v) ↔ v = (100 - b) * 16 + a ∨ plS c k tw ch v) : PlR c' R' tw' ch' := by
  obtain ⟨p1, p2, p3, p4, p5, p6⟩ := p
  refine ⟨by omega, fun j hj => ?_, fun i j hij hj => ?_, srt, fun i hi => ?_, fun j hj => ?_⟩
  · rw [e1, e2]
    by_cases q : j = k
    · rw [if_pos q, if_pos q]
      exact ⟨⟨a0, a1⟩, b0, b1⟩
    · rw [if_neg q, if_neg q]
      exact p2 j (by omega)
  · rw [e1, e1]
    by_cases q : i = k
    · rw [if_pos q, if_neg (by omega)]
      rcases hk with ⟨w1, w2, w3⟩ | ⟨w1, w2, w3, w4⟩
      · rw [← w3, ← q]
        exact p3 i j hij (by omega)
      · omega
    · rw [if_neg q]
      by_cases z : j = k
      · rw [if_pos z]
        rcases hk with ⟨w1, w2, w3⟩ | ⟨w1, w2, w3, w4⟩
        · rw [← w3, ← z]
          exact p3 i j hij (by omega)
        · exact w4 i (by omega)
      · rw [if_neg z]
        exact p3 i j hij (by omega)
  · rcases (st (R' i)).mp ⟨i, hi, rfl⟩ with z | ⟨j, j1, j2, j3⟩
    · exact ⟨k, by omega, by rw [e1, e2, if_pos rfl, if_pos rfl]; exact z⟩
    · exact ⟨j, by omega, by rw [e1, e2, if_neg j2, if_neg j2]; exact j3⟩
  · rw [e1, e2]
    by_cases q : j = k
    · rw [if_pos q, if_pos q]
      exact (st _).mpr (Or.inl rfl)
    · rw [if_neg q, if_neg q]
      exact (st _).mpr (Or.inr ⟨j, by omega, q, rfl⟩)
end PL
