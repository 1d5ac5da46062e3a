/-! least miles -/
def rOk (lo : Nat) (w : Nat → Nat → Nat) (a : Nat) (f : Nat → Nat) : Prop :=
  f a = 0 ∧ (∀ b c, lo ≤ b → b < 12 → lo ≤ c → c < 12 → w b c ≠ 0 → f b < 1000000 → f c ≤ f b + w b c) ∧ ∀ b, lo ≤ b → b < 12 → f b < 1000000 → b = a ∨ ∃ c, lo ≤ c ∧ c < 12 ∧ w c b ≠ 0 ∧ f c + w c b ≤ f b
theorem rOk_le {lo : Nat} {w : Nat → Nat → Nat} {a : Nat} {f g : Nat → Nat} (hf : rOk lo w a f) (hg : rOk lo w a g) : ∀ n b, f b = n → lo ≤ b → b < 12 → f b < 1000000 → g b ≤ f b := by
  intro n
  induction n using Nat.strongRecOn with
  | _ n ih =>
    intro b hb h1 h2 h3
    rcases hf.2.2 b h1 h2 h3 with rfl | ⟨c, c1, c2, c3, c4⟩
    · rw [hg.1]
      exact Nat.zero_le _
    · have h4 := ih (f c) (by omega) c rfl c1 c2 (by omega)
      have h5 := hg.2.1 c b c1 c2 h1 h2 c3 (by omega)
      omega
theorem rOk_eq {lo : Nat} {w : Nat → Nat → Nat} {a : Nat} {f g : Nat → Nat} (hf : rOk lo w a f) (hg : rOk lo w a g) {b : Nat} (h1 : lo ≤ b) (h2 : b < 12) (h3 : f b ≤ 1000000) (h4 : g b ≤ 1000000) : f b = g b := by
  by_cases hc : f b < 1000000
  · have h5 := rOk_le hf hg _ b rfl h1 h2 hc
    have h6 := rOk_le hg hf _ b rfl h1 h2 (by omega)
    omega
  · by_cases hd : g b < 1000000
    · have h6 := rOk_le hg hf _ b rfl h1 h2 hd
      omega
    · omega
/-- all towns at once: what holds when the ways through the towns lo .. m - 1 are looked at -/
def fwI (lo m : Nat) (w D : Nat → Nat → Nat) : Prop :=
  (∀ a b, a < 12 → b < 12 → D a b ≤ 1000000) ∧ (∀ a, a < 12 → D a a = 0) ∧
  (∀ a b k, lo ≤ a → a < 12 → lo ≤ b → b < 12 → lo ≤ k → k < m → D a b ≤ D a k + D k b) ∧
  (∀ a b, a < 12 → b < 12 → w a b ≠ 0 → D a b ≤ w a b) ∧
  ∀ a b, lo ≤ a → a < 12 → lo ≤ b → b < 12 → D a b < 1000000 → b = a ∨ ∃ c, lo ≤ c ∧ c < 12 ∧ w c b ≠ 0 ∧ D a c + w c b ≤ D a b
def fwS (m : Nat) (D : Nat → Nat → Nat) (a b : Nat) : Nat := min (D a b) (D a m + D m b)
theorem fw_step {lo m : Nat} {w D : Nat → Nat → Nat} (hm : lo ≤ m) (h12 : m < 12) (h : fwI lo m w D) : fwI lo (m + 1) w (fwS m D) := by
  obtain ⟨h0, h1, h2, h3, h4⟩ := h
  have hmm := h1 m h12
  refine ⟨fun a b ha hb => ?_, fun a ha => ?_, fun a b k a1 a2 b1 b2 k1 k2 => ?_, fun a b ha hb hw => ?_, fun a b a1 a2 b1 b2 hl => ?_⟩
  · have := h0 a b ha hb
    unfold fwS
    omega
  · have := h1 a ha
    unfold fwS
    omega
  · unfold fwS
    by_cases hk : k = m
    · subst hk
      omega
    · have e1 := h2 a b k a1 a2 b1 b2 k1 (by omega)
      have e2 := h2 m b k hm h12 b1 b2 k1 (by omega)
      have e3 := h2 a m k a1 a2 hm h12 k1 (by omega)
      omega
  · have := h3 a b ha hb hw
    unfold fwS
    omega
  · unfold fwS at hl ⊢
    by_cases hd : D a b ≤ D a m + D m b
    · rcases h4 a b a1 a2 b1 b2 (by omega) with e | ⟨c, c1, c2, c3, c4⟩
      · exact Or.inl e
      · exact Or.inr ⟨c, c1, c2, c3, by omega⟩
    · rcases h4 m b hm h12 b1 b2 (by omega) with e | ⟨c, c1, c2, c3, c4⟩
      · subst e
        omega
      · exact Or.inr ⟨c, c1, c2, c3, by omega⟩
theorem fw_end {lo : Nat} {w D : Nat → Nat → Nat} (h : fwI lo 12 w D) (a : Nat) (a1 : lo ≤ a) (a2 : a < 12) : rOk lo w a (D a) := by
  obtain ⟨h0, h1, h2, h3, h4⟩ := h
  refine ⟨h1 a a2, fun b c b1 b2 c1 c2 hw hl => ?_, fun b b1 b2 hl => h4 a b a1 a2 b1 b2 hl⟩
  have e1 := h2 a c b a1 a2 c1 c2 b1 b2
  have e2 := h3 b c b2 c2 hw
  omega
theorem fw_begin {lo : Nat} {w D : Nat → Nat → Nat} (hD : ∀ a b, a < 12 → b < 12 → D a b = if a = b then 0 else if w a b = 0 then 1000000 else w a b) (hw : ∀ a b, w a b ≤ 999) : fwI lo lo w D := by
  refine ⟨fun a b ha hb => ?_, fun a ha => ?_, fun a b k _ _ _ _ k1 k2 => by omega, fun a b ha hb h => ?_, fun a b a1 a2 b1 b2 hl => ?_⟩
  · rw [hD a b ha hb]
    have := hw a b
    split
    · omega
    · split <;> omega
  · rw [hD a a ha ha, if_pos rfl]
  · rw [hD a b ha hb]
    split
    · omega
    · first | omega | exact Nat.le_refl _
  · rw [hD a b a2 b2] at hl
    by_cases hab : a = b
    · exact Or.inl hab.symm
    · rw [if_neg hab] at hl
      by_cases hwz : w a b = 0
      · rw [if_pos hwz] at hl
        omega
      · refine Or.inr ⟨a, a1, a2, hwz, ?_⟩
        rw [hD a a a2 a2, if_pos rfl, hD a b a2 b2, if_neg hab, if_neg hwz]
        omega
/-- one town: what holds as the miles spread from it -/
def spI (lo n a : Nat) (w : Nat → Nat → Nat) (f : Nat → Nat) : Prop :=
  f a = 0 ∧ (∀ b, b < 12 → f b ≤ 1000000) ∧ ∀ b, lo ≤ b → b < 12 → f b < 1000000 → b = a ∨ ∃ c, lo ≤ c ∧ c < n ∧ w c b ≠ 0 ∧ f c + w c b ≤ f b
def spT (w : Nat → Nat → Nat) (f : Nat → Nat) (b c : Nat) : Prop := w b c = 0 ∨ f b = 1000000 ∨ f c ≤ f b + w b c
def sp1 (f : Nat → Nat) (c v : Nat) (x : Nat) : Nat := if x = c then v else f x
theorem sp_step {lo n a b c : Nat} {w : Nat → Nat → Nat} {f : Nat → Nat} (h : spI lo n a w f) (b1 : lo ≤ b) (b2 : b < n) (hc : c < 12) (hn : n ≤ 12) (hw : w b c ≠ 0) (hf : f b ≠ 1000000) (hl : f b + w b c < f c) : spI lo n a w (sp1 f c (f b + w b c)) := by
  obtain ⟨h0, h1, h2⟩ := h
  have hac : a ≠ c := by
    rintro rfl
    omega
  have hbc : b ≠ c := by
    rintro rfl
    omega
  refine ⟨?_, fun x hx => ?_, fun x x1 x2 hx => ?_⟩
  · unfold sp1
    rw [if_neg hac]
    exact h0
  · have e1 := h1 x hx
    have e2 := h1 c hc
    unfold sp1
    split <;> omega
  · unfold sp1 at hx ⊢
    by_cases hxc : x = c
    · subst hxc
      rw [if_pos rfl] at hx ⊢
      refine Or.inr ⟨b, b1, b2, hw, ?_⟩
      rw [if_neg hbc]
      omega
    · rw [if_neg hxc] at hx ⊢
      rcases h2 x x1 x2 hx with e | ⟨q, q1, q2, q3, q4⟩
      · exact Or.inl e
      · refine Or.inr ⟨q, q1, q2, q3, ?_⟩
        split
        · rename_i e
          subst e
          omega
        · exact q4
theorem sp_end {lo n a : Nat} {w : Nat → Nat → Nat} {f : Nat → Nat} (h : spI lo n a w f) (hn : n ≤ 12) (hz : ∀ b c, n ≤ b ∨ n ≤ c → w b c = 0) (ht : ∀ b c, lo ≤ b → b < n → lo ≤ c → c < n → spT w f b c) : rOk lo w a f := by
  obtain ⟨h0, h1, h2⟩ := h
  refine ⟨h0, fun b c b1 b2 c1 c2 hw hl => ?_, fun b b1 b2 hl => ?_⟩
  · have hb : b < n := Nat.not_le.mp fun q => hw (hz b c (Or.inl q))
    have hc : c < n := Nat.not_le.mp fun q => hw (hz b c (Or.inr q))
    rcases ht b c b1 hb c1 hc with e | e | e
    · exact absurd e hw
    · omega
    · exact e
  · rcases h2 b b1 b2 hl with e | ⟨c, c1, c2, c3, c4⟩
    · exact Or.inl e
    · exact Or.inr ⟨c, c1, by omega, c3, c4⟩
