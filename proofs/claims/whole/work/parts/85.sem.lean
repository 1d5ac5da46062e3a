/-! letters on their way, purely: X 0 state, 1 place, 2 goal, 3 left, 4 sorted, 5 since, 6 left by runs (10 d + t), 7 rows, 8 9 10 the rows' minutes, states, places -/
def bmw (z : Int) : Int := z.bmod 4294967296
def mvX (X : Nat → Nat → Int) (l : Nat) (mn st pl : Int) : Nat → Nat → Int := fun f k =>
  if f = 0 then (if k = l then st else X 0 k) else if f = 1 then (if k = l then pl else X 1 k) else if f = 4 then (if k = l then 0 else X 4 k) else if f = 5 then (if k = l then mn else X 5 k)
  else if f = 7 then (if k = l then X 7 l + 1 else X 7 k) else if f = 8 then (if k = 1000 * l + (X 7 l).toNat then mn else X 8 k) else if f = 9 then (if k = 1000 * l + (X 7 l).toNat then st else X 9 k)
  else if f = 10 then (if k = 1000 * l + (X 7 l).toNat then pl else X 10 k) else X f k
def upX (X : Nat → Nat → Int) (g j : Nat) (v : Int) : Nat → Nat → Int := fun f k => if f = g ∧ k = j then v else X f k
section MV
variable {X : Nat → Nat → Int} {l : Nat} {mn st pl : Int}
theorem mvX_0 (k : Nat) : mvX X l mn st pl 0 k = if k = l then st else X 0 k := rfl
theorem mvX_1 (k : Nat) : mvX X l mn st pl 1 k = if k = l then pl else X 1 k := rfl
theorem mvX_2 (k : Nat) : mvX X l mn st pl 2 k = X 2 k := rfl
theorem mvX_3 (k : Nat) : mvX X l mn st pl 3 k = X 3 k := rfl
theorem mvX_4 (k : Nat) : mvX X l mn st pl 4 k = if k = l then 0 else X 4 k := rfl
theorem mvX_5 (k : Nat) : mvX X l mn st pl 5 k = if k = l then mn else X 5 k := rfl
theorem mvX_6 (k : Nat) : mvX X l mn st pl 6 k = X 6 k := rfl
theorem mvX_7 (k : Nat) : mvX X l mn st pl 7 k = if k = l then X 7 l + 1 else X 7 k := rfl
theorem mvX_8 (k : Nat) : mvX X l mn st pl 8 k = if k = 1000 * l + (X 7 l).toNat then mn else X 8 k := rfl
theorem mvX_9 (k : Nat) : mvX X l mn st pl 9 k = if k = 1000 * l + (X 7 l).toNat then st else X 9 k := rfl
theorem mvX_10 (k : Nat) : mvX X l mn st pl 10 k = if k = 1000 * l + (X 7 l).toNat then pl else X 10 k := rfl
theorem upX_ne {g j f k : Nat} {v : Int} (h : f ≠ g) : upX X g j v f k = X f k := if_neg fun q => h q.1
theorem upX_row {g j k : Nat} {v : Int} : upX X g j v g k = if k = j then v else X g k := by
  unfold upX
  by_cases q : k = j
  · rw [if_pos ⟨rfl, q⟩, if_pos q]
  · rw [if_neg (fun z => q z.2), if_neg q]
end MV
/-- how many of 0 .. m - 1 -/
noncomputable def cnt (P : Nat → Prop) : Nat → Int
  | 0 => 0
  | m + 1 => cnt P m + @ite _ (P m) (Classical.propDecidable _) 1 0
noncomputable def one (p : Prop) : Int := @ite _ p (Classical.propDecidable _) 1 0
theorem one_pos {p : Prop} (h : p) : one p = 1 := if_pos h
theorem one_neg {p : Prop} (h : ¬ p) : one p = 0 := if_neg h
theorem one_b (p : Prop) : 0 ≤ one p ∧ one p ≤ 1 := by
  by_cases h : p
  · rw [one_pos h]
    decide
  · rw [one_neg h]
    decide
theorem cnt_s (P : Nat → Prop) (m : Nat) : cnt P (m + 1) = cnt P m + one (P m) := rfl
theorem cnt_b (P : Nat → Prop) (m : Nat) : 0 ≤ cnt P m ∧ cnt P m ≤ m := by
  induction m with
  | zero => exact ⟨Int.le_refl _, Int.le_refl _⟩
  | succ m ih =>
    have := one_b (P m)
    rw [cnt_s]
    omega
theorem cnt_eq {P Q : Nat → Prop} {m : Nat} (h : ∀ k, k < m → (P k ↔ Q k)) : cnt P m = cnt Q m := by
  induction m with
  | zero => rfl
  | succ m ih =>
    rw [cnt_s, cnt_s, ih fun k hk => h k (by omega), propext (h m (by omega))]
theorem cnt_upd {P Q : Nat → Prop} {m l : Nat} (hl : l < m) (h : ∀ k, k < m → k ≠ l → (P k ↔ Q k)) : cnt Q m = cnt P m - one (P l) + one (Q l) := by
  induction m with
  | zero => exact absurd hl (Nat.not_lt_zero _)
  | succ m ih =>
    rw [cnt_s, cnt_s]
    by_cases q : l = m
    · subst q
      rw [cnt_eq fun k hk => h k (by omega) (by omega)]
      omega
    · rw [ih (by omega) fun k hk hkl => h k (by omega) hkl, propext (h m (by omega) (fun z => q z.symm))]
      omega
theorem cnt_zero {P : Nat → Prop} {m : Nat} (h : cnt P m ≤ 0) : ∀ k, k < m → ¬ P k := by
  induction m with
  | zero => exact fun k hk => absurd hk (Nat.not_lt_zero _)
  | succ m ih =>
    rw [cnt_s] at h
    have h1 := cnt_b P m
    have h2 := one_b (P m)
    intro k hk
    by_cases q : k < m
    · exact ih (by omega) k q
    · have : k = m := by omega
      rw [this]
      intro hp
      rw [one_pos hp] at h
      omega
theorem cnt_none {P : Nat → Prop} {m : Nat} (h : ∀ k, k < m → ¬ P k) : cnt P m = 0 := by
  induction m with
  | zero => rfl
  | succ m ih => rw [cnt_s, ih fun k hk => h k (by omega), one_neg (h m (by omega))]; rfl
/-! what is told of letters, trains, sorters: G 0 l town to, 1 l nobody, 2 l days dead; 3 r 8r+i missed; 4 s seat, 5 s speed, 6 s knows; 7 0 letters, 7 1 sorters -/
def stIn (G : Nat → Nat → Int) (l : Nat) (town : Int) : Int := if G 0 l = town then (if G 1 l = 0 then 2 else 3) else 0
def cmC (T : Nat → Nat → Nat → Nat) (X : Nat → Nat → Int) (x l : Nat) : Prop := X 0 l = 1 ∧ X 1 l = kR x ∧ (kI x + 1 = tS T (kT x) ∨ X 4 l ≠ 0 ∧ X 2 l ≤ kI x)
noncomputable def cmL (T : Nat → Nat → Nat → Nat) (G : Nat → Nat → Int) (x : Nat) (X : Nat → Nat → Int) (l : Nat) : Nat → Nat → Int :=
  @ite _ (cmC T X x l) (Classical.propDecidable _) (upX (mvX (@ite _ (X 4 l = 0) (Classical.propDecidable _) (upX (upX X 3 l (bmw (X 3 l + 1))) 6 (kR x) (bmw (X 6 (kR x) + 1))) X) l (kMin x) (stIn G l (kA (tW T) x)) (kA (tW T) x)) 2 l (-1)) X
noncomputable def cmF (T : Nat → Nat → Nat → Nat) (G : Nat → Nat → Int) (x : Nat) (X : Nat → Nat → Int) : Nat → Nat → Nat → Int
  | 0 => X
  | j + 1 => cmL T G x (cmF T G x X j) j
def bdC (T : Nat → Nat → Nat → Nat) (L : List Nat) (G : Nat → Nat → Int) (X : Nat → Nat → Int) (x l : Nat) : Prop := X 0 l = 0 ∧ X 1 l = kA (tW T) x ∧ wLv (tGm T) (tW T) L (kS x) (G 0 l).toNat ≠ 0
noncomputable def bdL (T : Nat → Nat → Nat → Nat) (L : List Nat) (G : Nat → Nat → Int) (x : Nat) (X : Nat → Nat → Int) (l : Nat) : Nat → Nat → Int :=
  @ite _ (bdC T L G X x l) (Classical.propDecidable _) (upX (mvX X l (kMin x) 1 (kR x)) 2 l (wLv (tGm T) (tW T) L (kS x) (G 0 l).toNat)) X
noncomputable def bdF (T : Nat → Nat → Nat → Nat) (L : List Nat) (G : Nat → Nat → Int) (x : Nat) (X : Nat → Nat → Int) : Nat → Nat → Nat → Int
  | 0 => X
  | j + 1 => bdL T L G x (bdF T L G x X j) j
/-- the sorter who takes the letter: the first with time who knows the town -/
def sOk (G : Nat → Nat → Int) (tm : Nat → Int) (town : Nat) (s : Nat) : Prop := 0 < tm s ∧ (G 6 s).toNat / 2 ^ town % 2 = 1
noncomputable def sFst (P : Nat → Prop) : Nat → Nat → Nat
  | 0, s => s
  | j + 1, s => @ite _ (P s) (Classical.propDecidable _) s (sFst P j (s + 1))
theorem sFst_s (P : Nat → Prop) (j s : Nat) : sFst P (j + 1) s = @ite _ (P s) (Classical.propDecidable _) s (sFst P j (s + 1)) := rfl
def soC (X : Nat → Nat → Int) (r k l : Nat) : Prop := X 0 l = 1 ∧ X 1 l = r ∧ X 4 l = 0 ∧ X 2 l = k
noncomputable def soL (G : Nat → Nat → Int) (r town k : Nat) (Z : (Nat → Nat → Int) × (Nat → Int)) (l : Nat) : (Nat → Nat → Int) × (Nat → Int) :=
  @ite _ (soC Z.1 r k l ∧ sFst (sOk G Z.2 town) (G 7 1).toNat 0 < (G 7 1).toNat) (Classical.propDecidable _) (upX Z.1 4 l 1, fun q => if q = sFst (sOk G Z.2 town) (G 7 1).toNat 0 then Z.2 q - 1 else Z.2 q) Z
noncomputable def soF (G : Nat → Nat → Int) (r town k : Nat) (Z : (Nat → Nat → Int) × (Nat → Int)) : Nat → (Nat → Nat → Int) × (Nat → Int)
  | 0 => Z
  | j + 1 => soL G r town k (soF G r town k Z j) j
noncomputable def soK (T : Nat → Nat → Nat → Nat) (G : Nat → Nat → Int) (r t : Nat) (Z : (Nat → Nat → Int) × (Nat → Int)) : Nat → (Nat → Nat → Int) × (Nat → Int)
  | 0 => Z
  | k + 1 => soF G r (tW T t k) k (soK T G r t Z k) (G 7 0).toNat
def sTm (T : Nat → Nat → Nat → Nat) (G : Nat → Nat → Int) (t i : Nat) : Nat → Int := fun s => if (s : Int) < G 7 1 ∧ G 4 s = t then G 5 s * ((tC T t (i + 1) : Int) - tG T t i) else 0
noncomputable def goX (T : Nat → Nat → Nat → Nat) (L : List Nat) (G : Nat → Nat → Int) (x : Nat) (X : Nat → Nat → Int) : Nat → Nat → Int :=
  (soK T G (kR x) (kT x) (if G 3 (8 * kR x + kI x) = 0 then bdF T L G x X (G 7 0).toNat else X, sTm T G (kT x) (kI x)) 8).1
noncomputable def coX (T : Nat → Nat → Nat → Nat) (G : Nat → Nat → Int) (x : Nat) (X : Nat → Nat → Int) : Nat → Nat → Int := if G 3 (8 * kR x + kI x) = 0 then cmF T G x X (G 7 0).toNat else X
noncomputable def evX (T : Nat → Nat → Nat → Nat) (L : List Nat) (G : Nat → Nat → Int) (x : Nat) (X : Nat → Nat → Int) : Nat → Nat → Int := if kGo x = 1 then goX T L G x X else coX T G x X
def brC (G : Nat → Nat → Int) (X : Nat → Nat → Int) (day l : Nat) : Prop := X 0 l = 3 ∧ G 2 l ≤ day - X 5 l / 1440
noncomputable def brL (G : Nat → Nat → Int) (day : Nat) (X : Nat → Nat → Int) (l : Nat) : Nat → Nat → Int := @ite _ (brC G X day l) (Classical.propDecidable _) (mvX X l (1440 * day) 6 (X 1 l)) X
noncomputable def brF (G : Nat → Nat → Int) (day : Nat) (X : Nat → Nat → Int) : Nat → Nat → Nat → Int
  | 0 => X
  | j + 1 => brL G day (brF G day X j) j
/-- n days from day on -/
noncomputable def brN (G : Nat → Nat → Int) : Nat → Nat → (Nat → Nat → Int) → Nat → Nat → Int
  | 0, _, X => X
  | n + 1, day, X => brN G n (day + 1) (brF G day X (G 7 0).toNat)
/-- from minute cur on, over the keys, up to minute up -/
noncomputable def caX (T : Nat → Nat → Nat → Nat) (L : List Nat) (G : Nat → Nat → Int) (up : Nat) : List Nat → Nat → (Nat → Nat → Int) → Nat → Nat → Int
  | [], cur, X => brN G (up / 1440 - cur / 1440) (cur / 1440 + 1) X
  | x :: S, cur, X => if kMin x ≤ up then caX T L G up S (kMin x) (evX T L G x (brN G (kMin x / 1440 - cur / 1440) (cur / 1440 + 1) X)) else brN G (up / 1440 - cur / 1440) (cur / 1440 + 1) X
