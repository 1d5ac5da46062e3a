/-! the tape's tokens, purely: its bytes b, n of them -/
def paL (c : Int) : Bool := decide ((97 ≤ c ∧ c ≤ 122) ∨ (65 ≤ c ∧ c ≤ 90))
def paD (c : Int) : Bool := decide (48 ≤ c ∧ c ≤ 57)
def paB (c : Int) : Bool := decide (c = 32 ∨ c = 10)
def paG (c : Int) : Bool := decide (c = 40 ∨ c = 41 ∨ c = 42 ∨ c = 43 ∨ c = 45 ∨ c = 47 ∨ c = 59 ∨ c = 60 ∨ c = 61 ∨ c = 62)
def paF (f : Nat → Bool) : Nat → Nat → Nat
  | 0, q => q
  | k + 1, q => if f q = true then paF f k (q + 1) else q
/-- from q on: the first place where f doesn't hold, n at most -/
def paE (f : Nat → Bool) (n q : Nat) : Nat := paF f (n - q) q
theorem paF_all (f : Nat → Bool) : ∀ k q, q ≤ paF f k q ∧ paF f k q ≤ q + k ∧ (∀ j, q ≤ j → j < paF f k q → f j = true) ∧ (paF f k q < q + k → f (paF f k q) = false) := by
  intro k
  induction k with
  | zero =>
    intro q
    have e : paF f 0 q = q := rfl
    rw [e]
    exact ⟨Nat.le_refl _, Nat.le_refl _, fun j h1 h2 => absurd h2 (by omega), fun h => absurd h (by omega)⟩
  | succ k ih =>
    intro q
    by_cases c : f q = true
    · have e : paF f (k + 1) q = paF f k (q + 1) := if_pos c
      rw [e]
      obtain ⟨i1, i2, i3, i4⟩ := ih (q + 1)
      refine ⟨by omega, by omega, fun j h1 h2 => ?_, fun h => i4 (by omega)⟩
      by_cases z : j = q
      · rw [z]
        exact c
      · exact i3 j (by omega) h2
    · have e : paF f (k + 1) q = q := if_neg c
      rw [e]
      exact ⟨Nat.le_refl _, by omega, fun j h1 h2 => absurd h2 (by omega), fun _ => by simpa using c⟩
section PA
variable {f : Nat → Bool} {n q : Nat} {b : Nat → Int}
theorem paE_all (hq : q ≤ n) : q ≤ paE f n q ∧ paE f n q ≤ n ∧ (∀ j, q ≤ j → j < paE f n q → f j = true) ∧ (paE f n q < n → f (paE f n q) = false) := by
  obtain ⟨i1, i2, i3, i4⟩ := paF_all f (n - q) q
  exact ⟨i1, by unfold paE; omega, i3, fun h => i4 (by unfold paE at h; omega)⟩
theorem paE_go (hq : q < n) (hf : f q = true) : paE f n q = paE f n (q + 1) := by
  unfold paE
  rw [show n - q = (n - (q + 1)) + 1 by omega]
  exact if_pos hf
theorem paE_no (hf : f q = false) : paE f n q = q := by
  unfold paE
  cases n - q with
  | zero => rfl
  | succ k => exact if_neg (by rw [hf]; decide)
theorem paE_end (hq : n ≤ q) : paE f n q = q := by
  unfold paE
  rw [show n - q = 0 by omega]
  rfl
theorem paE_lt (hq : q < n) (hf : f q = true) : q < paE f n q := by
  have := (paE_all (f := f) (n := n) (q := q + 1) (by omega)).1
  rw [paE_go hq hf]
  omega
/-- a word's bytes, the last first -/
def paR (b : Nat → Int) (q : Nat) : Nat → List Int
  | 0 => []
  | k + 1 => b (q + k) :: paR b q k
def paZ : List Int → Int
  | [] => 0
  | x :: l => 256 * paZ l + x
def paWR : List (List Int) := [[101, 103, 114, 97, 104, 99], [101, 116, 97, 108], [107, 110, 97, 114, 102], [112, 105, 104, 115], [110, 103, 105, 115], [100, 97, 101, 100], [115, 101, 108, 105, 109], [115, 116, 101, 101, 104, 115], [116, 104, 103, 105, 101, 119], [114, 117, 111, 104], [121, 97, 100], [100, 110, 105, 107], [115, 115, 111, 114, 99], [110, 101, 104, 119], [114, 101, 116, 102, 97], [116, 111, 110], [100, 110, 97], [114, 111]]
/-- the last of the first w words that is l, else 20 -/
def paU (l : List Int) : Nat → Nat
  | 0 => 20
  | w + 1 => if paWR.getD w [] = l then w else paU l w
def paW (l : List Int) : Nat := paU l 18
theorem paR_len (b : Nat → Int) (q : Nat) : ∀ k, (paR b q k).length = k := by
  intro k
  induction k with
  | zero => rfl
  | succ k ih => exact congrArg (· + 1) ih
theorem paR_dig {k : Nat} (h : ∀ j, q ≤ j → j < q + k → 1 ≤ b j ∧ b j ≤ 255) : ∀ x ∈ paR b q k, 1 ≤ x ∧ x ≤ 255 := by
  induction k with
  | zero =>
    intro x hx
    cases hx
  | succ k ih =>
    intro x hx
    rcases List.mem_cons.mp hx with rfl | hx
    · exact h _ (by omega) (by omega)
    · exact ih (fun j h1 h2 => h j h1 (by omega)) x hx
theorem paZ_nn : ∀ l : List Int, (∀ x ∈ l, 1 ≤ x ∧ x ≤ 255) → 0 ≤ paZ l := by
  intro l
  induction l with
  | nil => exact fun _ => Int.le_refl _
  | cons x l ih =>
    intro h
    have h1 := ih fun y hy => h y (List.mem_cons_of_mem _ hy)
    have h2 := h x List.mem_cons_self
    show 0 ≤ 256 * paZ l + x
    omega
theorem paZ_inj : ∀ l l' : List Int, (∀ x ∈ l, 1 ≤ x ∧ x ≤ 255) → (∀ x ∈ l', 1 ≤ x ∧ x ≤ 255) → paZ l = paZ l' → l = l' := by
  intro l
  induction l with
  | nil =>
    intro l' _ h' e
    cases l' with
    | nil => rfl
    | cons y l' =>
      have h1 := paZ_nn l' fun z hz => h' z (List.mem_cons_of_mem _ hz)
      have h2 := h' y List.mem_cons_self
      have e : (0 : Int) = 256 * paZ l' + y := e
      omega
  | cons x l ih =>
    intro l' h h' e
    have h1 := paZ_nn l fun z hz => h z (List.mem_cons_of_mem _ hz)
    have h2 := h x List.mem_cons_self
    cases l' with
    | nil =>
      have e : 256 * paZ l + x = (0 : Int) := e
      omega
    | cons y l' =>
      have h3 := paZ_nn l' fun z hz => h' z (List.mem_cons_of_mem _ hz)
      have h4 := h' y List.mem_cons_self
      have e : 256 * paZ l + x = 256 * paZ l' + y := e
      have e1 : x = y := by omega
      have e2 : paZ l = paZ l' := by omega
      rw [e1, ih l' (fun z hz => h z (List.mem_cons_of_mem _ hz)) (fun z hz => h' z (List.mem_cons_of_mem _ hz)) e2]
theorem paZ_lt {k : Nat} (h : ∀ x ∈ paR b q k, 1 ≤ x ∧ x ≤ 255) : paZ (paR b q k) < 256 ^ k := by
  induction k with
  | zero =>
    show (0 : Int) < 256 ^ 0
    decide
  | succ k ih =>
    have h1 := ih fun x hx => h x (List.mem_cons_of_mem _ hx)
    have h2 := h (b (q + k)) List.mem_cons_self
    show 256 * paZ (paR b q k) + b (q + k) < 256 ^ (k + 1)
    rw [Int.pow_succ]
    omega
theorem pa_wd : ∀ w, w < 18 → (ea_wd.getD w 0).toInt = paZ (paWR.getD w []) := by decide +kernel
theorem pa_dig : ∀ w, w < 18 → ∀ x ∈ paWR.getD w [], 1 ≤ x ∧ x ≤ 255 := by decide +kernel
theorem pa_len : ∀ w, w < 18 → (paWR.getD w []).length ≤ 6 := by decide +kernel
theorem pa_match {k w : Nat} (hw : w < 18) (h : ∀ x ∈ paR b q k, 1 ≤ x ∧ x ≤ 255) {y : Int64} (e : y.toInt = if k ≤ 6 then paZ (paR b q k) else -1) : lg_cmp (ea_wd.getD w 0) y = 0 ↔ paWR.getD w [] = paR b q k := by
  rw [lg_eq0, n_eqJ, pa_wd w hw, e]
  constructor
  · intro z
    by_cases c : k ≤ 6
    · rw [if_pos c] at z
      exact paZ_inj _ _ (pa_dig w hw) h z
    · rw [if_neg c] at z
      have := paZ_nn _ (pa_dig w hw)
      omega
  · intro z
    have := pa_len w hw
    rw [z, paR_len] at this
    rw [if_pos this, z]
/-- a token that begins at q: where it ends, its kind, a number's worth -/
def paN (b : Nat → Int) (n q : Nat) : Nat := if n ≤ q then q else if paL (b q) = true then paE (fun i => paL (b i)) n q else if paD (b q) = true then paE (fun i => paD (b i)) n q else q + 1
def paK (b : Nat → Int) (n q : Nat) : Nat := if n ≤ q then 19 else if paL (b q) = true then paW (paR b q (paE (fun i => paL (b i)) n q - q)) else if paD (b q) = true then (if paE (fun i => paD (b i)) n q ≤ q + 4 then 18 else 20) else if paG (b q) = true then (b q).toNat else 20
/-- the worth of k digits -/
def paM (b : Nat → Int) (q : Nat) : Nat → Int
  | 0 => 0
  | k + 1 => 10 * paM b q k + b (q + k) - 48
def paV (b : Nat → Int) (n q : Nat) : Int := if paK b n q = 18 then paM b q (paE (fun i => paD (b i)) n q - q) else 0
/-- where a token begins, from p on -/
def paQ (b : Nat → Int) (n p : Nat) : Nat := paE (fun i => paB (b i)) n p
/-- where the e-th token is looked for -/
def paP (b : Nat → Int) (n : Nat) : Nat → Nat
  | 0 => 0
  | e + 1 => paN b n (paQ b n (paP b n e))
/-- where it begins -/
def paS (b : Nat → Int) (n e : Nat) : Nat := paQ b n (paP b n e)
theorem paL_iff {c : Int} : paL c = true ↔ (97 ≤ c ∧ c ≤ 122) ∨ (65 ≤ c ∧ c ≤ 90) := decide_eq_true_iff
theorem paD_iff {c : Int} : paD c = true ↔ 48 ≤ c ∧ c ≤ 57 := decide_eq_true_iff
theorem paB_iff {c : Int} : paB c = true ↔ c = 32 ∨ c = 10 := decide_eq_true_iff
theorem paG_iff {c : Int} : paG c = true ↔ c = 40 ∨ c = 41 ∨ c = 42 ∨ c = 43 ∨ c = 45 ∨ c = 47 ∨ c = 59 ∨ c = 60 ∨ c = 61 ∨ c = 62 := decide_eq_true_iff
theorem pa_no {c : Bool} (h : ¬ c = true) : c = false := by simpa using h
theorem paN_ge (hq : q ≤ n) : q ≤ paN b n q ∧ paN b n q ≤ n ∧ (q < n → q < paN b n q) := by
  unfold paN
  by_cases c : n ≤ q
  · rw [if_pos c]
    exact ⟨Nat.le_refl _, hq, fun h => absurd h (by omega)⟩
  rw [if_neg c]
  by_cases c1 : paL (b q) = true
  · rw [if_pos c1]
    have := paE_all (f := fun i => paL (b i)) hq
    exact ⟨this.1, this.2.1, fun h => paE_lt h c1⟩
  rw [if_neg c1]
  by_cases c2 : paD (b q) = true
  · rw [if_pos c2]
    have := paE_all (f := fun i => paD (b i)) hq
    exact ⟨this.1, this.2.1, fun h => paE_lt h c2⟩
  rw [if_neg c2]
  exact ⟨by omega, by omega, fun _ => by omega⟩
theorem paP_le (b : Nat → Int) (n : Nat) : ∀ e, paP b n e ≤ n ∧ paS b n e ≤ n ∧ paP b n e ≤ paS b n e := by
  intro e
  induction e with
  | zero =>
    have := paE_all (f := fun i => paB (b i)) (n := n) (q := 0) (by omega)
    exact ⟨Nat.zero_le _, this.2.1, this.1⟩
  | succ e ih =>
    have h1 : paP b n (e + 1) ≤ n := (paN_ge ih.2.1).2.1
    have := paE_all (f := fun i => paB (b i)) h1
    exact ⟨h1, this.2.1, this.1⟩
theorem paM_b {k : Nat} (hk : k ≤ 4) (h : ∀ j, q ≤ j → j < q + k → 48 ≤ b j ∧ b j ≤ 57) : 0 ≤ paM b q k ∧ paM b q k < 10 ^ k := by
  induction k with
  | zero =>
    show (0 : Int) ≤ 0 ∧ (0 : Int) < 10 ^ 0
    decide
  | succ k ih =>
    have h1 := ih (by omega) fun j a c => h j a (by omega)
    have h2 := h (q + k) (by omega) (by omega)
    show 0 ≤ 10 * paM b q k + b (q + k) - 48 ∧ 10 * paM b q k + b (q + k) - 48 < 10 ^ (k + 1)
    rw [Int.pow_succ]
    omega
theorem pa_p4 : ∀ k, k ≤ 4 → (10 : Int) ^ k ≤ 10000 := by decide +kernel
theorem pa_p5 : ∀ k, k ≤ 5 → (256 : Int) ^ k ≤ 1099511627776 := by decide +kernel
theorem paU_b (l : List Int) : ∀ w, w ≤ 18 → paU l w ≤ 20 ∧ (paU l w = 20 ∨ paU l w < 18) := by
  intro w
  induction w with
  | zero => exact fun _ => ⟨Nat.le_refl _, Or.inl rfl⟩
  | succ w ih =>
    intro hw
    show (if paWR.getD w [] = l then w else paU l w) ≤ 20 ∧ _
    by_cases c : paWR.getD w [] = l
    · have e : paU l (w + 1) = w := if_pos c
      rw [if_pos c, e]
      exact ⟨by omega, Or.inr (by omega)⟩
    · have e : paU l (w + 1) = paU l w := if_neg c
      rw [if_neg c, e]
      exact ih (by omega)
theorem paK_b (b : Nat → Int) (n q : Nat) : (paK b n q ≤ 20 ∨ paK b n q ∈ [40, 41, 42, 43, 45, 47, 59, 60, 61, 62]) ∧ (paK b n q = 19 ↔ n ≤ q) ∧ (paK b n q = 18 → (paL (b q) = false ∧ paD (b q) = true) ∧ paE (fun i => paD (b i)) n q ≤ q + 4) := by
  unfold paK
  by_cases c : n ≤ q
  · rw [if_pos c]
    exact ⟨Or.inl (by decide), ⟨fun _ => c, fun _ => rfl⟩, fun h => absurd h (by decide)⟩
  rw [if_neg c]
  by_cases c1 : paL (b q) = true
  · rw [if_pos c1]
    have := paU_b (paR b q (paE (fun i => paL (b i)) n q - q)) 18 (by omega)
    unfold paW
    exact ⟨Or.inl this.1, ⟨fun h => by omega, fun h => absurd h c⟩, fun h => by omega⟩
  rw [if_neg c1]
  by_cases c2 : paD (b q) = true
  · rw [if_pos c2]
    by_cases c3 : paE (fun i => paD (b i)) n q ≤ q + 4
    · rw [if_pos c3]
      exact ⟨Or.inl (by decide), ⟨fun h => absurd h (by decide), fun h => absurd h c⟩, fun _ => ⟨⟨pa_no c1, c2⟩, c3⟩⟩
    · rw [if_neg c3]
      exact ⟨Or.inl (by decide), ⟨fun h => absurd h (by decide), fun h => absurd h c⟩, fun h => absurd h (by decide)⟩
  rw [if_neg c2]
  by_cases c3 : paG (b q) = true
  · rw [if_pos c3]
    have c4 := paG_iff.mp c3
    rcases c4 with z | z | z | z | z | z | z | z | z | z <;> rw [z] <;> exact ⟨Or.inr (by decide), ⟨fun h => absurd h (by decide), fun h => absurd h c⟩, fun h => absurd h (by decide)⟩
  · rw [if_neg c3]
    exact ⟨Or.inl (by decide), ⟨fun h => absurd h (by decide), fun h => absurd h c⟩, fun h => absurd h (by decide)⟩
theorem paK_lt (b : Nat → Int) (n q : Nat) : paK b n q < 64 := by
  rcases (paK_b b n q).1 with h | h
  · omega
  · have : ∀ x, x ∈ [40, 41, 42, 43, 45, 47, 59, 60, 61, 62] → x < 64 := by decide
    exact this _ h
theorem paV_b (hq : q ≤ n) : 0 ≤ paV b n q ∧ paV b n q ≤ 9999 := by
  unfold paV
  by_cases c : paK b n q = 18
  · rw [if_pos c]
    obtain ⟨-, c2⟩ := (paK_b b n q).2.2 c
    have a := paE_all (f := fun i => paD (b i)) hq
    have h1 := paM_b (b := b) (q := q) (k := paE (fun i => paD (b i)) n q - q) (by omega) fun j h1 h2 => paD_iff.mp (a.2.2.1 j h1 (by omega))
    have h2 := pa_p4 (paE (fun i => paD (b i)) n q - q) (by omega)
    omega
  · rw [if_neg c]
    decide
end PA
