/-! the table, purely: T 0 0 0 trains, 1 t 0 stops, 2 t i town, 3 t i comes, 4 t i goes, 5 t d late -/
def tN (T : Nat → Nat → Nat → Nat) : Nat := T 0 0 0
def tS (T : Nat → Nat → Nat → Nat) (t : Nat) : Nat := T 1 t 0
def tW (T : Nat → Nat → Nat → Nat) (t i : Nat) : Nat := T 2 t i
def tC (T : Nat → Nat → Nat → Nat) (t i : Nat) : Nat := T 3 t i
def tG (T : Nat → Nat → Nat → Nat) (t i : Nat) : Nat := T 4 t i
def tD (T : Nat → Nat → Nat → Nat) (t d : Nat) : Nat := T 5 t d
def tCm (T : Nat → Nat → Nat → Nat) (t d i : Nat) : Nat := 1440 * d + tC T t i + tD T t d
def tGm (T : Nat → Nat → Nat → Nat) (t d i : Nat) : Nat := 1440 * d + tG T t i + tD T t d
def tOk (T : Nat → Nat → Nat → Nat) : Prop :=
  tN T ≤ 10 ∧ (∀ t, t < 10 → tS T t ≤ 8) ∧ (∀ t, tN T ≤ t → tS T t = 0) ∧ (∀ t i, t < 10 → i < tS T t → tW T t i < 12 ∧ tC T t i ≤ tG T t i ∧ tG T t i ≤ 2400) ∧ (∀ t i, t < 10 → i + 1 < tS T t → tG T t i < tC T t (i + 1)) ∧ ∀ t d, t < 10 → d < 7 → tD T t d ≤ 300
def tKey (T : Nat → Nat → Nat → Nat) (x : Nat) : Prop :=
  kT x < tN T ∧ kD x < 7 ∧ kMin x ≤ 10079 ∧ ((kGo x = 0 ∧ 0 < kI x ∧ kI x < tS T (kT x) ∧ kMin x = tCm T (kT x) (kD x) (kI x)) ∨ (kGo x = 1 ∧ kI x + 1 < tS T (kT x) ∧ kMin x = tGm T (kT x) (kD x) (kI x)))
def tList (T : Nat → Nat → Nat → Nat) (L : List Nat) : Prop := L.Pairwise (· < ·) ∧ ∀ x, x ∈ L ↔ tKey T x
theorem t_lt {T : Nat → Nat → Nat → Nat} (h : tOk T) {t : Nat} (ht : t < 10) : ∀ (n i : Nat), i + n + 1 < tS T t → tG T t i < tC T t (i + n + 1) := by
  obtain ⟨-, -, -, h4, h5, -⟩ := h
  intro n
  induction n with
  | zero => exact fun i hi => h5 t i ht hi
  | succ n ih =>
    intro i hi
    have h1 := ih i (by omega)
    have h2 := (h4 t (i + n + 1) ht (by omega)).2.1
    have h3 := h5 t (i + n + 1) ht (by omega)
    show _ < tC T t (i + n + 1 + 1)
    omega
theorem k_all (x : Nat) : x = kMin x * 2048 + kGo x * 1024 + kT x * 64 + kD x * 8 + kI x := by
  unfold kMin kGo kT kD kI
  omega
theorem t_run {T : Nat → Nat → Nat → Nat} (h : tOk T) {x y : Nat} (hx : tKey T x) (hy : tKey T y) (hr : kR x = kR y) (hlt : x < y) : kI x < kI y ∨ kI x = kI y ∧ kGo x = 0 ∧ kGo y = 1 := by
  obtain ⟨x1, x2, x3, x4⟩ := hx
  obtain ⟨y1, y2, y3, y4⟩ := hy
  have hn := h.1
  obtain ⟨e1, e2⟩ := kR_inj ⟨by omega, x2⟩ ⟨by omega, y2⟩ hr
  have hm := k_min_le (Nat.le_of_lt hlt)
  have kx := k_all x
  have ky := k_all y
  have ht : kT y < 10 := by omega
  rw [e1, e2] at x4
  have gx : kI x < tS T (kT y) := by omega
  have gy : kI y < tS T (kT y) := by omega
  have bx := h.2.2.2.1 (kT y) (kI x) ht gx
  have bY := h.2.2.2.1 (kT y) (kI y) ht gy
  rcases Nat.lt_trichotomy (kI x) (kI y) with q | q | q
  · exact Or.inl q
  · refine Or.inr ⟨q, ?_⟩
    rw [q] at x4 bx
    unfold tCm tGm at x4 y4
    rcases x4 with ⟨a1, a2, a3, a4⟩ | ⟨a1, a2, a4⟩ <;> rcases y4 with ⟨b1, b2, b3, b4⟩ | ⟨b1, b2, b4⟩ <;> omega
  · have h1 := t_lt h ht (kI x - kI y - 1) (kI y) (by omega)
    rw [show kI y + (kI x - kI y - 1) + 1 = kI x by omega] at h1
    unfold tCm tGm at x4 y4
    omega
def kCode (x : Nat) : Nat := ((kT x * 7 + kD x) * 7 + (kI x - (1 - kGo x))) * 2 + kGo x
theorem t_code {T : Nat → Nat → Nat → Nat} (h : tOk T) {x : Nat} (hx : tKey T x) : kCode x < 980 := by
  obtain ⟨x1, x2, x3, x4⟩ := hx
  have hn := h.1
  have hs := h.2.1 (kT x) (by omega)
  unfold kCode
  rcases x4 with ⟨a1, a2, a3, a4⟩ | ⟨a1, a2, a4⟩ <;> rw [a1] <;> omega
theorem t_code_inj {T : Nat → Nat → Nat → Nat} (h : tOk T) {x y : Nat} (hx : tKey T x) (hy : tKey T y) (e : kCode x = kCode y) : x = y := by
  obtain ⟨x1, x2, x3, x4⟩ := hx
  obtain ⟨y1, y2, y3, y4⟩ := hy
  have hn := h.1
  have hs := h.2.1 (kT x) (by omega)
  have hs2 := h.2.1 (kT y) (by omega)
  have ga : kGo x ≤ 1 ∧ kGo y ≤ 1 := by unfold kGo; omega
  have gI : kI x - (1 - kGo x) < 7 ∧ kI y - (1 - kGo y) < 7 := by omega
  unfold kCode at e
  have e1 : kGo x = kGo y := by omega
  have e2 : kT x = kT y ∧ kD x = kD y ∧ kI x - (1 - kGo x) = kI y - (1 - kGo y) := by omega
  have e3 : kI x = kI y := by omega
  obtain ⟨e4, e5, -⟩ := e2
  rw [k_all x, k_all y]
  rw [e4, e5, e3] at x4
  have e6 : kMin x = kMin y := by
    rcases x4 with ⟨a1, a2, a3, a4⟩ | ⟨a1, a2, a4⟩ <;> rcases y4 with ⟨b1, b2, b3, b4⟩ | ⟨b1, b2, b4⟩ <;> omega
  rw [e1, e3, e4, e5, e6]
theorem t_len {T : Nat → Nat → Nat → Nat} (h : tOk T) {l : List Nat} (hn : l.Nodup) (hk : ∀ x ∈ l, tKey T x) : l.length ≤ 980 := by
  have h1 : (l.map kCode).Nodup := by
    refine List.pairwise_map.mpr ?_
    refine List.Pairwise.imp_of_mem (fun {a b} ha hb hne => ?_) hn
    exact fun e => hne (t_code_inj h (hk a ha) (hk b hb) e)
  have h2 := pigeon 980 (l.map kCode) h1 fun x hx => by
    obtain ⟨y, hy, rfl⟩ := List.mem_map.mp hx
    exact t_code h (hk y hy)
  rwa [List.length_map] at h2
theorem t_nodup {L : List Nat} (h : L.Pairwise (· < ·)) : L.Nodup := h.imp fun {a b} hab => Nat.ne_of_lt hab
theorem t_wL {T : Nat → Nat → Nat → Nat} {L : List Nat} (h : tOk T) (hL : tList T L) : wL L := by
  refine ⟨hL.1, fun x hx => ?_, fun x hx y hy hr hlt => t_run h ((hL.2 x).mp hx) ((hL.2 y).mp hy) hr hlt⟩
  obtain ⟨x1, x2, x3, x4⟩ := (hL.2 x).mp hx
  have := h.1
  exact ⟨⟨by omega, x2⟩, x3⟩
theorem t_len2 {T : Nat → Nat → Nat → Nat} {L : List Nat} (h : tOk T) (hL : tList T L) : L.length ≤ 980 := t_len h (t_nodup hL.1) fun x hx => (hL.2 x).mp hx
theorem t_gm {T : Nat → Nat → Nat → Nat} {L : List Nat} (hL : tList T L) : ∀ x ∈ L, kGo x = 1 → tGm T (kT x) (kD x) (kI x) = kMin x := by
  intro x hx hg
  obtain ⟨x1, x2, x3, x4⟩ := (hL.2 x).mp hx
  omega
theorem t_cm {T : Nat → Nat → Nat → Nat} {L : List Nat} (hL : tList T L) : ∀ x ∈ L, kGo x ≠ 1 → tCm T (kT x) (kD x) (kI x) = kMin x := by
  intro x hx hg
  obtain ⟨x1, x2, x3, x4⟩ := (hL.2 x).mp hx
  omega
theorem t_uniq {T : Nat → Nat → Nat → Nat} {L L2 : List Nat} (h1 : tList T L) (h2 : tList T L2) : L = L2 := wSorted h1.1 h2.1 fun y => (h1.2 y).trans (h2.2 y).symm
theorem t_lt31 {T : Nat → Nat → Nat → Nat} {x : Nat} (hx : tKey T x) : x < 20643840 := by
  obtain ⟨x1, x2, x3, x4⟩ := hx
  have := k_all x
  unfold kMin at x3
  omega
/-- a row of cells holds the list -/
def rowIs (f : Nat → Int) (L : List Nat) : Prop := ∀ e, e < L.length → f e = ((L.getD e 0 : Nat) : Int)
