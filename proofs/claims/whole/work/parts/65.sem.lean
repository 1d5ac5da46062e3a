/-! frames by fields: cells of the ranges A may change, and of the cells of a range of B the fields of its second range -/
def inP : List ((Nat × Nat) × Nat × Nat) → Nat → Nat → Bool
  | [], _, _ => false
  | q :: l, a, k => (decide (q.1.1 ≤ a) && decide (a ≤ q.1.2) && (decide (q.2.1 ≤ k) && decide (k ≤ q.2.2))) || inP l a k
def fq (A : List (Nat × Nat)) (B : List ((Nat × Nat) × Nat × Nat)) (h h' : ea_H) : Prop := ea_core h' = ea_core h ∧ (∀ a, inB A a = false → ∀ k, inP B a k = false → hI h' a k = hI h a k) ∧ ∀ a, inB A a = false → ∀ k, hJ h' a k = hJ h a k
section FQ
variable {A A2 : List (Nat × Nat)} {B B2 : List ((Nat × Nat) × Nat × Nat)} {h h' : ea_H}
theorem fq.I (f : fq A B h h') (a : Nat) (ha : inB A a = false) (k : Nat) (hk : inP B a k = false) : hI h' a k = hI h a k := f.2.1 a ha k hk
theorem fq.J (f : fq A B h h') (a : Nat) (ha : inB A a = false) (k : Nat) : hJ h' a k = hJ h a k := f.2.2 a ha k
/-- a cell of which no field is named -/
def outP : List ((Nat × Nat) × Nat × Nat) → Nat → Bool
  | [], _ => true
  | q :: l, a => (decide (a < q.1.1) || decide (q.1.2 < a)) && outP l a
theorem outP_in {a : Nat} (h : outP B a = true) (k : Nat) : inP B a k = false := by
  induction B with
  | nil => rfl
  | cons q B ih =>
    unfold outP at h
    rw [Bool.and_eq_true, Bool.or_eq_true, decide_eq_true_eq, decide_eq_true_eq] at h
    unfold inP
    rw [ih h.2, Bool.or_false, Bool.and_eq_false_iff, Bool.and_eq_false_iff, decide_eq_false_iff_not, decide_eq_false_iff_not]
    left
    omega
theorem fq.C (f : fq A B h h') (a : Nat) (ha : inB A a = false) (hb : outP B a = true) (k : Nat) : hI h' a k = hI h a k := f.2.1 a ha k (outP_in hb k)
theorem fq_rfl (A : List (Nat × Nat)) (B : List ((Nat × Nat) × Nat × Nat)) (h : ea_H) : fq A B h h := ⟨rfl, fun _ _ _ _ => rfl, fun _ _ _ => rfl⟩
theorem fq.tr {h1 h2 h3 : ea_H} (f : fq A B h1 h2) (g : fq A B h2 h3) : fq A B h1 h3 := ⟨g.1.trans f.1, fun a ha k hk => (g.2.1 a ha k hk).trans (f.2.1 a ha k hk), fun a ha k => (g.2.2 a ha k).trans (f.2.2 a ha k)⟩
theorem fq_fr (f : fr A h h') (w : ∀ a, inB A2 a = false → inB A a = false) : fq A2 B h h' := ⟨f.1, fun a ha k _ => f.I a (w a ha) k, fun a ha k => f.J a (w a ha) k⟩
theorem fq.wid (f : fq A B h h') (w : ∀ a, inB A2 a = false → inB A a = false) (w2 : ∀ a k, inB A2 a = false → inP B2 a k = false → inP B a k = false) : fq A2 B2 h h' := ⟨f.1, fun a ha k hk => f.2.1 a (w a ha) k (w2 a k ha hk), fun a ha k => f.2.2 a (w a ha) k⟩
theorem fq_wi {a k : Nat} {x : Int32} (ha : inB A a = true) : fq A B h (ea_wi h a k x) := by
  refine ⟨rfl, fun b hb j _ => ?_, fun b hb j => rfl⟩
  rw [hI_wi, if_neg]
  rintro ⟨rfl, -⟩
  rw [ha] at hb
  cases hb
theorem fq_wf {a k : Nat} {x : Int32} (ha : inP B a k = true) : fq A B h (ea_wi h a k x) := by
  refine ⟨rfl, fun b hb j hj => ?_, fun b hb j => rfl⟩
  rw [hI_wi, if_neg]
  rintro ⟨rfl, rfl⟩
  rw [ha] at hj
  cases hj
theorem fq_wj {a k : Nat} {x : Int64} (ha : inB A a = true) : fq A B h (ea_wj h a k x) := by
  refine ⟨rfl, fun b hb j _ => rfl, fun b hb j => ?_⟩
  rw [hJ_wj, if_neg]
  rintro ⟨rfl, -⟩
  rw [ha] at hb
  cases hb
theorem inB_iff {A : List (Nat × Nat)} {a : Nat} : inB A a = true ↔ ∃ q ∈ A, q.1 ≤ a ∧ a ≤ q.2 := by
  induction A with
  | nil =>
    constructor
    · intro h
      cases h
    · rintro ⟨q, h, -⟩
      cases h
  | cons q A ih =>
    unfold inB
    rw [Bool.or_eq_true, Bool.and_eq_true, decide_eq_true_eq, decide_eq_true_eq, ih]
    constructor
    · rintro (h | ⟨r, h1, h2⟩)
      · exact ⟨q, List.mem_cons_self, h⟩
      · exact ⟨r, List.mem_cons_of_mem _ h1, h2⟩
    · rintro ⟨r, h1, h2⟩
      rcases List.mem_cons.mp h1 with rfl | h1
      · exact Or.inl h2
      · exact Or.inr ⟨r, h1, h2⟩
theorem inP_iff {B : List ((Nat × Nat) × Nat × Nat)} {a k : Nat} : inP B a k = true ↔ ∃ q ∈ B, (q.1.1 ≤ a ∧ a ≤ q.1.2) ∧ q.2.1 ≤ k ∧ k ≤ q.2.2 := by
  induction B with
  | nil =>
    constructor
    · intro h
      cases h
    · rintro ⟨q, h, -⟩
      cases h
  | cons q B ih =>
    unfold inP
    rw [Bool.or_eq_true, Bool.and_eq_true, Bool.and_eq_true, Bool.and_eq_true, decide_eq_true_eq, decide_eq_true_eq, decide_eq_true_eq, decide_eq_true_eq, ih]
    constructor
    · rintro (h | ⟨r, h1, h2⟩)
      · exact ⟨q, List.mem_cons_self, h⟩
      · exact ⟨r, List.mem_cons_of_mem _ h1, h2⟩
    · rintro ⟨r, h1, h2⟩
      rcases List.mem_cons.mp h1 with rfl | h1
      · exact Or.inl h2
      · exact Or.inr ⟨r, h1, h2⟩
def cov (r q : Nat × Nat) : Bool := decide (r.1 ≤ q.1) && decide (q.2 ≤ r.2)
theorem cov_iff {r q : Nat × Nat} (h : cov r q = true) : r.1 ≤ q.1 ∧ q.2 ≤ r.2 := by
  unfold cov at h
  rw [Bool.and_eq_true, decide_eq_true_eq, decide_eq_true_eq] at h
  exact h
theorem inB_sub {A B : List (Nat × Nat)} (w : (B.all fun q => A.any fun r => cov r q) = true) (a : Nat) (h : inB A a = false) : inB B a = false := by
  rw [Bool.eq_false_iff] at h ⊢
  intro hb
  obtain ⟨q, q1, q2⟩ := inB_iff.mp hb
  obtain ⟨r, r1, r2⟩ := List.any_eq_true.mp (List.all_eq_true.mp w q q1)
  have := cov_iff r2
  exact h (inB_iff.mpr ⟨r, r1, by omega, by omega⟩)
theorem inP_sub {C : List ((Nat × Nat) × Nat × Nat)} (w : (C.all fun q => (A.any fun r => cov r q.1) || B.any fun r => cov r.1 q.1 && cov r.2 q.2) = true) (a k : Nat) (h : inB A a = false) (h2 : inP B a k = false) : inP C a k = false := by
  rw [Bool.eq_false_iff]
  intro hc
  obtain ⟨q, q1, q2, q3⟩ := inP_iff.mp hc
  have := List.all_eq_true.mp w q q1
  rw [Bool.or_eq_true] at this
  rcases this with z | z
  · obtain ⟨r, r1, r2⟩ := List.any_eq_true.mp z
    have := cov_iff r2
    rw [Bool.eq_false_iff] at h
    exact h (inB_iff.mpr ⟨r, r1, by omega, by omega⟩)
  · obtain ⟨r, r1, r2⟩ := List.any_eq_true.mp z
    rw [Bool.and_eq_true] at r2
    have c1 := cov_iff r2.1
    have c2 := cov_iff r2.2
    rw [Bool.eq_false_iff] at h2
    exact h2 (inP_iff.mpr ⟨r, r1, ⟨by omega, by omega⟩, by omega, by omega⟩)
theorem fq.up (f : fq A B h h') (w : (A.all fun q => A2.any fun r => cov r q) = true) (w2 : (B.all fun q => (A2.any fun r => cov r q.1) || B2.any fun r => cov r.1 q.1 && cov r.2 q.2) = true) : fq A2 B2 h h' := f.wid (inB_sub w) (inP_sub w2)
theorem fr.up (f : fr A h h') (w : (A.all fun q => A2.any fun r => cov r q) = true) : fq A2 B h h' := fq_fr f (inB_sub w)
/-! what stays as it was: the cells of W, and the fields of V -/
def keq (W : List (Nat × Nat)) (V : List ((Nat × Nat) × Nat × Nat)) (h h' : ea_H) : Prop := ea_core h' = ea_core h ∧ (∀ a k, inB W a = true ∨ inP V a k = true → hI h' a k = hI h a k) ∧ ∀ a, inB W a = true → ∀ k, hJ h' a k = hJ h a k
def apt (r q : Nat × Nat) : Bool := decide (r.2 < q.1) || decide (q.2 < r.1)
theorem apt_iff {r q : Nat × Nat} (h : apt r q = true) : r.2 < q.1 ∨ q.2 < r.1 := by
  unfold apt at h
  rw [Bool.or_eq_true, decide_eq_true_eq, decide_eq_true_eq] at h
  exact h
def fre (A : List (Nat × Nat)) (B : List ((Nat × Nat) × Nat × Nat)) (W : List (Nat × Nat)) (V : List ((Nat × Nat) × Nat × Nat)) : Bool :=
  (W.all fun w => (A.all fun q => apt w q) && B.all fun p => apt w p.1) && V.all fun v => (A.all fun q => apt v.1 q) && B.all fun p => apt v.1 p.1 || apt v.2 p.2
theorem fq.kq {W : List (Nat × Nat)} {V : List ((Nat × Nat) × Nat × Nat)} (f : fq A B h h') (w : fre A B W V = true) : keq W V h h' := by
  unfold fre at w
  rw [Bool.and_eq_true] at w
  obtain ⟨w1, w2⟩ := w
  have hA : ∀ r : Nat × Nat, (A.all fun q => apt r q) = true → ∀ a, r.1 ≤ a → a ≤ r.2 → inB A a = false := by
    intro r hr a ha hb
    rw [Bool.eq_false_iff]
    intro hc
    obtain ⟨q, q1, q2⟩ := inB_iff.mp hc
    have := apt_iff (List.all_eq_true.mp hr q q1)
    omega
  refine ⟨f.1, fun a k hk => ?_, fun a ha k => ?_⟩
  · rcases hk with hk | hk
    · obtain ⟨r, r1, r2⟩ := inB_iff.mp hk
      have := List.all_eq_true.mp w1 r r1
      rw [Bool.and_eq_true] at this
      refine f.I a (hA r this.1 a r2.1 r2.2) k ?_
      rw [Bool.eq_false_iff]
      intro hc
      obtain ⟨q, q1, q2, q3⟩ := inP_iff.mp hc
      have := apt_iff (List.all_eq_true.mp this.2 q q1)
      omega
    · obtain ⟨r, r1, r2, r3⟩ := inP_iff.mp hk
      have := List.all_eq_true.mp w2 r r1
      rw [Bool.and_eq_true] at this
      refine f.I a (hA r.1 this.1 a r2.1 r2.2) k ?_
      rw [Bool.eq_false_iff]
      intro hc
      obtain ⟨q, q1, q2, q3⟩ := inP_iff.mp hc
      have := List.all_eq_true.mp this.2 q q1
      rw [Bool.or_eq_true] at this
      rcases this with z | z <;> have := apt_iff z <;> omega
  · obtain ⟨r, r1, r2⟩ := inB_iff.mp ha
    have := List.all_eq_true.mp w1 r r1
    rw [Bool.and_eq_true] at this
    exact f.J a (hA r this.1 a r2.1 r2.2) k
theorem keq.W {W : List (Nat × Nat)} {V : List ((Nat × Nat) × Nat × Nat)} (s : keq W V h h') (a : Nat) (ha : inB W a = true) (k : Nat) : hI h' a k = hI h a k := s.2.1 a k (Or.inl ha)
theorem keq.V {W : List (Nat × Nat)} {V : List ((Nat × Nat) × Nat × Nat)} (s : keq W V h h') (a k : Nat) (ha : inP V a k = true) : hI h' a k = hI h a k := s.2.1 a k (Or.inr ha)
end FQ
/-! a run's happenings as keys -/
def hKey (T : Nat → Nat → Nat → Nat) (t d k : Nat) : Nat := tHap T t d k * 2048 + ((1 - k % 2) * 1024 + t * 64 + d * 8 + (k + 1) / 2)
def kNo (x : Nat) : Nat := 2 * kI x - (1 - kGo x)
theorem k_re (m g t d i : Nat) : m * 2048 + g * 1024 + t * 64 + d * 8 + i = m * 2048 + (g * 1024 + t * 64 + d * 8 + i) := by omega
section HK
variable {T : Nat → Nat → Nat → Nat}
theorem h_of {t d k : Nat} (ht : t < 10) (hd : d < 7) (hk : k < 15) : kMin (hKey T t d k) = tHap T t d k ∧ kGo (hKey T t d k) = 1 - k % 2 ∧ kT (hKey T t d k) = t ∧ kD (hKey T t d k) = d ∧ kI (hKey T t d k) = (k + 1) / 2 := k_of (by omega) (by omega) (by omega) (by omega)
theorem h_key (ok : tOk T) {t d k : Nat} (ht : t < tN T) (hd : d < 7) (hm : tMore T t d k) : tKey T (hKey T t d k) ∧ kNo (hKey T t d k) = k := by
  have hn := ok.1
  have hs := ok.2.1 t (by omega)
  obtain ⟨h1, h2⟩ := hm
  obtain ⟨a1, a2, a3, a4, a5⟩ := h_of (T := T) (t := t) (d := d) (k := k) (by omega) hd (by omega)
  refine ⟨⟨by omega, by omega, by omega, ?_⟩, by unfold kNo; omega⟩
  unfold tHap at a1
  rw [a1, a2, a3, a4, a5]
  by_cases q : k % 2 = 0
  · rw [if_pos q, show (k + 1) / 2 = k / 2 by omega]
    exact Or.inr ⟨by omega, by omega, rfl⟩
  · rw [if_neg q, show (k + 1) / 2 = k / 2 + 1 by omega]
    exact Or.inl ⟨by omega, by omega, by omega, rfl⟩
theorem h_num {y : Nat} (hy : tKey T y) : y = hKey T (kT y) (kD y) (kNo y) ∧ tMore T (kT y) (kD y) (kNo y) := by
  obtain ⟨y1, y2, y3, y4⟩ := hy
  have ky := k_all y
  have gI := kI_lt y
  rcases y4 with ⟨g, i1, i2, m⟩ | ⟨g, i1, m⟩
  · have e : kNo y = 2 * (kI y - 1) + 1 := by
      unfold kNo
      omega
    have h1 : tHap T (kT y) (kD y) (kNo y) = kMin y := by
      unfold tHap
      rw [if_neg (by omega), show kNo y / 2 + 1 = kI y by omega, m]
    have e2 : kNo y % 2 = 1 := by omega
    have e3 : (kNo y + 1) / 2 = kI y := by omega
    refine ⟨?_, by omega, by omega⟩
    unfold hKey
    rw [h1, e2, e3]
    clear h1 e2 e3 e m
    rw [g] at ky
    exact ky.trans (k_re _ _ _ _ _)
  · have e : kNo y = 2 * kI y := by
      unfold kNo
      omega
    have h1 : tHap T (kT y) (kD y) (kNo y) = kMin y := by
      unfold tHap
      rw [if_pos (by omega), show kNo y / 2 = kI y by omega, m]
    have e2 : kNo y % 2 = 0 := by omega
    have e3 : (kNo y + 1) / 2 = kI y := by omega
    refine ⟨?_, by omega, by omega⟩
    unfold hKey
    rw [h1, e2, e3]
    clear h1 e2 e3 e m
    rw [g] at ky
    exact ky.trans (k_re _ _ _ _ _)
theorem h_step (ok : tOk T) {t d k : Nat} (ht : t < 10) (hk : k + 3 < 2 * tS T t) : hKey T t d k < hKey T t d (k + 1) ∧ tHap T t d k ≤ tHap T t d (k + 1) := by
  have hs := ok.2.1 t ht
  unfold hKey tHap
  by_cases q : k % 2 = 0
  · have h5 := ok.2.2.2.2.1 t (k / 2) ht (by omega)
    rw [if_pos q, if_neg (by omega), show (k + 1) / 2 + 1 = k / 2 + 1 by omega]
    unfold tGm tCm
    omega
  · have h4 := ok.2.2.2.1 t (k / 2 + 1) ht (by omega)
    rw [if_neg q, if_pos (by omega), show (k + 1) / 2 = k / 2 + 1 by omega]
    unfold tGm tCm
    omega
theorem h_mono (ok : tOk T) {t d k : Nat} (ht : t < 10) : ∀ n, k + n + 2 < 2 * tS T t → hKey T t d k ≤ hKey T t d (k + n) ∧ tHap T t d k ≤ tHap T t d (k + n) := by
  intro n
  induction n with
  | zero => exact fun _ => ⟨Nat.le_refl _, Nat.le_refl _⟩
  | succ n ih =>
    intro hn
    have h1 := ih (by omega)
    have h2 := h_step ok (d := d) ht (k := k + n) (by omega)
    exact ⟨Nat.le_trans h1.1 (Nat.le_of_lt h2.1), Nat.le_trans h1.2 h2.2⟩
theorem h_head (ok : tOk T) {y k : Nat} (hy : tKey T y) (hk : k ≤ kNo y) : tMore T (kT y) (kD y) k ∧ hKey T (kT y) (kD y) k ≤ y := by
  have hn := ok.1
  have hy1 := hy.1
  obtain ⟨e, m1, m2⟩ := h_num hy
  have h1 := h_mono ok (d := kD y) (k := k) (t := kT y) (by omega) (kNo y - k) (by omega)
  rw [show k + (kNo y - k) = kNo y by omega, ← e] at h1
  exact ⟨⟨by omega, by omega⟩, h1.1⟩
def tAh (T : Nat → Nat → Nat → Nat) (nx : Nat → Nat) (t d t2 d2 : Nat) : Prop := tPos T t d (nx (7 * t + d)) < tPos T t2 d2 (nx (7 * t2 + d2)) ∨ tPos T t d (nx (7 * t + d)) = tPos T t2 d2 (nx (7 * t2 + d2)) ∧ 7 * t + d < 7 * t2 + d2
theorem h_ord (ok : tOk T) {nx : Nat → Nat} {t d t2 d2 : Nat} (ht : t < tN T) (ht2 : t2 < tN T) (hd : d < 7) (hd2 : d2 < 7) (hm : tMore T t d (nx (7 * t + d))) (hm2 : tMore T t2 d2 (nx (7 * t2 + d2))) (h : ¬ tAh T nx t2 d2 t d) : hKey T t d (nx (7 * t + d)) ≤ hKey T t2 d2 (nx (7 * t2 + d2)) := by
  have hn := ok.1
  have s1 := ok.2.1 t (by omega)
  have s2 := ok.2.1 t2 (by omega)
  have m1 := hm.1
  have m2 := hm2.1
  unfold tAh tPos at h
  by_cases q : 7 * t + d = 7 * t2 + d2
  · have e1 : t = t2 := by omega
    have e2 : d = d2 := by omega
    rw [e1, e2]
    exact Nat.le_refl _
  · unfold hKey
    omega
end HK
/-- the events that the reference has so far -/
def mEv (h : ea_H) (E : List Nat) : Prop := hI h 326 13 = E.length ∧ ∀ e, e < E.length → hI h 336 e = kMin (E.getD e 0) ∧ hI h 337 e = kGo (E.getD e 0) ∧ hI h 338 e = ((7 * kT (E.getD e 0) + kD (E.getD e 0) : Nat) : Int) ∧ hI h 339 e = kI (E.getD e 0)
def sInv (T : Nat → Nat → Nat → Nat) (h : ea_H) (E : List Nat) (nx : Nat → Nat) : Prop :=
  MTab h T ∧ mEv h E ∧ (∀ r, r < 70 → hI h 340 r = nx r) ∧ (∀ r, nx r ≤ 14) ∧ E.Pairwise (· < ·) ∧ (∀ x, x ∈ E ↔ tKey T x ∧ kNo x < nx (7 * kT x + kD x)) ∧ ∀ x ∈ E, ∀ y, tKey T y → y ∉ E → x < y
theorem MTab.fq {A : List (Nat × Nat)} {B : List ((Nat × Nat) × Nat × Nat)} {h h' : ea_H} {T : Nat → Nat → Nat → Nat} (f : fq A B h h') (h0 : inB A 326 = false) (h00 : inP B 326 2 = false) (h1 : inB A 328 = false ∧ outP B 328 = true) (h2 : inB A 329 = false ∧ outP B 329 = true) (h3 : inB A 330 = false ∧ outP B 330 = true) (h4 : inB A 331 = false ∧ outP B 331 = true) (h5 : inB A 332 = false ∧ outP B 332 = true) (c : MTab h T) : MTab h' T := by
  obtain ⟨c1, c2, c3, c4⟩ := c
  refine ⟨(f.I 326 h0 2 h00).trans c1, fun t ht => (f.C 328 h1.1 h1.2 t).trans (c2 t ht), fun t i ht hi => ?_, fun t d ht hd => (f.C 332 h5.1 h5.2 _).trans (c4 t d ht hd)⟩
  obtain ⟨d1, d2, d3⟩ := c3 t i ht hi
  exact ⟨(f.C 329 h2.1 h2.2 _).trans d1, (f.C 330 h3.1 h3.2 _).trans d2, (f.C 331 h4.1 h4.2 _).trans d3⟩
