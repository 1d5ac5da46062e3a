/-! goings of a town, by their places in the list -/
section GO
variable {tw : Nat → Nat → Nat}
def isG (tw : Nat → Nat → Nat) (L : List Nat) (a j : Nat) : Prop := j < L.length ∧ kGo (L.getD j 0) = 1 ∧ kA tw (L.getD j 0) = a
def wV (tw : Nat → Nat → Nat) (L : List Nat) (g b : Nat) : Nat := wTak (wRS tw (L.drop (g + 1))).1 (L.getD g 0) b
theorem drop_cons {L : List Nat} {p : Nat} (h : p < L.length) : L.drop p = L.getD p 0 :: L.drop (p + 1) := by
  rw [List.drop_eq_getElem_cons h, List.getD_eq_getElem?_getD, List.getElem?_eq_getElem h]
  rfl
theorem getD_mem {L : List Nat} {p : Nat} (h : p < L.length) : L.getD p 0 ∈ L := by
  rw [List.getD_eq_getElem?_getD, List.getElem?_eq_getElem h]
  exact List.getElem_mem h
theorem getD_lt {L : List Nat} (h : L.Pairwise (· < ·)) {i j : Nat} (hij : i < j) (hj : j < L.length) : L.getD i 0 < L.getD j 0 := by
  rw [List.getD_eq_getElem?_getD, List.getElem?_eq_getElem (Nat.lt_trans hij hj), List.getD_eq_getElem?_getD, List.getElem?_eq_getElem hj]
  exact List.pairwise_iff_getElem.mp h i j (Nat.lt_trans hij hj) hj hij
theorem take_cons {L : List Nat} {p : Nat} (h : p < L.length) : L = L.take p ++ L.getD p 0 :: L.drop (p + 1) := by
  rw [← drop_cons h, List.take_append_drop]
theorem wS_skip1 {x a : Nat} {S : List Nat} (h : ¬ (kGo x = 1 ∧ kA tw x = a)) (b : Nat) : (wRS tw (x :: S)).2 a b = (wRS tw S).2 a b := by
  conv => lhs; unfold wRS
  by_cases g : kGo x = 1
  · rw [if_pos g]
    dsimp only
    rw [if_neg (fun e => h ⟨g, e.symm⟩)]
  · rw [if_neg g]
theorem wS_go {x b : Nat} {S : List Nat} (g : kGo x = 1) : (wRS tw (x :: S)).2 (kA tw x) b = min ((wRS tw S).2 (kA tw x) b) (wTak (wRS tw S).1 x b) := by
  conv => lhs; unfold wRS
  rw [if_pos g]
  dsimp only
  rw [if_pos rfl]
theorem drop_skip {L : List Nat} {a : Nat} (b : Nat) : ∀ (n p : Nat), (∀ j, p ≤ j → j < p + n → ¬ isG tw L a j) → (wRS tw (L.drop p)).2 a b = (wRS tw (L.drop (p + n))).2 a b := by
  intro n
  induction n with
  | zero => exact fun p _ => rfl
  | succ n ih =>
    intro p h
    by_cases hp : p < L.length
    · have h1 := ih (p + 1) fun j h1 h2 => h j (by omega) (by omega)
      rw [show p + 1 + n = p + (n + 1) by omega] at h1
      rw [← h1, drop_cons hp, wS_skip1 fun q => h p (Nat.le_refl _) (by omega) ⟨hp, q⟩]
    · rw [List.drop_of_length_le (show L.length ≤ p by omega), List.drop_of_length_le (show L.length ≤ p + (n + 1) by omega)]
theorem drop_none {L : List Nat} {a p : Nat} (b : Nat) (h : ∀ j, p ≤ j → ¬ isG tw L a j) : (wRS tw (L.drop p)).2 a b = NOW := by
  rw [drop_skip b L.length p fun j h1 _ => h j h1, List.drop_of_length_le (show L.length ≤ p + L.length by omega)]
  rfl
theorem wFrom_drop {L : List Nat} (h : wL L) (m : Nat) : ∃ p, wFrom L m = L.drop p ∧ ∀ j, j < L.length → (j < p ↔ kMin (L.getD j 0) < m) := by
  obtain ⟨P, e1, e2⟩ := wFrom_app h m
  have hd : ∀ W, L = P ++ W → L.drop P.length = W := fun W e => by
    rw [e]
    exact List.drop_left
  refine ⟨P.length, (hd _ e1).symm, fun j hj => ⟨fun q => e2 _ ?_, fun q => Nat.not_le.mp fun r => ?_⟩⟩
  · have : ∀ W, L = P ++ W → L.getD j 0 ∈ P := fun W e => by
      rw [e, List.getD_eq_getElem?_getD, List.getElem?_append_left q, ← List.getD_eq_getElem?_getD]
      exact getD_mem q
    exact this _ e1
  · have : ∀ W, L = P ++ W → L.getD j 0 ∈ W := fun W e => by
      have hl : L.length = P.length + W.length := by rw [e, List.length_append]
      rw [e, List.getD_eq_getElem?_getD, List.getElem?_append_right r, ← List.getD_eq_getElem?_getD]
      exact getD_mem (by omega)
    have := (wFrom_in.mp (this _ e1)).2
    omega
def gFr (tw : Nat → Nat → Nat) (L : List Nat) (a m : Nat) (r : Int) : Prop := (r = -1 ∧ ∀ j, isG tw L a j → kMin (L.getD j 0) < m) ∨ ∃ e : Nat, r = e ∧ isG tw L a e ∧ m ≤ kMin (L.getD e 0) ∧ ∀ j, j < e → isG tw L a j → kMin (L.getD j 0) < m
theorem gFr_none {L : List Nat} (h : wL L) {a m : Nat} (b : Nat) (q : ∀ j, isG tw L a j → kMin (L.getD j 0) < m) : (wRS tw (wFrom L m)).2 a b = NOW := by
  obtain ⟨p, e1, e2⟩ := wFrom_drop h m
  rw [e1]
  refine drop_none b fun j hj hg => ?_
  have := (e2 j hg.1).mpr (q j hg)
  omega
theorem gFr_some {L : List Nat} (h : wL L) {a m e : Nat} (b : Nat) (q1 : isG tw L a e) (q2 : m ≤ kMin (L.getD e 0)) (q3 : ∀ j, j < e → isG tw L a j → kMin (L.getD j 0) < m) : (wRS tw (wFrom L m)).2 a b = (wRS tw (L.drop e)).2 a b := by
  obtain ⟨p, e1, e2⟩ := wFrom_drop h m
  have hp : p ≤ e := Nat.not_lt.mp fun z => by
    have := (e2 e q1.1).mp z
    omega
  rw [e1, drop_skip b (e - p) p, show p + (e - p) = e by omega]
  intro j h1 h2 hg
  have := (e2 j hg.1).mpr (q3 j (by omega) hg)
  omega
theorem wV_in {L : List Nat} {a g : Nat} (h : isG tw L a g) : (L.getD g 0, wV tw L g) ∈ wG tw L := by
  have e := take_cons h.1
  have h1 : (L.getD g 0, wV tw L g) ∈ wG tw (L.getD g 0 :: L.drop (g + 1)) := by
    unfold wG
    rw [if_pos h.2.1]
    exact List.mem_cons_self
  have h2 := wG_app (L.take g) _ h1
  rw [← e] at h2
  exact h2
theorem code_re {v A m k x : Nat} (hA : v = A * 8192 + x) (hx : x < 8192) (r : v / 8192 = m * 256 + k) : v = (m * 256 + k) * 8192 + x := by
  have h : v / 8192 = A := by omega
  rw [← r, h]
  exact hA
theorem code_lt {a b c d : Nat} (h1 : a < 10) (h2 : b < 7) (h3 : c < 8) (h4 : d < 8) : a * 512 + b * 64 + c * 8 + d < 8192 := by omega
/-- a way's number taken apart -/
theorem wV_code {L : List Nat} (h : wL L) (hl : L.length ≤ 1000) {a g b : Nat} (q : isG tw L a g) (hn : wV tw L g b ≠ NOW) : ∃ m k l, wV tw L g b = (m * 256 + k) * 8192 + (kT (L.getD g 0) * 512 + kD (L.getD g 0) * 64 + kI (L.getD g 0) * 8 + l) ∧ m ≤ 10079 ∧ 1 ≤ k ∧ k ≤ 70 ∧ l < 8 ∧ kT (L.getD g 0) < 10 ∧ kD (L.getD g 0) < 7 ∧ kI (L.getD g 0) < 8 := by
  have hz := wV_in q
  obtain ⟨P, c, S', e1, e2, e3, e4, e5, e6⟩ := wE h hz hn
  obtain ⟨m, k, r1, r2, r3, r4⟩ := wRuns h hl hz hn
  have i1 := kI_lt (L.getD g 0)
  have i2 := kI_lt c
  have hb := (h.2.1 _ (getD_mem q.1)).1
  have hv : ∃ A, wV tw L g b = A * 8192 + (kT (L.getD g 0) * 512 + kD (L.getD g 0) * 64 + kI (L.getD g 0) * 8 + kI c) := by
    rcases e6 with ⟨a1, a2⟩ | ⟨a1, a2, a3⟩
    · exact ⟨_, a2⟩
    · exact ⟨_, a3⟩
  obtain ⟨A, hA⟩ := hv
  exact ⟨m, k, kI c, code_re hA (code_lt hb.1 hb.2 i1 i2) r1, r2, r3, r4, i2, hb.1, hb.2, i1⟩
def nxG (tw : Nat → Nat → Nat) (L : List Nat) (a p : Nat) (r : Int) : Prop := (r = -1 ∧ ∀ j, p ≤ j → ¬ isG tw L a j) ∨ ∃ e : Nat, r = e ∧ p ≤ e ∧ isG tw L a e ∧ ∀ j, p ≤ j → j < e → ¬ isG tw L a j
def mAcc (x y z : Int) (A : Nat) : Prop := (A = NOW ∧ x = 1000000) ∨ (A ≠ NOW ∧ x = ((A / 2097152 : Nat) : Int) ∧ y = ((A / 8192 % 256 : Nat) : Int) ∧ z = ((A % 8 : Nat) : Int))
def mBest (tw : Nat → Nat → Nat) (L : List Nat) (a b p v : Nat) (r : Int) : Prop := (r = -1 ∧ v = NOW) ∨ ∃ g : Nat, r = g ∧ p ≤ g ∧ isG tw L a g ∧ wV tw L g b = v ∧ v ≠ NOW
def mRow1 (tw : Nat → Nat → Nat) (L : List Nat) (h : ea_H) (e b : Nat) (A : Nat) : Prop := mAcc (hI h 341 (12 * e + b)) (hI h 342 (12 * e + b)) (hI h 343 (12 * e + b)) A
def mRows (tw : Nat → Nat → Nat) (L : List Nat) (n : Nat) (h : ea_H) (p : Nat) : Prop := ∀ e, p ≤ e → ∀ a, isG tw L a e → nxG tw L a (e + 1) (hI h 345 e) ∧ ∀ b, b < n → mRow1 tw L h e b (wV tw L e b) ∧ mBest tw L a b e ((wRS tw (L.drop e)).2 a b) (hI h 344 (12 * e + b))
def mFirst (tw : Nat → Nat → Nat) (L : List Nat) (h : ea_H) (p : Nat) : Prop := ∀ a, a < 12 → nxG tw L a p (hI h 346 a)
theorem mRows_cg {L : List Nat} {n p : Nat} {h h' : ea_H} (hn : n ≤ 12) (e1 : ∀ j, 12 * p ≤ j → hI h' 341 j = hI h 341 j ∧ hI h' 342 j = hI h 342 j ∧ hI h' 343 j = hI h 343 j ∧ hI h' 344 j = hI h 344 j) (e2 : ∀ j, p ≤ j → hI h' 345 j = hI h 345 j) (r : mRows tw L n h p) : mRows tw L n h' p := by
  intro e he a ha
  obtain ⟨r1, r2⟩ := r e he a ha
  refine ⟨by rw [e2 e he]; exact r1, fun b hb => ?_⟩
  obtain ⟨r3, r4⟩ := r2 b hb
  obtain ⟨c1, c2, c3, c4⟩ := e1 (12 * e + b) (by omega)
  unfold mRow1
  rw [c1, c2, c3, c4]
  exact ⟨r3, r4⟩
end GO
