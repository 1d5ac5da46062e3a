/-! letters on their way: what holds of each letter -/
def XL (T : Nat → Nat → Nat → Nat) (b : Int) (X : Nat → Nat → Int) (l : Nat) : Prop :=
  (0 ≤ X 0 l ∧ X 0 l ≤ 6) ∧ (X 0 l = 0 → 0 ≤ X 1 l ∧ X 1 l < 12) ∧ (X 0 l = 1 → ∃ t d : Nat, t < 10 ∧ d < 7 ∧ X 1 l = ((10 * d + t : Nat) : Int) ∧ 1 ≤ X 2 l ∧ X 2 l < tS T t ∧ (X 4 l = 0 ∨ X 4 l = 1)) ∧ (0 ≤ X 5 l ∧ X 5 l ≤ 10079) ∧ (1 ≤ X 7 l ∧ X 7 l + (if X 0 l ≤ 3 then 1 else 0) ≤ b) ∧ 0 ≤ X 1 l ∧ X 1 l < 128
theorem XL_cg {T : Nat → Nat → Nat → Nat} {b : Int} {X Y : Nat → Nat → Int} {l : Nat} (e0 : Y 0 l = X 0 l) (e1 : Y 1 l = X 1 l) (e2 : Y 2 l = X 2 l) (e4 : Y 4 l = X 4 l) (e5 : Y 5 l = X 5 l) (e7 : Y 7 l = X 7 l) (h : XL T b X l) : XL T b Y l := by
  unfold XL
  rw [e0, e1, e2, e4, e5, e7]
  exact h
theorem XL_so {T : Nat → Nat → Nat → Nat} {b : Int} {X Y : Nat → Nat → Int} {l : Nat} (e0 : Y 0 l = X 0 l) (e1 : Y 1 l = X 1 l) (e2 : Y 2 l = X 2 l) (e4 : Y 4 l = 1) (e5 : Y 5 l = X 5 l) (e7 : Y 7 l = X 7 l) (h : XL T b X l) : XL T b Y l := by
  obtain ⟨h1, h2, h3, h4, h5, h6⟩ := h
  unfold XL
  rw [e0, e1, e2, e4, e5, e7]
  refine ⟨h1, h2, fun z => ?_, h4, h5, h6⟩
  obtain ⟨t, d, a1, a2, a3, a4, a5, a6⟩ := h3 z
  exact ⟨t, d, a1, a2, a3, a4, a5, Or.inr rfl⟩
theorem XL_up {T : Nat → Nat → Nat → Nat} {b b' : Int} {X : Nat → Nat → Int} {l : Nat} (hb : b ≤ b') (h : XL T b X l) : XL T b' X l := by
  obtain ⟨h1, h2, h3, h4, ⟨h5, h6⟩, h7⟩ := h
  exact ⟨h1, h2, h3, h4, ⟨h5, by omega⟩, h7⟩
def XOk (T : Nat → Nat → Nat → Nat) (m : Nat) (B : Nat → Int) (X : Nat → Nat → Int) : Prop := ∀ l, l < m → XL T (B l) X l
section XO
variable {T : Nat → Nat → Nat → Nat} {G : Nat → Nat → Int} {L : List Nat}
theorem stIn_c (G : Nat → Nat → Int) (l : Nat) (town : Int) : stIn G l town = 0 ∨ stIn G l town = 2 ∨ stIn G l town = 3 := by
  unfold stIn
  split
  · split
    · exact Or.inr (Or.inl rfl)
    · exact Or.inr (Or.inr rfl)
  · exact Or.inl rfl
theorem t_bounds (ok : tOk T) {x : Nat} (hx : tKey T x) : kT x < 10 ∧ kD x < 7 ∧ kI x < 8 ∧ kI x < tS T (kT x) ∧ kA (tW T) x < 12 ∧ kMin x ≤ 10079 ∧ kR x < 70 ∧ tS T (kT x) ≤ 8 := by
  obtain ⟨x1, x2, x3, x4⟩ := hx
  have hn := ok.1
  have hs := ok.2.1 (kT x) (by omega)
  have h1 : kI x < tS T (kT x) := by
    rcases x4 with ⟨a1, a2, a3, a4⟩ | ⟨a1, a2, a3⟩ <;> omega
  refine ⟨by omega, x2, kI_lt x, h1, (ok.2.2.2.1 (kT x) (kI x) (by omega) h1).1, x3, ?_, hs⟩
  unfold kR
  omega
theorem cmL_ok (ok : tOk T) {x : Nat} (hx : tKey T x) {X : Nat → Nat → Int} {m j : Nat} {b : Int} (h : XOk T m (fun l => if l < j then b + 1 else b) X) (hj : j < m) : XOk T m (fun l => if l < j + 1 then b + 1 else b) (cmL T G x X j) := by
  obtain ⟨t1, t2, t3, t4, t5, t6, t7, t8⟩ := t_bounds ok hx
  intro l hl
  have hX := h l hl
  unfold cmL
  by_cases c : cmC T X x j
  · rw [if_pos c]
    by_cases q : l = j
    · subst q
      dsimp only at hX ⊢
      rw [if_neg (Nat.lt_irrefl _)] at hX
      rw [if_pos (Nat.lt_succ_self _)]
      obtain ⟨h1, h2, h3, h4, ⟨h5, h6⟩, h7⟩ := hX
      have hc := c.1
      rw [hc] at h6
      have e7 : ∀ Z : Nat → Nat → Int, Z 7 l = X 7 l → mvX Z l (kMin x) (stIn G l (kA (tW T) x)) (kA (tW T) x) 7 l = X 7 l + 1 := fun Z hZ => by
        rw [mvX_7, if_pos rfl, hZ]
      have z7 : (@ite _ (X 4 l = 0) (Classical.propDecidable _) (upX (upX X 3 l (bmw (X 3 l + 1))) 6 (kR x) (bmw (X 6 (kR x) + 1))) X) 7 l = X 7 l := by
        split
        · rw [upX_ne (by decide), upX_ne (by decide)]
        · rfl
      have s := stIn_c G l (kA (tW T) x)
      unfold XL
      rw [upX_ne (by decide), upX_ne (by decide), upX_ne (show (5 : Nat) ≠ 2 by decide), upX_ne (show (7 : Nat) ≠ 2 by decide), mvX_0, mvX_1, mvX_5, e7 _ z7, if_pos rfl, if_pos rfl, if_pos rfl]
      have hh6 : X 7 l + 1 ≤ b := by
        rw [if_pos (by decide)] at h6
        exact h6
      refine ⟨by omega, fun _ => by omega, fun z => by omega, by omega, ⟨by omega, ?_⟩, by omega, by omega⟩
      rw [if_pos (by omega)]
      omega
    · have hb : (if l < j + 1 then b + 1 else b) = if l < j then b + 1 else b := by
        by_cases w : l < j
        · rw [if_pos w, if_pos (by omega)]
        · rw [if_neg w, if_neg (by omega)]
      dsimp only at hX ⊢
      rw [hb]
      have z : ∀ f, f ≠ 6 → (@ite _ (X 4 j = 0) (Classical.propDecidable _) (upX (upX X 3 j (bmw (X 3 j + 1))) 6 (kR x) (bmw (X 6 (kR x) + 1))) X) f l = X f l := fun f hf => by
        split
        · rw [upX_ne hf]
          unfold upX
          exact if_neg fun w => q w.2
        · rfl
      refine XL_cg ?_ ?_ ?_ ?_ ?_ ?_ hX
      · rw [upX_ne (by decide), mvX_0, if_neg q, z 0 (by decide)]
      · rw [upX_ne (by decide), mvX_1, if_neg q, z 1 (by decide)]
      · rw [upX_row, if_neg q, mvX_2, z 2 (by decide)]
      · rw [upX_ne (by decide), mvX_4, if_neg q, z 4 (by decide)]
      · rw [upX_ne (by decide), mvX_5, if_neg q, z 5 (by decide)]
      · rw [upX_ne (by decide), mvX_7, if_neg q, z 7 (by decide)]
  · rw [if_neg c]
    refine XL_up ?_ hX
    dsimp only
    split
    · rw [if_pos (by omega)]
      omega
    · split <;> omega
theorem cmF_ok (ok : tOk T) {x : Nat} (hx : tKey T x) {X : Nat → Nat → Int} {m : Nat} {b : Int} (h : XOk T m (fun _ => b) X) : ∀ j, j ≤ m → XOk T m (fun l => if l < j then b + 1 else b) (cmF T G x X j) := by
  intro j
  induction j with
  | zero =>
    intro _ l hl
    dsimp only
    rw [if_neg (Nat.not_lt_zero _)]
    exact h l hl
  | succ j ih => exact fun hj => cmL_ok ok hx (ih (by omega)) hj
theorem wLv_lt8 (hw : wL L) (hl : L.length ≤ 1000) (hg : ∀ x ∈ L, kGo x = 1 → tGm T (kT x) (kD x) (kI x) = kMin x) {x : Nat} (hx : x ∈ L) (hgo : kGo x = 1) (to : Nat) (hne : wLv (tGm T) (tW T) L (kS x) to ≠ 0) : wLv (tGm T) (tW T) L (kS x) to < 8 ∧ kI x < wLv (tGm T) (tW T) L (kS x) to ∧ ∃ c ∈ L, kGo c ≠ 1 ∧ kT c = kT x ∧ kI c = wLv (tGm T) (tW T) L (kS x) to := by
  obtain ⟨f, hf⟩ := wG_of (tw := tW T) hx hgo
  obtain ⟨q1, q2⟩ := wQ hw hl hg hf (to := to)
  by_cases c : wBest (tW T) L x to f
  · have e := q1 c
    obtain ⟨P, c2, S', p1, p2, p3, p4, p5, p6⟩ := wE hw hf c.1
    obtain ⟨d1, d2, d3, d4, P2, c3, S2, r1, r2, r3, r4, r5, r6, r7⟩ := wF hw hf c.1
    rw [e]
    refine ⟨Nat.mod_lt _ (by decide), ?_, c3, ?_, r3, r4, r6⟩
    · have hx2 := (hw.2.2 x hx c3 (by rw [r1]; exact List.mem_append_right _ List.mem_cons_self) (by unfold kR; rw [r4, r5]) r2)
      rw [r6] at hx2
      rcases hx2 with w | ⟨w1, w2, w3⟩
      · exact w
      · omega
    · rw [r1]
      exact List.mem_append_right _ List.mem_cons_self
  · exact absurd (q2 c) hne
theorem wLv_stop (ok : tOk T) (hL : tList T L) {x : Nat} (hx : x ∈ L) (hgo : kGo x = 1) (to : Nat) (hne : wLv (tGm T) (tW T) L (kS x) to ≠ 0) : 1 ≤ wLv (tGm T) (tW T) L (kS x) to ∧ wLv (tGm T) (tW T) L (kS x) to < tS T (kT x) := by
  have h9 := t_len2 ok hL
  obtain ⟨h1, h2, c, c1, c2, c3, c4⟩ := wLv_lt8 (t_wL ok hL) (by omega) (t_gm hL) hx hgo to hne
  have hk := (hL.2 c).mp c1
  refine ⟨by omega, ?_⟩
  have := (t_bounds ok hk).2.2.2.1
  rw [c3, c4] at this
  exact this
theorem bdL_ok (ok : tOk T) (hL : tList T L) {x : Nat} (hx : x ∈ L) (hgo : kGo x = 1) {X : Nat → Nat → Int} {m j : Nat} {b : Int} (h : XOk T m (fun l => if l < j then b + 1 else b) X) (hj : j < m) : XOk T m (fun l => if l < j + 1 then b + 1 else b) (bdL T L G x X j) := by
  obtain ⟨t1, t2, t3, t4, t5, t6, t7, t8⟩ := t_bounds ok ((hL.2 x).mp hx)
  intro l hl
  have hX := h l hl
  unfold bdL
  by_cases c : bdC T L G X x j
  · rw [if_pos c]
    by_cases q : l = j
    · subst q
      dsimp only at hX ⊢
      rw [if_neg (Nat.lt_irrefl _)] at hX
      rw [if_pos (Nat.lt_succ_self _)]
      obtain ⟨h1, h2, h3, h4, ⟨h5, h6⟩, h7⟩ := hX
      have hc := c.1
      rw [hc, if_pos (by decide)] at h6
      obtain ⟨w1, w2⟩ := wLv_stop ok hL hx hgo _ c.2.2
      unfold XL
      rw [upX_ne (by decide), upX_ne (by decide), upX_row, upX_ne (show (4 : Nat) ≠ 2 by decide), upX_ne (show (5 : Nat) ≠ 2 by decide), upX_ne (show (7 : Nat) ≠ 2 by decide), mvX_0, mvX_1, mvX_4, mvX_5, mvX_7, if_pos rfl, if_pos rfl, if_pos rfl, if_pos rfl, if_pos rfl, if_pos rfl]
      refine ⟨by omega, fun z => by omega, fun _ => ⟨kT x, kD x, t1, t2, rfl, by omega, by omega, Or.inl rfl⟩, by omega, ⟨by omega, ?_⟩, by omega, by omega⟩
      rw [if_pos (by decide)]
      omega
    · have hb : (if l < j + 1 then b + 1 else b) = if l < j then b + 1 else b := by
        by_cases w : l < j
        · rw [if_pos w, if_pos (by omega)]
        · rw [if_neg w, if_neg (by omega)]
      dsimp only at hX ⊢
      rw [hb]
      refine XL_cg ?_ ?_ ?_ ?_ ?_ ?_ hX
      · rw [upX_ne (by decide), mvX_0, if_neg q]
      · rw [upX_ne (by decide), mvX_1, if_neg q]
      · rw [upX_row, if_neg q, mvX_2]
      · rw [upX_ne (by decide), mvX_4, if_neg q]
      · rw [upX_ne (by decide), mvX_5, if_neg q]
      · rw [upX_ne (by decide), mvX_7, if_neg q]
  · rw [if_neg c]
    refine XL_up ?_ hX
    dsimp only
    split
    · rw [if_pos (by omega)]
      omega
    · split <;> omega
theorem bdF_ok (ok : tOk T) (hL : tList T L) {x : Nat} (hx : x ∈ L) (hgo : kGo x = 1) {X : Nat → Nat → Int} {m : Nat} {b : Int} (h : XOk T m (fun _ => b) X) : ∀ j, j ≤ m → XOk T m (fun l => if l < j then b + 1 else b) (bdF T L G x X j) := by
  intro j
  induction j with
  | zero =>
    intro _ l hl
    dsimp only
    rw [if_neg (Nat.not_lt_zero _)]
    exact h l hl
  | succ j ih => exact fun hj => bdL_ok ok hL hx hgo (ih (by omega)) hj
theorem soL_ok {r town k : Nat} {Z : (Nat → Nat → Int) × (Nat → Int)} {m : Nat} {B : Nat → Int} (h : XOk T m B Z.1) (j : Nat) : XOk T m B (soL G r town k Z j).1 := by
  unfold soL
  split
  · intro l hl
    have hX := h l hl
    have e : ∀ f, f ≠ 4 → upX Z.1 4 j 1 f l = Z.1 f l := fun f hf => upX_ne hf
    by_cases q : l = j
    · subst q
      exact XL_so (e 0 (by decide)) (e 1 (by decide)) (e 2 (by decide)) (by show upX Z.1 4 l 1 4 l = 1; rw [upX_row, if_pos rfl]) (e 5 (by decide)) (e 7 (by decide)) hX
    · exact XL_cg (e 0 (by decide)) (e 1 (by decide)) (e 2 (by decide)) (by show upX Z.1 4 j 1 4 l = _; rw [upX_row, if_neg q]) (e 5 (by decide)) (e 7 (by decide)) hX
  · exact h
theorem soF_ok {r town k : Nat} {Z : (Nat → Nat → Int) × (Nat → Int)} {m : Nat} {B : Nat → Int} (h : XOk T m B Z.1) : ∀ j, XOk T m B (soF G r town k Z j).1 := by
  intro j
  induction j with
  | zero => exact h
  | succ j ih => exact soL_ok ih j
theorem soK_ok {r t : Nat} {Z : (Nat → Nat → Int) × (Nat → Int)} {m : Nat} {B : Nat → Int} (h : XOk T m B Z.1) : ∀ k, XOk T m B (soK T G r t Z k).1 := by
  intro k
  induction k with
  | zero => exact h
  | succ k ih => exact soF_ok ih _
theorem XOk_all {X : Nat → Nat → Int} {m j : Nat} {b b' : Int} (h : XOk T m (fun l => if l < j then b' else b) X) (hb : b ≤ b') : XOk T m (fun _ => b') X := fun l hl => XL_up (by dsimp only; split <;> omega) (h l hl)
theorem evX_ok (ok : tOk T) (hL : tList T L) {x : Nat} (hx : x ∈ L) {X : Nat → Nat → Int} {m : Nat} {b : Int} (hm : G 7 0 = m) (h : XOk T m (fun _ => b) X) : XOk T m (fun _ => b + 1) (evX T L G x X) := by
  have hm2 : (G 7 0).toNat = m := by omega
  have up : XOk T m (fun _ => b + 1) X := fun l hl => XL_up (by show b ≤ b + 1; omega) (h l hl)
  unfold evX
  by_cases g : kGo x = 1
  · rw [if_pos g]
    unfold goX
    refine soK_ok ?_ 8
    dsimp only
    split
    · rw [hm2]
      exact XOk_all (bdF_ok ok hL hx g h m (Nat.le_refl _)) (by omega)
    · exact up
  · rw [if_neg g]
    unfold coX
    split
    · rw [hm2]
      exact XOk_all (cmF_ok ok ((hL.2 x).mp hx) h m (Nat.le_refl _)) (by omega)
    · exact up
theorem brL_ok {day : Nat} (hd : day ≤ 6) {X : Nat → Nat → Int} {m : Nat} {B : Nat → Int} (h : XOk T m B X) (j : Nat) : XOk T m B (brL G day X j) := by
  unfold brL
  split
  · rename_i c
    intro l hl
    have hX := h l hl
    by_cases q : l = j
    · subst q
      obtain ⟨h1, h2, h3, h4, ⟨h5, h6⟩, h7⟩ := hX
      rw [c.1, if_pos (by decide)] at h6
      unfold XL
      rw [mvX_0, mvX_1, mvX_5, mvX_7, if_pos rfl, if_pos rfl, if_pos rfl, if_pos rfl]
      refine ⟨by omega, fun z => by omega, fun z => by omega, by omega, ⟨by omega, ?_⟩, h7⟩
      rw [if_neg (by decide)]
      omega
    · refine XL_cg ?_ ?_ ?_ ?_ ?_ ?_ hX
      · rw [mvX_0, if_neg q]
      · rw [mvX_1, if_neg q]
      · rw [mvX_2]
      · rw [mvX_4, if_neg q]
      · rw [mvX_5, if_neg q]
      · rw [mvX_7, if_neg q]
  · exact h
theorem brF_ok {day : Nat} (hd : day ≤ 6) {X : Nat → Nat → Int} {m : Nat} {B : Nat → Int} (h : XOk T m B X) : ∀ j, XOk T m B (brF G day X j) := by
  intro j
  induction j with
  | zero => exact h
  | succ j ih => exact brL_ok hd ih j
theorem brN_ok {m : Nat} {B : Nat → Int} : ∀ (n day : Nat) (X : Nat → Nat → Int), day + n ≤ 7 → XOk T m B X → XOk T m B (brN G n day X) := by
  intro n
  induction n with
  | zero => exact fun _ _ _ h => h
  | succ n ih => exact fun day X hd h => ih (day + 1) _ (by omega) (brF_ok (by omega) h _)
end XO
