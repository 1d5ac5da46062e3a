/-! the class: a going whole: who is sorted -/
theorem soL_none {G : Nat → Nat → Int} {r town k : Nat} {Z : (Nat → Nat → Int) × (Nat → Int)} {j : Nat} (h : ¬ soC Z.1 r k j) : soL G r town k Z j = Z := by
  unfold soL
  exact if_neg fun c => h c.1
theorem soF_none {G : Nat → Nat → Int} {r town k m : Nat} {Z : (Nat → Nat → Int) × (Nat → Int)} (h : ∀ l, l < m → ¬ soC Z.1 r k l) : ∀ j, j ≤ m → soF G r town k Z j = Z := by
  intro j
  induction j with
  | zero => exact fun _ => rfl
  | succ j ih =>
    intro hj
    show soL G r town k (soF G r town k Z j) j = Z
    rw [ih (by omega)]
    exact soL_none (h j (by omega))
theorem soK_none {T : Nat → Nat → Nat → Nat} {G : Nat → Nat → Int} {r t m : Nat} (hG : G 7 0 = m) {Z : (Nat → Nat → Int) × (Nat → Int)} (h : ∀ l, l < m → ¬ (Z.1 0 l = 1 ∧ Z.1 1 l = r)) : ∀ k, soK T G r t Z k = Z := by
  intro k
  induction k with
  | zero => rfl
  | succ k ih =>
    show soF G r (tW T t k) k (soK T G r t Z k) (G 7 0).toNat = Z
    rw [ih]
    exact soF_none (m := m) (fun l hl c => h l hl ⟨c.1, c.2.1⟩) _ (by omega)
theorem sFst_none {P : Nat → Prop} : ∀ (j s : Nat), (∀ q, s ≤ q → q < s + j → ¬ P q) → sFst P j s = s + j := by
  intro j
  induction j with
  | zero => exact fun _ _ => rfl
  | succ j ih =>
    intro s h
    rw [sFst_s, if_neg (h s (Nat.le_refl _) (by omega)), ih (s + 1) fun q h1 h2 => h q (by omega) (by omega)]
    omega
theorem soL_tm {G : Nat → Nat → Int} {r town k j : Nat} {Z : (Nat → Nat → Int) × (Nat → Int)} (h : ∀ q, Z.2 q ≤ 0) : soL G r town k Z j = Z := by
  unfold soL
  refine if_neg fun c => ?_
  rw [sFst_none _ 0 fun q _ _ w => by have := w.1; have := h q; omega] at c
  have := c.2
  omega
theorem soF_tm {G : Nat → Nat → Int} {r town k : Nat} {Z : (Nat → Nat → Int) × (Nat → Int)} (h : ∀ q, Z.2 q ≤ 0) : ∀ j, soF G r town k Z j = Z := by
  intro j
  induction j with
  | zero => rfl
  | succ j ih =>
    show soL G r town k (soF G r town k Z j) j = Z
    rw [ih]
    exact soL_tm h
theorem soK_tm {T : Nat → Nat → Nat → Nat} {G : Nat → Nat → Int} {r t : Nat} {Z : (Nat → Nat → Int) × (Nat → Int)} (h : ∀ q, Z.2 q ≤ 0) : ∀ k, soK T G r t Z k = Z := by
  intro k
  induction k with
  | zero => rfl
  | succ k ih =>
    show soF G r (tW T t k) k (soK T G r t Z k) _ = Z
    rw [ih]
    exact soF_tm h _
theorem soK_stop {T : Nat → Nat → Nat → Nat} {G : Nat → Nat → Int} {t d m : Nat} (ht : t < 10) (hG : G 7 0 = m) {Z : (Nat → Nat → Int) × (Nat → Int)} {B : Nat → Int} (hX : XOk T m B Z.1) : ∀ n, soK T G (10 * d + t) t Z (tS T t + n) = soK T G (10 * d + t) t Z (tS T t) := by
  intro n
  induction n with
  | zero => rfl
  | succ n ih =>
    show soF G (10 * d + t) (tW T t (tS T t + n)) (tS T t + n) (soK T G (10 * d + t) t Z (tS T t + n)) (G 7 0).toNat = _
    rw [ih]
    have XO := soK_ok (G := G) (T := T) (r := 10 * d + t) (t := t) hX (tS T t)
    refine soF_none (m := m) (fun l hl c => ?_) _ (by omega)
    obtain ⟨t2, d2, w1, w2, w3, w4, w5, w6⟩ := (XO l hl).2.2.1 c.1
    have c1 := c.2.1
    have c2 := c.2.2.2
    have ht2 : t2 = t := by omega
    rw [ht2] at w5
    omega
/-- the sorters' times, as the class has them -/
def TMc (G : Nat → Nat → Int) (t s0 : Nat) (tm : Nat → Int) (h : ea_H) : Prop := (∀ q, q < s0 → G 4 q = t → hI h 22 q = tm q) ∧ ∀ q, ¬ (q < s0 ∧ G 4 q = t) → tm q = 0
theorem c_sortsOne {G : Nat → Nat → Int} {t s0 town : Nat} {tm : Nat → Int} (hS : G 7 1 = s0) (htown : town < 12) {x1 x2 : Int32} (e1 : x1.toInt = t) (e2 : x2.toInt = town) {h : ea_H} (g : GC G h) (tmc : TMc G t s0 tm h) :
    ∀ (j s : Nat) (x3 : Int32), s + j = s0 → x3.toInt = s → sat (qX3_sortsOne_2 x1 x2 x3 h) fun y => (sFst (sOk G tm town) j s < s0 ∧ y.1 = 1 ∧ fq [(22, 22)] [] h y.2 ∧ TMc G t s0 (fun q => if q = sFst (sOk G tm town) j s then tm q - 1 else tm q) y.2) ∨ (¬ sFst (sOk G tm town) j s < s0 ∧ y = (0, h)) := by
  obtain ⟨m2, s2, ⟨a1, a2, a3, a4, a5⟩, gb, gc, gd⟩ := g
  have hs2 : s2 = s0 := by omega
  subst hs2
  intro j
  induction j with
  | zero =>
    intro s x3 hs e3
    refine uqX3_sortsOne_2 ?_
    unfold BX3_sortsOne_2
    exact sat_pos (by rw [n_le, hI_eq, a5, e3]; omega) (sat_ret (Or.inr ⟨by show ¬ s < s2; omega, rfl⟩))
  | succ j ih =>
    intro s x3 hs e3
    have hs8 : s < 8 := by omega
    have g3 := vp80 e3 hs8
    have ic : x3.toNatClampNeg = s := by
      rw [n_idx, e3]
      rfl
    obtain ⟨⟨b1, b2, b3⟩, ⟨b4, b5, b6⟩, b7⟩ := gd s (by omega)
    have v19 : (ea_i h 19 s).toInt = G 4 s := b7
    have next : ¬ sOk G tm town s → sat (qX3_sortsOne_2 x1 x2 (x3 + 1) h) fun y => (sFst (sOk G tm town) (j + 1) s < s2 ∧ y.1 = 1 ∧ fq [(22, 22)] [] h y.2 ∧ TMc G t s2 (fun q => if q = sFst (sOk G tm town) (j + 1) s then tm q - 1 else tm q) y.2) ∨ (¬ sFst (sOk G tm town) (j + 1) s < s2 ∧ y = (0, h)) := by
      intro hn
      have e : sFst (sOk G tm town) (j + 1) s = sFst (sOk G tm town) j (s + 1) := by rw [sFst_s, if_neg hn]
      rw [e]
      exact ih (s + 1) (x3 + 1) (by omega) (n_inc e3 (by omega))
    refine uqX3_sortsOne_2 ?_
    unfold BX3_sortsOne_2
    rw [ic]
    refine sat_neg (by rw [n_le, hI_eq, a5, e3]; omega) (sat_gd g3 (sat_eti (fun c => ?_) fun c => ?_))
    · rw [n_eq, v19, e1] at c
      refine next fun z => ?_
      have := tmc.2 s fun w => c w.2
      have := z.1
      omega
    rw [n_eq, v19, e1] at c
    have tv : (ea_i h 22 s).toInt = tm s := tmc.1 s (by omega) c
    refine sat_gd g3 (sat_ite (fun c2 => ?_) fun c2 => ?_)
    · rw [n_le, tv, l_0] at c2
      exact next fun z => by have := z.1; omega
    rw [n_le, tv, l_0] at c2
    have kv : (ea_i h 21 s).toInt = ((G 6 s).toNat : Int) := by
      rw [hI_eq, b4]
      omega
    have kb := kn_bit kv e2 htown
    refine sat_gd g3 (sat_eti (fun c3 => ?_) fun c3 => ?_)
    · rw [n_eq, kb, l_1] at c3
      exact next fun z => by have := z.2; omega
    rw [n_eq, kb, l_1] at c3
    have hok : sOk G tm town s := ⟨by omega, by omega⟩
    have e : sFst (sOk G tm town) (j + 1) s = s := by rw [sFst_s, if_pos hok]
    rw [e]
    refine sat_gd g3 (sat_gd g3 (sat_let fun H6 q6 => sat_ret (Or.inl ⟨by omega, rfl, q6 ▸ fq_wi rfl, fun q hq hg => ?_, fun q hq => ?_⟩)))
    · show hI H6 22 q = if q = s then tm q - 1 else tm q
      rw [q6, hI_row]
      by_cases z : q = s
      · have := n_hi (ea_i h 22 s)
        rw [if_pos z, if_pos z, z, n_pred (by omega), tv]
      · rw [if_neg z, if_neg z]
        exact tmc.1 q hq hg
    · show (if q = s then tm q - 1 else tm q) = 0
      rw [if_neg (fun z => hq ⟨by omega, by rw [z]; exact c⟩)]
      exact tmc.2 q hq
theorem c_sitsIn {G : Nat → Nat → Int} {t s0 : Nat} (hS : G 7 1 = s0) {x1 : Int32} (e1 : x1.toInt = t) {h : ea_H} (g : GC G h) : ∃ v, qX3_sitsIn x1 h = some (v, h) ∧ (v = 0 → ∀ q, q < s0 → ¬ G 4 q = t) := by
  obtain ⟨m2, s2, ⟨a1, a2, a3, a4, a5⟩, gb, gc, gd⟩ := g
  have hs2 : s2 = s0 := by omega
  subst hs2
  have H : ∀ (j s : Nat) (x2 : Int32), s + j = s2 → x2.toInt = s → (∀ q, q < s → ¬ G 4 q = t) → sat (qX3_sitsIn_2 x1 x2 h) fun y => y.2 = h ∧ (y.1 = 0 → ∀ q, q < s2 → ¬ G 4 q = t) := by
    intro j
    induction j with
    | zero =>
      intro s x2 hs e2 hq
      refine uqX3_sitsIn_2 ?_
      unfold BX3_sitsIn_2
      exact sat_pos (by rw [n_le, hI_eq, a5, e2]; omega) (sat_ret ⟨rfl, fun _ q hq2 => hq q (by omega)⟩)
    | succ j ih =>
      intro s x2 hs e2 hq
      have ic : x2.toNatClampNeg = s := by
        rw [n_idx, e2]
        rfl
      have v19 : (ea_i h 19 s).toInt = G 4 s := (gd s (by omega)).2.2
      refine uqX3_sitsIn_2 ?_
      unfold BX3_sitsIn_2
      rw [ic]
      refine sat_neg (by rw [n_le, hI_eq, a5, e2]; omega) (sat_gd (vp80 e2 (by omega)) (sat_ite (fun c => sat_ret ⟨rfl, fun z => absurd z i1_ne_0⟩) fun c => ?_))
      rw [n_eq, v19, e1] at c
      refine ih (s + 1) (x2 + 1) (by omega) (n_inc e2 (by omega)) fun q hq2 => ?_
      by_cases z : q = s
      · rw [z]
        exact c
      · exact hq q (by omega)
  have H2 : sat (qX3_sitsIn x1 h) fun y => y.2 = h ∧ (y.1 = 0 → ∀ q, q < s2 → ¬ G 4 q = t) := by
    unfold qX3_sitsIn
    refine uqX3_sitsIn_0 ?_
    unfold BX3_sitsIn_0
    exact H s2 0 0 (by omega) rfl fun q hq => absurd hq (Nat.not_lt_zero _)
  obtain ⟨⟨v, h2⟩, q1, q2, q3⟩ := H2
  have q2 : h2 = h := q2
  subst q2
  exact ⟨v, q1, q3⟩
theorem c_begin3 {G : Nat → Nat → Int} {s0 : Nat} {mi : Int} (hS : G 7 1 = s0) (m0 : 0 ≤ mi) (m1 : mi ≤ 2400) {x1 : Int32} (e1 : x1.toInt = mi) {h : ea_H} (g : GC G h) : sat (qX3_begin x1 h) fun y => fq [(22, 22)] [] h y.2 ∧ ∀ q, q < s0 → hI y.2 22 q = G 5 q * mi := by
  have g0 := g
  obtain ⟨m2, s2, ⟨a1, a2, a3, a4, a5⟩, gb, gc, gd⟩ := g
  have hs2 : s2 = s0 := by omega
  subst hs2
  have H : ∀ (j s : Nat) (x2 : Int32) (h1 : ea_H), s + j = s2 → x2.toInt = s → fq [(22, 22)] [] h h1 → (∀ q, q < s → hI h1 22 q = G 5 q * mi) → sat (qX3_begin_2 x1 x2 h1) fun y => fq [(22, 22)] [] h y.2 ∧ ∀ q, q < s2 → hI y.2 22 q = G 5 q * mi := by
    intro j
    induction j with
    | zero =>
      intro s x2 h1 hs e2 f hq
      refine uqX3_begin_2 ?_
      unfold BX3_begin_2
      exact sat_pos (by rw [n_le, hI_eq, f.I 18 rfl 0 rfl, a5, e2]; omega) (sat_ret ⟨f, fun q hq2 => hq q (by omega)⟩)
    | succ j ih =>
      intro s x2 h1 hs e2 f hq
      have ic : x2.toNatClampNeg = s := by
        rw [n_idx, e2]
        rfl
      obtain ⟨⟨b1, b2, b3⟩, -⟩ := gd s (by omega)
      have v20 : (ea_i h1 20 s).toInt = G 5 s := (f.C 20 rfl rfl s).trans b1
      have mu : 0 ≤ G 5 s * mi ∧ G 5 s * mi ≤ 99 * 2400 := by
        have h1 : G 5 s * mi ≤ 99 * mi := Int.mul_le_mul_of_nonneg_right (by omega) m0
        have h2 := Int.mul_nonneg (show 0 ≤ G 5 s by omega) m0
        omega
      refine uqX3_begin_2 ?_
      unfold BX3_begin_2
      rw [ic]
      refine sat_neg (by rw [n_le, hI_eq, f.I 18 rfl 0 rfl, a5, e2]; omega) (sat_gd (vp80 e2 (by omega)) (sat_gd (vp80 e2 (by omega)) (sat_let fun H3 q3 => ?_)))
      refine ih (s + 1) (x2 + 1) H3 (by omega) (n_inc e2 (by omega)) (f.tr (q3 ▸ fq_wi rfl)) fun q hq2 => ?_
      rw [q3, hI_row]
      by_cases z : q = s
      · rw [if_pos z, n_mul, v20, e1, n_bm (by omega) (by omega), z]
      · rw [if_neg z]
        exact hq q (by omega)
  unfold qX3_begin
  refine uqX3_begin_0 ?_
  unfold BX3_begin_0
  exact H s2 0 0 h (by omega) rfl (fq_rfl _ _ _) fun q hq => absurd hq (Nat.not_lt_zero _)
theorem RC52.so {m l : Nat} {X : Nat → Nat → Int} {v : Int} {h h' : ea_H} (rc : RC52 m X h) (f : fq [(22, 22), (57, 57)] [] h h') (hv : v = 0 ∨ v = 1) (e : ∀ k, hI h' 57 k = if k = l then v else hI h 57 k) : RC52 m (upX X 4 l v) h' := by
  obtain ⟨a0, a2, a3, a4, a5, a6, a7⟩ := rc
  refine ⟨by rw [f.C 52 rfl rfl]; exact a0, fun k hk => ?_, fun r hr => ?_, fun a ha => ?_, fun r hr => ?_, ?_, fun k => ?_⟩
  · obtain ⟨w0, w1, w3, w4, w5⟩ := a2 k hk
    rw [f.C 53 rfl rfl, f.C 54 rfl rfl, f.C 55 rfl rfl, f.C 56 rfl rfl, f.C 59 rfl rfl, upX_ne (show (0 : Nat) ≠ 4 by decide), upX_ne (show (1 : Nat) ≠ 4 by decide), upX_ne (show (2 : Nat) ≠ 4 by decide), upX_ne (show (3 : Nat) ≠ 4 by decide), upX_row, upX_ne (show (5 : Nat) ≠ 4 by decide)]
    refine ⟨w0, w1, w3, fun z => ⟨(w4 z).1, ?_⟩, w5⟩
    rw [e, (w4 z).2]
  · rw [f.C 58 rfl rfl, a3 r hr, upX_ne (by decide)]
  · rw [f.C 60 rfl rfl, a4 a ha]
    exact cnt_eq fun k _ => by rw [upX_ne (show (0 : Nat) ≠ 4 by decide), upX_ne (show (1 : Nat) ≠ 4 by decide)]
  · rw [f.C 61 rfl rfl, a5 r hr]
    exact cnt_eq fun k _ => by rw [upX_ne (show (0 : Nat) ≠ 4 by decide), upX_ne (show (1 : Nat) ≠ 4 by decide)]
  · rw [f.C 52 rfl rfl, a6]
    exact cnt_eq fun k _ => by rw [upX_ne (show (0 : Nat) ≠ 4 by decide)]
  · rw [e]
    split
    · exact hv
    · exact a7 k
theorem RC52.ext4 {m : Nat} {X Y : Nat → Nat → Int} {h : ea_H} (rc : RC52 m X h) (e : ∀ f, f ≠ 4 → ∀ k, Y f k = X f k) (e4 : ∀ k, k < m → X 0 k = 1 → Y 4 k = X 4 k) : RC52 m Y h := by
  obtain ⟨a0, a2, a3, a4, a5, a6, a7⟩ := rc
  refine ⟨a0, fun k hk => ?_, fun r hr => ?_, fun a ha => ?_, fun r hr => ?_, ?_, a7⟩
  · obtain ⟨w0, w1, w3, w4, w5⟩ := a2 k hk
    rw [e 0 (by decide), e 1 (by decide), e 2 (by decide), e 3 (by decide), e 5 (by decide)]
    exact ⟨w0, w1, w3, fun z => by rw [e4 k hk z]; exact w4 z, w5⟩
  · rw [e 6 (by decide)]
    exact a3 r hr
  · rw [a4 a ha]
    exact cnt_eq fun k _ => by rw [e 0 (by decide), e 1 (by decide)]
  · rw [a5 r hr]
    exact cnt_eq fun k _ => by rw [e 0 (by decide), e 1 (by decide)]
  · rw [a6]
    exact cnt_eq fun k _ => by rw [e 0 (by decide)]
theorem c_sort9152 {T : Nat → Nat → Nat → Nat} {G : Nat → Nat → Int} {t d k s0 m : Nat} (ok : tOk T) (ht : t < 10) (hd : d < 7) (hkS : k < tS T t) (hG : G 7 0 = m) (hS : G 7 1 = s0) {Z : (Nat → Nat → Int) × (Nat → Int)} {B : Nat → Int} (hX : XOk T m B Z.1) {x1 x2 x4 x5 : Int32} (e1 : x1.toInt = ((10 * d + t : Nat) : Int)) (e2 : x2.toInt = t) (e4 : x4.toInt = k) (e5 : x5.toInt = tW T t k) {h0 : ea_H} {P : Unit × ea_H → Prop}
    (K : ∀ h, fq [(22, 22), (57, 57)] [] h0 h → GC G h → RC52 m (soF G (10 * d + t) (tW T t k) k Z m).1 h → TMc G t s0 (soF G (10 * d + t) (tW T t k) k Z m).2 h → sat (qX1_sort_at52_57 x1 x2 (x4 + 1) h) P) :
    ∀ (i j : Nat) (h : ea_H) (x6 : Int32), j + i = m → x6.toInt = j → GC G h → RC52 m (soF G (10 * d + t) (tW T t k) k Z j).1 h → TMc G t s0 (soF G (10 * d + t) (tW T t k) k Z j).2 h → fq [(22, 22), (57, 57)] [] h0 h → sat (qX1_sort_at52_91 x1 x2 x4 x5 x6 h) P := by
  intro i
  induction i with
  | zero =>
    intro j h x6 hi e6 g r tm f
    have hjm : j = m := by omega
    subst hjm
    refine uqX1_sort_at52_91 ?_
    unfold BX1_sort_at52_91
    exact sat_pos (by rw [n_le, hI_eq, r.1.1, e6]; omega) (K h f g r tm)
  | succ i ih =>
    intro j h x6 hi e6 g r tm f
    have hj : j < m := by omega
    have hm := r.1.2
    have hj' : j < 120 := by omega
    have gj := vp80 e6 hj'
    have ic : x6.toNatClampNeg = j := by
      rw [n_idx, e6]
      rfl
    have e61 := n_inc e6 (by omega)
    have hs : soF G (10 * d + t) (tW T t k) k Z (j + 1) = soL G (10 * d + t) (tW T t k) k (soF G (10 * d + t) (tW T t k) k Z j) j := rfl
    generalize soF G (10 * d + t) (tW T t k) k Z j = Y at *
    have hS2 : (G 7 1).toNat = s0 := by omega
    have skip : ¬ soC Y.1 (10 * d + t) k j → sat (qX1_sort_at52_91 x1 x2 x4 x5 (x6 + 1) h) P := by
      intro hc
      have e : soF G (10 * d + t) (tW T t k) k Z (j + 1) = Y := by
        rw [hs]
        exact soL_none hc
      refine ih (j + 1) h (x6 + 1) (by omega) e61 g ?_ ?_ f
      · rw [e]
        exact r
      · rw [e]
        exact tm
    obtain ⟨v, p, q⟩ := c_isAboard52 e6 e1 hj r
    refine uqX1_sort_at52_91 ?_
    unfold BX1_sort_at52_91
    rw [ic]
    refine sat_neg (by rw [n_le, hI_eq, r.1.1, e6]; omega) (sat_call p ?_)
    rcases q with ⟨q1, q2, q3⟩ | ⟨q1, q2⟩
    case inr => exact sat_pos q1 (skip fun z => q2 ⟨z.1, z.2.1⟩)
    have v5 : (ea_i h 57 j).toInt = Y.1 4 j := ((r.2.1 j hj).2.2.2.1 q2).2
    have v3 : (ea_i h 55 j).toInt = Y.1 2 j := ((r.2.1 j hj).2.2.2.1 q2).1
    refine sat_neg (by rw [q1]; exact i1_ne_0) (sat_gd gj (sat_eti (fun c => ?_) fun c => ?_))
    · rw [n_eq, v5, l_0] at c
      exact skip fun z => c z.2.2.1
    rw [n_eq, v5, l_0] at c
    refine sat_gd gj (sat_eti (fun c2 => ?_) fun c2 => ?_)
    · rw [n_eq, v3, e4] at c2
      exact skip fun z => c2 z.2.2.2
    rw [n_eq, v3, e4] at c2
    have hc : soC Y.1 (10 * d + t) k j := ⟨q2, q3, c, c2⟩
    have htown := (ok.2.2.2.1 t k ht hkS).1
    refine sat_bind (?_ : sat (qX3_sortsOne x2 x5 h) fun y => (sFst (sOk G Y.2 (tW T t k)) s0 0 < s0 ∧ y.1 = 1 ∧ fq [(22, 22)] [] h y.2 ∧ TMc G t s0 (fun q => if q = sFst (sOk G Y.2 (tW T t k)) s0 0 then Y.2 q - 1 else Y.2 q) y.2) ∨ (¬ sFst (sOk G Y.2 (tW T t k)) s0 0 < s0 ∧ y = (0, h))) fun w hw => ?_
    · unfold qX3_sortsOne
      refine uqX3_sortsOne_0 ?_
      unfold BX3_sortsOne_0
      exact c_sortsOne hS htown e2 e5 g tm s0 0 0 (by omega) rfl
    rcases hw with ⟨w1, w2, w3, w4⟩ | ⟨w1, rfl⟩
    · have e : soF G (10 * d + t) (tW T t k) k Z (j + 1) = (upX Y.1 4 j 1, fun q => if q = sFst (sOk G Y.2 (tW T t k)) s0 0 then Y.2 q - 1 else Y.2 q) := by
        rw [hs]
        unfold soL
        rw [hS2, if_pos ⟨hc, w1⟩]
      refine sat_gd gj (sat_gd (Or.inr w2) (sat_let fun H16 q16 => ?_))
      rw [w2] at q16
      have f16 : fq [(22, 22), (57, 57)] [] h H16 := (w3.up rfl rfl).tr (q16 ▸ fq_wi rfl)
      refine ih (j + 1) H16 (x6 + 1) (by omega) e61 (g.kq (f16.kq rfl)) ?_ ?_ (f.tr f16)
      · rw [e]
        exact RC52.so r f16 (Or.inr rfl) fun k => by
          rw [q16, hI_row, w3.C 57 rfl rfl]
          rfl
      · rw [e]
        refine ⟨fun q hq hg => ?_, w4.2⟩
        rw [q16, hI_ne (by decide)]
        exact w4.1 q hq hg
    · have e : soF G (10 * d + t) (tW T t k) k Z (j + 1) = Y := by
        rw [hs]
        unfold soL
        rw [hS2]
        exact if_neg fun z => w1 z.2
      refine sat_gd gj (sat_gd (Or.inl rfl) (sat_let fun H16 q16 => ?_))
      have q16 : H16 = ea_wi h 57 j 0 := q16
      have f16 : fq [(22, 22), (57, 57)] [] h H16 := q16 ▸ fq_wi rfl
      refine ih (j + 1) H16 (x6 + 1) (by omega) e61 (g.kq (f16.kq rfl)) ?_ ?_ (f.tr f16)
      · rw [e]
        refine RC52.ext4 (RC52.so (l := j) (v := 0) r f16 (Or.inl rfl) fun k => by rw [q16, hI_row]; rfl) (fun f hf k => (upX_ne hf).symm) fun k _ _ => ?_
        rw [upX_row]
        split
        · rename_i z
          rw [z]
          exact c
        · rfl
      · rw [e]
        refine ⟨fun q hq hg => ?_, tm.2⟩
        rw [q16, hI_ne (by decide)]
        exact tm.1 q hq hg
theorem c_sort5752 {T : Nat → Nat → Nat → Nat} {G : Nat → Nat → Int} {t d s0 m : Nat} (ok : tOk T) (ht : t < 10) (hd : d < 7) (hG : G 7 0 = m) (hS : G 7 1 = s0) {Z : (Nat → Nat → Int) × (Nat → Int)} {B : Nat → Int} (hX : XOk T m B Z.1) {x1 x2 : Int32} (e1 : x1.toInt = ((10 * d + t : Nat) : Int)) (e2 : x2.toInt = t) {h0 : ea_H} :
    ∀ (i k : Nat) (h : ea_H) (x4 : Int32), k + i = tS T t → x4.toInt = k → CTab h T → GC G h → RC52 m (soK T G (10 * d + t) t Z k).1 h → TMc G t s0 (soK T G (10 * d + t) t Z k).2 h → fq [(22, 22), (57, 57)] [] h0 h → sat (qX1_sort_at52_57 x1 x2 x4 h) fun y => fq [(22, 22), (57, 57)] [] h0 y.2 ∧ RC52 m (soK T G (10 * d + t) t Z (tS T t)).1 y.2 := by
  have hS8 := ok.2.1 t ht
  have ic2 : x2.toNatClampNeg = t := by
    rw [n_idx, e2]
    rfl
  intro i
  induction i with
  | zero =>
    intro k h x4 hi e4 hT g r tm f
    have hk : k = tS T t := by omega
    rw [hk] at r
    refine uqX1_sort_at52_57 ?_
    unfold BX1_sort_at52_57
    rw [ic2]
    have vS : hI h 6 t = tS T t := hT.2.1 t ht
    exact sat_gd (vp80 e2 ht) (sat_pos (by rw [n_le, hI_eq, vS, e4]; omega) (sat_ret ⟨f, r⟩))
  | succ i ih =>
    intro k h x4 hi e4 hT g r tm f
    have vS : hI h 6 t = tS T t := hT.2.1 t ht
    have i0 : ((8 : Int32) * x2 + x4).toInt = 8 * (t : Int) + k := by simp (disch := omega) only [n_add, n_sub, n_mul, n_neg, n_bm, n_idx, n_if, hI_eq, l_m1000, l_m100, l_m60, l_m19, l_m18, l_m17, l_m16, l_m15, l_m14, l_m13, l_m12, l_m11, l_m10, l_m8, l_m1, l_0, l_1, l_2, l_3, l_4, l_5, l_6, l_7, l_8, l_9, l_10, l_11, l_12, l_13, l_14, l_15, l_16, l_17, l_18, l_19, l_20, l_21, l_24, l_25, l_32, l_40, l_41, l_42, l_43, l_45, l_47, l_48, l_57, l_59, l_60, l_61, l_62, l_63, l_64, l_65, l_70, l_80, l_90, l_97, l_99, l_100, l_120, l_122, l_127, l_144, l_150, l_201, l_202, l_203, l_204, l_205, l_206, l_207, l_255, l_300, l_364, l_480, l_560, l_600, l_601, l_620, l_840, l_900, l_980, l_999, l_1000, l_1023, l_1024, l_1220, l_1439, l_1440, l_2240, l_2400, l_3000, l_3600, l_4095, l_4096, l_7320, l_9999, l_10079, l_10080, l_12000, l_99999, l_120000, l_1000000, l_2147483647, e2, e4]
    have i1 : ((8 : Int32) * x2 + x4).toInt = ((8 * t + k : Nat) : Int) := by
      rw [i0]
      omega
    have ics : ((8 : Int32) * x2 + x4).toNatClampNeg = 8 * t + k := by
      rw [n_idx, i1]
      rfl
    have vW : (ea_i h 7 (8 * t + k)).toInt = tW T t k := (hT.2.2.1 t k ht (by omega)).1
    have hm2 : (G 7 0).toNat = m := by omega
    have hs : soK T G (10 * d + t) t Z (k + 1) = soF G (10 * d + t) (tW T t k) k (soK T G (10 * d + t) t Z k) m := by
      show soF G (10 * d + t) (tW T t k) k (soK T G (10 * d + t) t Z k) (G 7 0).toNat = _
      rw [hm2]
    have XO := soK_ok (G := G) (T := T) (r := 10 * d + t) (t := t) hX k
    refine uqX1_sort_at52_57 ?_
    unfold BX1_sort_at52_57
    rw [ic2, ics]
    refine sat_gd (vp80 e2 ht) (sat_neg (by rw [n_le, hI_eq, vS, e4]; omega) (sat_gd (vp80 i1 (by omega)) (sat_sub ?_)))
    refine c_sort9152 (h0 := h) ok ht hd (by omega) hG hS XO e1 e2 e4 vW (fun h1 f1 g1 r1 tm1 => ?_) m 0 h 0 (by omega) rfl g r tm (fq_rfl _ _ _)
    refine ih (k + 1) h1 (x4 + 1) (by omega) (n_inc e4 (by omega)) ?_ g1 ?_ ?_ (f.tr f1)
    · obtain ⟨c1, c2, c3, c4⟩ := hT
      refine ⟨(f1.I 5 rfl 0 rfl).trans c1, fun t ht => (f1.C 6 rfl rfl _).trans (c2 t ht), fun t i ht hi => ?_, fun t d ht hd => (f1.C 11 rfl rfl _).trans (c4 t d ht hd)⟩
      rw [f1.C 7 rfl rfl, f1.C 8 rfl rfl, f1.C 9 rfl rfl]
      exact c3 t i ht hi
    · rw [hs]
      exact r1
    · rw [hs]
      exact tm1
theorem RC62.so {m l : Nat} {X : Nat → Nat → Int} {v : Int} {h h' : ea_H} (rc : RC62 m X h) (f : fq [(22, 22), (67, 67)] [] h h') (hv : v = 0 ∨ v = 1) (e : ∀ k, hI h' 67 k = if k = l then v else hI h 67 k) : RC62 m (upX X 4 l v) h' := by
  obtain ⟨a0, a2, a3, a4, a5, a6, a7⟩ := rc
  refine ⟨by rw [f.C 62 rfl rfl]; exact a0, fun k hk => ?_, fun r hr => ?_, fun a ha => ?_, fun r hr => ?_, ?_, fun k => ?_⟩
  · obtain ⟨w0, w1, w3, w4, w5⟩ := a2 k hk
    rw [f.C 63 rfl rfl, f.C 64 rfl rfl, f.C 65 rfl rfl, f.C 66 rfl rfl, f.C 69 rfl rfl, upX_ne (show (0 : Nat) ≠ 4 by decide), upX_ne (show (1 : Nat) ≠ 4 by decide), upX_ne (show (2 : Nat) ≠ 4 by decide), upX_ne (show (3 : Nat) ≠ 4 by decide), upX_row, upX_ne (show (5 : Nat) ≠ 4 by decide)]
    refine ⟨w0, w1, w3, fun z => ⟨(w4 z).1, ?_⟩, w5⟩
    rw [e, (w4 z).2]
  · rw [f.C 68 rfl rfl, a3 r hr, upX_ne (by decide)]
  · rw [f.C 70 rfl rfl, a4 a ha]
    exact cnt_eq fun k _ => by rw [upX_ne (show (0 : Nat) ≠ 4 by decide), upX_ne (show (1 : Nat) ≠ 4 by decide)]
  · rw [f.C 71 rfl rfl, a5 r hr]
    exact cnt_eq fun k _ => by rw [upX_ne (show (0 : Nat) ≠ 4 by decide), upX_ne (show (1 : Nat) ≠ 4 by decide)]
  · rw [f.C 62 rfl rfl, a6]
    exact cnt_eq fun k _ => by rw [upX_ne (show (0 : Nat) ≠ 4 by decide)]
  · rw [e]
    split
    · exact hv
    · exact a7 k
theorem RC62.ext4 {m : Nat} {X Y : Nat → Nat → Int} {h : ea_H} (rc : RC62 m X h) (e : ∀ f, f ≠ 4 → ∀ k, Y f k = X f k) (e4 : ∀ k, k < m → X 0 k = 1 → Y 4 k = X 4 k) : RC62 m Y h := by
  obtain ⟨a0, a2, a3, a4, a5, a6, a7⟩ := rc
  refine ⟨a0, fun k hk => ?_, fun r hr => ?_, fun a ha => ?_, fun r hr => ?_, ?_, a7⟩
  · obtain ⟨w0, w1, w3, w4, w5⟩ := a2 k hk
    rw [e 0 (by decide), e 1 (by decide), e 2 (by decide), e 3 (by decide), e 5 (by decide)]
    exact ⟨w0, w1, w3, fun z => by rw [e4 k hk z]; exact w4 z, w5⟩
  · rw [e 6 (by decide)]
    exact a3 r hr
  · rw [a4 a ha]
    exact cnt_eq fun k _ => by rw [e 0 (by decide), e 1 (by decide)]
  · rw [a5 r hr]
    exact cnt_eq fun k _ => by rw [e 0 (by decide), e 1 (by decide)]
  · rw [a6]
    exact cnt_eq fun k _ => by rw [e 0 (by decide)]
theorem c_sort9162 {T : Nat → Nat → Nat → Nat} {G : Nat → Nat → Int} {t d k s0 m : Nat} (ok : tOk T) (ht : t < 10) (hd : d < 7) (hkS : k < tS T t) (hG : G 7 0 = m) (hS : G 7 1 = s0) {Z : (Nat → Nat → Int) × (Nat → Int)} {B : Nat → Int} (hX : XOk T m B Z.1) {x1 x2 x4 x5 : Int32} (e1 : x1.toInt = ((10 * d + t : Nat) : Int)) (e2 : x2.toInt = t) (e4 : x4.toInt = k) (e5 : x5.toInt = tW T t k) {h0 : ea_H} {P : Unit × ea_H → Prop}
    (K : ∀ h, fq [(22, 22), (67, 67)] [] h0 h → GC G h → RC62 m (soF G (10 * d + t) (tW T t k) k Z m).1 h → TMc G t s0 (soF G (10 * d + t) (tW T t k) k Z m).2 h → sat (qX1_sort_at62_57 x1 x2 (x4 + 1) h) P) :
    ∀ (i j : Nat) (h : ea_H) (x6 : Int32), j + i = m → x6.toInt = j → GC G h → RC62 m (soF G (10 * d + t) (tW T t k) k Z j).1 h → TMc G t s0 (soF G (10 * d + t) (tW T t k) k Z j).2 h → fq [(22, 22), (67, 67)] [] h0 h → sat (qX1_sort_at62_91 x1 x2 x4 x5 x6 h) P := by
  intro i
  induction i with
  | zero =>
    intro j h x6 hi e6 g r tm f
    have hjm : j = m := by omega
    subst hjm
    refine uqX1_sort_at62_91 ?_
    unfold BX1_sort_at62_91
    exact sat_pos (by rw [n_le, hI_eq, r.1.1, e6]; omega) (K h f g r tm)
  | succ i ih =>
    intro j h x6 hi e6 g r tm f
    have hj : j < m := by omega
    have hm := r.1.2
    have hj' : j < 120 := by omega
    have gj := vp80 e6 hj'
    have ic : x6.toNatClampNeg = j := by
      rw [n_idx, e6]
      rfl
    have e61 := n_inc e6 (by omega)
    have hs : soF G (10 * d + t) (tW T t k) k Z (j + 1) = soL G (10 * d + t) (tW T t k) k (soF G (10 * d + t) (tW T t k) k Z j) j := rfl
    generalize soF G (10 * d + t) (tW T t k) k Z j = Y at *
    have hS2 : (G 7 1).toNat = s0 := by omega
    have skip : ¬ soC Y.1 (10 * d + t) k j → sat (qX1_sort_at62_91 x1 x2 x4 x5 (x6 + 1) h) P := by
      intro hc
      have e : soF G (10 * d + t) (tW T t k) k Z (j + 1) = Y := by
        rw [hs]
        exact soL_none hc
      refine ih (j + 1) h (x6 + 1) (by omega) e61 g ?_ ?_ f
      · rw [e]
        exact r
      · rw [e]
        exact tm
    obtain ⟨v, p, q⟩ := c_isAboard62 e6 e1 hj r
    refine uqX1_sort_at62_91 ?_
    unfold BX1_sort_at62_91
    rw [ic]
    refine sat_neg (by rw [n_le, hI_eq, r.1.1, e6]; omega) (sat_call p ?_)
    rcases q with ⟨q1, q2, q3⟩ | ⟨q1, q2⟩
    case inr => exact sat_pos q1 (skip fun z => q2 ⟨z.1, z.2.1⟩)
    have v5 : (ea_i h 67 j).toInt = Y.1 4 j := ((r.2.1 j hj).2.2.2.1 q2).2
    have v3 : (ea_i h 65 j).toInt = Y.1 2 j := ((r.2.1 j hj).2.2.2.1 q2).1
    refine sat_neg (by rw [q1]; exact i1_ne_0) (sat_gd gj (sat_eti (fun c => ?_) fun c => ?_))
    · rw [n_eq, v5, l_0] at c
      exact skip fun z => c z.2.2.1
    rw [n_eq, v5, l_0] at c
    refine sat_gd gj (sat_eti (fun c2 => ?_) fun c2 => ?_)
    · rw [n_eq, v3, e4] at c2
      exact skip fun z => c2 z.2.2.2
    rw [n_eq, v3, e4] at c2
    have hc : soC Y.1 (10 * d + t) k j := ⟨q2, q3, c, c2⟩
    have htown := (ok.2.2.2.1 t k ht hkS).1
    refine sat_bind (?_ : sat (qX3_sortsOne x2 x5 h) fun y => (sFst (sOk G Y.2 (tW T t k)) s0 0 < s0 ∧ y.1 = 1 ∧ fq [(22, 22)] [] h y.2 ∧ TMc G t s0 (fun q => if q = sFst (sOk G Y.2 (tW T t k)) s0 0 then Y.2 q - 1 else Y.2 q) y.2) ∨ (¬ sFst (sOk G Y.2 (tW T t k)) s0 0 < s0 ∧ y = (0, h))) fun w hw => ?_
    · unfold qX3_sortsOne
      refine uqX3_sortsOne_0 ?_
      unfold BX3_sortsOne_0
      exact c_sortsOne hS htown e2 e5 g tm s0 0 0 (by omega) rfl
    rcases hw with ⟨w1, w2, w3, w4⟩ | ⟨w1, rfl⟩
    · have e : soF G (10 * d + t) (tW T t k) k Z (j + 1) = (upX Y.1 4 j 1, fun q => if q = sFst (sOk G Y.2 (tW T t k)) s0 0 then Y.2 q - 1 else Y.2 q) := by
        rw [hs]
        unfold soL
        rw [hS2, if_pos ⟨hc, w1⟩]
      refine sat_gd gj (sat_gd (Or.inr w2) (sat_let fun H16 q16 => ?_))
      rw [w2] at q16
      have f16 : fq [(22, 22), (67, 67)] [] h H16 := (w3.up rfl rfl).tr (q16 ▸ fq_wi rfl)
      refine ih (j + 1) H16 (x6 + 1) (by omega) e61 (g.kq (f16.kq rfl)) ?_ ?_ (f.tr f16)
      · rw [e]
        exact RC62.so r f16 (Or.inr rfl) fun k => by
          rw [q16, hI_row, w3.C 67 rfl rfl]
          rfl
      · rw [e]
        refine ⟨fun q hq hg => ?_, w4.2⟩
        rw [q16, hI_ne (by decide)]
        exact w4.1 q hq hg
    · have e : soF G (10 * d + t) (tW T t k) k Z (j + 1) = Y := by
        rw [hs]
        unfold soL
        rw [hS2]
        exact if_neg fun z => w1 z.2
      refine sat_gd gj (sat_gd (Or.inl rfl) (sat_let fun H16 q16 => ?_))
      have q16 : H16 = ea_wi h 67 j 0 := q16
      have f16 : fq [(22, 22), (67, 67)] [] h H16 := q16 ▸ fq_wi rfl
      refine ih (j + 1) H16 (x6 + 1) (by omega) e61 (g.kq (f16.kq rfl)) ?_ ?_ (f.tr f16)
      · rw [e]
        refine RC62.ext4 (RC62.so (l := j) (v := 0) r f16 (Or.inl rfl) fun k => by rw [q16, hI_row]; rfl) (fun f hf k => (upX_ne hf).symm) fun k _ _ => ?_
        rw [upX_row]
        split
        · rename_i z
          rw [z]
          exact c
        · rfl
      · rw [e]
        refine ⟨fun q hq hg => ?_, tm.2⟩
        rw [q16, hI_ne (by decide)]
        exact tm.1 q hq hg
theorem c_sort5762 {T : Nat → Nat → Nat → Nat} {G : Nat → Nat → Int} {t d s0 m : Nat} (ok : tOk T) (ht : t < 10) (hd : d < 7) (hG : G 7 0 = m) (hS : G 7 1 = s0) {Z : (Nat → Nat → Int) × (Nat → Int)} {B : Nat → Int} (hX : XOk T m B Z.1) {x1 x2 : Int32} (e1 : x1.toInt = ((10 * d + t : Nat) : Int)) (e2 : x2.toInt = t) {h0 : ea_H} :
    ∀ (i k : Nat) (h : ea_H) (x4 : Int32), k + i = tS T t → x4.toInt = k → CTab h T → GC G h → RC62 m (soK T G (10 * d + t) t Z k).1 h → TMc G t s0 (soK T G (10 * d + t) t Z k).2 h → fq [(22, 22), (67, 67)] [] h0 h → sat (qX1_sort_at62_57 x1 x2 x4 h) fun y => fq [(22, 22), (67, 67)] [] h0 y.2 ∧ RC62 m (soK T G (10 * d + t) t Z (tS T t)).1 y.2 := by
  have hS8 := ok.2.1 t ht
  have ic2 : x2.toNatClampNeg = t := by
    rw [n_idx, e2]
    rfl
  intro i
  induction i with
  | zero =>
    intro k h x4 hi e4 hT g r tm f
    have hk : k = tS T t := by omega
    rw [hk] at r
    refine uqX1_sort_at62_57 ?_
    unfold BX1_sort_at62_57
    rw [ic2]
    have vS : hI h 6 t = tS T t := hT.2.1 t ht
    exact sat_gd (vp80 e2 ht) (sat_pos (by rw [n_le, hI_eq, vS, e4]; omega) (sat_ret ⟨f, r⟩))
  | succ i ih =>
    intro k h x4 hi e4 hT g r tm f
    have vS : hI h 6 t = tS T t := hT.2.1 t ht
    have i0 : ((8 : Int32) * x2 + x4).toInt = 8 * (t : Int) + k := by simp (disch := omega) only [n_add, n_sub, n_mul, n_neg, n_bm, n_idx, n_if, hI_eq, l_m1000, l_m100, l_m60, l_m19, l_m18, l_m17, l_m16, l_m15, l_m14, l_m13, l_m12, l_m11, l_m10, l_m8, l_m1, l_0, l_1, l_2, l_3, l_4, l_5, l_6, l_7, l_8, l_9, l_10, l_11, l_12, l_13, l_14, l_15, l_16, l_17, l_18, l_19, l_20, l_21, l_24, l_25, l_32, l_40, l_41, l_42, l_43, l_45, l_47, l_48, l_57, l_59, l_60, l_61, l_62, l_63, l_64, l_65, l_70, l_80, l_90, l_97, l_99, l_100, l_120, l_122, l_127, l_144, l_150, l_201, l_202, l_203, l_204, l_205, l_206, l_207, l_255, l_300, l_364, l_480, l_560, l_600, l_601, l_620, l_840, l_900, l_980, l_999, l_1000, l_1023, l_1024, l_1220, l_1439, l_1440, l_2240, l_2400, l_3000, l_3600, l_4095, l_4096, l_7320, l_9999, l_10079, l_10080, l_12000, l_99999, l_120000, l_1000000, l_2147483647, e2, e4]
    have i1 : ((8 : Int32) * x2 + x4).toInt = ((8 * t + k : Nat) : Int) := by
      rw [i0]
      omega
    have ics : ((8 : Int32) * x2 + x4).toNatClampNeg = 8 * t + k := by
      rw [n_idx, i1]
      rfl
    have vW : (ea_i h 7 (8 * t + k)).toInt = tW T t k := (hT.2.2.1 t k ht (by omega)).1
    have hm2 : (G 7 0).toNat = m := by omega
    have hs : soK T G (10 * d + t) t Z (k + 1) = soF G (10 * d + t) (tW T t k) k (soK T G (10 * d + t) t Z k) m := by
      show soF G (10 * d + t) (tW T t k) k (soK T G (10 * d + t) t Z k) (G 7 0).toNat = _
      rw [hm2]
    have XO := soK_ok (G := G) (T := T) (r := 10 * d + t) (t := t) hX k
    refine uqX1_sort_at62_57 ?_
    unfold BX1_sort_at62_57
    rw [ic2, ics]
    refine sat_gd (vp80 e2 ht) (sat_neg (by rw [n_le, hI_eq, vS, e4]; omega) (sat_gd (vp80 i1 (by omega)) (sat_sub ?_)))
    refine c_sort9162 (h0 := h) ok ht hd (by omega) hG hS XO e1 e2 e4 vW (fun h1 f1 g1 r1 tm1 => ?_) m 0 h 0 (by omega) rfl g r tm (fq_rfl _ _ _)
    refine ih (k + 1) h1 (x4 + 1) (by omega) (n_inc e4 (by omega)) ?_ g1 ?_ ?_ (f.tr f1)
    · obtain ⟨c1, c2, c3, c4⟩ := hT
      refine ⟨(f1.I 5 rfl 0 rfl).trans c1, fun t ht => (f1.C 6 rfl rfl _).trans (c2 t ht), fun t i ht hi => ?_, fun t d ht hd => (f1.C 11 rfl rfl _).trans (c4 t d ht hd)⟩
      rw [f1.C 7 rfl rfl, f1.C 8 rfl rfl, f1.C 9 rfl rfl]
      exact c3 t i ht hi
    · rw [hs]
      exact r1
    · rw [hs]
      exact tm1
