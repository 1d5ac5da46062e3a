/-! the reference: a going, who is sorted -/
theorem kn_bit {x y : Int32} {K town : Nat} (hx : x.toInt = K) (hy : y.toInt = town) (ht : town < 12) : ((x >>> (y &&& 31)) &&& (1 : Int32)).toInt = ((K / 2 ^ town % 2 : Nat) : Int) := by
  have h1 := s_shr (x := x) hy (show town < 32 by omega)
  have hc : town = 0 ∨ town = 1 ∨ town = 2 ∨ town = 3 ∨ town = 4 ∨ town = 5 ∨ town = 6 ∨ town = 7 ∨ town = 8 ∨ town = 9 ∨ town = 10 ∨ town = 11 := by omega
  have h2 : 0 ≤ (x >>> (y &&& 31)).toInt := by
    rw [h1, hx]
    rcases hc with rfl | rfl | rfl | rfl | rfl | rfl | rfl | rfl | rfl | rfl | rfl | rfl <;> omega
  rw [s_and_1 h2, h1, hx]
  rcases hc with rfl | rfl | rfl | rfl | rfl | rfl | rfl | rfl | rfl | rfl | rfl | rfl <;> omega
section SO
variable {T : Nat → Nat → Nat → Nat} {L : List Nat} {G : Nat → Nat → Int} {n m e : Nat} {D : Nat → Int}
theorem soL_f {r town k : Nat} {Z : (Nat → Nat → Int) × (Nat → Int)} (j : Nat) {f : Nat} (hf : f ≠ 4) (q : Nat) : (soL G r town k Z j).1 f q = Z.1 f q := by
  unfold soL
  split
  · exact upX_ne hf
  · rfl
theorem soF_f {r town k : Nat} {Z : (Nat → Nat → Int) × (Nat → Int)} {f : Nat} (hf : f ≠ 4) (q : Nat) : ∀ j, (soF G r town k Z j).1 f q = Z.1 f q := by
  intro j
  induction j with
  | zero => rfl
  | succ j ih => exact (soL_f j hf q).trans ih
theorem soK_f {r t : Nat} {Z : (Nat → Nat → Int) × (Nat → Int)} {f : Nat} (hf : f ≠ 4) (q : Nat) : ∀ k, (soK T G r t Z k).1 f q = Z.1 f q := by
  intro k
  induction k with
  | zero => rfl
  | succ k ih => exact (soF_f hf q _).trans ih
theorem soL_t {r town k : Nat} {Z : (Nat → Nat → Int) × (Nat → Int)} (j : Nat) (h : ∀ q, 0 ≤ Z.2 q) : ∀ q, 0 ≤ (soL G r town k Z j).2 q := by
  intro q
  unfold soL
  by_cases c : soC Z.1 r k j ∧ sFst (sOk G Z.2 town) (G 7 1).toNat 0 < (G 7 1).toNat
  · rw [if_pos c]
    dsimp only
    have hs : ∀ (P : Nat → Prop) (j s : Nat), sFst P j s < s + j → P (sFst P j s) := by
      intro P j
      induction j with
      | zero => exact fun s hs => absurd hs (by show ¬ s < s + 0; omega)
      | succ j ih =>
        intro s hs
        unfold sFst at hs ⊢
        by_cases w : P s
        · rw [if_pos w]
          exact w
        · rw [if_neg w] at hs ⊢
          exact ih (s + 1) (by omega)
    have := hs (sOk G Z.2 town) (G 7 1).toNat 0 (by omega)
    by_cases w : q = sFst (sOk G Z.2 town) (G 7 1).toNat 0
    · rw [if_pos w, w]
      have := this.1
      omega
    · rw [if_neg w]
      exact h q
  · rw [if_neg c]
    exact h q
theorem soF_t {r town k : Nat} {Z : (Nat → Nat → Int) × (Nat → Int)} (h : ∀ q, 0 ≤ Z.2 q) : ∀ j q, 0 ≤ (soF G r town k Z j).2 q := by
  intro j
  induction j with
  | zero => exact h
  | succ j ih => exact soL_t j ih
theorem m_sorts2 {l town s0 : Nat} {tm : Nat → Int} (ht : town < 12) (hl : l < 120) (hS : G 7 1 = s0) (htm : ∀ q, 0 ≤ tm q) {x1 x2 : Int32} (e1 : x1.toInt = l) (e2 : x2.toInt = town) {h : ea_H} (g : GM n G h) (hT : ∀ q, q < s0 → hI h 395 q = tm q) :
    ∀ (j s : Nat) (x3 : Int32), s + j = s0 → x3.toInt = s → sat (qX12_sorts_2 x1 x2 x3 h) fun y => (sFst (sOk G tm town) j s < s0 ∧ fq [(387, 387), (395, 395)] [] h y.2 ∧ (∀ k, hI y.2 387 k = if k = l then 1 else hI h 387 k) ∧ ∀ k, hI y.2 395 k = if k = sFst (sOk G tm town) j s then hI h 395 k - 1 else hI h 395 k) ∨ (¬ sFst (sOk G tm town) j s < s0 ∧ y.2 = h) := by
  obtain ⟨m2, s2, ⟨a1, a2, a3, a4, a5, a6⟩, gb, gc, gd⟩ := g
  have hs2 : s2 = s0 := by omega
  subst hs2
  have ic1 : x1.toNatClampNeg = l := by
    rw [n_idx, e1]
    rfl
  intro j
  induction j with
  | zero =>
    intro s x3 hs e3
    refine uqX12_sorts_2 ?_
    unfold BX12_sorts_2
    exact sat_pos (by rw [n_le, hI_eq, a6, e3]; omega) (sat_ret (Or.inr ⟨by show ¬ s < s2; omega, rfl⟩))
  | succ j ih =>
    intro s x3 hs e3
    have hs8 : s < 8 := by omega
    have g3 := vp80 e3 hs8
    have ic : x3.toNatClampNeg = s := by
      rw [n_idx, e3]
      rfl
    obtain ⟨⟨b1, b2, b3⟩, ⟨b4, b5, b6⟩, b7⟩ := gd s (by omega)
    have tv : (ea_i h 395 s).toInt = tm s := hT s (by omega)
    have ts := htm s
    have next : ¬ sOk G tm town s → sat (qX12_sorts_2 x1 x2 (x3 + 1) h) fun y => (sFst (sOk G tm town) (j + 1) s < s2 ∧ fq [(387, 387), (395, 395)] [] h y.2 ∧ (∀ k, hI y.2 387 k = if k = l then 1 else hI h 387 k) ∧ ∀ k, hI y.2 395 k = if k = sFst (sOk G tm town) (j + 1) s then hI h 395 k - 1 else hI h 395 k) ∨ (¬ sFst (sOk G tm town) (j + 1) s < s2 ∧ y.2 = h) := by
      intro hn
      have e : sFst (sOk G tm town) (j + 1) s = sFst (sOk G tm town) j (s + 1) := by
        rw [sFst_s, if_neg hn]
      rw [e]
      exact ih (s + 1) (x3 + 1) (by omega) (n_inc e3 (by omega))
    refine uqX12_sorts_2 ?_
    unfold BX12_sorts_2
    rw [ic, ic1]
    refine sat_neg (by rw [n_le, hI_eq, a6, e3]; omega) (sat_gd g3 (sat_ite (fun c => ?_) fun c => ?_))
    · rw [n_eq, tv, l_0] at c
      exact next fun z => by have := z.1; omega
    rw [n_eq, tv, l_0] at c
    have kv : (ea_i h 393 s).toInt = ((G 6 s).toNat : Int) := by
      rw [hI_eq, b4]
      omega
    have kb := kn_bit kv e2 ht
    refine sat_gd g3 (sat_ite (fun c2 => ?_) fun c2 => ?_)
    · rw [n_eq, kb, l_0] at c2
      exact next fun z => by have := z.2; omega
    rw [n_eq, kb, l_0] at c2
    have hok : sOk G tm town s := ⟨by omega, by omega⟩
    have e : sFst (sOk G tm town) (j + 1) s = s := by
      rw [sFst_s, if_pos hok]
    rw [e]
    refine sat_gd g3 (sat_gd g3 (sat_let fun H5 q5 => sat_gd (vp80 e1 hl) (sat_let fun H7 q7 => sat_ret (Or.inl ⟨by omega, (q5 ▸ fq_wi rfl : fq [(387, 387), (395, 395)] [] h H5).tr (q7 ▸ fq_wi rfl), fun k => ?_, fun k => ?_⟩))))
    · show hI H7 387 k = _
      rw [q7, hI_row, q5, hI_ne (by decide)]
      rfl
    · show hI H7 395 k = _
      rw [q7, hI_ne (by decide), q5, hI_row]
      by_cases z : k = s
      · have := n_hi (ea_i h 395 s)
        rw [if_pos z, if_pos z, z, n_pred (by omega)]
        rfl
      · rw [if_neg z, if_neg z]
theorem RM0_so {X : Nat → Nat → Int} {l : Nat} {h h' : ea_H} (r : RM0 m X h) (f : fq [(387, 387), (395, 395)] [] h h') (e2 : ∀ k, hI h' 387 k = if k = l then 1 else hI h 387 k) : RM0 m (upX X 4 l 1) h' := by
  obtain ⟨⟨r0, r1⟩, r2, r3, r4, r5⟩ := r
  refine ⟨⟨(f.I 326 rfl 63 rfl).trans r0, r1⟩, fun k => ?_, fun l' hl2 hz => ?_, fun t d ht hd => ?_, fun k => ?_⟩
  · rw [f.C 381 rfl rfl, f.C 382 rfl rfl, f.C 383 rfl rfl, f.C 384 rfl rfl, f.C 385 rfl rfl, f.C 376 rfl rfl, f.C 388 rfl rfl, f.C 389 rfl rfl, f.C 390 rfl rfl]
    exact r2 k
  · rw [upX_ne (by decide)] at hz
    rw [e2, upX_row, r3 l' hl2 hz]
  · rw [f.C 386 rfl rfl]
    exact r4 t d ht hd
  · rw [e2]
    split
    · exact Or.inr rfl
    · exact r5 k
theorem RM0_395 {X : Nat → Nat → Int} {h h' : ea_H} (r : RM0 m X h) (f : fq [(395, 395)] [] h h') : RM0 m X h' := by
  obtain ⟨⟨r0, r1⟩, r2, r3, r4, r5⟩ := r
  refine ⟨⟨(f.I 326 rfl 63 rfl).trans r0, r1⟩, fun k => ?_, fun l' hl2 hz => ?_, fun t d ht hd => ?_, fun k => or01 (f.C 387 rfl rfl k) (r5 k)⟩
  · rw [f.C 381 rfl rfl, f.C 382 rfl rfl, f.C 383 rfl rfl, f.C 384 rfl rfl, f.C 385 rfl rfl, f.C 376 rfl rfl, f.C 388 rfl rfl, f.C 389 rfl rfl, f.C 390 rfl rfl]
    exact r2 k
  · rw [f.C 387 rfl rfl]
    exact r3 l' hl2 hz
  · rw [f.C 386 rfl rfl]
    exact r4 t d ht hd
theorem m_lea234 (ok : tOk T) {t d k s0 : Nat} (ht : t < 10) (hd : d < 7) (hk8 : k < 8) (hG : G 7 0 = m) (hS : G 7 1 = s0) {Z : (Nat → Nat → Int) × (Nat → Int)} {B : Nat → Int} (hX : XOk T m B Z.1) (hZ : ∀ q, 0 ≤ Z.2 q) {x2 x6 : Int32} (e2 : x2.toInt = ((7 * t + d : Nat) : Int)) (e6 : x6.toInt = k) {h0 : ea_H} {P : Unit × ea_H → Prop}
    (K : ∀ h, fq [(387, 387), (395, 395)] [] h0 h → gFy T L n G h → RM0 m (soF G (10 * d + t) (tW T t k) k Z m).1 h → (∀ q, q < s0 → hI h 395 q = (soF G (10 * d + t) (tW T t k) k Z m).2 q) → sat (qX12_leaves_224 x2 (x6 + 1) h) P) :
    ∀ (i j : Nat) (h : ea_H) (x7 : Int32), j + i = m → x7.toInt = j → gFy T L n G h → RM0 m (soF G (10 * d + t) (tW T t k) k Z j).1 h → (∀ q, q < s0 → hI h 395 q = (soF G (10 * d + t) (tW T t k) k Z j).2 q) → fq [(387, 387), (395, 395)] [] h0 h → sat (qX12_leaves_234 x2 x6 x7 h) P := by
  intro i
  induction i with
  | zero =>
    intro j h x7 hi e7 g r tm f
    have hjm : j = m := by omega
    subst hjm
    refine uqX12_leaves_234 ?_
    unfold BX12_leaves_234
    exact sat_pos (by rw [n_le, hI_eq, r.1.1, e7]; omega) (K h f g r tm)
  | succ i ih =>
    intro j h x7 hi e7 g r tm f
    have hj : j < m := by omega
    have hm := r.1.2
    have hj' : j < 120 := by omega
    have gj := vp80 e7 hj'
    have ic : x7.toNatClampNeg = j := by
      rw [n_idx, e7]
      rfl
    have e71 := n_inc e7 (by omega)
    have XO := soF_ok (G := G) (r := 10 * d + t) (town := tW T t k) (k := k) hX j j hj
    have ZO := soF_t (G := G) (r := 10 * d + t) (town := tW T t k) (k := k) hZ j
    have hs : soF G (10 * d + t) (tW T t k) k Z (j + 1) = soL G (10 * d + t) (tW T t k) k (soF G (10 * d + t) (tW T t k) k Z j) j := rfl
    generalize soF G (10 * d + t) (tW T t k) k Z j = Y at *
    have hS2 : (G 7 1).toNat = s0 := by omega
    have skip : ¬ (soC Y.1 (10 * d + t) k j ∧ sFst (sOk G Y.2 (tW T t k)) s0 0 < s0) → sat (qX12_leaves_234 x2 x6 (x7 + 1) h) P := by
      intro hc
      have e : soF G (10 * d + t) (tW T t k) k Z (j + 1) = Y := by
        rw [hs]
        unfold soL
        rw [hS2, if_neg hc]
      refine ih (j + 1) h (x7 + 1) (by omega) e71 g ?_ ?_ f
      · rw [e]
        exact r
      · rw [e]
        exact tm
    obtain ⟨v, p, q⟩ := m_isAboard e7 e2 ht hd hj r
    refine uqX12_leaves_234 ?_
    unfold BX12_leaves_234
    rw [ic]
    refine sat_neg (by rw [n_le, hI_eq, r.1.1, e7]; omega) (sat_call p ?_)
    rcases q with ⟨q1, q2, q3⟩ | ⟨q1, q2⟩
    case inr => exact sat_pos q1 (skip fun z => q2 ⟨z.1.1, z.1.2.1⟩)
    refine sat_neg (by rw [q1]; exact i1_ne_0) (sat_gd gj ?_)
    have v387 : (ea_i h 387 j).toInt = Y.1 4 j := r.2.2.1 j hj q2
    have v383 : (ea_i h 383 j).toInt = Y.1 2 j := (r.2.1 j).2.2.1
    refine sat_eti (fun c => ?_) fun c => ?_
    · rw [n_eq, v387, l_0] at c
      exact skip fun z => c z.1.2.2.1
    rw [n_eq, v387, l_0] at c
    refine sat_gd gj (sat_eti (fun c2 => ?_) fun c2 => ?_)
    · rw [n_eq, v383, e6] at c2
      exact skip fun z => c2 z.1.2.2.2
    rw [n_eq, v383, e6] at c2
    have hc : soC Y.1 (10 * d + t) k j := ⟨q2, q3, c, c2⟩
    have hkS : k < tS T t := by
      obtain ⟨t2, d2, w1, w2, w3, w4, w5, w6⟩ := XO.2.2.1 q2
      have ht2 : t2 = t := by omega
      rw [ht2] at w5
      omega
    have htown := (ok.2.2.2.1 t k ht hkS).1
    obtain ⟨vt, pt, qt⟩ := m_townOf e2 e6 g.1.1 ht hd hk8
    refine sat_call pt (sat_bind (?_ : sat (qX12_sorts x7 vt h) fun y => (sFst (sOk G Y.2 (tW T t k)) s0 0 < s0 ∧ fq [(387, 387), (395, 395)] [] h y.2 ∧ (∀ k, hI y.2 387 k = if k = j then 1 else hI h 387 k) ∧ ∀ q, hI y.2 395 q = if q = sFst (sOk G Y.2 (tW T t k)) s0 0 then hI h 395 q - 1 else hI h 395 q) ∨ (¬ sFst (sOk G Y.2 (tW T t k)) s0 0 < s0 ∧ y.2 = h)) fun w hw => ?_)
    · unfold qX12_sorts
      refine uqX12_sorts_0 ?_
      unfold BX12_sorts_0
      exact m_sorts2 htown hj' hS ZO e7 qt g.1.2.2 tm s0 0 0 (by omega) rfl
    · rcases hw with ⟨w1, w2, w3, w4⟩ | ⟨w1, w2⟩
      · have e : soF G (10 * d + t) (tW T t k) k Z (j + 1) = (upX Y.1 4 j 1, fun q => if q = sFst (sOk G Y.2 (tW T t k)) s0 0 then Y.2 q - 1 else Y.2 q) := by
          rw [hs]
          unfold soL
          rw [hS2, if_pos ⟨hc, w1⟩]
        refine ih (j + 1) w.2 (x7 + 1) (by omega) e71 (gFy_fq w2 rfl rfl rfl rfl g) ?_ ?_ (f.tr w2)
        · rw [e]
          exact RM0_so r w2 w3
        · intro q hq
          rw [e, w4, tm q hq]
      · have := skip fun z => w1 z.2
        rw [← w2] at this
        exact this
theorem m_lea224 (ok : tOk T) {t d s0 : Nat} (ht : t < 10) (hd : d < 7) (hG : G 7 0 = m) (hS : G 7 1 = s0) {Z : (Nat → Nat → Int) × (Nat → Int)} {B : Nat → Int} (hX : XOk T m B Z.1) (hZ : ∀ q, 0 ≤ Z.2 q) {x2 : Int32} (e2 : x2.toInt = ((7 * t + d : Nat) : Int)) {h0 : ea_H} :
    ∀ (i k : Nat) (h : ea_H) (x6 : Int32), k + i = 8 → x6.toInt = k → gFy T L n G h → RM0 m (soK T G (10 * d + t) t Z k).1 h → (∀ q, q < s0 → hI h 395 q = (soK T G (10 * d + t) t Z k).2 q) → (∀ q, 0 ≤ (soK T G (10 * d + t) t Z k).2 q) → fq [(387, 387), (395, 395)] [] h0 h → sat (qX12_leaves_224 x2 x6 h) fun y => fq [(387, 387), (395, 395)] [] h0 y.2 ∧ gFy T L n G y.2 ∧ RM0 m (soK T G (10 * d + t) t Z 8).1 y.2 := by
  intro i
  induction i with
  | zero =>
    intro k h x6 hi e6 g r tm tp f
    have hk : k = 8 := by omega
    subst hk
    refine uqX12_leaves_224 ?_
    unfold BX12_leaves_224
    exact sat_pos (by rw [n_le, e6, l_8]; omega) (sat_ret ⟨f, g, r⟩)
  | succ i ih =>
    intro k h x6 hi e6 g r tm tp f
    have hm2 : (G 7 0).toNat = m := by omega
    refine uqX12_leaves_224 ?_
    unfold BX12_leaves_224
    refine sat_neg (by rw [n_le, e6, l_8]; omega) ?_
    have XO := soK_ok (G := G) (T := T) (r := 10 * d + t) (t := t) hX k
    have hs : soK T G (10 * d + t) t Z (k + 1) = soF G (10 * d + t) (tW T t k) k (soK T G (10 * d + t) t Z k) m := by
      show soF G (10 * d + t) (tW T t k) k (soK T G (10 * d + t) t Z k) (G 7 0).toNat = _
      rw [hm2]
    generalize soK T G (10 * d + t) t Z k = Y at *
    refine m_lea234 (h0 := h) ok ht hd (by omega) hG hS XO tp e2 e6 (fun h1 f1 g1 r1 tm1 => ?_) m 0 h 0 (by omega) rfl g r tm (fq_rfl _ _ _)
    refine ih (k + 1) h1 (x6 + 1) (by omega) (n_inc e6 (by omega)) g1 ?_ ?_ ?_ (f.tr f1)
    · rw [hs]
      exact r1
    · rw [hs]
      exact tm1
    · rw [hs]
      exact soF_t tp m
theorem m_leaves (ok : tOk T) (hL : tList T L) (he : e < L.length) (hgo : kGo (L.getD e 0) = 1) (hG : G 7 0 = m) {X : Nat → Nat → Int} {b : Int} (hX : XOk T m (fun _ => b) X) (hb : b ≤ 1000) {x1 : Int32} (e1 : x1.toInt = e) {h : ea_H} (g : gFy T L n G h) (r : RM0 m X h) (df : DFm m D X h) :
    sat (qX12_leaves x1 h) fun y => fq [(376, 377), (381, 390), (395, 395)] [] h y.2 ∧ gFy T L n G y.2 ∧ RM0 m (evX T L G (L.getD e 0) X) y.2 ∧ DFm m D (evX T L G (L.getD e 0) X) y.2 := by
  have h9 := t_len2 ok hL
  have hxL := getD_mem he
  have hxk := (hL.2 _).mp hxL
  obtain ⟨t1, t2, t3, t4, t5, t6, t7, t8⟩ := t_bounds ok hxk
  have hm2 : (G 7 0).toNat = m := by omega
  have hev : evX T L G (L.getD e 0) X = (soK T G (kR (L.getD e 0)) (kT (L.getD e 0)) (if G 3 (8 * kR (L.getD e 0) + kI (L.getD e 0)) = 0 then bdF T L G (L.getD e 0) X m else X, sTm T G (kT (L.getD e 0)) (kI (L.getD e 0))) 8).1 := by
    unfold evX goX
    rw [if_pos hgo, hm2]
  have hst : kI (L.getD e 0) + 1 < tS T (kT (L.getD e 0)) := by
    rcases hxk.2.2.2 with ⟨z1, z2, z3, z4⟩ | ⟨z1, z2, z3⟩
    · omega
    · exact z2
  have bb : XOk T m (fun _ => b + 1) (if G 3 (8 * kR (L.getD e 0) + kI (L.getD e 0)) = 0 then bdF T L G (L.getD e 0) X m else X) := by
    split
    · exact XOk_all (bdF_ok ok hL hxL hgo hX m (Nat.le_refl _)) (by omega)
    · exact fun l hl => XL_up (by show b ≤ b + 1; omega) (hX l hl)
  have ic1 : x1.toNatClampNeg = e := by
    rw [n_idx, e1]
    rfl
  obtain ⟨-, c1, c2, c3⟩ := g.1.2.1.2 e he
  have v2 : (ea_i h 338 e).toInt = ((7 * kT (L.getD e 0) + kD (L.getD e 0) : Nat) : Int) := c2
  have v3 : (ea_i h 339 e).toInt = kI (L.getD e 0) := c3
  obtain ⟨vt, pt, qt⟩ := m_townOf v2 v3 g.1.1 t1 t2 t3
  have gx1 := vp80 e1 (show e < 1000 by omega)
  unfold qX12_leaves
  refine uqX12_leaves_0 ?_
  unfold BX12_leaves_0
  rw [ic1]
  refine sat_gd gx1 (sat_sub (sat_gd gx1 (sat_sub (sat_call pt ?_))))
  refine m_lea25 (D := D) (h0 := h) ok hL he hgo hG hX hb e1 v2 v3 qt (fun h1 f1 g1 r1 df1 => ?_) m 0 h 0 (by omega) rfl g (Or.inl rfl) r df (fq_rfl _ _ _)
  rw [hev]
  -- who sorts, and how long
  obtain ⟨m2, s, ⟨a1, a2, a3, a4, a5, a6⟩, gb, gc, gd⟩ := g1.1.2.2
  have v31 : (ea_i h 339 e + 1).toInt = ((kI (L.getD e 0) + 1 : Nat) : Int) := n_inc v3 (by omega)
  obtain ⟨vc, pc, qc⟩ := m_comesAt v2 v31 g1.1.1 ok t1 t2 hst
  obtain ⟨vg, pg, qg⟩ := m_goesAt v2 v3 g1.1.1 ok t1 t2 (by omega)
  have bc := ok.2.2.2.1 (kT (L.getD e 0)) (kI (L.getD e 0) + 1) t1 hst
  have bg := ok.2.2.2.1 (kT (L.getD e 0)) (kI (L.getD e 0)) t1 (by omega)
  have bd := ok.2.2.2.2.2 (kT (L.getD e 0)) (kD (L.getD e 0)) t1 t2
  have bs := ok.2.2.2.2.1 (kT (L.getD e 0)) (kI (L.getD e 0)) t1 hst
  have qd : (vc - vg).toInt = (tC T (kT (L.getD e 0)) (kI (L.getD e 0) + 1) : Int) - tG T (kT (L.getD e 0)) (kI (L.getD e 0)) := by
    unfold tCm at qc
    unfold tGm at qg
    rw [n_sub, qc, qg, n_bm (by omega) (by omega)]
    omega
  refine uqX12_leaves_151 ?_
  unfold BX12_leaves_151
  refine sat_call pc (sat_call pg (sat_sub ?_))
  have j0 : (ea_i h 338 e / (7 : Int32)).toInt = kT (L.getD e 0) := by
    rw [n_div7 (by omega), v2]
    omega
  generalize hZX : (if G 3 (8 * kR (L.getD e 0) + kI (L.getD e 0)) = 0 then bdF T L G (L.getD e 0) X m else X) = ZX at *
  have loop : ∀ (i q : Nat) (h2 : ea_H) (x6 : Int32), q + i = s → x6.toInt = q → fq [(395, 395)] [] h1 h2 → (∀ p, p < q → hI h2 395 p = sTm T G (kT (L.getD e 0)) (kI (L.getD e 0)) p) → sat (qX12_leaves_171 (ea_i h 338 e) (vc - vg) x6 h2) fun y => fq [(376, 377), (381, 390), (395, 395)] [] h y.2 ∧ gFy T L n G y.2 ∧ RM0 m (soK T G (kR (L.getD e 0)) (kT (L.getD e 0)) (ZX, sTm T G (kT (L.getD e 0)) (kI (L.getD e 0))) 8).1 y.2 ∧ DFm m D (soK T G (kR (L.getD e 0)) (kT (L.getD e 0)) (ZX, sTm T G (kT (L.getD e 0)) (kI (L.getD e 0))) 8).1 y.2 := by
    intro i
    induction i with
    | zero =>
      intro q h2 x6 hq e6 f2 ht2
      have hqs : q = s := by omega
      subst hqs
      have g2 : gFy T L n G h2 := gFy_fq f2 rfl rfl rfl rfl g1
      have r2 : RM0 m ZX h2 := RM0_395 r1 f2
      have tp : ∀ p, 0 ≤ sTm T G (kT (L.getD e 0)) (kI (L.getD e 0)) p := by
        intro p
        unfold sTm
        split
        · rename_i hp
          exact Int.mul_nonneg (by have := (gd p (by omega)).1.2.1; omega) (by omega)
        · omega
      have df2 : DFm m D ZX h2 := fun l' hl2 hz => by
        rw [f2.C 377 rfl rfl]
        exact df1 l' hl2 hz
      have v92 : hI h2 326 92 = q := (f2.I 326 rfl 92 rfl).trans a6
      have eR : 10 * kD (L.getD e 0) + kT (L.getD e 0) = kR (L.getD e 0) := rfl
      refine uqX12_leaves_171 ?_
      unfold BX12_leaves_171
      refine sat_pos (by rw [n_le, hI_eq, v92, e6]; omega) ?_
      have H := m_lea224 (Z := (ZX, sTm T G (kT (L.getD e 0)) (kI (L.getD e 0)))) (h0 := h2) (n := n) ok t1 t2 hG a2 bb tp v2 8 0 h2 0 rfl rfl g2 r2 ht2 tp (fq_rfl _ _ _)
      refine sat_mono H fun y hy => ?_
      obtain ⟨y1, y2, y3⟩ := hy
      rw [eR] at y3
      refine ⟨(f1.up rfl rfl).tr ((f2.up rfl rfl).tr (y1.up rfl rfl)), y2, y3, fun l' hl2 hz => ?_⟩
      rw [soK_f (by decide)] at hz ⊢
      rw [y1.C 377 rfl rfl]
      exact df2 l' hl2 hz
    | succ i ih =>
      intro q h2 x6 hq e6 f2 ht2
      have hq8 : q < 8 := by omega
      have g6 := vp80 e6 hq8
      have ic6 : x6.toNatClampNeg = q := by
        rw [n_idx, e6]
        rfl
      obtain ⟨⟨b1, b2, b3⟩, ⟨b4, b5, b6⟩, b7⟩ := gd q (by omega)
      have v394 : (ea_i h2 394 q).toInt = G 4 q := (f2.C 394 rfl rfl q).trans b7
      have v392 : (ea_i h2 392 q).toInt = G 5 q := (f2.C 392 rfl rfl q).trans b1
      have v92 : hI h2 326 92 = s := (f2.I 326 rfl 92 rfl).trans a6
      refine uqX12_leaves_171 ?_
      unfold BX12_leaves_171
      rw [ic6]
      refine sat_neg (by rw [n_le, hI_eq, v92, e6]; omega) (sat_gd g6 (sat_ite (fun c => ?_) fun c => ?_))
      · rw [n_eq, v394, j0] at c
        refine sat_gd g6 (sat_gd g6 (sat_let fun H34 q34 => ?_))
        refine ih (q + 1) H34 (x6 + 1) (by omega) (n_inc e6 (by omega)) (f2.tr (q34 ▸ fq_wi rfl)) fun p hp => ?_
        rw [q34, hI_row]
        by_cases z : p = q
        · have hmul : G 5 q * ((tC T (kT (L.getD e 0)) (kI (L.getD e 0) + 1) : Int) - tG T (kT (L.getD e 0)) (kI (L.getD e 0))) ≤ 99 * 2400 := by
            have h1 : G 5 q * ((tC T (kT (L.getD e 0)) (kI (L.getD e 0) + 1) : Int) - tG T (kT (L.getD e 0)) (kI (L.getD e 0))) ≤ 99 * ((tC T (kT (L.getD e 0)) (kI (L.getD e 0) + 1) : Int) - tG T (kT (L.getD e 0)) (kI (L.getD e 0))) := Int.mul_le_mul_of_nonneg_right (by omega) (by omega)
            omega
          have hmul0 : 0 ≤ G 5 q * ((tC T (kT (L.getD e 0)) (kI (L.getD e 0) + 1) : Int) - tG T (kT (L.getD e 0)) (kI (L.getD e 0))) := Int.mul_nonneg (by omega) (by omega)
          rw [if_pos z, n_mul, v392, qd, n_bm (by omega) (by omega), z]
          unfold sTm
          rw [if_pos ⟨by omega, c⟩]
        · rw [if_neg z]
          exact ht2 p (by omega)
      · rw [n_eq, v394, j0] at c
        refine sat_gd g6 (sat_let fun H34 q34 => ?_)
        refine ih (q + 1) H34 (x6 + 1) (by omega) (n_inc e6 (by omega)) (f2.tr (q34 ▸ fq_wi rfl)) fun p hp => ?_
        rw [q34, hI_row]
        by_cases z : p = q
        · rw [if_pos z, z]
          unfold sTm
          rw [if_neg (fun w => c w.2)]
          rfl
        · rw [if_neg z]
          exact ht2 p (by omega)
  exact loop s 0 h1 0 (by omega) rfl (fq_rfl _ _ _) fun p hp => absurd hp (Nat.not_lt_zero _)
end SO
