/-! the class sorts its keys -/
theorem n_div {x y : Int32} (h : y ≠ -1) : (x / y).toInt = x.toInt.tdiv y.toInt := Int32.toInt_div_of_ne_right x y h
theorem n_div0 {x y : Int32} {m : Int} (hx : 0 ≤ x.toInt) (hy : y.toInt = m) (hm : 0 < m) : (x / y).toInt = x.toInt / m := by
  rw [n_div (by intro h; rw [h] at hy; have : (-1 : Int32).toInt = -1 := rfl; omega), hy, Int.tdiv_eq_ediv_of_nonneg hx]
theorem n_rem0 {x y : Int32} {m : Int} (hx : 0 ≤ x.toInt) (hy : y.toInt = m) (hm : 0 < m) : (x - x / y * y).toInt = x.toInt % m := by
  have h1 := n_div0 hx hy hm
  have h2 := n_hi x
  have h3 : x.toInt / m * m ≤ x.toInt := Int.ediv_mul_le _ (by omega)
  have h4 : 0 ≤ x.toInt / m := Int.ediv_nonneg hx (by omega)
  have h5 : 0 ≤ x.toInt / m * m := Int.mul_nonneg h4 (by omega)
  have h6 : (x / y * y).toInt = x.toInt / m * m := by rw [n_mul, h1, hy, n_bm (by omega) (by omega)]
  rw [n_sub, h6, n_bm (by omega) (by omega), Int.emod_def, Int.mul_comm]
def pmS (S : Nat → Prop) (n : Nat) (A : Nat → Int) : Prop := (∀ e, e < n → ∃ x : Nat, A e = x ∧ S x) ∧ (∀ x, S x → ∃ e, e < n ∧ A e = (x : Nat)) ∧ ∀ e f, e < n → f < n → A e = A f → e = f
theorem pm_swap {S : Nat → Prop} {n : Nat} {A B : Nat → Int} (h : pmS S n A) {i j : Nat} (hi : i < n) (hj : j < n) (b1 : B i = A j) (b2 : B j = A i) (b3 : ∀ e, e ≠ i → e ≠ j → B e = A e) : pmS S n B := by
  obtain ⟨h1, h2, h3⟩ := h
  have hs : ∀ e, e < n → ∃ f, f < n ∧ B e = A f ∧ (e = i → f = j) ∧ (e = j → f = i) ∧ (e ≠ i → e ≠ j → f = e) := by
    intro e he
    by_cases e1 : e = i
    · subst e1
      by_cases e2 : e = j
      · subst e2
        exact ⟨e, he, b1, fun _ => rfl, fun _ => rfl, fun q => absurd rfl q⟩
      · exact ⟨j, hj, b1, fun _ => rfl, fun q => absurd q e2, fun q => absurd rfl q⟩
    · by_cases e2 : e = j
      · subst e2
        exact ⟨i, hi, b2, fun q => absurd q e1, fun _ => rfl, fun _ q => absurd rfl q⟩
      · exact ⟨e, he, b3 e e1 e2, fun q => absurd q e1, fun q => absurd q e2, fun _ _ => rfl⟩
  refine ⟨fun e he => ?_, fun x hx => ?_, fun e f he hf hef => ?_⟩
  · obtain ⟨f, hf, e1, -⟩ := hs e he
    rw [e1]
    exact h1 f hf
  · obtain ⟨e, he, hex⟩ := h2 x hx
    by_cases e1 : e = i
    · exact ⟨j, hj, by rw [b2, ← e1]; exact hex⟩
    · by_cases e2 : e = j
      · exact ⟨i, hi, by rw [b1, ← e2]; exact hex⟩
      · exact ⟨e, he, by rw [b3 e e1 e2]; exact hex⟩
  · obtain ⟨e', q1, q2, q3, q4, q5⟩ := hs e he
    obtain ⟨f', r1, r2, r3, r4, r5⟩ := hs f hf
    have hh := h3 e' f' q1 r1 (by rw [← q2, ← r2]; exact hef)
    by_cases e1 : e = i <;> by_cases e2 : e = j <;> by_cases f1 : f = i <;> by_cases f2 : f = j <;> simp_all
theorem c_so28 {S : Nat → Prop} {n g e : Nat} (hn : n ≤ 980) (hg : 1 ≤ g) (he : e < n) {x1 x2 x3 : Int32} (e1 : x1.toInt = g) {P : Unit × ea_H → Prop} :
    ∀ (m k : Nat) (x4 : Int32) (h : ea_H), k ≤ m → k ≤ e → x4.toInt = k → ShC h → pmS S n (fun j => if j = k then x3.toInt else hI h 14 j) →
      (g = 1 → (∀ i j, i < j → j ≤ e → i ≠ k → j ≠ k → hI h 14 i < hI h 14 j) ∧ ∀ j, k < j → j ≤ e → x3.toInt < hI h 14 j) →
      (∀ h', fr [(14, 14)] h h' → pmS S n (hI h' 14) → (g = 1 → ∀ i j, i < j → j < e + 1 → hI h' 14 i < hI h' 14 j) → sat (qX10_sortKeys_10 x1 (x2 + 1) h') P) → sat (qX10_sortKeys_28 x1 x2 x3 x4 h) P := by
  intro m
  induction m with
  | zero =>
    intro k x4 h hk hke e4 hs hp hq k10
    have hk0 : k = 0 := by omega
    subst hk0
    have hi4 : x4.toNatClampNeg = 0 := by
      rw [n_idx, e4]
      rfl
    refine uqX10_sortKeys_28 ?_
    unfold BX10_sortKeys_28
    refine sat_pos (by rw [n_lt, e4, e1]; omega) (sat_gd (vp80 e4 (by omega)) (sat_let fun H eH => ?_))
    have hH : hI H 14 = fun j => if j = 0 then x3.toInt else hI h 14 j := by
      funext j
      rw [eH, hI_wi, hi4]
      by_cases hj : j = 0
      · rw [if_pos ⟨rfl, hj⟩, if_pos hj]
      · rw [if_neg (fun q => hj q.2), if_neg hj]
    refine k10 H (by rw [eH]; exact fr_wi rfl) (by rw [hH]; exact hp) fun hg1 i j hij hj => ?_
    obtain ⟨q1, q2⟩ := hq hg1
    rw [hH]
    dsimp only
    by_cases hi0 : i = 0
    · rw [if_pos hi0, if_neg (by omega)]
      exact q2 j (by omega) (by omega)
    · rw [if_neg hi0, if_neg (by omega)]
      exact q1 i j hij (by omega) hi0 (by omega)
  | succ m ih =>
    intro k x4 h hk hke e4 hs hp hq k10
    have hi4 : x4.toNatClampNeg = k := by
      rw [n_idx, e4]
      omega
    -- an end: the key is laid down at k
    have fin : (g = 1 → k ≠ 0 → hI h 14 (k - 1) ≤ x3.toInt) → sat (ea_let (ea_wi h 14 x4.toNatClampNeg x3) fun H => qX10_sortKeys_10 x1 (x2 + 1) H) P := by
      intro hle
      refine sat_let fun H eH => ?_
      have hH : hI H 14 = fun j => if j = k then x3.toInt else hI h 14 j := by
        funext j
        rw [eH, hI_wi, hi4]
        by_cases hj : j = k
        · rw [if_pos ⟨rfl, hj⟩, if_pos hj]
        · rw [if_neg (fun q => hj q.2), if_neg hj]
      refine k10 H (by rw [eH]; exact fr_wi rfl) (by rw [hH]; exact hp) fun hg1 i j hij hj => ?_
      obtain ⟨q1, q2⟩ := hq hg1
      rw [hH]
      dsimp only
      by_cases hik : i = k
      · rw [if_pos hik, if_neg (by omega)]
        exact q2 j (by omega) (by omega)
      · rw [if_neg hik]
        by_cases hjk : j = k
        · rw [if_pos hjk]
          have h1 := hle hg1 (by omega)
          have h2 : hI h 14 (k - 1) ≠ x3.toInt := by
            intro e9
            have h3 := hp.2.2 (k - 1) k (by omega) (by omega) (by
              dsimp only
              rw [if_neg (by omega), if_pos rfl]
              exact e9)
            omega
          by_cases hi1 : i = k - 1
          · rw [hi1]
            omega
          · have h3 := q1 i (k - 1) (by omega) (by omega) hik (by omega)
            omega
        · rw [if_neg hjk]
          exact q1 i j hij (by omega) hik hjk
    refine uqX10_sortKeys_28 ?_
    unfold BX10_sortKeys_28
    by_cases hkg : k < g
    · exact sat_pos (by rw [n_lt, e4, e1]; omega) (sat_gd (vp80 e4 (by omega)) (fin fun hg1 hk0 => by omega))
    · have e5 : (x4 - x1).toInt = ((k - g : Nat) : Int) := by
        rw [n_sub, e4, e1, n_bm (by omega) (by omega)]
        omega
      have hi5 : (x4 - x1).toNatClampNeg = k - g := by
        rw [n_idx, e5]
        omega
      refine sat_neg (by rw [n_lt, e4, e1]; omega) (sat_gd (vp80 e5 (by omega)) ?_)
      by_cases hle : hI h 14 (k - g) ≤ x3.toInt
      · refine sat_pos (by rw [n_le, hI_eq, hi5]; exact hle) (sat_gd (vp80 e4 (by omega)) (fin fun hg1 _ => by rw [← hg1]; exact hle))
      · refine sat_neg (by rw [n_le, hI_eq, hi5]; exact hle) (sat_gd (vp80 e5 (by omega)) (sat_gd (vp80 e4 (by omega)) (sat_let fun H eH => ?_)))
        have hH : ∀ j, hI H 14 j = if j = k then hI h 14 (k - g) else hI h 14 j := by
          intro j
          rw [eH, hI_wi, hi4, hi5, hI_eq]
          by_cases hj : j = k
          · rw [if_pos ⟨rfl, hj⟩, if_pos hj]
          · rw [if_neg (fun q => hj q.2), if_neg hj]
        have fH : fr [(14, 14)] h H := by
          rw [eH]
          exact fr_wi rfl
        refine ih (k - g) (x4 - x1) H (by omega) (by omega) e5 (ShC_core fH.1 hs) ?_ (fun hg1 => ?_) fun h' f' => k10 h' (fH.tr f')
        · refine pm_swap hp (i := k) (j := k - g) (by omega) (by omega) ?_ ?_ fun j j1 j2 => ?_
          · rw [if_neg (by omega), if_neg (by omega), hH, if_pos rfl]
          · rw [if_pos rfl, if_pos rfl]
          · rw [if_neg j2, if_neg j1, hH, if_neg j1]
        · obtain ⟨q1, q2⟩ := hq hg1
          refine ⟨fun i j hij hje i1 j1 => ?_, fun j hj hje => ?_⟩
          · rw [hH, hH]
            by_cases hik : i = k
            · rw [if_pos hik, if_neg (by omega)]
              exact q1 (k - g) j (by omega) hje (by omega) (by omega)
            · rw [if_neg hik]
              by_cases hjk : j = k
              · rw [if_pos hjk]
                exact q1 i (k - g) (by omega) (by omega) hik (by omega)
              · rw [if_neg hjk]
                exact q1 i j hij hje hik hjk
          · rw [hH]
            by_cases hjk : j = k
            · rw [if_pos hjk]
              omega
            · rw [if_neg hjk]
              exact q2 j (by omega) hje
theorem c_so10 {S : Nat → Prop} {n g : Nat} (hn : n ≤ 980) (hg : 1 ≤ g) {x1 : Int32} (e1 : x1.toInt = g) {P : Unit × ea_H → Prop} :
    ∀ (m e : Nat) (x2 : Int32) (h : ea_H), n - e = m → e ≤ 2000 → x2.toInt = e → ShC h → hI h 13 1 = n → pmS S n (hI h 14) → (g = 1 → ∀ i j, i < j → j < e → hI h 14 i < hI h 14 j) →
      (∀ h', fr [(14, 14)] h h' → pmS S n (hI h' 14) → (g = 1 → ∀ i j, i < j → j < n → hI h' 14 i < hI h' 14 j) → sat (qX10_sortKeys_4 (x1 / 3) h') P) → sat (qX10_sortKeys_10 x1 x2 h) P := by
  intro m
  induction m with
  | zero =>
    intro e x2 h hm he e2 hs hc hp hq k4
    refine uqX10_sortKeys_10 ?_
    unfold BX10_sortKeys_10
    refine sat_pos (by rw [n_le, hI_eq, hc, e2]; omega) (sat_sub ?_)
    exact k4 h (fr_rfl _ _) hp fun hg1 i j hij hj => hq hg1 i j hij (by omega)
  | succ m ih =>
    intro e x2 h hm he e2 hs hc hp hq k4
    have hi2 : x2.toNatClampNeg = e := by
      rw [n_idx, e2]
      omega
    refine uqX10_sortKeys_10 ?_
    unfold BX10_sortKeys_10
    refine sat_neg (by rw [n_le, hI_eq, hc, e2]; omega) (sat_gd (vp80 e2 (by omega)) (sat_sub ?_))
    have hx3 : (ea_i h 14 x2.toNatClampNeg).toInt = hI h 14 e := by rw [hI_eq, hi2]
    refine c_so28 (S := S) hn hg (by omega : e < n) e1 e e x2 h (Nat.le_refl _) (Nat.le_refl _) e2 hs ?_ (fun hg1 => ⟨fun i j hij hj i1 j1 => hq hg1 i j hij (by omega), fun j j1 j2 => by omega⟩) fun h' f' hp' hq' => ?_
    · rw [hx3]
      have : (fun j => if j = e then hI h 14 e else hI h 14 j) = hI h 14 := by
        funext j
        split
        · rename_i hj
          rw [hj]
        · rfl
      rw [this]
      exact hp
    · refine ih (e + 1) (x2 + 1) h' (by omega) (by omega) (by rw [n_add, e2, l_1, n_bm (by omega) (by omega)]; omega) (ShC_core f'.1 hs) (by rw [f'.I 13 rfl]; exact hc) hp' hq' fun h2 f2 => k4 h2 (f'.tr f2)
theorem c_so4 {S : Nat → Prop} {n g : Nat} (hn : n ≤ 980) (hg : 1 ≤ g) (hg2 : g ≤ 1000) {x1 : Int32} (e1 : x1.toInt = g) {P : Unit × ea_H → Prop} {h : ea_H} (hs : ShC h) (hc : hI h 13 1 = n) (hp : pmS S n (hI h 14))
    (k4 : ∀ h', fr [(14, 14)] h h' → pmS S n (hI h' 14) → (g = 1 → ∀ i j, i < j → j < n → hI h' 14 i < hI h' 14 j) → sat (qX10_sortKeys_4 (x1 / 3) h') P) : sat (qX10_sortKeys_4 x1 h) P := by
  refine uqX10_sortKeys_4 ?_
  unfold BX10_sortKeys_4
  refine sat_neg (by rw [n_le, e1, l_0]; omega) ?_
  exact c_so10 hn hg e1 (n - g) g x1 h rfl (by omega) e1 hs hc hp (fun hg1 i j hij hj => by omega) k4
theorem c_sortKeys {S : Nat → Prop} {n : Nat} (hn : n ≤ 980) {h : ea_H} (hs : ShC h) (hc : hI h 13 1 = n) (hp : pmS S n (hI h 14)) : sat (qX10_sortKeys h) fun y => fr [(14, 14)] h y.2 ∧ pmS S n (hI y.2 14) ∧ ∀ i j, i < j → j < n → hI y.2 14 i < hI y.2 14 j := by
  have nx : ∀ {x : Int32} {g : Nat}, x.toInt = g → (x / 3).toInt = ((g / 3 : Nat) : Int) := fun {x g} e => by
    rw [n_div0 (m := 3) (by omega) rfl (by omega), e]
    omega
  unfold qX10_sortKeys
  refine uqX10_sortKeys_0 ?_
  unfold BX10_sortKeys_0
  have d0 : (364 : Int32).toInt = ((364 : Nat) : Int) := rfl
  have d1 := nx d0
  have d2 := nx d1
  have d3 := nx d2
  have d4 := nx d3
  have d5 := nx d4
  have d6 := nx d5
  refine c_so4 hn (by decide) (by decide) d0 hs hc hp fun h1 f1 p1 _ => ?_
  refine c_so4 hn (by decide) (by decide) d1 (ShC_core f1.1 hs) (by rw [f1.I 13 rfl]; exact hc) p1 fun h2 f2 p2 _ => ?_
  have g2 := f1.tr f2
  refine c_so4 hn (by decide) (by decide) d2 (ShC_core g2.1 hs) (by rw [g2.I 13 rfl]; exact hc) p2 fun h3 f3 p3 _ => ?_
  have g3 := g2.tr f3
  refine c_so4 hn (by decide) (by decide) d3 (ShC_core g3.1 hs) (by rw [g3.I 13 rfl]; exact hc) p3 fun h4 f4 p4 _ => ?_
  have g4 := g3.tr f4
  refine c_so4 hn (by decide) (by decide) d4 (ShC_core g4.1 hs) (by rw [g4.I 13 rfl]; exact hc) p4 fun h5 f5 p5 _ => ?_
  have g5 := g4.tr f5
  refine c_so4 hn (by decide) (by decide) d5 (ShC_core g5.1 hs) (by rw [g5.I 13 rfl]; exact hc) p5 fun h6 f6 p6 s6 => ?_
  have g6 := g5.tr f6
  refine uqX10_sortKeys_4 ?_
  unfold BX10_sortKeys_4
  exact sat_pos (by rw [n_le, d6, l_0]; decide) (sat_ret ⟨g6, p6, s6 (by decide)⟩)
