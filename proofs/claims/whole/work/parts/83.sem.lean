/-! calls: seen, trueMinute -/
def sh (a g : Int) : Int := a * (3600 + g) / 3600
theorem sh_b {a g : Int} (a0 : 0 ≤ a) (a1 : a ≤ 10079) (g0 : -60 ≤ g) (g1 : g ≤ 60) : 0 ≤ a * (3600 + g) ∧ a * (3600 + g) ≤ 36889140 := by
  have h1 : 0 ≤ a * (3600 + g) := Int.mul_nonneg a0 (by omega)
  have h2 : a * (3600 + g) ≤ 10079 * (3600 + g) := Int.mul_le_mul_of_nonneg_right a1 (by omega)
  omega
theorem sh_mono {a g g' : Int} (a0 : 0 ≤ a) (h : g ≤ g') : sh a g ≤ sh a g' := by
  unfold sh
  have : a * (3600 + g) ≤ a * (3600 + g') := Int.mul_le_mul_of_nonneg_left (by omega) a0
  exact Int.ediv_le_ediv (by decide) this
theorem c_shown {x0 x1 : Int32} {a g : Int} (e0 : x0.toInt = a) (e1 : x1.toInt = g) (a0 : 0 ≤ a) (a1 : a ≤ 10079) (g0 : -60 ≤ g) (g1 : g ≤ 60) (h : ea_H) : ∃ v, qX2_shown x0 x1 h = some (v, h) ∧ v.toInt = sh a g := by
  refine ⟨_, rfl, ?_⟩
  have b := sh_b a0 a1 g0 g1
  have s : ((3600 : Int32) + x1).toInt = 3600 + g := by
    rw [n_add, e1, l_3600, n_bm (by omega) (by omega)]
  have p : (x0 * ((3600 : Int32) + x1)).toInt = a * (3600 + g) := by
    rw [n_mul, e0, s, n_bm (by omega) (by omega)]
  rw [n_div0 (m := 3600) (by omega) l_3600 (by decide), p]
  rfl
theorem m_shows {x1 x2 x3 : Int32} {t : Nat} {s g mi : Int} (e1 : x1.toInt = t) (e2 : x2.toInt = g) (e3 : x3.toInt = mi) {h : ea_H} (ht : t < 10) (hs : hI h 406 t = s) (s0 : 0 ≤ s) (m0 : s ≤ mi) (m1 : mi ≤ 10079) (g0 : -60 ≤ g) (g1 : g ≤ 60) : ∃ v, qX12_shows x1 x2 x3 h = some (v, h) ∧ v.toInt = s + sh (mi - s) g := by
  have ic1 : x1.toNatClampNeg = t := by
    rw [n_idx, e1]
    rfl
  have sv : (ea_i h 406 t).toInt = s := hs
  have b := sh_b (a := mi - s) (g := g) (by omega) (by omega) g0 g1
  refine sat_ex ?_
  unfold qX12_shows BX12_shows_0
  refine sat_gd (vp80 e1 ht) (sat_gd (vp80 e1 ht) (sat_ret ⟨rfl, ?_⟩))
  · rw [ic1]
    have d : (x3 - ea_i h 406 t).toInt = mi - s := by
      rw [n_sub, e3, sv, n_bm (by omega) (by omega)]
    have d2 : ((3600 : Int64) + Int32.toInt64 x2).toInt = 3600 + g := by
      rw [n_addJ, n_i2l, e2, lJ_3600, n_bmJ (by omega) (by omega)]
    have p : (Int32.toInt64 (x3 - ea_i h 406 t) * ((3600 : Int64) + Int32.toInt64 x2)).toInt = (mi - s) * (3600 + g) := by
      rw [n_mulJ, n_i2l, d, d2, n_bmJ (by omega) (by omega)]
    have q : (Int32.toInt64 (x3 - ea_i h 406 t) * ((3600 : Int64) + Int32.toInt64 x2) / (3600 : Int64)).toInt = sh (mi - s) g := by
      rw [Int64.toInt_div, p, lJ_3600, Int.tdiv_eq_ediv_of_nonneg b.1]
      unfold sh
      exact n_bmJ (by omega) (by omega)
    have sb : 0 ≤ sh (mi - s) g ∧ sh (mi - s) g ≤ 36889140 := by
      unfold sh
      omega
    show (ea_i h 406 t + Int64.toInt32 (Int32.toInt64 (x3 - ea_i h 406 t) * ((3600 : Int64) + Int32.toInt64 x2) / (3600 : Int64))).toInt = _
    rw [n_add, n_l2i (by omega) (by omega), q, sv, n_bm (by omega) (by omega)]
/-- the least and the greatest gain of lo .. g - 1 that fits -/
def gLR (M : Int → Prop) (lo g a b : Int) : Prop := (lo ≤ a ∧ a < g ∧ lo ≤ b ∧ b < g) ∧ M a ∧ M b ∧ ∀ x, lo ≤ x → x < g → M x → a ≤ x ∧ x ≤ b
def gNo (M : Int → Prop) (lo g : Int) : Prop := ∀ x, lo ≤ x → x < g → ¬ M x
theorem c_learn {x1 x2 : Int32} {t : Nat} {s lo hi now m : Int} (e1 : x1.toInt = now) (e2 : x2.toInt = m) {h : ea_H} (ht : t < 10) (hs : ShC h) (c0 : hI h (316 + t) 0 = s) (c1 : hI h (316 + t) 1 = lo) (c2 : hI h (316 + t) 2 = hi) (s0 : 0 ≤ s) (m0 : s ≤ now) (m1 : now ≤ 10079) (g0 : -60 ≤ lo) (g1 : hi ≤ 60) (m2 : 0 ≤ m) (m3 : m ≤ 10079) (hlh : lo ≤ hi) :
    sat (qX2_learn (316 + t) x1 x2 h) fun y => (y = (0, h) ∧ gNo (fun g => sh (now - s) g = m - s) lo (hi + 1)) ∨ ∃ a b : Int32, gLR (fun g => sh (now - s) g = m - s) lo (hi + 1) a.toInt b.toInt ∧ y = (1, ea_wi (ea_wi h (316 + t) 1 a) (316 + t) 2 b) := by
  obtain ⟨-, k2⟩ := clk_ref hs ht
  have sv : (ea_i h (316 + t) 0).toInt = s := c0
  have lv : (ea_i h (316 + t) 1).toInt = lo := c1
  have hv : (ea_i h (316 + t) 2).toInt = hi := c2
  have d1 : (x1 - ea_i h (316 + t) 0).toInt = now - s := by
    rw [n_sub, e1, sv, n_bm (by omega) (by omega)]
  have d2 : (x2 - ea_i h (316 + t) 0).toInt = m - s := by
    rw [n_sub, e2, sv, n_bm (by omega) (by omega)]
  have H : ∀ (k : Nat) (g : Int) (x3 x4 x5 : Int32), g + k = hi + 1 → x5.toInt = g → lo ≤ g → ((x3 = -1000 ∧ gNo (fun g => sh (now - s) g = m - s) lo g) ∨ (x3 ≠ -1000 ∧ gLR (fun g => sh (now - s) g = m - s) lo g x3.toInt x4.toInt)) → sat (qX2_learn_15 (316 + t) x1 x2 x3 x4 x5 h) fun y => (y = (0, h) ∧ gNo (fun g => sh (now - s) g = m - s) lo (hi + 1)) ∨ ∃ a b : Int32, gLR (fun g => sh (now - s) g = m - s) lo (hi + 1) a.toInt b.toInt ∧ y = (1, ea_wi (ea_wi h (316 + t) 1 a) (316 + t) 2 b) := by
    intro k
    induction k with
    | zero =>
      intro g x3 x4 x5 hk e5 hg inv
      have hgh : g = hi + 1 := by omega
      subst hgh
      refine uqX2_learn_15 ?_
      unfold BX2_learn_15
      refine sat_gd k2 (sat_pos (by rw [n_lt, hv, e5]; omega) ?_)
      rcases inv with ⟨i1, i2⟩ | ⟨i1, i2⟩
      · exact sat_pos i1 (sat_ret (Or.inl ⟨rfl, i2⟩))
      · exact sat_neg i1 (sat_gd k2 (sat_sub (sat_gd k2 (sat_sub (sat_ret (Or.inr ⟨x3, x4, i2, rfl⟩))))))
    | succ k ih =>
      intro g x3 x4 x5 hk e5 hg inv
      have e51 : (x5 + 1).toInt = g + 1 := by
        rw [n_add, e5, l_1, n_bm (by omega) (by omega)]
      obtain ⟨v, p, r⟩ := c_shown d1 e5 (by omega) (by omega) (by omega) (by omega) h
      refine uqX2_learn_15 ?_
      unfold BX2_learn_15
      refine sat_gd k2 (sat_neg (by rw [n_lt, hv, e5]; omega) (sat_gd k2 (sat_call p (sat_gd k2 ?_))))
      by_cases c : sh (now - s) g = m - s
      · refine sat_pos (n_eq.mpr (by rw [r, d2, c])) ?_
        have x5n : x5 ≠ -1000 := fun q => by
          rw [q, l_m1000] at e5
          omega
        rcases inv with ⟨i1, i2⟩ | ⟨i1, ⟨i2, i6, i7, i8⟩, i3, i4, i5⟩
        · refine sat_pos i1 (ih (g + 1) x5 x5 (x5 + 1) (by omega) e51 (by omega) (Or.inr ⟨x5n, ⟨by omega, by omega, by omega, by omega⟩, ?_, ?_, fun x q1 q2 q3 => ?_⟩))
          · show sh _ _ = _
            rw [e5]
            exact c
          · show sh _ _ = _
            rw [e5]
            exact c
          · by_cases w : x < g
            · exact absurd q3 (i2 x q1 w)
            · omega
        · refine sat_neg i1 (ih (g + 1) x3 x5 (x5 + 1) (by omega) e51 (by omega) (Or.inr ⟨i1, ⟨by omega, by omega, by omega, by omega⟩, i3, ?_, fun x q1 q2 q3 => ?_⟩))
          · show sh _ _ = _
            rw [e5]
            exact c
          · by_cases w : x < g
            · have := i5 x q1 w q3
              omega
            · omega
      · refine sat_neg (fun q => c (by have := n_eq.mp q; rw [r, d2] at this; exact this)) (ih (g + 1) x3 x4 (x5 + 1) (by omega) e51 (by omega) ?_)
        rcases inv with ⟨i1, i2⟩ | ⟨i1, ⟨i2, i6, i7, i8⟩, i3, i4, i5⟩
        · refine Or.inl ⟨i1, fun x q1 q2 => ?_⟩
          by_cases w : x < g
          · exact i2 x q1 w
          · rw [show x = g by omega]
            exact c
        · refine Or.inr ⟨i1, ⟨i2, by omega, i7, by omega⟩, i3, i4, fun x q1 q2 q3 => ?_⟩
          by_cases w : x < g
          · exact i5 x q1 w q3
          · rw [show x = g by omega] at q3
            exact absurd q3 c
  unfold qX2_learn
  refine uqX2_learn_0 ?_
  unfold BX2_learn_0
  refine sat_gd k2 (H (hi + 1 - lo).toNat lo (-1000) (-1000) _ (by omega) lv (Int.le_refl _) (Or.inl ⟨rfl, fun x q1 q2 => by omega⟩))
theorem m_seen44 {x1 x2 : Int32} {t : Nat} {s lo hi now m : Int} (e1 : x1.toInt = t) (e2 : x2.toInt = m) {h : ea_H} (ht : t < 10) (c0 : hI h 406 t = s) (c2 : hI h 405 t = hi) (hn : hI h 326 0 = now) (s0 : 0 ≤ s) (m0 : s ≤ now) (m1 : now ≤ 10079) (g0 : -60 ≤ lo) (g1 : hi ≤ 60) (m2 : 0 ≤ m) (m3 : m ≤ 10079) (hlh : lo ≤ hi) :
    ∀ (k : Nat) (g : Int) (x3 x4 x5 : Int32), g + k = hi + 1 → x5.toInt = g → lo ≤ g → ((x3.toInt = hi + 1 ∧ x4.toInt = lo - 1 ∧ gNo (fun g => sh (now - s) g = m - s) lo g) ∨ gLR (fun g => sh (now - s) g = m - s) lo g x3.toInt x4.toInt) → sat (qX12_seen_44 x1 x2 x3 x4 x5 h) fun y => (y = (0, h) ∧ gNo (fun g => sh (now - s) g = m - s) lo (hi + 1)) ∨ ∃ a b : Int32, gLR (fun g => sh (now - s) g = m - s) lo (hi + 1) a.toInt b.toInt ∧ y = (1, ea_wi (ea_wi h 404 t a) 405 t b) := by
  have ic1 : x1.toNatClampNeg = t := by
    rw [n_idx, e1]
    rfl
  have hv : (ea_i h 405 t).toInt = hi := c2
  have nv : (ea_i h 326 0).toInt = now := hn
  intro k
  induction k with
  | zero =>
    intro g x3 x4 x5 hk e5 hg inv
    have hgh : g = hi + 1 := by omega
    subst hgh
    refine uqX12_seen_44 ?_
    unfold BX12_seen_44
    rw [ic1]
    refine sat_gd (vp80 e1 ht) (sat_pos (by rw [n_lt, hv, e5]; omega) ?_)
    rcases inv with ⟨i1, i2, i3⟩ | i2
    · exact sat_neg (by rw [n_le]; omega) (sat_ret (Or.inl ⟨rfl, i3⟩))
    · refine sat_pos ?_ (sat_gd (vp80 e1 ht) (sat_sub (sat_gd (vp80 e1 ht) (sat_sub (sat_ret (Or.inr ⟨x3, x4, i2, rfl⟩))))))
      have := i2.2.2.2 x4.toInt i2.1.2.2.1 i2.1.2.2.2 i2.2.2.1
      rw [n_le]
      omega
  | succ k ih =>
    intro g x3 x4 x5 hk e5 hg inv
    have e51 : (x5 + 1).toInt = g + 1 := by
      rw [n_add, e5, l_1, n_bm (by omega) (by omega)]
    obtain ⟨v, p, r⟩ := m_shows e1 e5 nv ht c0 s0 m0 m1 (by omega) (by omega)
    refine uqX12_seen_44 ?_
    unfold BX12_seen_44
    rw [ic1]
    refine sat_gd (vp80 e1 ht) (sat_neg (by rw [n_lt, hv, e5]; omega) (sat_call p ?_))
    by_cases c : sh (now - s) g = m - s
    · refine sat_pos (n_eq.mpr (by rw [r, e2]; omega)) ?_
      have j85 : ∀ y : Int32, (∀ z : Int32, (z.toInt = x4.toInt ∨ z.toInt = g) → x4.toInt ≤ z.toInt → g ≤ z.toInt → gLR (fun g => sh (now - s) g = m - s) lo (g + 1) y.toInt z.toInt) → sat (qX12_seen_85 x1 x2 x4 x5 y h) fun y => (y = (0, h) ∧ gNo (fun g => sh (now - s) g = m - s) lo (hi + 1)) ∨ ∃ a b : Int32, gLR (fun g => sh (now - s) g = m - s) lo (hi + 1) a.toInt b.toInt ∧ y = (1, ea_wi (ea_wi h 404 t a) 405 t b) := by
        intro y hy
        refine uqX12_seen_85 ?_
        unfold BX12_seen_85
        refine sat_ite (fun d => ?_) fun d => ?_
        · rw [n_le, e5] at d
          exact ih (g + 1) y x4 (x5 + 1) (by omega) e51 (by omega) (Or.inr (hy x4 (Or.inl rfl) (Int.le_refl _) d))
        · rw [n_le, e5] at d
          exact ih (g + 1) y x5 (x5 + 1) (by omega) e51 (by omega) (Or.inr (hy x5 (Or.inr e5) (by omega) (by omega)))
      rcases inv with ⟨i1, i2, i3⟩ | ⟨⟨i2, i6, i7, i8⟩, i3, i4, i5⟩
      · refine sat_neg (by rw [n_le, i1, e5]; omega) (j85 x5 fun z q1 q2 q3 => ?_)
        have zg : z.toInt = g := by omega
        rw [e5, zg]
        refine ⟨⟨hg, by omega, hg, by omega⟩, c, c, fun x w1 w2 w3 => ?_⟩
        by_cases w : x < g
        · exact absurd w3 (i3 x w1 w)
        · omega
      · refine sat_pos (by rw [n_le, e5]; omega) (j85 x3 fun z q1 q2 q3 => ?_)
        have zg : z.toInt = g := by omega
        rw [zg]
        refine ⟨⟨i2, by omega, hg, by omega⟩, i3, c, fun x w1 w2 w3 => ?_⟩
        by_cases w : x < g
        · have := i5 x w1 w w3
          omega
        · omega
    · refine sat_neg (fun q => c (by have := n_eq.mp q; rw [r, e2] at this; omega)) (ih (g + 1) x3 x4 (x5 + 1) (by omega) e51 (by omega) ?_)
      rcases inv with ⟨i1, i2, i3⟩ | ⟨⟨i2, i6, i7, i8⟩, i3, i4, i5⟩
      · refine Or.inl ⟨i1, i2, fun x q1 q2 => ?_⟩
        by_cases w : x < g
        · exact i3 x q1 w
        · rw [show x = g by omega]
          exact c
      · refine Or.inr ⟨⟨i2, by omega, i7, by omega⟩, i3, i4, fun x q1 q2 q3 => ?_⟩
        by_cases w : x < g
        · exact i5 x q1 w q3
        · rw [show x = g by omega] at q3
          exact absurd q3 c
theorem call_seen {h : ea_H} {n : Nat} {T : Nat → Nat → Nat → Nat} (hs : ShC h) (bs : SBas h n) (b : STb h T) (c : SCk h) (x1 x2 : Int32) : tw (qX11_seen x1 x2 h) (qX12_seen x1 x2) fun h' => fq [(316, 325), (404, 405)] [] h h' ∧ SCk h' := by
  obtain ⟨ok, cC, cM⟩ := b
  obtain ⟨b1, b2, b3, -⟩ := bs
  have ok1 := ok.1
  have hN : hI h 5 0 = tN T := cC.1
  have hN1 : hI h 326 2 = tN T := cM.1
  have no : ¬ ((0 ≤ x1.toInt ∧ x1.toInt < tN T) ∧ 0 ≤ x2.toInt ∧ x2.toInt ≤ 10079) → sat (some ((0 : Int32), h)) fun y => sat (qX12_seen x1 x2 y.2) fun z => y.1 = z.1 ∧ fq [(316, 325), (404, 405)] [] h z.2 ∧ SCk z.2 := by
    intro hc
    refine sat_ret ?_
    show sat (qX12_seen x1 x2 h) _
    unfold qX12_seen
    refine uqX12_seen_0 ?_
    unfold BX12_seen_0
    obtain ⟨v2, q2, s2⟩ := m_isTrain x1 (h := h) (by omega)
    refine sat_call q2 ?_
    rcases s2 with ⟨r2, s2⟩ | ⟨r2, s2⟩
    · exact sat_pos r2 (sat_ret ⟨rfl, fq_rfl _ _ _, c⟩)
    refine sat_neg (by rw [r2]; exact i1_ne_0) ?_
    dsimp only
    obtain ⟨v3, q3, s3⟩ := m_isMinute x2 h
    refine sat_call q3 ?_
    rcases s3 with ⟨r3, s3⟩ | ⟨r3, s3⟩
    · exact sat_pos r3 (sat_ret ⟨rfl, fq_rfl _ _ _, c⟩)
    refine sat_neg (by rw [r3]; exact i1_ne_0) ?_
    dsimp only
    omega
  unfold tw qX11_seen BX11_seen_0
  obtain ⟨v1, q1, s1⟩ := c_train x1 h
  refine sat_call q1 ?_
  rcases s1 with ⟨r1, s1⟩ | ⟨r1, s1⟩
  · exact sat_pos r1 (no (by omega))
  refine sat_neg (by rw [r1]; exact i1_ne_0) ?_
  dsimp only
  refine sat_ite (fun d1 => ?_) fun d1 => ?_
  · simp only [n_lt, n_le, n_eq, hI_eq, l_m1000, l_m100, l_m60, l_m19, l_m18, l_m17, l_m16, l_m15, l_m14, l_m13, l_m12, l_m11, l_m10, l_m8, l_m1, l_0, l_1, l_2, l_3, l_4, l_5, l_6, l_7, l_8, l_9, l_10, l_11, l_12, l_13, l_14, l_15, l_16, l_17, l_18, l_19, l_20, l_21, l_24, l_25, l_32, l_40, l_41, l_42, l_43, l_45, l_47, l_48, l_57, l_59, l_60, l_61, l_62, l_63, l_64, l_65, l_70, l_80, l_90, l_97, l_99, l_100, l_120, l_122, l_127, l_144, l_150, l_201, l_202, l_203, l_204, l_205, l_206, l_207, l_255, l_300, l_364, l_480, l_560, l_600, l_601, l_620, l_840, l_900, l_980, l_999, l_1000, l_1023, l_1024, l_1220, l_1439, l_1440, l_2240, l_2400, l_3000, l_3600, l_4095, l_4096, l_7320, l_9999, l_10079, l_10080, l_12000, l_99999, l_120000, l_1000000, l_2147483647] at d1
    exact no (by omega)
  simp only [n_lt, n_le, n_eq, hI_eq, l_m1000, l_m100, l_m60, l_m19, l_m18, l_m17, l_m16, l_m15, l_m14, l_m13, l_m12, l_m11, l_m10, l_m8, l_m1, l_0, l_1, l_2, l_3, l_4, l_5, l_6, l_7, l_8, l_9, l_10, l_11, l_12, l_13, l_14, l_15, l_16, l_17, l_18, l_19, l_20, l_21, l_24, l_25, l_32, l_40, l_41, l_42, l_43, l_45, l_47, l_48, l_57, l_59, l_60, l_61, l_62, l_63, l_64, l_65, l_70, l_80, l_90, l_97, l_99, l_100, l_120, l_122, l_127, l_144, l_150, l_201, l_202, l_203, l_204, l_205, l_206, l_207, l_255, l_300, l_364, l_480, l_560, l_600, l_601, l_620, l_840, l_900, l_980, l_999, l_1000, l_1023, l_1024, l_1220, l_1439, l_1440, l_2240, l_2400, l_3000, l_3600, l_4095, l_4096, l_7320, l_9999, l_10079, l_10080, l_12000, l_99999, l_120000, l_1000000, l_2147483647] at d1
  refine sat_eti (fun d2 => ?_) fun d2 => ?_
  · simp only [n_lt, n_le, n_eq, hI_eq, l_m1000, l_m100, l_m60, l_m19, l_m18, l_m17, l_m16, l_m15, l_m14, l_m13, l_m12, l_m11, l_m10, l_m8, l_m1, l_0, l_1, l_2, l_3, l_4, l_5, l_6, l_7, l_8, l_9, l_10, l_11, l_12, l_13, l_14, l_15, l_16, l_17, l_18, l_19, l_20, l_21, l_24, l_25, l_32, l_40, l_41, l_42, l_43, l_45, l_47, l_48, l_57, l_59, l_60, l_61, l_62, l_63, l_64, l_65, l_70, l_80, l_90, l_97, l_99, l_100, l_120, l_122, l_127, l_144, l_150, l_201, l_202, l_203, l_204, l_205, l_206, l_207, l_255, l_300, l_364, l_480, l_560, l_600, l_601, l_620, l_840, l_900, l_980, l_999, l_1000, l_1023, l_1024, l_1220, l_1439, l_1440, l_2240, l_2400, l_3000, l_3600, l_4095, l_4096, l_7320, l_9999, l_10079, l_10080, l_12000, l_99999, l_120000, l_1000000, l_2147483647] at d2
    exact no (by omega)
  simp only [n_lt, n_le, n_eq, hI_eq, l_m1000, l_m100, l_m60, l_m19, l_m18, l_m17, l_m16, l_m15, l_m14, l_m13, l_m12, l_m11, l_m10, l_m8, l_m1, l_0, l_1, l_2, l_3, l_4, l_5, l_6, l_7, l_8, l_9, l_10, l_11, l_12, l_13, l_14, l_15, l_16, l_17, l_18, l_19, l_20, l_21, l_24, l_25, l_32, l_40, l_41, l_42, l_43, l_45, l_47, l_48, l_57, l_59, l_60, l_61, l_62, l_63, l_64, l_65, l_70, l_80, l_90, l_97, l_99, l_100, l_120, l_122, l_127, l_144, l_150, l_201, l_202, l_203, l_204, l_205, l_206, l_207, l_255, l_300, l_364, l_480, l_560, l_600, l_601, l_620, l_840, l_900, l_980, l_999, l_1000, l_1023, l_1024, l_1220, l_1439, l_1440, l_2240, l_2400, l_3000, l_3600, l_4095, l_4096, l_7320, l_9999, l_10079, l_10080, l_12000, l_99999, l_120000, l_1000000, l_2147483647] at d2
  have e1 : x1.toInt = (x1.toInt.toNat : Int) := by omega
  have ht : x1.toInt.toNat < 10 := by omega
  generalize x1.toInt.toNat = t at *
  have ic1 : x1.toNatClampNeg = t := by
    rw [n_idx, e1]
    rfl
  obtain ⟨k1, k2⟩ := clk_ref hs ht
  obtain ⟨w1, ⟨w2, w3⟩, w4, w5, w6, w7, w8⟩ := c t ht
  have hin : inB [(316, 325)] (316 + t) = true := inB_at List.mem_cons_self (by show 316 ≤ 316 + t; omega) (by show 316 + t ≤ 325; omega)
  have ref : ∀ (h1 : ea_H) (Q : Int32 × ea_H → Prop), hI h1 326 2 = tN T → (∀ a k, 326 ≤ a → hI h1 a k = hI h a k) → (gNo (fun g => sh (hI h 326 0 - hI h 406 t) g = x2.toInt - hI h 406 t) (hI h 404 t) (hI h 405 t + 1) → sat (some ((0 : Int32), h1)) Q) → (∀ a b : Int32, gLR (fun g => sh (hI h 326 0 - hI h 406 t) g = x2.toInt - hI h 406 t) (hI h 404 t) (hI h 405 t + 1) a.toInt b.toInt → sat (some ((1 : Int32), ea_wi (ea_wi h1 404 t a) 405 t b)) Q) → sat (qX12_seen x1 x2 h1) Q := by
    intro h1 Q hn1 same Kn Ky
    unfold qX12_seen
    refine uqX12_seen_0 ?_
    unfold BX12_seen_0
    obtain ⟨v2, q2, s2⟩ := m_isTrain x1 (h := h1) (by omega)
    refine sat_call q2 ?_
    rcases s2 with ⟨r2, s2⟩ | ⟨r2, s2⟩
    · exact sat_pos r2 (absurd s2 (by omega))
    refine sat_neg (by rw [r2]; exact i1_ne_0) ?_
    dsimp only
    obtain ⟨v3, q3, s3⟩ := m_isMinute x2 h1
    refine sat_call q3 ?_
    rcases s3 with ⟨r3, s3⟩ | ⟨r3, s3⟩
    · exact sat_pos r3 (absurd s3 (by omega))
    refine sat_neg (by rw [r3]; exact i1_ne_0) ?_
    dsimp only
    rw [ic1]
    have v4 : (ea_i h1 405 t).toInt = hI h 405 t := same 405 t (by decide)
    have v5 : (ea_i h1 404 t).toInt = hI h 404 t := same 404 t (by decide)
    have v41 : (ea_i h1 405 t + 1).toInt = hI h 405 t + 1 := by rw [n_add, v4, l_1, n_bm (by omega) (by omega)]
    have v51 : (ea_i h1 404 t - 1).toInt = hI h 404 t - 1 := by rw [n_sub, v5, l_1, n_bm (by omega) (by omega)]
    refine sat_gd (vp80 e1 ht) (sat_sub (sat_gd (vp80 e1 ht) (sat_sub (sat_gd (vp80 e1 ht) (sat_sub ?_)))))
    obtain ⟨z, z1, z2⟩ := m_seen44 e1 rfl ht (same 406 t (by decide)) (same 405 t (by decide)) (same 326 0 (by decide)) w2 w3 b3 w6 w8 s3.1 s3.2 w7 (hI h 405 t + 1 - hI h 404 t).toNat (hI h 404 t) _ _ _ (by omega) v5 (Int.le_refl _) (Or.inl ⟨v41, v51, fun x q1 q2 => by omega⟩)
    rcases z2 with ⟨z2, z3⟩ | ⟨a, b, z2, z3⟩
    · obtain ⟨u, u1, u2⟩ := Kn z3
      injection u1 with u1
      exact ⟨z, z1, by rw [z2, u1]; exact u2⟩
    · obtain ⟨u, u1, u2⟩ := Ky a b z2
      injection u1 with u1
      exact ⟨z, z1, by rw [z3, u1]; exact u2⟩
  rw [ic1, k1]
  refine sat_gd (vp80 e1 ht) (sat_gd rfl (sat_gd k2 ?_))
  have L := c_learn (x1 := ea_i h 0 14) (x2 := x2) (t := t) b1 rfl ht hs w1 w4 w5 w2 w3 b3 w6 w8 (by omega) (by omega) w7
  refine sat_bind L fun y hy => ?_
  rcases hy with ⟨rfl, hy⟩ | ⟨a, b, hy, rfl⟩
  · refine sat_gd (Or.inl rfl) (sat_ret ?_)
    refine ref h _ hN1 (fun _ _ _ => rfl) (fun _ => sat_ret ⟨rfl, fq_rfl _ _ _, c⟩) fun a b q => ?_
    exact absurd q.2.1 (hy a.toInt q.1.1 q.1.2.1)
  · refine sat_gd (Or.inr rfl) (sat_ret ?_)
    show sat (qX12_seen x1 x2 (ea_wi (ea_wi h (316 + t) 1 a) (316 + t) 2 b)) _
    have f : fq [(316, 325)] [] h (ea_wi (ea_wi h (316 + t) 1 a) (316 + t) 2 b) := (fq_wi hin).tr (fq_wi hin)
    have r0 : ∀ p k, hI (ea_wi (ea_wi h (316 + t) 1 a) (316 + t) 2 b) (316 + p) k = if p = t ∧ k = 2 then b.toInt else if p = t ∧ k = 1 then a.toInt else hI h (316 + p) k := by
      intro p k
      rw [hI_wi, hI_wi]
      by_cases q : p = t ∧ k = 2
      · rw [if_pos (by omega), if_pos q]
      · rw [if_neg (by omega), if_neg q]
        by_cases q2 : p = t ∧ k = 1
        · rw [if_pos (by omega), if_pos q2]
        · rw [if_neg (by omega), if_neg q2]
    generalize ea_wi (ea_wi h (316 + t) 1 a) (316 + t) 2 b = H1 at *
    have same : ∀ a k, 326 ≤ a → hI H1 a k = hI h a k := fun q k hq => f.2.1 q (by
      rw [Bool.eq_false_iff]
      intro z
      obtain ⟨r, r1, r2, r3⟩ := inB_iff.mp z
      rw [List.mem_singleton.mp r1] at r3
      have : q ≤ 325 := r3
      omega) k rfl
    refine ref H1 _ ((same 326 2 (by decide)).trans hN1) same (fun z => absurd hy.2.1 (z _ hy.1.1 hy.1.2.1)) fun a2 b2 q => ?_
    have ea : a2.toInt = a.toInt := by
      have h1 := q.2.2.2 a.toInt hy.1.1 hy.1.2.1 hy.2.1
      have h2 := hy.2.2.2 a2.toInt q.1.1 q.1.2.1 q.2.1
      omega
    have eb : b2.toInt = b.toInt := by
      have h1 := q.2.2.2 b.toInt hy.1.2.2.1 hy.1.2.2.2 hy.2.2.1
      have h2 := hy.2.2.2 b2.toInt q.1.2.2.1 q.1.2.2.2 q.2.2.1
      omega
    have hab := hy.2.2.2 b.toInt hy.1.2.2.1 hy.1.2.2.2 hy.2.2.1
    obtain ⟨y1, y2, y3, y4⟩ := hy.1
    have g : fq [(404, 405)] [] H1 (ea_wi (ea_wi H1 404 t a2) 405 t b2) := (fq_wi rfl).tr (fq_wi rfl)
    have F : fq [(316, 325), (404, 405)] [] h (ea_wi (ea_wi H1 404 t a2) 405 t b2) := (f.up rfl rfl).tr (g.up rfl rfl)
    refine sat_ret ⟨rfl, F, fun p hp => ?_⟩
    obtain ⟨z1, z2, z4, z5, z6, z7, z8⟩ := c p hp
    show hI (ea_wi (ea_wi H1 404 t a2) 405 t b2) (316 + p) 0 = hI (ea_wi (ea_wi H1 404 t a2) 405 t b2) 406 p ∧ (0 ≤ hI (ea_wi (ea_wi H1 404 t a2) 405 t b2) 406 p ∧ hI (ea_wi (ea_wi H1 404 t a2) 405 t b2) 406 p ≤ hI (ea_wi (ea_wi H1 404 t a2) 405 t b2) 326 0) ∧ hI (ea_wi (ea_wi H1 404 t a2) 405 t b2) (316 + p) 1 = hI (ea_wi (ea_wi H1 404 t a2) 405 t b2) 404 p ∧ hI (ea_wi (ea_wi H1 404 t a2) 405 t b2) (316 + p) 2 = hI (ea_wi (ea_wi H1 404 t a2) 405 t b2) 405 p ∧ -60 ≤ hI (ea_wi (ea_wi H1 404 t a2) 405 t b2) 404 p ∧ hI (ea_wi (ea_wi H1 404 t a2) 405 t b2) 404 p ≤ hI (ea_wi (ea_wi H1 404 t a2) 405 t b2) 405 p ∧ hI (ea_wi (ea_wi H1 404 t a2) 405 t b2) 405 p ≤ 60
    have x4 : hI (ea_wi (ea_wi H1 404 t a2) 405 t b2) 404 p = if p = t then a.toInt else hI h 404 p := by
      rw [hI_ne (by decide), hI_row, same 404 p (by decide), ea]
    have x5 : hI (ea_wi (ea_wi H1 404 t a2) 405 t b2) 405 p = if p = t then b.toInt else hI h 405 p := by
      rw [hI_row, hI_ne (by decide), same 405 p (by decide), eb]
    have x0 : ∀ k, hI (ea_wi (ea_wi H1 404 t a2) 405 t b2) (316 + p) k = hI H1 (316 + p) k := fun k => by
      rw [hI_ne (by omega), hI_ne (by omega)]
    rw [x0, x0, x0, x4, x5, F.C 406 rfl rfl, F.I 326 rfl 0 rfl, r0, r0, r0, if_neg (by omega), if_neg (by omega), if_neg (show ¬ (p = t ∧ 1 = 2) by omega)]
    by_cases q : p = t
    · subst q
      rw [if_pos (show p = p ∧ 1 = 1 from ⟨rfl, rfl⟩), if_pos (show p = p ∧ 2 = 2 from ⟨rfl, rfl⟩), if_pos (show p = p from rfl), if_pos (show p = p from rfl)]
      exact ⟨z1, z2, rfl, rfl, by omega, by omega, by omega⟩
    · rw [if_neg (show ¬ (p = t ∧ 1 = 1) from fun z => q z.1), if_neg (show ¬ (p = t ∧ 2 = 2) from fun z => q z.1), if_neg (show ¬ (p = t ∧ 2 = 1) from fun z => q z.1), if_neg q, if_neg q]
      exact ⟨z1, z2, z4, z5, z6, z7, z8⟩
