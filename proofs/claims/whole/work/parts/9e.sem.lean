/-! calls: run -/
section RU
variable {T : Nat → Nat → Nat → Nat} {m : Nat} {X : Nat → Nat → Int} {h : ea_H}
theorem tGm_lt (ok : tOk T) {t d : Nat} (ht : t < 10) : ∀ j i, i ≤ j → j + 1 < tS T t → tGm T t d i ≤ tGm T t d j := by
  intro j i hij
  obtain ⟨k, rfl⟩ : ∃ k, j = i + k := ⟨j - i, by omega⟩
  clear hij
  induction k with
  | zero => exact fun _ => Nat.le_refl _
  | succ k ih =>
    intro hj
    have a := ih (by omega)
    have b := ok.2.2.2.2.1 t (i + k) ht (by omega)
    have c := (ok.2.2.2.1 t (i + k + 1) ht (by omega)).2.1
    unfold tGm at a ⊢
    rw [show i + (k + 1) = i + k + 1 by omega]
    omega
/-- the last stop that a run has left -/
def gnP (T : Nat → Nat → Nat → Nat) (t d : Nat) (now v : Int) : Prop := -1 ≤ v ∧ (v = -1 ∨ v + 1 < tS T t) ∧ ∀ i : Nat, i + 1 < tS T t → ((i : Int) ≤ v ↔ (tGm T t d i : Int) ≤ now)
theorem gnP_u {t d : Nat} {now v w : Int} (a : gnP T t d now v) (b : gnP T t d now w) : v = w := by
  have half : ∀ {v w : Int}, gnP T t d now v → gnP T t d now w → ¬ v < w := by
    intro v w a b z
    obtain ⟨a1, a2, a3⟩ := a
    obtain ⟨b1, b2, b3⟩ := b
    have q := (b3 w.toNat (by omega)).mp (by omega)
    have := (a3 w.toNat (by omega)).mpr q
    omega
  have := half a b
  have := half b a
  omega
theorem c_gone (ok : tOk T) (b : CTab h T) {x1 x2 x3 : Int32} {t d : Nat} {now : Int} (e1 : x1.toInt = t) (e2 : x2.toInt = d) (e3 : x3.toInt = now) (ht : t < 10) (hd : d < 7) : sat (qX9_goneFrom x1 x2 x3 h) fun y => y.2 = h ∧ gnP T t d now y.1.toInt := by
  have hs := ok.2.1 t ht
  have ic : x1.toNatClampNeg = t := by
    rw [n_idx, e1]
    rfl
  have v6 : (ea_i h 6 t).toInt = tS T t := b.2.1 t ht
  have H : ∀ (j i : Nat) (x4 x5 : Int32), i + j = tS T t - 1 → x5.toInt = i → -1 ≤ x4.toInt → (x4.toInt < i) → (∀ k : Nat, k < i → ((k : Int) ≤ x4.toInt ↔ (tGm T t d k : Int) ≤ now)) → sat (qX9_goneFrom_6 x1 x2 x3 x4 x5 h) fun y => y.2 = h ∧ gnP T t d now y.1.toInt := by
    intro j
    induction j with
    | zero =>
      intro i x4 x5 hi e5 h4 h5 hk
      refine uqX9_goneFrom_6 ?_
      unfold BX9_goneFrom_6
      rw [ic]
      refine sat_gd (vp80 e1 ht) (sat_pos ?_ (sat_ret ⟨rfl, h4, ?_, fun k hk2 => hk k (by omega)⟩))
      · rw [n_le, e5, n_sub, v6, l_1, n_bm (by omega) (by omega)]
        omega
      · show x4.toInt = -1 ∨ x4.toInt + 1 < tS T t
        omega
    | succ j ih =>
      intro i x4 x5 hi e5 h4 h5 hk
      obtain ⟨v, p, r⟩ := c_goesAt e1 e2 e5 b ok ht hd (by omega)
      refine uqX9_goneFrom_6 ?_
      unfold BX9_goneFrom_6
      rw [ic]
      refine sat_gd (vp80 e1 ht) (sat_neg ?_ (sat_call p (sat_ite (fun c => ?_) fun c => ?_)))
      · rw [n_le, e5, n_sub, v6, l_1, n_bm (by omega) (by omega)]
        omega
      · rw [n_lt, r, e3] at c
        refine ih (i + 1) x4 (x5 + 1) (by omega) (n_inc e5 (by omega)) h4 (by omega) fun k hk2 => ?_
        by_cases z : k = i
        · rw [z]
          omega
        · exact hk k (by omega)
      · rw [n_lt, r, e3] at c
        refine ih (i + 1) x5 (x5 + 1) (by omega) (n_inc e5 (by omega)) (by omega) (by omega) fun k hk2 => ?_
        have := tGm_lt ok (t := t) (d := d) ht i k (by omega) (by omega)
        omega
  unfold qX9_goneFrom
  refine uqX9_goneFrom_0 ?_
  unfold BX9_goneFrom_0
  by_cases z : tS T t = 0
  · refine uqX9_goneFrom_6 ?_
    unfold BX9_goneFrom_6
    rw [ic]
    refine sat_gd (vp80 e1 ht) (sat_pos ?_ (sat_ret ⟨rfl, Int.le_refl _, Or.inl rfl, fun i hi => by omega⟩))
    rw [n_le, l_0, n_sub, v6, l_1, n_bm (by omega) (by omega)]
    omega
  · exact H (tS T t - 1) 0 (-1) 0 (by omega) rfl (by decide) (by decide) fun k hk => absurd hk (Nat.not_lt_zero _)
theorem m_gone (ok : tOk T) (b : MTab h T) {x1 : Int32} {t d : Nat} (e1 : x1.toInt = ((7 * t + d : Nat) : Int)) (ht : t < 10) (hd : d < 7) : sat (qX12_gone x1 h) fun y => y.2 = h ∧ gnP T t d (hI h 326 0) y.1.toInt := by
  have hs := ok.2.1 t ht
  have j0 : (x1 / (7 : Int32)).toInt = t := by
    rw [n_div7 (by omega), e1]
    omega
  have ic : (x1 / (7 : Int32)).toNatClampNeg = t := by
    rw [n_idx, j0]
    rfl
  have v6 : (ea_i h 328 t).toInt = tS T t := b.2.1 t ht
  have H : ∀ (j i : Nat) (x2 : Int32), i + j = tS T t → x2.toInt = (i : Int) - 1 → (i = 0 ∨ i < tS T t) → (∀ k : Nat, k < i → (tGm T t d k : Int) ≤ hI h 326 0) → sat (qX12_gone_2 x1 x2 h) fun y => y.2 = h ∧ gnP T t d (hI h 326 0) y.1.toInt := by
    intro j
    induction j with
    | zero =>
      intro i x2 hi e2 h2 hk
      refine uqX12_gone_2 ?_
      unfold BX12_gone_2
      rw [ic]
      refine sat_gd (vp80 j0 ht) (sat_pos ?_ (sat_ret ⟨rfl, ?_⟩))
      · rw [n_le, v6, n_add, e2, l_2, n_bm (by omega) (by omega)]
        omega
      · show gnP T t d (hI h 326 0) x2.toInt
        rw [e2]
        refine ⟨by omega, by omega, fun k hk2 => by omega⟩
    | succ j ih =>
      intro i x2 hi e2 h2 hk
      refine uqX12_gone_2 ?_
      unfold BX12_gone_2
      rw [ic]
      refine sat_gd (vp80 j0 ht) (sat_ite (fun c => ?_) fun c => ?_)
      · rw [n_le, v6, n_add, e2, l_2, n_bm (by omega) (by omega)] at c
        refine sat_ret ⟨rfl, ?_⟩
        show gnP T t d (hI h 326 0) x2.toInt
        rw [e2]
        refine ⟨by omega, by omega, fun k hk2 => ⟨fun _ => hk k (by omega), fun _ => by omega⟩⟩
      · rw [n_le, v6, n_add, e2, l_2, n_bm (by omega) (by omega)] at c
        have e3 : (x2 + (1 : Int32)).toInt = i := by
          rw [n_add, e2, l_1, n_bm (by omega) (by omega)]
          omega
        obtain ⟨v, p, r⟩ := m_goesAt e1 e3 b ok ht hd (by omega)
        refine sat_call p (sat_ite (fun c2 => ?_) fun c2 => ?_)
        · rw [n_lt, r, hI_eq] at c2
          dsimp only at c2
          refine sat_ret ⟨rfl, ?_⟩
          show gnP T t d (hI h 326 0) x2.toInt
          rw [e2]
          refine ⟨by omega, by omega, fun k hk2 => ⟨fun _ => hk k (by omega), fun z => ?_⟩⟩
          apply Classical.byContradiction
          intro w
          have := tGm_lt ok (t := t) (d := d) ht k i (by omega) hk2
          omega
        · rw [n_lt, r, hI_eq] at c2
          dsimp only at c2
          refine ih (i + 1) (x2 + 1) (by omega) (by rw [e3]; omega) (by omega) fun k hk2 => ?_
          by_cases z : k = i
          · rw [z]
            omega
          · exact hk k (by omega)
  unfold qX12_gone
  refine uqX12_gone_0 ?_
  unfold BX12_gone_0
  exact H (tS T t) 0 (-1) (by omega) rfl (Or.inl rfl) fun k hk => absurd hk (Nat.not_lt_zero _)
noncomputable def runF (T : Nat → Nat → Nat → Nat) (X : Nat → Nat → Int) (m t d : Nat) (g k : Int) : Int :=
  if k = 0 then cnt (fun q => (X 0 q = 1 ∧ X 1 q = ((10 * d + t : Nat) : Int)) ∧ X 4 q = 0) m else if k = 1 then cnt (fun q => (X 0 q = 1 ∧ X 1 q = ((10 * d + t : Nat) : Int)) ∧ X 4 q = 1) m else if k = 2 then g else if k = 3 then X 6 (10 * d + t) else if k = 4 then tD T t d else -1
theorem c_aboardOf (rc : RC52 m X h) {x1 x2 : Int32} {r : Nat} {s : Int} (e1 : x1.toInt = r) (e2 : x2.toInt = s) : sat (qX1_aboardOf_at52 x1 x2 h) fun y => y.2 = h ∧ y.1.toInt = cnt (fun q => (X 0 q = 1 ∧ X 1 q = (r : Int)) ∧ X 4 q = s) m := by
  have rc0 := rc
  obtain ⟨⟨r0, r1⟩, r2, -⟩ := rc
  have H : ∀ (j e : Nat) (x3 x4 : Int32), e + j = m → x4.toInt = e → x3.toInt = cnt (fun q => (X 0 q = 1 ∧ X 1 q = (r : Int)) ∧ X 4 q = s) e → sat (qX1_aboardOf_at52_5 x1 x2 x3 x4 h) fun y => y.2 = h ∧ y.1.toInt = cnt (fun q => (X 0 q = 1 ∧ X 1 q = (r : Int)) ∧ X 4 q = s) m := by
    intro j
    induction j with
    | zero =>
      intro e x3 x4 he e4 e3
      refine uqX1_aboardOf_at52_5 ?_
      unfold BX1_aboardOf_at52_5
      refine sat_pos (by rw [n_le, hI_eq, r0, e4]; omega) (sat_ret ⟨rfl, ?_⟩)
      rw [show m = e by omega]
      exact e3
    | succ j ih =>
      intro e x3 x4 he e4 e3
      refine uqX1_aboardOf_at52_5 ?_
      unfold BX1_aboardOf_at52_5
      have ic : x4.toNatClampNeg = e := by
        rw [n_idx, e4]
        rfl
      have cb := cnt_b (fun q => (X 0 q = 1 ∧ X 1 q = (r : Int)) ∧ X 4 q = s) e
      obtain ⟨v, p, q⟩ := c_isAboard52 e4 e1 (show e < m by omega) rc0
      refine sat_neg (by rw [n_le, hI_eq, r0, e4]; omega) (sat_call p ?_)
      rcases q with ⟨q1, q2⟩ | ⟨q1, q2⟩
      · have v0 : (ea_i h 57 e).toInt = X 4 e := ((r2 e (by omega)).2.2.2.1 q2.1).2
        refine sat_neg (by rw [q1]; exact i1_ne_0) (sat_gd (vp80 e4 (by omega)) ?_)
        dsimp only
        rw [ic]
        refine sat_ite (fun c => ?_) fun c => ?_
        · rw [n_eq, v0, e2] at c
          refine ih (e + 1) (x3 + 1) (x4 + 1) (by omega) (n_inc e4 (by omega)) ?_
          rw [cnt_s, one_pos ⟨q2, c⟩, n_add, e3, l_1, n_bm (by omega) (by omega)]
        · rw [n_eq, v0, e2] at c
          refine ih (e + 1) x3 (x4 + 1) (by omega) (n_inc e4 (by omega)) ?_
          rw [cnt_s, one_neg fun z => c z.2, e3]
          omega
      · refine sat_pos q1 ?_
        refine ih (e + 1) x3 (x4 + 1) (by omega) (n_inc e4 (by omega)) ?_
        rw [cnt_s, one_neg fun z => q2 z.1, e3]
        omega
  unfold qX1_aboardOf_at52
  refine uqX1_aboardOf_at52_0 ?_
  unfold BX1_aboardOf_at52_0
  exact H m 0 0 0 (by omega) rfl rfl
theorem m_aboardOf (rm : RM0 m X h) {x3 x4 : Int32} {t d : Nat} {s : Int} (e3 : x3.toInt = s) (e4 : x4.toInt = ((7 * t + d : Nat) : Int)) (ht : t < 10) (hd : d < 7) (hs : s = 0 ∨ s = 1) : ∀ (j e : Nat) (x5 x6 : Int32), e + j = m → x6.toInt = e → x5.toInt = cnt (fun q => (X 0 q = 1 ∧ X 1 q = ((10 * d + t : Nat) : Int)) ∧ X 4 q = s) e → sat (qX12_run__67 x3 x4 x5 x6 h) fun y => y.2 = h ∧ y.1.toInt = cnt (fun q => (X 0 q = 1 ∧ X 1 q = ((10 * d + t : Nat) : Int)) ∧ X 4 q = s) m := by
  have rm0 := rm
  obtain ⟨⟨p0, p1⟩, p2, p3, -⟩ := rm
  intro j
  induction j with
  | zero =>
    intro e x5 x6 he e6 e5
    refine uqX12_run__67 ?_
    unfold BX12_run__67
    refine sat_pos (by rw [n_le, hI_eq, p0, e6]; omega) (sat_ret ⟨rfl, ?_⟩)
    rw [show m = e by omega]
    exact e5
  | succ j ih =>
    intro e x5 x6 he e6 e5
    refine uqX12_run__67 ?_
    unfold BX12_run__67
    have ic : x6.toNatClampNeg = e := by
      rw [n_idx, e6]
      rfl
    have cb := cnt_b (fun q => (X 0 q = 1 ∧ X 1 q = ((10 * d + t : Nat) : Int)) ∧ X 4 q = s) e
    obtain ⟨v, p, q⟩ := m_isAboard e6 e4 ht hd (show e < m by omega) rm0
    refine sat_neg (by rw [n_le, hI_eq, p0, e6]; omega) (sat_call p ?_)
    rcases q with ⟨q1, q2⟩ | ⟨q1, q2⟩
    · have v0 : (ea_i h 387 e).toInt = X 4 e := p3 e (by omega) q2.1
      refine sat_neg (by rw [q1]; exact i1_ne_0) (sat_gd (vp80 e6 (by omega)) ?_)
      dsimp only
      rw [ic]
      have K : ∀ s0 : Int32, s0.toInt = s → sat (qX12_run__106 x3 x4 x6 s0 (ea_i h 387 e) x5 h) fun y => y.2 = h ∧ y.1.toInt = cnt (fun q => (X 0 q = 1 ∧ X 1 q = ((10 * d + t : Nat) : Int)) ∧ X 4 q = s) m := by
        intro s0 es
        refine uqX12_run__106 ?_
        unfold BX12_run__106
        refine sat_ite (fun c => ?_) fun c => ?_
        · rw [n_eq, v0, es] at c
          refine sat_sub (ih (e + 1) (x5 + 1) (x6 + 1) (by omega) (n_inc e6 (by omega)) ?_)
          rw [cnt_s, one_pos ⟨q2, c⟩, n_add, e5, l_1, n_bm (by omega) (by omega)]
        · rw [n_eq, v0, es] at c
          refine sat_sub (ih (e + 1) (x5 + 0) (x6 + 1) (by omega) (n_inc e6 (by omega)) ?_)
          rw [cnt_s, one_neg fun z => c z.2, n_add, e5, l_0, n_bm (by omega) (by omega)]
      refine sat_ite (fun c => ?_) fun c => ?_
      · rw [n_eq, e3, l_1] at c
        exact K 1 (by rw [l_1]; omega)
      · rw [n_eq, e3, l_1] at c
        exact K 0 (by rw [l_0]; omega)
    · refine sat_pos q1 (sat_sub ?_)
      refine ih (e + 1) (x5 + 0) (x6 + 1) (by omega) (n_inc e6 (by omega)) ?_
      rw [cnt_s, one_neg fun z => q2 z.1, n_add, e5, l_0, n_bm (by omega) (by omega)]
theorem call_run {n : Nat} (bs : SBas h n) (b : STb h T) (rc : RC52 m X h) (rm : RM0 m X h) (x1 x2 x3 : Int32) : tw (qX11_run x1 x2 x3 h) (qX12_run_ x1 x2 x3) fun h' => h' = h := by
  obtain ⟨ok, cC, cM⟩ := b
  obtain ⟨b1, -⟩ := bs
  have hC : hI h 5 0 = tN T := cC.1
  have hM : hI h 326 2 = tN T := cM.1
  have ok1 := ok.1
  by_cases hv : (0 ≤ x1.toInt ∧ x1.toInt < tN T) ∧ 0 ≤ x2.toInt ∧ x2.toInt < 7
  · obtain ⟨⟨t0, t1⟩, d0, d1⟩ := hv
    obtain ⟨t, e1⟩ : ∃ t : Nat, x1.toInt = t := ⟨x1.toInt.toNat, by omega⟩
    obtain ⟨d, e2⟩ : ∃ d : Nat, x2.toInt = d := ⟨x2.toInt.toNat, by omega⟩
    have ht : t < 10 := by omega
    have hd : d < 7 := by omega
    have cg := c_gone ok cC e1 e2 (x3 := ea_i h 0 14) b1 ht hd
    obtain ⟨⟨g, hg⟩, g1, g2, g3⟩ := cg
    have g2 : hg = h := g2
    subst g2
    have g3 : gnP T t d (hI hg 326 0) g.toInt := g3
    refine tw_ro (n := runF T X m t d g.toInt x3.toInt) ?_ ?_
    · unfold qX11_run BX11_run_0
      obtain ⟨v, p, q⟩ := c_hasRun x1 x2 hg
      refine sat_call p ?_
      rcases q with ⟨q1, q2⟩ | ⟨q1, q2⟩
      · exact absurd ⟨⟨t0, by omega⟩, d0, d1⟩ q2
      refine sat_neg (by rw [q1]; exact i1_ne_0) (sat_let fun v2 hv2 => ?_)
      have er : v2.toInt = ((10 * d + t : Nat) : Int) := by
        rw [hv2, n_add, n_mul, e1, e2, l_10, n_bm (z := 10 * (d : Int)) (by omega) (by omega), n_bm (by omega) (by omega)]
        omega
      have ic : v2.toNatClampNeg = 10 * d + t := by
        rw [n_idx, er]
        rfl
      dsimp only
      refine sat_ite (fun c => ?_) fun c0 => ?_
      · refine sat_bind (c_aboardOf rc er (s := 0) rfl) fun y hy => sat_ret ⟨hy.1, ?_⟩
        rw [c]
        exact hy.2
      refine sat_ite (fun c => ?_) fun c1 => ?_
      · refine sat_bind (c_aboardOf rc er (s := 1) rfl) fun y hy => sat_ret ⟨hy.1, ?_⟩
        rw [c]
        exact hy.2
      refine sat_ite (fun c => ?_) fun c2 => ?_
      · refine sat_call g1 (sat_ret ⟨rfl, ?_⟩)
        rw [c]
        rfl
      refine sat_ite (fun c => ?_) fun c3 => ?_
      · refine sat_gd (vp80 er (by omega)) (sat_ret ⟨rfl, ?_⟩)
        rw [c, ic]
        exact rc.2.2.1 _ (by omega)
      refine sat_ite (fun c => ?_) fun c4 => ?_
      · refine sat_gd (vp80 er (by omega)) (sat_ret ⟨rfl, ?_⟩)
        rw [c, ic]
        exact cC.2.2.2 t d ht hd
      refine sat_ret ⟨rfl, ?_⟩
      unfold runF
      rw [if_neg c0, if_neg c1, if_neg c2, if_neg c3, if_neg c4]
      rfl
    · unfold qX12_run_
      refine uqX12_run__0 ?_
      unfold BX12_run__0
      obtain ⟨v1, q1, s1⟩ := m_isTrain x1 (h := hg) (by omega)
      refine sat_call q1 ?_
      rcases s1 with ⟨r1, s1⟩ | ⟨r1, s1⟩
      · exact sat_pos r1 (absurd ⟨t0, by omega⟩ s1)
      refine sat_neg (by rw [r1]; exact i1_ne_0) ?_
      dsimp only
      obtain ⟨v2, q2, s2⟩ := m_isDay x2 hg
      refine sat_call q2 ?_
      rcases s2 with ⟨r2, s2⟩ | ⟨r2, s2⟩
      · exact sat_pos r2 (absurd ⟨d0, d1⟩ s2)
      refine sat_neg (by rw [r2]; exact i1_ne_0) ?_
      dsimp only
      refine sat_call (x := (((7 : Int32) * x1) + x2, hg)) rfl ?_
      have er : ((7 : Int32) * x1 + x2).toInt = ((7 * t + d : Nat) : Int) := by
        rw [n_add, n_mul, e1, e2, show (7 : Int32).toInt = 7 from rfl, n_bm (z := 7 * (t : Int)) (by omega) (by omega), n_bm (by omega) (by omega)]
        omega
      generalize (7 : Int32) * x1 + x2 = v2 at *
      have ic : v2.toNatClampNeg = 7 * t + d := by
        rw [n_idx, er]
        rfl
      dsimp only
      refine sat_ite (fun c => ?_) fun c0 => ?_
      · rw [c]
        exact m_aboardOf rm (s := 0) c er ht hd (Or.inl rfl) m 0 0 0 (by omega) rfl rfl
      refine sat_ite (fun c => ?_) fun c1 => ?_
      · rw [c]
        exact m_aboardOf rm (s := 1) c er ht hd (Or.inr rfl) m 0 0 0 (by omega) rfl rfl
      refine sat_ite (fun c => ?_) fun c2 => ?_
      · refine sat_bind (m_gone ok cM er ht hd) fun y hy => sat_ret ⟨hy.1, ?_⟩
        rw [c]
        exact gnP_u hy.2 g3
      refine sat_ite (fun c => ?_) fun c3 => ?_
      · refine sat_gd (vp80 er (by omega)) (sat_ret ⟨rfl, ?_⟩)
        rw [c, ic]
        exact rm.2.2.2.1 t d ht hd
      refine sat_ite (fun c => ?_) fun c4 => ?_
      · refine sat_gd (vp80 er (by omega)) (sat_ret ⟨rfl, ?_⟩)
        rw [c, ic]
        exact cM.2.2.2 t d ht hd
      refine sat_ret ⟨rfl, ?_⟩
      unfold runF
      rw [if_neg c0, if_neg c1, if_neg c2, if_neg c3, if_neg c4]
      rfl
  · refine tw_ro (n := -1) ?_ ?_
    · unfold qX11_run BX11_run_0
      obtain ⟨v, p, q⟩ := c_hasRun x1 x2 h
      refine sat_call p ?_
      rcases q with ⟨q1, q2⟩ | ⟨q1, q2⟩
      · exact sat_pos q1 (sat_ret ⟨rfl, rfl⟩)
      · exact absurd ⟨⟨q2.1.1, by omega⟩, q2.2⟩ hv
    · unfold qX12_run_
      refine uqX12_run__0 ?_
      unfold BX12_run__0
      obtain ⟨v1, q1, s1⟩ := m_isTrain x1 (h := h) (by omega)
      refine sat_call q1 ?_
      rcases s1 with ⟨r1, s1⟩ | ⟨r1, s1⟩
      · exact sat_pos r1 (sat_ret ⟨rfl, rfl⟩)
      refine sat_neg (by rw [r1]; exact i1_ne_0) ?_
      dsimp only
      obtain ⟨v2, q2, s2⟩ := m_isDay x2 h
      refine sat_call q2 ?_
      rcases s2 with ⟨r2, s2⟩ | ⟨r2, s2⟩
      · exact sat_pos r2 (sat_ret ⟨rfl, rfl⟩)
      refine sat_neg (by rw [r2]; exact i1_ne_0) ?_
      dsimp only
      exact absurd ⟨⟨s1.1, by omega⟩, s2⟩ hv
end RU
