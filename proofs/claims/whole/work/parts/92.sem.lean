/-! the class: its letters, its keys, what is told -/
theorem ltr_in : ∀ l, l < 120 → (49, l, some (76 + 2 * l)) ∈ ShC_rf ∧ (ShC_cl.getD (76 + 2 * l) (0, 0)).1 = 5 := by decide +kernel
theorem ltr_ref {h : ea_H} (hs : ShC h) {l : Nat} (hl : l < 120) : ea_r h 49 l = some (76 + 2 * l) ∧ 76 + 2 * l < ea_n h ∧ ea_c h (76 + 2 * l) = 5 := by
  obtain ⟨a1, a2⟩ := ltr_in l hl
  obtain ⟨b1, b2, b3⟩ := hs.1 (76 + 2 * l) (by omega)
  rw [Nat.zero_add] at b1 b2
  exact ⟨hs.2 _ a1, b1, b2.trans a2⟩
theorem c_letterOf {m : Nat} (x1 : Int32) {h : ea_H} (hs : ShC h) (hm : hI h 52 0 = m) (hm2 : m ≤ 120) : (qX11_letterOf x1 h = some (none, h) ∧ ¬ (0 ≤ x1.toInt ∧ x1.toInt < m)) ∨ ∃ l : Nat, x1.toInt = l ∧ l < m ∧ qX11_letterOf x1 h = some (some (76 + 2 * l), h) := by
  unfold qX11_letterOf BX11_letterOf_0
  by_cases c1 : x1 < 0
  · refine Or.inl ⟨if_pos c1, ?_⟩
    rw [n_lt, l_0] at c1
    omega
  · by_cases c2 : ea_i h 52 0 ≤ x1
    · refine Or.inl ⟨(if_neg c1).trans (if_pos c2), ?_⟩
      rw [n_le, hI_eq, hm] at c2
      omega
    · have d1 := c1
      have d2 := c2
      rw [n_lt, l_0] at d1
      rw [n_le, hI_eq, hm] at d2
      have e1 : x1.toInt = (x1.toInt.toNat : Int) := by omega
      have hl : x1.toInt.toNat < m := by omega
      generalize x1.toInt.toNat = l at *
      have ic : x1.toNatClampNeg = l := by
        rw [n_idx, e1]
        rfl
      refine Or.inr ⟨l, e1, hl, ?_⟩
      rw [if_neg c1, if_neg c2, gd_pos (vp80 e1 (show l < 120 by omega)), ic, (ltr_ref hs (show l < 120 by omega)).1]
theorem c_row {x0 x1 x2 : Int32} {mi st pl : Int} (e0 : x0.toInt = mi) (e1 : x1.toInt = st) (e2 : x2.toInt = pl) (m0 : 0 ≤ mi) (m1 : mi ≤ 10079) (s0 : 0 ≤ st) (s1 : st ≤ 6) (p0 : 0 ≤ pl) (p1 : pl < 128) (h : ea_H) : ∃ v, qX5_row x0 x1 x2 h = some (v, h) ∧ v.toInt = mi * 1024 + st * 128 + pl := by
  refine ⟨_, rfl, ?_⟩
  have a1 : (x0 <<< ((10 : Int32) &&& 31)).toInt = mi * 1024 := by rw [s_shl_10 (by omega) (by omega), e0]
  have a2 : (x1 <<< ((7 : Int32) &&& 31)).toInt = st * 128 := by rw [s_shl_7 (by omega) (by omega), e1]
  have a3 : ((x0 <<< ((10 : Int32) &&& 31)) ||| (x1 <<< ((7 : Int32) &&& 31))).toInt = mi * 1024 + st * 128 := by
    rw [s_or 10 (by omega) (by rw [a1]; show (mi * 1024) % 1024 = 0; omega) (by omega) (by rw [a2]; show st * 128 < 1024; omega), a1, a2]
  rw [s_or 7 (by omega) (by rw [a3]; show (mi * 1024 + st * 128) % 128 = 0; omega) (by omega) (by rw [e2]; show pl < 128; omega), a3, e2]
theorem c_note {l : Nat} {x1 x2 x3 : Int32} {mi st pl : Int} (e1 : x1.toInt = mi) (e2 : x2.toInt = st) (e3 : x3.toInt = pl) (m0 : 0 ≤ mi) (m1 : mi ≤ 10079) (s0 : 0 ≤ st) (s1 : st ≤ 6) (p0 : 0 ≤ pl) (p1 : pl < 128) (hl : l < 120) {h : ea_H} (hs : ShC h) {c : Int} (hc : hI h (76 + 2 * l) 16 = c) (c0 : 0 ≤ c) (c1 : c < 1000) :
    sat (qX5_note (76 + 2 * l) x1 x2 x3 h) fun y => fq [] [((76 + 2 * l, 76 + 2 * l), 16, 17)] h y.2 ∧ hI y.2 (76 + 2 * l) 16 = c + 1 ∧ hI y.2 (76 + 2 * l) 17 = mi * 1024 + st * 128 + pl := by
  obtain ⟨-, k2⟩ := ltr_ref hs hl
  obtain ⟨v, p, q⟩ := c_row e1 e2 e3 m0 m1 s0 s1 p0 p1 h
  have i16 : inP [((76 + 2 * l, 76 + 2 * l), 16, 17)] (76 + 2 * l) 16 = true := inP_iff.mpr ⟨_, List.mem_cons_self, ⟨Nat.le_refl _, Nat.le_refl _⟩, (show (16 : Nat) ≤ 16 by decide), (show (16 : Nat) ≤ 17 by decide)⟩
  have i17 : inP [((76 + 2 * l, 76 + 2 * l), 16, 17)] (76 + 2 * l) 17 = true := inP_iff.mpr ⟨_, List.mem_cons_self, ⟨Nat.le_refl _, Nat.le_refl _⟩, (show (16 : Nat) ≤ 17 by decide), (show (17 : Nat) ≤ 17 by decide)⟩
  unfold qX5_note BX5_note_0
  refine sat_call p (sat_gd k2 (sat_let fun H3 q3 => ?_))
  have q3 : H3 = ea_wi h (76 + 2 * l) 17 v := q3
  have f3 : fq [] [((76 + 2 * l, 76 + 2 * l), 16, 17)] h H3 := q3 ▸ fq_wf i17
  have k3 := (ltr_ref (ShC_core f3.1 hs) hl).2
  refine sat_gd k3 (sat_gd k3 (sat_let fun H6 q6 => sat_ret ⟨f3.tr (q6 ▸ fq_wf i16), ?_, ?_⟩))
  · show hI H6 (76 + 2 * l) 16 = _
    have v3 : (ea_i H3 (76 + 2 * l) 16).toInt = c := by
      rw [q3, i_nk (by decide)]
      exact hc
    rw [q6, hI_at, n_add, v3, l_1, n_bm (by omega) (by omega)]
  · show hI H6 (76 + 2 * l) 17 = _
    rw [q6, hI_nk (by decide), q3, hI_at]
    exact q
/-- what the class has of what is told: letters, misses, sorters -/
def GC (G : Nat → Nat → Int) (h : ea_H) : Prop := ∃ m s : Nat, (G 7 0 = m ∧ G 7 1 = s ∧ m ≤ 120 ∧ s ≤ 8 ∧ hI h 18 0 = s) ∧
  (∀ l, l < m → (hI h (76 + 2 * l) 2 = G 0 l ∧ 0 ≤ G 0 l ∧ G 0 l < 12) ∧ hI h (76 + 2 * l) 15 = G 1 l ∧ hI h (76 + 2 * l) 14 = G 2 l ∧ 0 ≤ G 2 l ∧ G 2 l ≤ 9999) ∧
  (∀ r, r < 70 → ∃ M : Nat, hI h 12 r = M ∧ M < 256 ∧ ∀ i, i < 8 → G 3 (8 * r + i) = ((M / 2 ^ i % 2 : Nat) : Int)) ∧ ∀ k, k < s → (hI h 20 k = G 5 k ∧ 1 ≤ G 5 k ∧ G 5 k ≤ 99) ∧ (hI h 21 k = G 6 k ∧ 0 ≤ G 6 k ∧ G 6 k < 4096) ∧ hI h 19 k = G 4 k
def V_GC : List ((Nat × Nat) × Nat × Nat) := [((18, 18), 0, 0), ((76, 315), 2, 2), ((76, 315), 14, 15)]
theorem inP_at {B : List ((Nat × Nat) × Nat × Nat)} {r : (Nat × Nat) × Nat × Nat} (hr : r ∈ B) {a k : Nat} (h1 : r.1.1 ≤ a) (h2 : a ≤ r.1.2) (h3 : r.2.1 ≤ k) (h4 : k ≤ r.2.2) : inP B a k = true := inP_iff.mpr ⟨r, hr, ⟨h1, h2⟩, h3, h4⟩
theorem GC.kq {G : Nat → Nat → Int} {h h' : ea_H} (s : keq [(12, 12), (19, 21)] V_GC h h') (c : GC G h) : GC G h' := by
  obtain ⟨m, k, ⟨a1, a2, a3, a4, a5⟩, b, c, d⟩ := c
  have e2 : ∀ l, l < 120 → hI h' (76 + 2 * l) 2 = hI h (76 + 2 * l) 2 := fun l hl => s.V _ _ (inP_at (r := ((76, 315), 2, 2)) (List.mem_cons_of_mem _ List.mem_cons_self) (by show 76 ≤ 76 + 2 * l; omega) (by show 76 + 2 * l ≤ 315; omega) (by decide) (by decide))
  have e14 : ∀ l, l < 120 → hI h' (76 + 2 * l) 14 = hI h (76 + 2 * l) 14 := fun l hl => s.V _ _ (inP_at (r := ((76, 315), 14, 15)) (List.mem_cons_of_mem _ (List.mem_cons_of_mem _ List.mem_cons_self)) (by show 76 ≤ 76 + 2 * l; omega) (by show 76 + 2 * l ≤ 315; omega) (by decide) (by decide))
  have e15 : ∀ l, l < 120 → hI h' (76 + 2 * l) 15 = hI h (76 + 2 * l) 15 := fun l hl => s.V _ _ (inP_at (r := ((76, 315), 14, 15)) (List.mem_cons_of_mem _ (List.mem_cons_of_mem _ List.mem_cons_self)) (by show 76 ≤ 76 + 2 * l; omega) (by show 76 + 2 * l ≤ 315; omega) (by decide) (by decide))
  refine ⟨m, k, ⟨a1, a2, a3, a4, (s.V 18 0 rfl).trans a5⟩, fun l hl => ?_, fun r hr => ?_, fun q hq => ?_⟩
  · rw [e2 l (by omega), e14 l (by omega), e15 l (by omega)]
    exact b l hl
  · obtain ⟨M, m1, m2⟩ := c r hr
    exact ⟨M, (s.W 12 rfl r).trans m1, m2⟩
  · rw [s.W 19 rfl, s.W 20 rfl, s.W 21 rfl]
    exact d q hq
theorem c_stateIn {G : Nat → Nat → Int} {m l : Nat} {x1 : Int32} {town : Int} (e1 : x1.toInt = town) {h : ea_H} (hs : ShC h) (hG : G 7 0 = m) (g : GC G h) (hl : l < m) : ∃ v, qX5_stateIn (76 + 2 * l) x1 h = some (v, h) ∧ v.toInt = stIn G l town := by
  obtain ⟨m2, s, ⟨a1, a2, a3, a4, a5⟩, b, -⟩ := g
  have hm2 : m2 = m := by omega
  rw [hm2] at b
  obtain ⟨⟨b1, -⟩, b2, -⟩ := b l hl
  have k := (ltr_ref hs (show l < 120 by omega)).2
  have v2 : (ea_i h (76 + 2 * l) 2).toInt = G 0 l := b1
  have v15 : (ea_i h (76 + 2 * l) 15).toInt = G 1 l := b2
  refine sat_ex ?_
  unfold qX5_stateIn BX5_stateIn_0 stIn
  refine sat_gd k (sat_ite (fun c => ?_) fun c => ?_)
  · rw [n_eq, v2, e1] at c
    refine sat_gd k (sat_ite (fun c2 => ?_) fun c2 => ?_)
    · rw [n_eq, v15, l_0] at c2
      exact sat_ret ⟨rfl, by rw [if_pos c, if_pos c2]; rfl⟩
    · rw [n_eq, v15, l_0] at c2
      exact sat_ret ⟨rfl, by rw [if_pos c, if_neg c2]; rfl⟩
  · rw [n_eq, v2, e1] at c
    exact sat_ret ⟨rfl, by rw [if_neg c]; rfl⟩
def KyC (h : ea_H) (L : List Nat) : Prop := hI h 13 1 = L.length ∧ rowIs (hI h 14) L
theorem c_keyAt {L : List Nat} (hl : L.length ≤ 980) {e : Nat} {x1 : Int32} (e1 : x1.toInt = e) (he : e < L.length) {h : ea_H} (k : KyC h L) : ∃ v, qX10_keyAt x1 h = some (v, h) ∧ v.toInt = ((L.getD e 0 : Nat) : Int) := by
  have ic : x1.toNatClampNeg = e := by
    rw [n_idx, e1]
    rfl
  refine sat_ex ?_
  unfold qX10_keyAt BX10_keyAt_0
  rw [ic]
  refine sat_neg (by rw [n_lt, e1, l_0]; omega) (sat_neg (by rw [n_le, hI_eq, k.1, e1]; omega) (sat_gd (vp80 e1 (by omega)) (sat_ret ⟨rfl, k.2 e he⟩)))
theorem c_firstBehind {L : List Nat} (hl : L.length ≤ 980) (hp : L.Pairwise (· < ·)) {mi : Nat} {x1 : Int32} (e1 : x1.toInt = mi) {h : ea_H} (k : KyC h L) : ∃ v p, qX10_firstBehind x1 h = some (v, h) ∧ v.toInt = ((p : Nat) : Int) ∧ fstB L mi p := by
  have H : ∀ (j e : Nat) (x2 : Int32), e + j = L.length → x2.toInt = e → (∀ q, q < e → kMin (L.getD q 0) ≤ mi) → sat (qX10_firstBehind_2 x1 x2 h) fun y => y.2 = h ∧ ∃ p : Nat, y.1.toInt = p ∧ fstB L mi p := by
    intro j
    induction j with
    | zero =>
      intro e x2 hj e2 hq
      refine uqX10_firstBehind_2 ?_
      unfold BX10_firstBehind_2
      refine sat_pos (by rw [n_le, hI_eq, k.1, e2]; omega) (sat_ret ⟨rfl, L.length, k.1, Nat.le_refl _, fun q hq2 => ⟨fun _ => hq q (by omega), fun _ => hq2⟩⟩)
    | succ j ih =>
      intro e x2 hj e2 hq
      obtain ⟨v, p, r⟩ := c_keyAt hl e2 (by omega) k
      obtain ⟨w, p2, r2⟩ := c_minuteIn r h
      refine uqX10_firstBehind_2 ?_
      unfold BX10_firstBehind_2
      refine sat_neg (by rw [n_le, hI_eq, k.1, e2]; omega) (sat_call p (sat_call p2 (sat_ite (fun c => ?_) fun c => ?_)))
      · rw [n_le, r2, e1] at c
        refine ih (e + 1) (x2 + 1) (by omega) (n_inc e2 (by omega)) fun q hq2 => ?_
        by_cases z : q = e
        · rw [z]
          omega
        · exact hq q (by omega)
      · rw [n_le, r2, e1] at c
        refine sat_ret ⟨rfl, e, e2, by omega, fun q hq2 => ⟨fun z => hq q z, fun z => Nat.not_le.mp fun w => ?_⟩⟩
        by_cases z2 : q = e
        · rw [z2] at z
          omega
        · have := k_min_le (Nat.le_of_lt (getD_lt hp (show e < q by omega) hq2))
          omega
  have H2 : sat (qX10_firstBehind x1 h) fun y => y.2 = h ∧ ∃ p : Nat, y.1.toInt = p ∧ fstB L mi p := by
    unfold qX10_firstBehind
    refine uqX10_firstBehind_0 ?_
    unfold BX10_firstBehind_0
    exact H L.length 0 0 (by omega) rfl fun q hq => absurd hq (Nat.not_lt_zero _)
  obtain ⟨⟨v, h2⟩, q1, q2, p, q3, q4⟩ := H2
  have q2 : h2 = h := q2
  subst q2
  exact ⟨v, p, q1, q3, q4⟩
/-! marks -/
def kC (x : Nat) : Nat := 2 * kS x + kGo x
def mkB (h : ea_H) (c l : Nat) : Bool := (ea_j h 51 (2 * c + l / 64)).toBitVec.getLsbD (l % 64)
theorem n_div64 {x : Int32} (h : 0 ≤ x.toInt) : (x / (64 : Int32)).toInt = x.toInt / 64 := n_div0 h l_64 (by decide)
theorem c_wordOf {x1 x2 : Int32} {x l : Nat} (e1 : x1.toInt = x) (e2 : x2.toInt = l) (hl : l < 120) (hT : kT x < 10) (hD : kD x < 7) (h : ea_H) : ∃ v, qX4_wordOf x1 x2 h = some (v, h) ∧ v.toInt = ((2 * kC x + l / 64 : Nat) : Int) := by
  obtain ⟨v, p, r⟩ := c_slotIn e1 h hT hD
  obtain ⟨w, p2, r2⟩ := c_isGoing e1 h
  have hS : kS x < 560 := kS_lt ⟨hT, hD⟩
  have hgl := kGo_lt x
  have d := n_div64 (x := x2) (by omega)
  have fin : ∀ s : Int32, s.toInt = kGo x → sat (qX4_wordOf_18 x2 s ((2 : Int32) * v) h) fun y => y.2 = h ∧ y.1.toInt = ((2 * kC x + l / 64 : Nat) : Int) := by
    intro s hs
    refine uqX4_wordOf_18 ?_
    unfold BX4_wordOf_18
    refine sat_ret ⟨rfl, ?_⟩
    show ((2 : Int32) * ((2 : Int32) * v + s) + x2 / (64 : Int32)).toInt = _
    have a1 : ((2 : Int32) * v).toInt = 2 * (kS x : Int) := by rw [n_mul, r, l_2, n_bm (by omega) (by omega)]
    have a2 : ((2 : Int32) * v + s).toInt = 2 * (kS x : Int) + kGo x := by rw [n_add, a1, hs, n_bm (by omega) (by omega)]
    have a3 : ((2 : Int32) * ((2 : Int32) * v + s)).toInt = 2 * (2 * (kS x : Int) + kGo x) := by rw [n_mul, a2, l_2, n_bm (by omega) (by omega)]
    rw [n_add, a3, d, e2, n_bm (by omega) (by omega)]
    unfold kC
    omega
  refine sat_ex ?_
  unfold qX4_wordOf
  refine uqX4_wordOf_0 ?_
  unfold BX4_wordOf_0
  refine sat_call p (sat_call p2 (sat_ite (fun c => ?_) fun c => ?_))
  · rw [n_eq, r2, l_0] at c
    exact fin 0 (by rw [l_0]; omega)
  · rw [n_eq, r2, l_0] at c
    exact fin 1 (by rw [l_1]; omega)
