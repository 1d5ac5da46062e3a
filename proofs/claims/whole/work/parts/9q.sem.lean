/-! calls: order -/
theorem lg_le0 {x y : Int64} : lg_cmp x y ≤ (0 : Int32) ↔ x ≤ y := by
  unfold lg_cmp
  rw [n_leJ]
  by_cases h1 : x > y
  · rw [if_pos h1]
    have := n_ltJ.mp h1
    exact ⟨fun h => absurd h (by decide), fun h => by omega⟩
  · rw [if_neg h1]
    have h3 : ¬ y.toInt < x.toInt := fun q => h1 (n_ltJ.mpr q)
    by_cases h2 : x = y
    · rw [if_pos h2, h2]
      exact ⟨fun _ => Int.le_refl _, fun _ => by decide⟩
    · rw [if_neg h2]
      exact ⟨fun _ => by omega, fun _ => by decide⟩
theorem n_divJ0 {x y : Int64} {m : Int} (hx : 0 ≤ x.toInt) (hy : y.toInt = m) (hm : 0 < m) : (x / y).toInt = x.toInt / m := by
  have h1 := n_hiJ x
  have h2 : x.toInt / m ≤ x.toInt := Int.ediv_le_self _ hx
  have h3 : 0 ≤ x.toInt / m := Int.ediv_nonneg hx (by omega)
  rw [Int64.toInt_div, hy, Int.tdiv_eq_ediv_of_nonneg hx]
  exact n_bmJ (by omega) (by omega)
theorem n_remJ0 {x y : Int64} {m : Int} (hx : 0 ≤ x.toInt) (hy : y.toInt = m) (hm : 0 < m) : (x - x / y * y).toInt = x.toInt % m := by
  have h1 := n_divJ0 hx hy hm
  have h2 := n_hiJ x
  have h3 : x.toInt / m * m ≤ x.toInt := Int.ediv_mul_le _ (by omega)
  have h4 : 0 ≤ x.toInt / m := Int.ediv_nonneg hx (by omega)
  have h5 : 0 ≤ x.toInt / m * m := Int.mul_nonneg h4 (by omega)
  have h6 : (x / y * y).toInt = x.toInt / m * m := by rw [n_mulJ, h1, hy, n_bmJ (by omega) (by omega)]
  rw [n_subJ, h6, n_bmJ (by omega) (by omega), Int.emod_def, Int.mul_comm]
/-- a product of the first m -/
def pr (f : Nat → Int) : Nat → Int
  | 0 => 1
  | m + 1 => pr f m * f m
theorem pr_list (f : Nat → Int) : ∀ m, pr (fun i => f i / 16) m = ((List.range m).map f).foldl (fun a x => a * (x / 16)) 1 := by
  intro m
  induction m with
  | zero => rfl
  | succ m ih =>
    rw [List.range_succ, List.map_append, List.foldl_append, ← ih]
    rfl
theorem cnt_list (f : Nat → Int) (v : Int) : ∀ m, cnt (fun o => f o < v) m = ((((List.range m).map f).countP fun x => decide (x < v) : Nat) : Int) := by
  intro m
  induction m with
  | zero => rfl
  | succ m ih =>
    rw [cnt_s, ih, List.range_succ, List.map_append, List.countP_append, Int.natCast_add]
    congr 1
    show one (f m < v) = (([f m].countP fun x => decide (x < v) : Nat) : Int)
    rw [List.countP_singleton]
    by_cases c : f m < v
    · rw [one_pos c, if_pos (decide_eq_true c)]
      rfl
    · rw [one_neg c, if_neg (fun z => c (of_decide_eq_true z))]
      rfl
theorem cnt_lt (i : Nat) : ∀ m : Nat, i ≤ m → cnt (fun o => o < i) m = i := by
  intro m
  induction m with
  | zero =>
    intro h
    have : i = 0 := by omega
    rw [this]
    rfl
  | succ m ih =>
    intro h
    rw [cnt_s]
    by_cases c : i ≤ m
    · rw [ih c, one_neg (by omega), Int.add_zero]
    · have e : i = m + 1 := by omega
      rw [one_pos (by omega), e]
      have : cnt (fun o => o < m + 1) m = m := by
        have b : ∀ k : Nat, k ≤ m → cnt (fun o => o < m + 1) k = k := by
          intro k
          induction k with
          | zero => exact fun _ => rfl
          | succ k ihk =>
            intro hk
            rw [cnt_s, ihk (by omega), one_pos (by omega)]
            rfl
        exact b m (Nat.le_refl _)
      rw [this]
      rfl
section PE
variable {c : Nat} {R tw ch : Nat → Int}
theorem PlR.perm (p : PlR c R tw ch) : ((List.range c).map R).Perm ((List.range c).map fun k => (100 - ch k) * 16 + tw k) := by
  obtain ⟨p1, p2, p3, p4, p5, p6⟩ := p
  refine (List.perm_ext_iff_of_nodup ?_ ?_).mpr fun a => ?_
  · refine List.pairwise_map.mpr (List.pairwise_lt_range.imp_of_mem fun {i j} _ hj hij => ?_)
    have := p4 i j hij (List.mem_range.mp hj)
    omega
  · refine List.pairwise_map.mpr (List.pairwise_lt_range.imp_of_mem fun {i j} hi hj hij => ?_)
    have a1 := p3 i j hij (List.mem_range.mp hj)
    have a2 := p2 i (List.mem_range.mp hi)
    have a3 := p2 j (List.mem_range.mp hj)
    omega
  · rw [List.mem_map, List.mem_map]
    constructor
    · rintro ⟨i, i1, i2⟩
      obtain ⟨k, k1, k2⟩ := p5 i (List.mem_range.mp i1)
      exact ⟨k, List.mem_range.mpr k1, k2.symm.trans i2⟩
    · rintro ⟨k, k1, k2⟩
      obtain ⟨i, i1, i2⟩ := p6 k (List.mem_range.mp k1)
      exact ⟨i, List.mem_range.mpr i1, i2.trans k2⟩
theorem PlR.prod (p : PlR c R tw ch) : pr (fun i => R i / 16) c = pr (fun k => 100 - ch k) c := by
  have e : ∀ m, m ≤ c → pr (fun k => 100 - ch k) m = pr (fun k => ((100 - ch k) * 16 + tw k) / 16) m := by
    intro m
    induction m with
    | zero => exact fun _ => rfl
    | succ m ih =>
      intro hm
      have a := p.2.1 m hm
      show pr (fun k => 100 - ch k) m * (100 - ch m) = pr (fun k => ((100 - ch k) * 16 + tw k) / 16) m * (((100 - ch m) * 16 + tw m) / 16)
      rw [ih (by omega), show ((100 - ch m) * 16 + tw m) / 16 = 100 - ch m by omega]
  rw [e c (Nat.le_refl _), pr_list, pr_list]
  refine List.Perm.foldl_eq' p.perm (fun x _ y _ z => ?_) 1
  exact Int.mul_right_comm _ _ _
theorem PlR.rank (p : PlR c R tw ch) {i k : Nat} (hi : i < c) (e : R i = (100 - ch k) * 16 + tw k) : cnt (fun o => (100 - ch o) * 16 + tw o < (100 - ch k) * 16 + tw k) c = i := by
  rw [cnt_list (fun k => (100 - ch k) * 16 + tw k), ← List.Perm.countP_eq _ p.perm, ← cnt_list R, ← e]
  rw [cnt_eq (Q := fun o => o < i) fun o ho => ?_, cnt_lt i c (by omega)]
  constructor
  · intro z
    rcases Nat.lt_trichotomy o i with q | q | q
    · exact q
    · rw [q] at z
      omega
    · have := p.2.2.2.1 i o q ho
      omega
  · exact fun z => p.2.2.2.1 o i z hi
theorem pr_99 {f : Nat → Int} : ∀ m : Nat, (∀ k, k < m → 1 ≤ f k ∧ f k ≤ 99) → 1 ≤ pr f m ∧ pr f m ≤ pr (fun _ => 99) m := by
  intro m
  induction m with
  | zero => exact fun _ => ⟨Int.le_refl _, Int.le_refl _⟩
  | succ m ih =>
    intro h
    obtain ⟨a1, a2⟩ := ih fun k hk => h k (by omega)
    obtain ⟨b1, b2⟩ := h m (by omega)
    refine ⟨?_, ?_⟩
    · show 1 ≤ pr f m * f m
      have := Int.mul_le_mul a1 b1 (by decide) (by omega)
      omega
    · exact Int.mul_le_mul a2 b2 (by omega) (by omega)
theorem pr_b : ∀ m, m ≤ 4 → pr (fun _ => 99) m ≤ 96059601 ∧ pr (fun _ => 100) m ≤ 100000000 ∧ 1 ≤ pr (fun _ => 100) m ∧ (0 < m → pr (fun _ => 99) m < pr (fun _ => 100) m) := by decide
end PE
/-! the common divisor, by both -/
theorem g_half {c r k : Nat} (hr : 0 < r) (h : r < 2 ^ (k + 1)) (h0 : 0 < c % r) : r % (c % r) < 2 ^ k := by
  have a := Nat.mod_lt c hr
  have b := Nat.mod_lt r h0
  have d : r % (c % r) ≤ r - c % r := by
    rw [Nat.mod_eq_sub_mod (by omega)]
    exact Nat.mod_le _ _
  rw [Nat.pow_succ] at h
  omega
theorem g_step (c r : Nat) : Nat.gcd c r = Nat.gcd r (c % r) := by
  rw [Nat.gcd_comm c r, Nat.gcd_rec r c, Nat.gcd_comm]
theorem c_gcd {a0 : Nat} {x1 : Int32} {y2 y4 : Int64} {h : ea_H} {P : Int64 × ea_H → Prop} {g : Nat} (K : ∀ y6 : Int64, y6.toInt = g → sat (qX5_foundByAll_91 a0 x1 y2 y4 y6 h) P) :
    ∀ (k c r : Nat) (y6 y8 : Int64) (x10 : Int32), r < 2 ^ k → 0 ≤ x10.toInt → x10.toInt + 2 * k < 100 → y6.toInt = c → y8.toInt = r → Nat.gcd c r = g → sat (qX5_foundByAll_56 a0 x1 y2 y4 y6 y8 x10 h) P := by
  have zero : ∀ (c : Nat) (y6 y8 : Int64) (x10 : Int32), y6.toInt = c → y8.toInt = ((0 : Nat) : Int) → Nat.gcd c 0 = g → sat (qX5_foundByAll_56 a0 x1 y2 y4 y6 y8 x10 h) P := by
    intro c y6 y8 x10 e6 e8 hg
    rw [Nat.gcd_zero_right] at hg
    refine uqX5_foundByAll_56 ?_
    unfold BX5_foundByAll_56
    refine sat_ite (fun _ => K y6 (by rw [← hg]; exact e6)) fun _ => sat_pos ?_ (K y6 (by rw [← hg]; exact e6))
    rw [lg_le0, n_leJ, e8, lJ_0]
    exact Int.le_refl 0
  have step : ∀ (c r : Nat) (y6 y8 : Int64) (x10 : Int32), 0 < r → x10.toInt < 100 → y6.toInt = c → y8.toInt = r → (∀ v : Int64, v.toInt = ((c % r : Nat) : Int) → sat (qX5_foundByAll_56 a0 x1 y2 y4 y8 v (x10 + 1) h) P) → sat (qX5_foundByAll_56 a0 x1 y2 y4 y6 y8 x10 h) P := by
    intro c r y6 y8 x10 hr hx e6 e8 KK
    refine uqX5_foundByAll_56 ?_
    unfold BX5_foundByAll_56
    refine sat_neg (by rw [n_le, l_100]; omega) (sat_neg (by rw [lg_le0, n_leJ, e8, lJ_0]; omega) (sat_gd (fun z => ?_) (sat_let fun v hv => KK v ?_)))
    · rw [z, lJ_0] at e8
      omega
    · rw [hv, n_remJ0 (m := (r : Int)) (by omega) e8 (by omega), e6]
      exact (Int.natCast_emod c r).symm
  intro k
  induction k with
  | zero =>
    intro c r y6 y8 x10 hr hx hx2 e6 e8 hg
    have : r = 0 := by
      rw [Nat.pow_zero] at hr
      omega
    subst this
    exact zero c y6 y8 x10 e6 e8 hg
  | succ k ih =>
    intro c r y6 y8 x10 hr hx hx2 e6 e8 hg
    by_cases z : r = 0
    · subst z
      exact zero c y6 y8 x10 e6 e8 hg
    refine step c r y6 y8 x10 (by omega) (by omega) e6 e8 fun v hv => ?_
    rw [g_step] at hg
    have x1' : (x10 + 1).toInt = x10.toInt + 1 := by rw [n_add, l_1, n_bm (by omega) (by omega)]
    by_cases z2 : c % r = 0
    · rw [z2] at hv hg
      exact zero r y8 v (x10 + 1) e8 hv hg
    refine step r (c % r) y8 v (x10 + 1) (by omega) (by omega) e8 hv fun w hw => ?_
    rw [g_step] at hg
    have x2' : (x10 + 1 + 1).toInt = x10.toInt + 2 := by rw [n_add, x1', l_1, n_bm (by omega) (by omega)]; omega
    exact ih (c % r) (r % (c % r)) v w (x10 + 1 + 1) (g_half (by omega) hr (by omega)) (by omega) (by omega) hv hw hg
theorem m_common : ∀ (r v : Nat) (y4 y6 : Int64) (h : ea_H), y4.toInt = v → y6.toInt = r → sat (qX12_common_6 y4 y6 h) fun y => y.2 = h ∧ y.1.toInt = Nat.gcd v r := by
  intro r
  induction r using Nat.strongRecOn with
  | ind r ih =>
    intro v y4 y6 h e4 e6
    refine uqX12_common_6 ?_
    unfold BX12_common_6
    refine sat_ite (fun z => ?_) fun z => ?_
    · rw [lg_eq0, n_eqJ, e6, lJ_0] at z
      have : r = 0 := by omega
      subst this
      refine sat_ret ⟨rfl, ?_⟩
      rw [Nat.gcd_zero_right]
      exact e4
    · rw [lg_eq0, n_eqJ, e6, lJ_0] at z
      refine sat_gd (fun w => ?_) (sat_let fun u hu => ?_)
      · rw [w, lJ_0] at e6
        omega
      · have eu : u.toInt = ((v % r : Nat) : Int) := by
          rw [hu, n_remJ0 (m := (r : Int)) (by omega) e6 (by omega), e4]
          exact (Int.natCast_emod v r).symm
        rw [g_step]
        exact ih (v % r) (Nat.mod_lt _ (by omega)) r y6 u h e6 eu
noncomputable def ordF (c : Nat) (R : Nat → Int) (w : Int) : Int :=
  if w = 0 then c else if w = 1 ∨ w = 2 then (if c = 0 then -1 else (if w = 1 then pr (fun _ => 100) c - pr (fun i => R i / 16) c else pr (fun _ => 100) c) / (Nat.gcd (pr (fun _ => 100) c).toNat (pr (fun _ => 100) c - pr (fun i => R i / 16) c).toNat : Int)) else if 10 ≤ w ∧ w < 10 + c then R (w - 10).toNat % 16 else if 20 ≤ w ∧ w < 20 + c then 100 - R (w - 20).toNat / 16 else -1
section OR
variable {m : Nat} {X : Nat → Nat → Int} {h : ea_H}
theorem c_found {l c : Nat} (hs : ShC h) (hl : l < 120) (hc : hI h (76 + 2 * l) 18 = c) {tw ch : Nat → Int} (p : PlR c (hI h (77 + 2 * l)) tw ch) (h0 : 0 < c) (x1 : Int32) : sat (qX5_foundByAll (76 + 2 * l) x1 h) fun y => y.2 = h ∧ y.1.toInt = (if x1 = 0 then pr (fun _ => 100) c else pr (fun _ => 100) c - pr (fun i => hI h (77 + 2 * l) i / 16) c) / (Nat.gcd (pr (fun _ => 100) c).toNat (pr (fun _ => 100) c - pr (fun i => hI h (77 + 2 * l) i / 16) c).toNat : Int) := by
  obtain ⟨-, k2⟩ := ltr_ref hs hl
  have rb : ∀ i, i < c → 0 ≤ hI h (77 + 2 * l) i ∧ 1 ≤ hI h (77 + 2 * l) i / 16 ∧ hI h (77 + 2 * l) i / 16 ≤ 99 := fun i hi => by
    obtain ⟨k, k1, k2⟩ := p.2.2.2.2.1 i hi
    have := p.2.1 k k1
    omega
  have p1 := p.1
  have P : ∀ i, i ≤ c → (1 ≤ pr (fun i => hI h (77 + 2 * l) i / 16) i ∧ pr (fun i => hI h (77 + 2 * l) i / 16) i ≤ 96059601) ∧ 1 ≤ pr (fun _ => 100) i ∧ pr (fun _ => 100) i ≤ 100000000 := fun i hi => by
    have a := pr_99 (f := fun i => hI h (77 + 2 * l) i / 16) i fun k hk => (rb k (by omega)).2
    have b := pr_b i (by omega)
    omega
  have Pc : pr (fun i => hI h (77 + 2 * l) i / 16) c < pr (fun _ => 100) c := by
    have a := pr_99 (f := fun i => hI h (77 + 2 * l) i / 16) c fun k hk => (rb k (by omega)).2
    have b := (pr_b c p1).2.2.2 h0
    omega
  have H : ∀ (j i : Nat) (y2 y4 : Int64) (x6 : Int32), i + j = c → x6.toInt = i → y2.toInt = pr (fun _ => 100) i → y4.toInt = pr (fun i => hI h (77 + 2 * l) i / 16) i → sat (qX5_foundByAll_8 (76 + 2 * l) x1 y2 y4 x6 h) fun y => y.2 = h ∧ y.1.toInt = (if x1 = 0 then pr (fun _ => 100) c else pr (fun _ => 100) c - pr (fun i => hI h (77 + 2 * l) i / 16) c) / (Nat.gcd (pr (fun _ => 100) c).toNat (pr (fun _ => 100) c - pr (fun i => hI h (77 + 2 * l) i / 16) c).toNat : Int) := by
    intro j
    induction j with
    | zero =>
      intro i y2 y4 x6 hj e6 e2 e4
      have ei : i = c := by omega
      subst ei
      obtain ⟨⟨P1, P2⟩, P3, P4⟩ := P i (Nat.le_refl _)
      generalize pr (fun i => hI h (77 + 2 * l) i / 16) i = N at *
      generalize pr (fun _ => (100 : Int)) i = A at *
      have es : (y2 - y4).toInt = ((A - N).toNat : Int) := by
        rw [n_subJ, e2, e4, n_bmJ (by omega) (by omega)]
        omega
      have e2' : y2.toInt = (A.toNat : Int) := by omega
      have gp : 0 < Nat.gcd A.toNat (A - N).toNat := Nat.gcd_pos_of_pos_left _ (by omega)
      refine uqX5_foundByAll_8 ?_
      unfold BX5_foundByAll_8
      refine sat_gd k2 (sat_pos (by rw [n_le, hI_eq, hc, e6]; omega) ?_)
      refine c_gcd (g := Nat.gcd A.toNat (A - N).toNat) (fun y6 e6 => ?_) 27 A.toNat (A - N).toNat y2 (y2 - y4) 0 (by omega) (by decide) (by decide) e2' es rfl
      have n0 : ¬ y6 = 0 := fun z => by
        rw [z, lJ_0] at e6
        omega
      refine uqX5_foundByAll_91 ?_
      unfold BX5_foundByAll_91
      refine sat_neg (fun z => n0 (lg_eq0.mp z)) (sat_ite (fun z => ?_) fun z => ?_)
      · refine sat_gd n0 (sat_ret ⟨rfl, ?_⟩)
        rw [if_pos z]
        show (y2 / y6).toInt = _
        rw [n_divJ0 (by omega) e6 (by omega), e2]
      · refine sat_gd n0 (sat_ret ⟨rfl, ?_⟩)
        rw [if_neg z]
        show ((y2 - y4) / y6).toInt = _
        rw [n_divJ0 (by omega) e6 (by omega), es, show ((A - N).toNat : Int) = A - N by omega]
    | succ j ih =>
      intro i y2 y4 x6 hj e6 e2 e4
      obtain ⟨⟨P1, P2⟩, P3, P4⟩ := P i (by omega)
      obtain ⟨⟨Q1, Q2⟩, Q3, Q4⟩ := P (i + 1) (by omega)
      obtain ⟨v, q, r⟩ := c_placeChance hs hl e6 (by omega) (rb i (by omega)).1
      have ri := (rb i (by omega)).2
      refine uqX5_foundByAll_8 ?_
      unfold BX5_foundByAll_8
      refine sat_gd k2 (sat_neg (by rw [n_le, hI_eq, hc, e6]; omega) (sat_let fun v2 hv2 => sat_gd k2 (sat_call q (sat_let fun v5 hv5 => ?_))))
      refine ih (i + 1) v2 v5 (x6 + 1) (by omega) (n_inc e6 (by omega)) ?_ ?_
      · rw [hv2, n_mulJ, e2, lJ_100]
        exact n_bmJ (by show -9223372036854775808 ≤ pr (fun _ => 100) (i + 1); omega) (by show pr (fun _ => 100) (i + 1) < 9223372036854775808; omega)
      · have dv : ((100 : Int32) - v).toInt = hI h (77 + 2 * l) i / 16 := by
          rw [n_sub, r, l_100, n_bm (by omega) (by omega)]
          omega
        have hv5 : v5 = y4 * Int32.toInt64 ((100 : Int32) - v) := hv5
        rw [hv5, n_mulJ, n_i2l, dv, e4]
        exact n_bmJ (by show -9223372036854775808 ≤ pr (fun i => hI h (77 + 2 * l) i / 16) (i + 1); omega) (by show pr (fun i => hI h (77 + 2 * l) i / 16) (i + 1) < 9223372036854775808; omega)
  unfold qX5_foundByAll
  refine uqX5_foundByAll_0 ?_
  unfold BX5_foundByAll_0
  exact H c 0 1 1 0 (by omega) rfl rfl rfl
theorem c_order {l c : Nat} (hs : ShC h) (hl : l < 120) (hc : hI h (76 + 2 * l) 18 = c) {tw ch : Nat → Int} (p : PlR c (hI h (77 + 2 * l)) tw ch) {x1 : Int32} (x2 : Int32) (p1 : qX11_letterOf x1 h = some (some (76 + 2 * l), h)) : sat (qX11_order x1 x2 h) fun y => y.2 = h ∧ y.1.toInt = ordF c (hI h (77 + 2 * l)) x2.toInt := by
  obtain ⟨-, k2⟩ := ltr_ref hs hl
  have vc : (ea_i h (76 + 2 * l) 18).toInt = c := hc
  have c4 := p.1
  have rb : ∀ i, i < c → 0 ≤ hI h (77 + 2 * l) i := fun i hi => by
    obtain ⟨k, k1, k2⟩ := p.2.2.2.2.1 i hi
    have := p.2.1 k k1
    omega
  have K34 : x2.toInt = 1 ∨ x2.toInt = 2 → sat (qX11_order_34 x2 (some (76 + 2 * l)) h) fun y => y.2 = h ∧ y.1.toInt = ordF c (hI h (77 + 2 * l)) x2.toInt := by
    intro hx
    unfold ordF
    rw [if_neg (by omega), if_pos hx]
    refine uqX11_order_34 ?_
    unfold BX11_order_34
    refine sat_gd rfl (sat_gd k2 (sat_ite (fun z => ?_) fun z => ?_))
    · have z : ea_i h (76 + 2 * l) 18 = 0 := z
      rw [n_eq, vc, l_0] at z
      rw [if_pos (by omega)]
      exact sat_ret ⟨rfl, rfl⟩
    · have z : ¬ ea_i h (76 + 2 * l) 18 = 0 := z
      rw [n_eq, vc, l_0] at z
      rw [if_neg (show ¬ c = 0 by omega)]
      refine sat_ite (fun w => ?_) fun w => ?_
      · rw [n_eq, l_1] at w
        refine sat_gd rfl (sat_gd k2 (sat_bind (c_found hs hl hc p (by omega) 1) fun y hy => sat_ret ⟨hy.1, ?_⟩))
        rw [if_pos w]
        exact hy.2
      · rw [n_eq, l_1] at w
        refine sat_gd rfl (sat_gd k2 (sat_bind (c_found hs hl hc p (by omega) 0) fun y hy => sat_ret ⟨hy.1, ?_⟩))
        rw [if_neg w]
        exact hy.2
  have K89 : x2.toInt < 10 ∨ 10 + (c : Int) ≤ x2.toInt → x2.toInt ≠ 0 → x2.toInt ≠ 1 → x2.toInt ≠ 2 → sat (qX11_order_89 x2 (some (76 + 2 * l)) h) fun y => y.2 = h ∧ y.1.toInt = ordF c (hI h (77 + 2 * l)) x2.toInt := by
    intro h1 n0 n1 n2
    unfold ordF
    rw [if_neg n0, if_neg (by omega), if_neg (by omega)]
    refine uqX11_order_89 ?_
    unfold BX11_order_89
    refine sat_ite (fun z => ?_) fun z => ?_
    · rw [n_lt, l_20] at z
      rw [if_neg (by omega)]
      exact sat_ret ⟨rfl, rfl⟩
    rw [n_lt, l_20] at z
    have v20 : ((20 : Int32) + ea_i h (76 + 2 * l) 18).toInt = 20 + c := by rw [n_add, l_20, vc, n_bm (by omega) (by omega)]
    refine sat_gd rfl (sat_gd k2 (sat_ite (fun w => ?_) fun w => ?_))
    · have w : (20 : Int32) + ea_i h (76 + 2 * l) 18 ≤ x2 := w
      rw [n_le, v20] at w
      rw [if_neg (by omega)]
      exact sat_ret ⟨rfl, rfl⟩
    · have w : ¬ (20 : Int32) + ea_i h (76 + 2 * l) 18 ≤ x2 := w
      rw [n_le, v20] at w
      rw [if_pos (by omega)]
      have e : (x2 - (20 : Int32)).toInt = ((x2.toInt - 20).toNat : Int) := by
        rw [n_sub, l_20, n_bm (by omega) (by omega)]
        omega
      obtain ⟨v, q, r⟩ := c_placeChance hs hl e (by omega) (rb _ (by omega))
      refine sat_gd rfl (sat_gd k2 (sat_call q (sat_ret ⟨rfl, ?_⟩)))
      show (Int32.toInt64 v).toInt = _
      rw [n_i2l, r]
  unfold qX11_order
  refine uqX11_order_0 ?_
  unfold BX11_order_0
  refine sat_call p1 (sat_neg (by simp) (sat_ite (fun z => ?_) fun z0 => ?_))
  · refine sat_gd rfl (sat_gd k2 (sat_ret ⟨rfl, ?_⟩))
    show (Int32.toInt64 (ea_i h (76 + 2 * l) 18)).toInt = _
    rw [n_i2l, vc, z]
    rfl
  rw [n_eq, l_0] at z0
  refine sat_ite (fun z => ?_) fun z1 => ?_
  · rw [n_eq, l_1] at z
    exact K34 (Or.inl z)
  rw [n_eq, l_1] at z1
  refine sat_ite (fun z => ?_) fun z2 => ?_
  · rw [n_eq, l_2] at z
    exact K34 (Or.inr z)
  rw [n_eq, l_2] at z2
  refine sat_ite (fun z => ?_) fun z3 => ?_
  · rw [n_lt, l_10] at z
    exact K89 (Or.inl z) z0 z1 z2
  rw [n_lt, l_10] at z3
  have v10 : ((10 : Int32) + ea_i h (76 + 2 * l) 18).toInt = 10 + c := by rw [n_add, l_10, vc, n_bm (by omega) (by omega)]
  refine sat_gd rfl (sat_gd k2 (sat_ite (fun w => ?_) fun w => ?_))
  · have w : (10 : Int32) + ea_i h (76 + 2 * l) 18 ≤ x2 := w
    rw [n_le, v10] at w
    exact K89 (Or.inr w) z0 z1 z2
  · have w : ¬ (10 : Int32) + ea_i h (76 + 2 * l) 18 ≤ x2 := w
    rw [n_le, v10] at w
    have e : (x2 - (10 : Int32)).toInt = ((x2.toInt - 10).toNat : Int) := by
      rw [n_sub, l_10, n_bm (by omega) (by omega)]
      omega
    obtain ⟨v, q, r⟩ := c_placeTown hs hl e (by omega) (rb _ (by omega))
    refine sat_gd rfl (sat_gd k2 (sat_call q (sat_ret ⟨rfl, ?_⟩)))
    show (Int32.toInt64 v).toInt = _
    unfold ordF
    rw [n_i2l, r, if_neg z0, if_neg (by omega), if_pos (by omega)]
theorem m_ordered {l c : Nat} {tw ch R : Nat → Int} (hl : l < 120) (hc : hI h 396 l = c) (et : ∀ k, hI h 397 (4 * l + k) = tw k) (ec : ∀ k, hI h 398 (4 * l + k) = ch k) (p : PlR c R tw ch) {x1 x2 : Int32} {i : Nat} (e1 : x1.toInt = l) (e2 : x2.toInt = i) (hi : i < c) : ∃ (v : Int32) (k : Nat), qX12_ordered x1 x2 h = some (v, h) ∧ k < c ∧ v.toInt = ((4 * l + k : Nat) : Int) ∧ R i = (100 - ch k) * 16 + tw k := by
  have g1 := vp80 e1 hl
  have ic : x1.toNatClampNeg = l := by
    rw [n_idx, e1]
    rfl
  have c4 := p.1
  have vc : (ea_i h 396 l).toInt = c := hc
  obtain ⟨k0, k01, k02⟩ := p.2.2.2.2.1 i hi
  have uniq : ∀ k, k < c → cnt (fun o => (100 - ch o) * 16 + tw o < (100 - ch k) * 16 + tw k) c = i → R i = (100 - ch k) * 16 + tw k := fun k hk hr => by
    obtain ⟨j, j1, j2⟩ := p.2.2.2.2.2 k hk
    have := p.rank j1 j2
    have : i = j := by omega
    rw [this]
    exact j2
  have idx : ∀ {x : Int32} {k : Nat}, x.toInt = k → k < 4 → ((4 : Int32) * x1 + x).toInt = ((4 * l + k : Nat) : Int) ∧ ((4 : Int32) * x1 + x).toNatClampNeg = 4 * l + k := fun {x k} e hk => by
    have i0 : ((4 : Int32) * x1 + x).toInt = 4 * (l : Int) + k := by simp (disch := omega) only [n_add, n_sub, n_mul, n_neg, n_bm, n_idx, n_if, hI_eq, l_m1000, l_m100, l_m60, l_m19, l_m18, l_m17, l_m16, l_m15, l_m14, l_m13, l_m12, l_m11, l_m10, l_m8, l_m1, l_0, l_1, l_2, l_3, l_4, l_5, l_6, l_7, l_8, l_9, l_10, l_11, l_12, l_13, l_14, l_15, l_16, l_17, l_18, l_19, l_20, l_21, l_24, l_25, l_32, l_40, l_41, l_42, l_43, l_45, l_47, l_48, l_57, l_59, l_60, l_61, l_62, l_63, l_64, l_65, l_70, l_80, l_90, l_97, l_99, l_100, l_120, l_122, l_127, l_144, l_150, l_201, l_202, l_203, l_204, l_205, l_206, l_207, l_255, l_300, l_364, l_480, l_560, l_600, l_601, l_620, l_840, l_900, l_980, l_999, l_1000, l_1023, l_1024, l_1220, l_1439, l_1440, l_2240, l_2400, l_3000, l_3600, l_4095, l_4096, l_7320, l_9999, l_10079, l_10080, l_12000, l_99999, l_120000, l_1000000, l_2147483647, e1, e]
    have i1 : ((4 : Int32) * x1 + x).toInt = ((4 * l + k : Nat) : Int) := by
      rw [i0]
      omega
    exact ⟨i1, by rw [n_idx, i1]; rfl⟩
  -- the inner walk: how many stand ahead of k
  have H18 : ∀ (k : Nat) (x3 : Int32) (Q : Int32 × ea_H → Prop), k < c → x3.toInt = k → (∀ x4 : Int32, x4.toInt = cnt (fun o => (100 - ch o) * 16 + tw o < (100 - ch k) * 16 + tw k) c → sat (if x4 = x2 then some (((4 : Int32) * x1 + x3), h) else qX12_ordered_2 x1 x2 (x3 + 1) h) Q) →
      ∀ (j o : Nat) (x4 x5 : Int32), o + j = c → x5.toInt = o → x4.toInt = cnt (fun o => (100 - ch o) * 16 + tw o < (100 - ch k) * 16 + tw k) o → sat (qX12_ordered_18 x1 x2 x3 x4 x5 h) Q := by
    intro k x3 Q hk e3 K j
    obtain ⟨i3, j3⟩ := idx e3 (by omega)
    have vk : (ea_i h 398 (4 * l + k)).toInt = ch k := ec k
    have wk : (ea_i h 397 (4 * l + k)).toInt = tw k := et k
    have bk := p.2.1 k hk
    induction j with
    | zero =>
      intro o x4 x5 hj e5 e4
      have eo : o = c := by omega
      refine uqX12_ordered_18 ?_
      unfold BX12_ordered_18
      rw [ic]
      exact sat_gd g1 (sat_pos (by rw [n_le, vc, e5]; omega) (K x4 (by rw [e4, eo])))
    | succ j ih =>
      intro o x4 x5 hj e5 e4
      have ho : o < c := by omega
      obtain ⟨i5, j5⟩ := idx e5 (by omega)
      have vo : (ea_i h 398 (4 * l + o)).toInt = ch o := ec o
      have wo : (ea_i h 397 (4 * l + o)).toInt = tw o := et o
      have bo := p.2.1 o ho
      have b := cnt_b (fun o => (100 - ch o) * 16 + tw o < (100 - ch k) * 16 + tw k) o
      have yes : (100 - ch o) * 16 + tw o < (100 - ch k) * 16 + tw k → sat (qX12_ordered_18 x1 x2 x3 (x4 + 1) (x5 + 1) h) Q := fun z => ih (o + 1) (x4 + 1) (x5 + 1) (by omega) (n_inc e5 (by omega)) (by rw [cnt_s, one_pos z, n_add, e4, l_1, n_bm (by omega) (by omega)])
      have noo : ¬ (100 - ch o) * 16 + tw o < (100 - ch k) * 16 + tw k → sat (qX12_ordered_18 x1 x2 x3 (x4 + 0) (x5 + 1) h) Q := fun z => ih (o + 1) (x4 + 0) (x5 + 1) (by omega) (n_inc e5 (by omega)) (by rw [cnt_s, one_neg z, n_add, e4, l_0, n_bm (by omega) (by omega)])
      refine uqX12_ordered_18 ?_
      unfold BX12_ordered_18
      rw [ic, j3, j5]
      refine sat_gd g1 (sat_neg (by rw [n_le, vc, e5]; omega) (sat_gd (vp80 i5 (by omega)) (sat_sub (sat_gd (vp80 i3 (by omega)) (sat_sub (sat_ite (fun z => ?_) fun z => ?_))))))
      · rw [n_lt, vk, vo] at z
        exact sat_sub (yes (by omega))
      rw [n_lt, vk, vo] at z
      refine sat_ite (fun w => ?_) fun w => ?_
      · rw [n_eq, vo, vk] at w
        refine sat_gd (vp80 i5 (by omega)) (sat_gd (vp80 i3 (by omega)) (sat_ite (fun u => ?_) fun u => ?_))
        · rw [n_le, wk, wo] at u
          exact sat_sub (noo (by omega))
        · rw [n_le, wk, wo] at u
          exact sat_sub (yes (by omega))
      · rw [n_eq, vo, vk] at w
        exact sat_sub (noo (by omega))
  have H2 : ∀ (j k : Nat) (x3 : Int32), k + j = c → x3.toInt = k → (∀ q, q < k → R i ≠ (100 - ch q) * 16 + tw q) → sat (qX12_ordered_2 x1 x2 x3 h) fun y => y.2 = h ∧ ∃ k : Nat, k < c ∧ y.1.toInt = ((4 * l + k : Nat) : Int) ∧ R i = (100 - ch k) * 16 + tw k := by
    intro j
    induction j with
    | zero =>
      intro k x3 hj e3 hno
      exact absurd k02 (hno k0 (by omega))
    | succ j ih =>
      intro k x3 hj e3 hno
      have hk : k < c := by omega
      obtain ⟨i3, j3⟩ := idx e3 (by omega)
      refine uqX12_ordered_2 ?_
      unfold BX12_ordered_2
      rw [ic]
      refine sat_gd g1 (sat_neg (by rw [n_le, vc, e3]; omega) ?_)
      refine H18 k x3 _ hk e3 (fun x4 e4 => sat_ite (fun z => ?_) fun z => ?_) c 0 0 0 (by omega) rfl rfl
      · rw [n_eq, e4, e2] at z
        exact sat_ret ⟨rfl, k, hk, i3, uniq k hk z⟩
      · rw [n_eq, e4, e2] at z
        refine ih (k + 1) (x3 + 1) (by omega) (n_inc e3 (by omega)) fun q hq => ?_
        by_cases w : q = k
        · rw [w]
          intro e
          exact z (p.rank hi e)
        · exact hno q (by omega)
  have H3 : sat (qX12_ordered x1 x2 h) fun y => y.2 = h ∧ ∃ k : Nat, k < c ∧ y.1.toInt = ((4 * l + k : Nat) : Int) ∧ R i = (100 - ch k) * 16 + tw k := by
    unfold qX12_ordered
    refine uqX12_ordered_0 ?_
    unfold BX12_ordered_0
    exact H2 c 0 0 (by omega) rfl fun q hq => absurd hq (Nat.not_lt_zero q)
  obtain ⟨⟨v, h2⟩, q1, q2, k, q3, q4, q5⟩ := H3
  have q2 : h2 = h := q2
  subst q2
  exact ⟨v, k, q1, q3, q4, q5⟩
theorem m_order {l c : Nat} {R : Nat → Int} (rm : RM0 m X h) (hl : l < m) (hc : hI h 396 l = c) (p : PlR c R (fun k => hI h 397 (4 * l + k)) (fun k => hI h 398 (4 * l + k))) {x1 : Int32} (e1 : x1.toInt = l) (x2 : Int32) : sat (qX12_order x1 x2 h) fun y => y.2 = h ∧ y.1.toInt = ordF c R x2.toInt := by
  have rm0 := rm.1.1
  have rm1 := rm.1.2
  have hl' : l < 120 := by omega
  have g1 := vp80 e1 hl'
  have ic : x1.toNatClampNeg = l := by
    rw [n_idx, e1]
    rfl
  have c4 := p.1
  have vc : (ea_i h 396 l).toInt = c := hc
  have pp := p.prod
  have K34 : x2.toInt = 1 ∨ x2.toInt = 2 → sat (qX12_order_34 x1 x2 h) fun y => y.2 = h ∧ y.1.toInt = ordF c R x2.toInt := by
    intro hx
    unfold ordF
    rw [if_neg (by omega), if_pos hx, pp]
    refine uqX12_order_34 ?_
    unfold BX12_order_34
    rw [ic]
    refine sat_gd g1 (sat_ite (fun z => ?_) fun z => ?_)
    · rw [n_eq, vc, l_0] at z
      rw [if_pos (by omega)]
      exact sat_ret ⟨rfl, rfl⟩
    rw [n_eq, vc, l_0] at z
    rw [if_neg (by omega)]
    have rb : ∀ k, k < c → 1 ≤ 100 - hI h 398 (4 * l + k) ∧ 100 - hI h 398 (4 * l + k) ≤ 99 := fun k hk => by
      have := (p.2.1 k hk).2
      dsimp only at this
      omega
    have P : ∀ i, i ≤ c → (1 ≤ pr (fun k => 100 - hI h 398 (4 * l + k)) i ∧ pr (fun k => 100 - hI h 398 (4 * l + k)) i ≤ 96059601) ∧ 1 ≤ pr (fun _ => 100) i ∧ pr (fun _ => 100) i ≤ 100000000 := fun i hi => by
      have a := pr_99 (f := fun k => 100 - hI h 398 (4 * l + k)) i fun k hk => rb k (by omega)
      have b := pr_b i (by omega)
      omega
    have Pc : pr (fun k => 100 - hI h 398 (4 * l + k)) c < pr (fun _ => 100) c := by
      have a := pr_99 (f := fun k => 100 - hI h 398 (4 * l + k)) c rb
      have b := (pr_b c c4).2.2.2 (by omega)
      omega
    have H : ∀ (j i : Nat) (y3 y5 : Int64) (x7 : Int32), i + j = c → x7.toInt = i → y3.toInt = pr (fun _ => 100) i → y5.toInt = pr (fun k => 100 - hI h 398 (4 * l + k)) i → sat (qX12_order_55 x1 x2 y3 y5 x7 h) fun y => y.2 = h ∧ y.1.toInt = (if x2.toInt = 1 then pr (fun _ => 100) c - pr (fun k => 100 - hI h 398 (4 * l + k)) c else pr (fun _ => 100) c) / (Nat.gcd (pr (fun _ => 100) c).toNat (pr (fun _ => 100) c - pr (fun k => 100 - hI h 398 (4 * l + k)) c).toNat : Int) := by
      intro j
      induction j with
      | zero =>
        intro i y3 y5 x7 hj e7 e3 e5
        have ei : i = c := by omega
        subst ei
        obtain ⟨⟨P1, P2⟩, P3, P4⟩ := P i (Nat.le_refl _)
        generalize pr (fun k => 100 - hI h 398 (4 * l + k)) i = N at *
        generalize pr (fun _ => (100 : Int)) i = A at *
        have es : (y3 - y5).toInt = ((A - N).toNat : Int) := by
          rw [n_subJ, e3, e5, n_bmJ (by omega) (by omega)]
          omega
        have e3' : y3.toInt = (A.toNat : Int) := by omega
        have gp : 0 < Nat.gcd A.toNat (A - N).toNat := Nat.gcd_pos_of_pos_left _ (by omega)
        refine uqX12_order_55 ?_
        unfold BX12_order_55
        rw [ic]
        refine sat_gd g1 (sat_pos (by rw [n_le, vc, e7]; omega) ?_)
        have HC : sat (qX12_common (y3 - y5) y3 h) fun y => y.2 = h ∧ y.1.toInt = Nat.gcd A.toNat (A - N).toNat := by
          unfold qX12_common
          refine uqX12_common_0 ?_
          unfold BX12_common_0
          rw [Nat.gcd_comm]
          exact m_common _ _ _ _ h es e3'
        refine sat_bind HC fun y hy => ?_
        obtain ⟨hy1, hy2⟩ := hy
        have n0 : ¬ y.1 = 0 := fun z => by
          rw [z, lJ_0] at hy2
          omega
        refine sat_ite (fun z => ?_) fun z => ?_
        · rw [n_eq, l_1] at z
          refine sat_gd n0 (sat_ret ⟨hy1, ?_⟩)
          rw [if_pos z]
          show ((y3 - y5) / y.1).toInt = _
          rw [n_divJ0 (by omega) hy2 (by omega), es, show ((A - N).toNat : Int) = A - N by omega]
        · rw [n_eq, l_1] at z
          refine sat_gd n0 (sat_ret ⟨hy1, ?_⟩)
          rw [if_neg z]
          show (y3 / y.1).toInt = _
          rw [n_divJ0 (by omega) hy2 (by omega), e3]
      | succ j ih =>
        intro i y3 y5 x7 hj e7 e3 e5
        obtain ⟨⟨P1, P2⟩, P3, P4⟩ := P i (by omega)
        obtain ⟨⟨Q1, Q2⟩, Q3, Q4⟩ := P (i + 1) (by omega)
        have ri := rb i (by omega)
        have i0 : ((4 : Int32) * x1 + x7).toInt = 4 * (l : Int) + i := by simp (disch := omega) only [n_add, n_sub, n_mul, n_neg, n_bm, n_idx, n_if, hI_eq, l_m1000, l_m100, l_m60, l_m19, l_m18, l_m17, l_m16, l_m15, l_m14, l_m13, l_m12, l_m11, l_m10, l_m8, l_m1, l_0, l_1, l_2, l_3, l_4, l_5, l_6, l_7, l_8, l_9, l_10, l_11, l_12, l_13, l_14, l_15, l_16, l_17, l_18, l_19, l_20, l_21, l_24, l_25, l_32, l_40, l_41, l_42, l_43, l_45, l_47, l_48, l_57, l_59, l_60, l_61, l_62, l_63, l_64, l_65, l_70, l_80, l_90, l_97, l_99, l_100, l_120, l_122, l_127, l_144, l_150, l_201, l_202, l_203, l_204, l_205, l_206, l_207, l_255, l_300, l_364, l_480, l_560, l_600, l_601, l_620, l_840, l_900, l_980, l_999, l_1000, l_1023, l_1024, l_1220, l_1439, l_1440, l_2240, l_2400, l_3000, l_3600, l_4095, l_4096, l_7320, l_9999, l_10079, l_10080, l_12000, l_99999, l_120000, l_1000000, l_2147483647, e1, e7]
        have i1 : ((4 : Int32) * x1 + x7).toInt = ((4 * l + i : Nat) : Int) := by
          rw [i0]
          omega
        have ici : ((4 : Int32) * x1 + x7).toNatClampNeg = 4 * l + i := by
          rw [n_idx, i1]
          rfl
        have v8 : (ea_i h 398 (4 * l + i)).toInt = hI h 398 (4 * l + i) := rfl
        refine uqX12_order_55 ?_
        unfold BX12_order_55
        rw [ic, ici]
        refine sat_gd g1 (sat_neg (by rw [n_le, vc, e7]; omega) (sat_let fun v24 hv24 => sat_gd (vp80 i1 (by omega)) (sat_let fun v26 hv26 => ?_)))
        refine ih (i + 1) v24 v26 (x7 + 1) (by omega) (n_inc e7 (by omega)) ?_ ?_
        · rw [hv24, n_mulJ, e3, lJ_100]
          exact n_bmJ (by show -9223372036854775808 ≤ pr (fun _ => 100) (i + 1); omega) (by show pr (fun _ => 100) (i + 1) < 9223372036854775808; omega)
        · have dv : ((100 : Int32) - ea_i h 398 (4 * l + i)).toInt = 100 - hI h 398 (4 * l + i) := by
            rw [n_sub, v8, l_100, n_bm (by omega) (by omega)]
          rw [hv26, n_mulJ, n_i2l, dv, e5]
          exact n_bmJ (by show -9223372036854775808 ≤ pr (fun k => 100 - hI h 398 (4 * l + k)) (i + 1); omega) (by show pr (fun k => 100 - hI h 398 (4 * l + k)) (i + 1) < 9223372036854775808; omega)
    exact H c 0 1 1 0 (by omega) rfl rfl rfl
  unfold qX12_order
  refine uqX12_order_0 ?_
  unfold BX12_order_0
  obtain ⟨v1, q1, s1⟩ := m_isLetterOf x1 (h := h) (by omega)
  refine sat_call q1 ?_
  rcases s1 with ⟨r1, s1⟩ | ⟨r1, s1⟩
  · exact sat_pos r1 (absurd s1 (by omega))
  refine sat_neg (by rw [r1]; exact i1_ne_0) ?_
  dsimp only
  rw [ic]
  refine sat_ite (fun z => ?_) fun z0 => ?_
  · refine sat_gd g1 (sat_ret ⟨rfl, ?_⟩)
    show (Int32.toInt64 (ea_i h 396 l)).toInt = _
    rw [n_i2l, vc, z]
    rfl
  rw [n_eq, l_0] at z0
  refine sat_ite (fun z => ?_) fun z1 => ?_
  · rw [n_eq, l_1] at z
    exact K34 (Or.inl z)
  rw [n_eq, l_1] at z1
  refine sat_ite (fun z => ?_) fun z2 => ?_
  · rw [n_eq, l_2] at z
    exact K34 (Or.inr z)
  rw [n_eq, l_2] at z2
  have v9 : ((9 : Int32) + ea_i h 396 l).toInt = 9 + c := by rw [n_add, vc, n_bm (by have : (9 : Int32).toInt = 9 := rfl; omega) (by have : (9 : Int32).toInt = 9 := rfl; omega)]; rfl
  have v19 : ((19 : Int32) + ea_i h 396 l).toInt = 19 + c := by rw [n_add, vc, n_bm (by have : (19 : Int32).toInt = 19 := rfl; omega) (by have : (19 : Int32).toInt = 19 := rfl; omega)]; rfl
  unfold ordF
  rw [if_neg z0, if_neg (by omega)]
  refine sat_gd g1 ?_
  obtain ⟨v3, q3, s3⟩ := m_isIn x2 10 ((9 : Int32) + ea_i h 396 l) h
  rw [l_10, v9] at s3
  refine sat_call q3 ?_
  rcases s3 with ⟨r3, s3⟩ | ⟨r3, s3⟩
  · refine sat_pos r3 (sat_gd g1 ?_)
    rw [if_neg (by omega)]
    obtain ⟨v5, q5, s5⟩ := m_isIn x2 20 ((19 : Int32) + ea_i h 396 l) h
    rw [l_20, v19] at s5
    refine sat_call q5 ?_
    rcases s5 with ⟨r5, s5⟩ | ⟨r5, s5⟩
    · refine sat_pos r5 (sat_ret ⟨rfl, ?_⟩)
      rw [if_neg (by omega)]
      rfl
    · have e : (x2 - (20 : Int32)).toInt = ((x2.toInt - 20).toNat : Int) := by
        rw [n_sub, l_20, n_bm (by omega) (by omega)]
        omega
      obtain ⟨v, k, u1, u2, u3, u4⟩ := m_ordered hl' hc (fun _ => rfl) (fun _ => rfl) p e1 e (by omega)
      have icv : v.toNatClampNeg = 4 * l + k := by
        rw [n_idx, u3]
        rfl
      refine sat_neg (by rw [r5]; exact i1_ne_0) (sat_call u1 (sat_gd (vp80 u3 (by omega)) (sat_ret ⟨rfl, ?_⟩)))
      have bk := p.2.1 k u2
      dsimp only at bk u4
      show (Int32.toInt64 (ea_i h 398 v.toNatClampNeg)).toInt = _
      rw [if_pos (by omega), icv, n_i2l, u4]
      show hI h 398 (4 * l + k) = _
      omega
  · have e : (x2 - (10 : Int32)).toInt = ((x2.toInt - 10).toNat : Int) := by
      rw [n_sub, l_10, n_bm (by omega) (by omega)]
      omega
    obtain ⟨v, k, u1, u2, u3, u4⟩ := m_ordered hl' hc (fun _ => rfl) (fun _ => rfl) p e1 e (by omega)
    have icv : v.toNatClampNeg = 4 * l + k := by
      rw [n_idx, u3]
      rfl
    refine sat_neg (by rw [r3]; exact i1_ne_0) (sat_call u1 (sat_gd (vp80 u3 (by omega)) (sat_ret ⟨rfl, ?_⟩)))
    have bk := p.2.1 k u2
    dsimp only at bk u4
    show (Int32.toInt64 (ea_i h 397 v.toNatClampNeg)).toInt = _
    rw [if_pos (by omega), icv, n_i2l, u4]
    show hI h 397 (4 * l + k) = _
    omega
theorem call_order (hs : ShC h) (rc : RC52 m X h) (rm : RM0 m X h) (sp : SPl h m) (x1 x2 : Int32) : tw (qX11_order x1 x2 h) (qX12_order x1 x2) fun h' => h' = h := by
  rcases c_letterOf x1 hs rc.1.1 rc.1.2 with ⟨p, np⟩ | ⟨l, e1, hl, p⟩
  · unfold tw qX11_order
    refine uqX11_order_0 ?_
    unfold BX11_order_0
    refine sat_call p (sat_pos rfl (sat_ret ?_))
    show sat (qX12_order x1 x2 h) _
    unfold qX12_order
    refine uqX12_order_0 ?_
    unfold BX12_order_0
    have r0 := rm.1.1
    obtain ⟨v1, q1, s1⟩ := m_isLetterOf x1 (h := h) (by omega)
    refine sat_call q1 ?_
    rcases s1 with ⟨r1, s1⟩ | ⟨r1, s1⟩
    · exact sat_pos r1 (sat_ret ⟨rfl, rfl⟩)
    refine sat_neg (by rw [r1]; exact i1_ne_0) ?_
    dsimp only
    exact absurd s1 (by omega)
  · obtain ⟨c, c1, c2, c3⟩ := sp l hl
    have hm := rc.1.2
    obtain ⟨y, y1, y2, y3⟩ := c_order hs (by omega) c1 c3 x2 p
    obtain ⟨z, z1, z2, z3⟩ := m_order rm hl c2 c3 e1 x2
    refine ⟨y, y1, ?_⟩
    show sat (qX12_order x1 x2 y.2) _
    rw [y2]
    exact ⟨z, z1, n_eqJ.mpr (y3.trans z3.symm), z2⟩
end OR
