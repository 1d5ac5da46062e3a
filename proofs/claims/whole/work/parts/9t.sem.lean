/-! calls: rob -/
noncomputable def rlL (r now : Int) (X : Nat → Nat → Int) (j : Nat) : Nat → Nat → Int := @ite _ (X 0 j = 1 ∧ X 1 j = r ∧ X 4 j ≠ 0) (Classical.propDecidable _) (mvX X j now 4 r) X
noncomputable def rlF (r now : Int) (X : Nat → Nat → Int) : Nat → Nat → Nat → Int
  | 0 => X
  | j + 1 => rlL r now (rlF r now X j) j
def rlC (r : Int) (X : Nat → Nat → Int) (l : Nat) : Prop := X 0 l = 1 ∧ X 1 l = r ∧ X 4 l ≠ 0
section RL
variable {T : Nat → Nat → Nat → Nat} {L : List Nat} {p m n : Nat} {X G : Nat → Nat → Int} {h : ea_H} {r now : Int}
theorem rlL_ne (Y : Nat → Nat → Int) {j l : Nat} (hl : l ≠ j) {f : Nat} (hf : f ≤ 7) : rlL r now Y j f l = Y f l := by
  unfold rlL
  split
  · have : f = 0 ∨ f = 1 ∨ f = 2 ∨ f = 3 ∨ f = 4 ∨ f = 5 ∨ f = 6 ∨ f = 7 := by omega
    rcases this with z | z | z | z | z | z | z | z <;> subst z
    · rw [mvX_0, if_neg hl]
    · rw [mvX_1, if_neg hl]
    · rw [mvX_2]
    · rw [mvX_3]
    · rw [mvX_4, if_neg hl]
    · rw [mvX_5, if_neg hl]
    · rw [mvX_6]
    · rw [mvX_7, if_neg hl]
  · rfl
theorem rlF_ge : ∀ (j l : Nat), j ≤ l → ∀ f, f ≤ 7 → rlF r now X j f l = X f l := by
  intro j
  induction j with
  | zero => exact fun _ _ _ _ => rfl
  | succ j ih =>
    intro l hl f hf
    exact (rlL_ne (rlF r now X j) (by omega) hf).trans (ih l (by omega) f hf)
theorem rlF_at : ∀ (j l : Nat), l < j → (rlC r X l → rlF r now X j 0 l = 4) ∧ (¬ rlC r X l → ∀ f, f ≤ 7 → rlF r now X j f l = X f l) := by
  intro j
  induction j with
  | zero => exact fun l hl => absurd hl (Nat.not_lt_zero l)
  | succ j ih =>
    intro l hl
    by_cases q : l = j
    · subst q
      have g : ∀ f, f ≤ 7 → rlF r now X l f l = X f l := rlF_ge l l (Nat.le_refl _)
      have e : rlF r now X (l + 1) = rlL r now (rlF r now X l) l := rfl
      refine ⟨fun c => ?_, fun c f hf => ?_⟩
      · rw [e]
        unfold rlL
        rw [g 0 (by decide), g 1 (by decide), g 4 (by decide), if_pos (show X 0 l = 1 ∧ X 1 l = r ∧ X 4 l ≠ 0 from c), mvX_0, if_pos rfl]
      · rw [e]
        unfold rlL
        rw [g 0 (by decide), g 1 (by decide), g 4 (by decide), if_neg (show ¬ (X 0 l = 1 ∧ X 1 l = r ∧ X 4 l ≠ 0) from c)]
        exact g f hf
    · obtain ⟨a, b⟩ := ih l (by omega)
      have e : ∀ f, f ≤ 7 → rlF r now X (j + 1) f l = rlF r now X j f l := fun f hf => rlL_ne (rlF r now X j) q hf
      exact ⟨fun c => (e 0 (by decide)).trans (a c), fun c f hf => (e f hf).trans (b c f hf)⟩
theorem rlF_xi (hm : m ≤ 120) (n0 : 0 ≤ hI h 326 0) (n1 : hI h 326 0 ≤ 10079) (hp : fstB L (hI h 326 0).toNat p) (hpl : p ≤ 980) (r0 : 0 ≤ r) (r1 : r < 128) (xi : XI h T L p m G X) : ∀ j, j ≤ m → XI h T L p m G (rlF r (hI h 326 0) X j) := by
  intro j
  induction j with
  | zero => exact fun _ => xi
  | succ j ih =>
    intro hj
    have IH := ih (by omega)
    show XI h T L p m G (rlL r (hI h 326 0) (rlF r (hI h 326 0) X j) j)
    unfold rlL
    split
    · rename_i c
      exact XI.mv hm n0 n1 hp hpl IH (by omega) (by omega) (by decide) (by decide) r0 r1
    · exact IH
theorem c_rob77 (hm : m ≤ 120) (n0 : 0 ≤ hI h 326 0) (n1 : hI h 326 0 ≤ 10079) (hpl : p ≤ 980) (hp : fstB L (hI h 326 0).toNat p) (xi : XI h T L p m G X) {rn k : Nat} (hr : rn < 70) {x3 x4 : Int32} (e3 : x3.toInt = rn) (e4 : x4.toInt = k) {h0 : ea_H} (hs0 : ShC h0) (hnow : hI h0 0 14 = hI h 326 0) :
    ∀ (q j : Nat) (x5 : Int32) (h1 : ea_H), j + q = m → x5.toInt = j → fq [(53, 54), (57, 57), (59, 61), (75, 75)] [((52, 52), 10, 10), ((76, 315), 16, 17)] h0 h1 → RC52 m (rlF rn (hI h 326 0) X j) h1 → RN m (rlF rn (hI h 326 0) X j) h1 → (∀ l, (l < j ∧ rlC rn X l → hI h1 75 l = k) ∧ (¬ (l < j ∧ rlC rn X l) → hI h1 75 l = hI h0 75 l)) →
      sat (qX11_rob_77 x3 x4 x5 h1) fun y => y.1 = x4 ∧ fq [(53, 54), (57, 57), (59, 61), (75, 75)] [((0, 0), 15, 15), ((52, 52), 10, 10), ((76, 315), 16, 17)] h0 y.2 ∧ hI y.2 0 15 = 0 ∧ RC52 m (rlF rn (hI h 326 0) X m) y.2 ∧ RN m (rlF rn (hI h 326 0) X m) y.2 ∧ ∀ l, (l < m ∧ rlC rn X l → hI y.2 75 l = k) ∧ (¬ (l < m ∧ rlC rn X l) → hI y.2 75 l = hI h0 75 l) := by
  intro q
  induction q with
  | zero =>
    intro j x5 h1 hj e5 f rc rn1 hk
    have ej : j = m := by omega
    subst ej
    refine uqX11_rob_77 ?_
    unfold BX11_rob_77
    refine sat_pos (by rw [n_le, hI_eq, rc.1.1, e5]; omega) (sat_let fun H13 q13 => sat_ret ?_)
    have q13 : H13 = ea_wi h1 0 15 0 := q13
    have f13 : fq [] [((0, 0), 15, 15)] h1 H13 := q13 ▸ fq_wf rfl
    refine ⟨rfl, (f.up rfl rfl).tr (f13.up rfl rfl), by show hI H13 0 15 = 0; rw [q13, hI_at]; rfl, rc.kq (f13.kq rfl), rn1.lq hm (f13.kq rfl) (keq.lt (f13.kq rfl : keq [] [((76, 315), 16, 17)] h1 H13) rfl), fun l => ?_⟩
    rw [f13.C 75 rfl rfl]
    exact hk l
  | succ q ih =>
    intro j x5 h1 hj e5 f rc rn1 hk
    have hjm : j < m := by omega
    have hj' : j < 120 := by omega
    have gj := vp80 e5 hj'
    have ic : x5.toNatClampNeg = j := by
      rw [n_idx, e5]
      rfl
    have XF := rlF_xi (r := (rn : Int)) hm n0 n1 hp hpl (by omega) (by omega) xi j (by omega)
    have b7 := XF.b7 hpl
    have g : ∀ f, f ≤ 7 → rlF rn (hI h 326 0) X j f j = X f j := rlF_ge j j (Nat.le_refl _)
    have e : rlF rn (hI h 326 0) X (j + 1) = rlL rn (hI h 326 0) (rlF rn (hI h 326 0) X j) j := rfl
    obtain ⟨v, p, w⟩ := c_isAboard52 e5 e3 hjm rc
    rw [g 0 (by decide), g 1 (by decide)] at w
    have skip : ¬ rlC rn X j → sat (qX11_rob_77 x3 x4 (x5 + 1) h1) fun y => y.1 = x4 ∧ fq [(53, 54), (57, 57), (59, 61), (75, 75)] [((0, 0), 15, 15), ((52, 52), 10, 10), ((76, 315), 16, 17)] h0 y.2 ∧ hI y.2 0 15 = 0 ∧ RC52 m (rlF rn (hI h 326 0) X m) y.2 ∧ RN m (rlF rn (hI h 326 0) X m) y.2 ∧ ∀ l, (l < m ∧ rlC rn X l → hI y.2 75 l = k) ∧ (¬ (l < m ∧ rlC rn X l) → hI y.2 75 l = hI h0 75 l) := by
      intro hc
      have e2 : rlF rn (hI h 326 0) X (j + 1) = rlF rn (hI h 326 0) X j := by
        rw [e]
        unfold rlL
        rw [g 0 (by decide), g 1 (by decide), g 4 (by decide)]
        exact if_neg hc
      refine ih (j + 1) (x5 + 1) h1 (by omega) (n_inc e5 (by omega)) f (by rw [e2]; exact rc) (by rw [e2]; exact rn1) fun l => ⟨fun z => ?_, fun z => (hk l).2 fun u => z ⟨by omega, u.2⟩⟩
      refine (hk l).1 ⟨?_, z.2⟩
      apply Nat.lt_of_le_of_ne (by omega)
      intro u
      rw [u] at z
      exact hc z.2
    refine uqX11_rob_77 ?_
    unfold BX11_rob_77
    rw [ic]
    refine sat_neg (by rw [n_le, hI_eq, rc.1.1, e5]; omega) (sat_call p ?_)
    rcases w with ⟨w1, w2, w3⟩ | ⟨w1, w2⟩
    case inr => exact sat_pos w1 (skip fun z => w2 ⟨z.1, z.2.1⟩)
    have v57 : (ea_i h1 57 j).toInt = X 4 j := ((rc.2.1 j hjm).2.2.2.1 ((g 0 (by decide)).trans w2)).2.trans (g 4 (by decide))
    refine sat_neg (by rw [w1]; exact i1_ne_0) (sat_gd gj (sat_ite (fun z => ?_) fun z => ?_))
    · have z : ea_i h1 57 j = 0 := z
      rw [n_eq, v57, l_0] at z
      exact skip fun u => u.2.2 z
    have z : ¬ ea_i h1 57 j = 0 := z
    rw [n_eq, v57, l_0] at z
    have hc : rlC rn X j := ⟨w2, w3, z⟩
    refine sat_gd gj (sat_let fun H17 q17 => ?_)
    have q17 : H17 = ea_wi h1 75 j x4 := q17
    have f17 : fq [(75, 75)] [] h1 H17 := q17 ▸ fq_wi rfl
    have rc17 : RC52 m (rlF rn (hI h 326 0) X j) H17 := rc.kq (f17.kq rfl)
    have rn17 : RN m (rlF rn (hI h 326 0) X j) H17 := rn1.lq hm (f17.kq rfl) (keq.lt (f17.kq rfl : keq [] [((76, 315), 16, 17)] h1 H17) rfl)
    have v14 : (ea_i H17 0 14).toInt = hI h 326 0 := (f17.I 0 rfl 14 rfl).trans ((f.I 0 rfl 14 rfl).trans hnow)
    have b7j := b7 j hjm
    have g0 := g 0 (by decide)
    have g1 := g 1 (by decide)
    refine sat_bind (c_move52 (st := 4) (mn := hI h 326 0) (pl := rn) (x3 := 4) e5 v14 rfl e3 (ShC_core f17.1 (ShC_core f.1 hs0)) hjm rc17 (fun z => by omega) (fun z => by omega) (by decide) (by decide) (fun z => absurd z (by decide)) (fun z => absurd z (by decide)) (by omega) (by omega) n0 n1 (fun z => absurd z (by decide)) rn17 (fun l hl => by have := b7 l hl; omega) (by omega)) fun y hy => ?_
    obtain ⟨f3, rc3, rn3⟩ := hy
    have e2 : rlF rn (hI h 326 0) X (j + 1) = mvX (rlF rn (hI h 326 0) X j) j (hI h 326 0) 4 rn := by
      rw [e]
      unfold rlL
      rw [g 0 (by decide), g 1 (by decide), g 4 (by decide)]
      exact if_pos hc
    refine ih (j + 1) (x5 + 1) y.2 (by omega) (n_inc e5 (by omega)) (f.tr ((f17.up rfl rfl).tr (f3.up rfl rfl))) (by rw [e2]; exact rc3) (by rw [e2]; exact rn3) fun l => ?_
    rw [f3.C 75 rfl rfl, q17, hI_row]
    by_cases u : l = j
    · rw [if_pos u, u]
      exact ⟨fun _ => e4, fun a => absurd ⟨Nat.lt_succ_self j, hc⟩ a⟩
    · rw [if_neg u]
      exact ⟨fun a => (hk l).1 ⟨by omega, a.2⟩, fun a => (hk l).2 fun b => a ⟨by omega, b.2⟩⟩
theorem m_rob104 (hm : m ≤ 120) (n0 : 0 ≤ hI h 326 0) (n1 : hI h 326 0 ≤ 10079) (hpl : p ≤ 980) (hp : fstB L (hI h 326 0).toNat p) (xi : XI h T L p m G X) {t d k : Nat} (ht : t < 10) (hd : d < 7) (hk20 : k < 20) {x3 x5 : Int32} (e3 : x3.toInt = ((7 * t + d : Nat) : Int)) (e5 : x5.toInt = k) {h0 : ea_H} (hnow : hI h0 326 0 = hI h 326 0) (hz : hI h0 401 k = 0 ∧ hI h0 402 k = 0) (ow : ∀ l, owI h0 l = owI h l) (hD : DFm m (fun _ => hI h 326 0 / 1440) X h0) :
    ∀ (q j : Nat) (x6 : Int32) (h1 : ea_H), j + q = m → x6.toInt = j → fq [(376, 376), (381, 382), (385, 385), (388, 390), (401, 403)] [] h0 h1 → RM0 m (rlF ((10 * d + t : Nat) : Int) (hI h 326 0) X j) h1 → (∀ i, hI h1 401 i = if i = k then cnt (rlC ((10 * d + t : Nat) : Int) X) j else hI h0 401 i) → (∀ i, hI h1 402 i = if i = k then (owS h (rlC ((10 * d + t : Nat) : Int) X) j).toInt else hI h0 402 i) → (∀ i j', i < 20 → j' < 120 → hI h1 403 (120 * i + j') = if i = k ∧ (j' : Int) < cnt (rlC ((10 * d + t : Nat) : Int) X) j then acN (rlC ((10 * d + t : Nat) : Int) X) j' j else hI h0 403 (120 * i + j')) →
      sat (qX12_rob_104 x3 x5 x6 h1) fun y => y.1 = x5 ∧ fq [(376, 376), (381, 382), (385, 385), (388, 390), (401, 403)] [] h0 y.2 ∧ RM0 m (rlF ((10 * d + t : Nat) : Int) (hI h 326 0) X m) y.2 ∧ (∀ i, hI y.2 401 i = if i = k then cnt (rlC ((10 * d + t : Nat) : Int) X) m else hI h0 401 i) ∧ (∀ i, hI y.2 402 i = if i = k then (owS h (rlC ((10 * d + t : Nat) : Int) X) m).toInt else hI h0 402 i) ∧ ∀ i j', i < 20 → j' < 120 → hI y.2 403 (120 * i + j') = if i = k ∧ (j' : Int) < cnt (rlC ((10 * d + t : Nat) : Int) X) m then acN (rlC ((10 * d + t : Nat) : Int) X) j' m else hI h0 403 (120 * i + j') := by
  have gk := vp80 e5 hk20
  have ick : x5.toNatClampNeg = k := by
    rw [n_idx, e5]
    rfl
  intro q
  induction q with
  | zero =>
    intro j x6 h1 hj e6 f rm h401 h402 h403
    have ej : j = m := by omega
    subst ej
    refine uqX12_rob_104 ?_
    unfold BX12_rob_104
    exact sat_pos (by rw [n_le, hI_eq, rm.1.1, e6]; omega) (sat_ret ⟨rfl, f, rm, h401, h402, h403⟩)
  | succ q ih =>
    intro j x6 h1 hj e6 f rm h401 h402 h403
    have hjm : j < m := by omega
    have hj' : j < 120 := by omega
    have gj := vp80 e6 hj'
    have ic : x6.toNatClampNeg = j := by
      rw [n_idx, e6]
      rfl
    have XF := rlF_xi (r := ((10 * d + t : Nat) : Int)) hm n0 n1 hp hpl (by omega) (by omega) xi j (by omega)
    have b7 := XF.b7 hpl
    have g : ∀ f, f ≤ 7 → rlF ((10 * d + t : Nat) : Int) (hI h 326 0) X j f j = X f j := rlF_ge j j (Nat.le_refl _)
    have e : rlF ((10 * d + t : Nat) : Int) (hI h 326 0) X (j + 1) = rlL ((10 * d + t : Nat) : Int) (hI h 326 0) (rlF ((10 * d + t : Nat) : Int) (hI h 326 0) X j) j := rfl
    have cb := cnt_b (rlC ((10 * d + t : Nat) : Int) X) j
    obtain ⟨v, p, w⟩ := m_isAboard e6 e3 ht hd hjm rm
    rw [g 0 (by decide), g 1 (by decide)] at w
    have skip : ¬ rlC ((10 * d + t : Nat) : Int) X j → sat (qX12_rob_104 x3 x5 (x6 + 1) h1) fun y => y.1 = x5 ∧ fq [(376, 376), (381, 382), (385, 385), (388, 390), (401, 403)] [] h0 y.2 ∧ RM0 m (rlF ((10 * d + t : Nat) : Int) (hI h 326 0) X m) y.2 ∧ (∀ i, hI y.2 401 i = if i = k then cnt (rlC ((10 * d + t : Nat) : Int) X) m else hI h0 401 i) ∧ (∀ i, hI y.2 402 i = if i = k then (owS h (rlC ((10 * d + t : Nat) : Int) X) m).toInt else hI h0 402 i) ∧ ∀ i j', i < 20 → j' < 120 → hI y.2 403 (120 * i + j') = if i = k ∧ (j' : Int) < cnt (rlC ((10 * d + t : Nat) : Int) X) m then acN (rlC ((10 * d + t : Nat) : Int) X) j' m else hI h0 403 (120 * i + j') := by
      intro hc
      have e2 : rlF ((10 * d + t : Nat) : Int) (hI h 326 0) X (j + 1) = rlF ((10 * d + t : Nat) : Int) (hI h 326 0) X j := by
        rw [e]
        unfold rlL
        rw [g 0 (by decide), g 1 (by decide), g 4 (by decide)]
        exact if_neg hc
      have c2 : cnt (rlC ((10 * d + t : Nat) : Int) X) (j + 1) = cnt (rlC ((10 * d + t : Nat) : Int) X) j := by rw [cnt_s, one_neg hc, Int.add_zero]
      have o2 : owS h (rlC ((10 * d + t : Nat) : Int) X) (j + 1) = owS h (rlC ((10 * d + t : Nat) : Int) X) j := if_neg hc
      have a2 : ∀ u, acN (rlC ((10 * d + t : Nat) : Int) X) u (j + 1) = acN (rlC ((10 * d + t : Nat) : Int) X) u j := fun u => if_neg fun z => hc z.1
      refine ih (j + 1) (x6 + 1) h1 (by omega) (n_inc e6 (by omega)) f (by rw [e2]; exact rm) (fun i => by rw [c2]; exact h401 i) (fun i => by rw [o2]; exact h402 i) fun i j' hi hj2 => ?_
      rw [c2, a2]
      exact h403 i j' hi hj2
    refine uqX12_rob_104 ?_
    unfold BX12_rob_104
    rw [ic]
    refine sat_neg (by rw [n_le, hI_eq, rm.1.1, e6]; omega) (sat_call p ?_)
    rcases w with ⟨w1, w2, w3⟩ | ⟨w1, w2⟩
    case inr => exact sat_pos w1 (skip fun z => w2 ⟨z.1, z.2.1⟩)
    have v387 : (ea_i h1 387 j).toInt = X 4 j := (rm.2.2.1 j hjm ((g 0 (by decide)).trans w2)).trans (g 4 (by decide))
    refine sat_neg (by rw [w1]; exact i1_ne_0) (sat_gd gj (sat_ite (fun z => ?_) fun z => ?_))
    · have z : ea_i h1 387 j = 0 := z
      rw [n_eq, v387, l_0] at z
      exact skip fun u => u.2.2 z
    have z : ¬ ea_i h1 387 j = 0 := z
    rw [n_eq, v387, l_0] at z
    have hc : rlC ((10 * d + t : Nat) : Int) X j := ⟨w2, w3, z⟩
    have v401 : (ea_i h1 401 k).toInt = cnt (rlC ((10 * d + t : Nat) : Int) X) j := by
      have := h401 k
      rw [if_pos rfl] at this
      exact this
    obtain ⟨c, ec⟩ : ∃ c : Nat, cnt (rlC ((10 * d + t : Nat) : Int) X) j = c := ⟨(cnt (rlC ((10 * d + t : Nat) : Int) X) j).toNat, by omega⟩
    have i1 : ((120 : Int32) * x5 + ea_i h1 401 k).toInt = ((120 * k + c : Nat) : Int) := by
      rw [n_add, n_mul, e5, v401, l_120, n_bm (z := 120 * (k : Int)) (by omega) (by omega), n_bm (by omega) (by omega)]
      omega
    have ici : ((120 : Int32) * x5 + ea_i h1 401 k).toNatClampNeg = 120 * k + c := by
      rw [n_idx, i1]
      rfl
    dsimp only
    rw [ick]
    refine sat_gd gk ?_
    rw [ici]
    refine sat_gd (vp80 i1 (by omega)) (sat_let fun H22 q22 => sat_gd gk (sat_gd gk (sat_let fun H25 q25 => sat_gd gk ?_)))
    have q22 : H22 = ea_wi h1 403 (120 * k + c) x6 := q22
    have q25 : H25 = ea_wi H22 401 k (ea_i H22 401 k + 1) := q25
    have f25 : fq [(401, 403)] [] h1 H25 := (q22 ▸ fq_wi rfl : fq [(401, 403)] [] h1 H22).tr (q25 ▸ fq_wi rfl)
    refine sat_call (m_owed e6 hj') (sat_gd gk (sat_let fun H29 q29 => ?_))
    have q29 : H29 = ea_wi H25 402 k (ea_i H25 402 k + owI H25 j) := q29
    have f29 : fq [(401, 403)] [] h1 H29 := f25.tr (q29 ▸ fq_wi rfl)
    have F29 : fq [(376, 376), (381, 382), (385, 385), (388, 390), (401, 403)] [] h0 H29 := f.tr (f29.up rfl rfl)
    have oj : owI H25 j = owI h j := (owI_kq ((f.tr (f25.up rfl rfl) : fq [(376, 376), (381, 382), (385, 385), (388, 390), (401, 403)] [] h0 H25).kq rfl) j).trans (ow j)
    obtain ⟨vc, pc, qc⟩ := m_code e3 ht hd H29
    have v0 : (ea_i H29 326 0).toInt = hI h 326 0 := (F29.I 326 rfl 0 rfl).trans hnow
    have b7j := b7 j hjm
    have g0 := g 0 (by decide)
    have rm29 : RM0 m (rlF ((10 * d + t : Nat) : Int) (hI h 326 0) X j) H29 := by
      obtain ⟨⟨p0, p1⟩, p2, p3, p4, p5⟩ := rm
      refine ⟨⟨(f29.I 326 rfl 63 rfl).trans p0, p1⟩, fun q => ?_, fun l hl hz => (f29.C 387 rfl rfl l).trans (p3 l hl hz), fun t d ht hd => (f29.C 386 rfl rfl _).trans (p4 t d ht hd), fun k => or01 (f29.C 387 rfl rfl k) (p5 k)⟩
      show hI H29 381 q = _ ∧ hI H29 382 q = _ ∧ hI H29 383 q = _ ∧ hI H29 384 q = _ ∧ hI H29 385 q = _ ∧ hI H29 376 q = _ ∧ hI H29 388 q = _ ∧ hI H29 389 q = _ ∧ hI H29 390 q = _
      rw [f29.C 381 rfl rfl, f29.C 382 rfl rfl, f29.C 383 rfl rfl, f29.C 384 rfl rfl, f29.C 385 rfl rfl, f29.C 376 rfl rfl, f29.C 388 rfl rfl, f29.C 389 rfl rfl, f29.C 390 rfl rfl]
      exact p2 q
    refine sat_call pc (sat_bind (m_turns (mn := hI h 326 0) (st := 4) (pl := ((10 * d + t : Nat) : Int)) (x3 := 4) e6 v0 rfl qc hjm rm29 (by omega) (by omega) fun z => absurd z (by decide)) fun y hy => ?_)
    obtain ⟨f3, rm3⟩ := hy
    have e2 : rlF ((10 * d + t : Nat) : Int) (hI h 326 0) X (j + 1) = mvX (rlF ((10 * d + t : Nat) : Int) (hI h 326 0) X j) j (hI h 326 0) 4 ((10 * d + t : Nat) : Int) := by
      rw [e]
      unfold rlL
      rw [g 0 (by decide), g 1 (by decide), g 4 (by decide)]
      exact if_pos hc
    have c2 : cnt (rlC ((10 * d + t : Nat) : Int) X) (j + 1) = (c : Int) + 1 := by rw [cnt_s, one_pos hc, ec]
    have o2 : owS h (rlC ((10 * d + t : Nat) : Int) X) (j + 1) = owS h (rlC ((10 * d + t : Nat) : Int) X) j + owI h j := if_pos hc
    have a2 : ∀ u : Int, acN (rlC ((10 * d + t : Nat) : Int) X) u (j + 1) = if (c : Int) = u then (j : Int) else acN (rlC ((10 * d + t : Nat) : Int) X) u j := fun u => by
      show @ite _ (rlC ((10 * d + t : Nat) : Int) X j ∧ cnt (rlC ((10 * d + t : Nat) : Int) X) j = u) (Classical.propDecidable _) (j : Int) (acN (rlC ((10 * d + t : Nat) : Int) X) u j) = _
      by_cases w : (c : Int) = u
      · rw [if_pos w, if_pos ⟨hc, ec.trans w⟩]
      · rw [if_neg w, if_neg (fun z => w (ec.symm.trans z.2))]
    refine ih (j + 1) (x6 + 1) y.2 (by omega) (n_inc e6 (by omega)) (F29.tr (f3.up rfl rfl)) (by rw [e2]; exact rm3) (fun i => ?_) (fun i => ?_) fun i j' hi hj2 => ?_
    · rw [f3.C 401 rfl rfl, q29, hI_ne (by decide), q25, hI_row, q22, i_ne (by decide), hI_ne (by decide), c2]
      by_cases w : i = k
      · rw [if_pos w, if_pos w, n_add, v401, ec, l_1, n_bm (by omega) (by omega)]
      · rw [if_neg w, if_neg w, h401 i, if_neg w]
    · rw [f3.C 402 rfl rfl, q29, hI_row, o2, oj]
      have u402 : ∀ i, hI H25 402 i = hI h1 402 i := fun i => by rw [q25, hI_ne (by decide), q22, hI_ne (by decide)]
      by_cases w : i = k
      · rw [if_pos w, if_pos w]
        have : ea_i H25 402 k = owS h (rlC ((10 * d + t : Nat) : Int) X) j := n_eq.mpr ((u402 k).trans (by
          have := h402 k
          rw [if_pos rfl] at this
          exact this))
        rw [this]
      · rw [if_neg w, if_neg w, u402, h402 i, if_neg w]
    · rw [f3.C 403 rfl rfl, q29, hI_ne (by decide), q25, hI_ne (by decide), q22, hI_row, c2, a2, e6, h403 i j' hi hj2, ec]
      by_cases w : i = k
      · by_cases u : j' = c
        · rw [if_pos (by omega), if_pos ⟨w, by omega⟩, if_pos (by omega)]
        · rw [if_neg (by omega)]
          by_cases s : (j' : Int) < c
          · rw [if_pos ⟨w, s⟩, if_pos ⟨w, by omega⟩, if_neg (by omega)]
          · rw [if_neg (fun z => s z.2), if_neg (fun z => by have := z.2; omega)]
      · rw [if_neg (by omega), if_neg (fun z => w z.1), if_neg (fun z => w z.1)]
end RL
