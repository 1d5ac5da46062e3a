/-! the class: marks; a coming -/
theorem mk_sh : ∀ k, k < 64 → ((1 : Int64) <<< ((Int32.ofNat k).toInt64 &&& 63)).toBitVec = 1#64 <<< k := by decide +kernel
theorem mk_bit : ∀ k, k < 64 → ∀ i, i < 64 → (1#64 <<< k).getLsbD i = decide (i = k) := by decide +kernel
theorem c_mark {x1 x2 : Int32} {x l : Nat} (e1 : x1.toInt = x) (e2 : x2.toInt = l) (hl : l < 120) (hT : kT x < 10) (hD : kD x < 7) (h : ea_H) : sat (qX4_mark x1 x2 h) fun y => fq [(51, 51)] [] h y.2 ∧ (∀ a k, hI y.2 a k = hI h a k) ∧ ∀ c l', l' < 120 → (mkB y.2 c l' = true ↔ mkB h c l' = true ∨ (c = kC x ∧ l' = l)) := by
  obtain ⟨v, p, r⟩ := c_wordOf e1 e2 hl hT hD h
  have hS : kS x < 560 := kS_lt ⟨hT, hD⟩
  have hgl := kGo_lt x
  have hC : kC x < 1120 := by
    unfold kC
    omega
  have ic : v.toNatClampNeg = 2 * kC x + l / 64 := by
    rw [n_idx, r]
    rfl
  have g := vp80 r (show 2 * kC x + l / 64 < 2240 by omega)
  unfold qX4_mark BX4_mark_0
  refine sat_call p (sat_gd g (sat_gd g (sat_let fun H4 q4 => sat_ret ?_)))
  have q4 : H4 = ea_wj h 51 v.toNatClampNeg ((ea_j h 51 v.toNatClampNeg) ||| ((1 : Int64) <<< (Int32.toInt64 (x2 - x2 / (64 : Int32) * (64 : Int32)) &&& 63))) := q4
  rw [ic] at q4
  have hm : x2 - x2 / (64 : Int32) * (64 : Int32) = Int32.ofNat (l % 64) := by
    refine i32_of ?_ (by omega)
    rw [n_rem0 (m := 64) (by omega) l_64 (by decide), e2]
    omega
  rw [hm] at q4
  refine ⟨q4 ▸ fq_wj rfl, fun a k => by rw [q4]; rfl, fun c l' hl' => ?_⟩
  have hj : ∀ k, ea_j H4 51 k = if k = 2 * kC x + l / 64 then (ea_j h 51 (2 * kC x + l / 64)) ||| ((1 : Int64) <<< ((Int32.ofNat (l % 64)).toInt64 &&& 63)) else ea_j h 51 k := by
    intro k
    rw [q4]
    show (if 51 = 51 ∧ k = 2 * kC x + l / 64 then _ else ea_j h 51 k) = _
    by_cases z : k = 2 * kC x + l / 64
    · rw [if_pos ⟨rfl, z⟩, if_pos z]
    · rw [if_neg (fun w => z w.2), if_neg z]
  show mkB H4 c l' = true ↔ _
  unfold mkB
  rw [hj]
  by_cases z : 2 * c + l' / 64 = 2 * kC x + l / 64
  · have hc : c = kC x := by omega
    have hw : l' / 64 = l / 64 := by omega
    rw [if_pos z, hc, hw]
    show ((ea_j h 51 (2 * kC x + l / 64)).toBitVec ||| ((1 : Int64) <<< ((Int32.ofNat (l % 64)).toInt64 &&& 63)).toBitVec).getLsbD (l' % 64) = true ↔ _
    rw [BitVec.getLsbD_or, mk_sh _ (Nat.mod_lt _ (by decide)), mk_bit _ (Nat.mod_lt _ (by decide)) _ (Nat.mod_lt _ (by decide)), Bool.or_eq_true, decide_eq_true_eq]
    constructor
    · rintro (w | w)
      · exact Or.inl w
      · exact Or.inr ⟨rfl, by omega⟩
    · rintro (w | ⟨-, w⟩)
      · exact Or.inl w
      · exact Or.inr (by rw [w])
  · rw [if_neg z]
    constructor
    · exact Or.inl
    · rintro (w | ⟨w1, w2⟩)
      · exact w
      · rw [w1, w2] at z
        exact absurd rfl z
def MkR (m : Nat) (X : Nat → Nat → Int) (kx : Nat) (h0 : ea_H) (Y : Nat → Nat → Int) (h : ea_H) : Prop := ∀ c l, l < m → (mkB h c l = true ↔ mkB h0 c l = true ∨ (c = kx ∧ Y 7 l ≠ X 7 l))
theorem cmL_7 {T : Nat → Nat → Nat → Nat} {G : Nat → Nat → Int} {x : Nat} (X : Nat → Nat → Int) (j : Nat) : (∀ l, l ≠ j → cmL T G x X j 7 l = X 7 l) ∧ (cmC T X x j → cmL T G x X j 7 j = X 7 j + 1) ∧ (¬ cmC T X x j → cmL T G x X j 7 j = X 7 j) := by
  have z : ∀ l, (@ite _ (X 4 j = 0) (Classical.propDecidable _) (upX (upX X 3 j (bmw (X 3 j + 1))) 6 (kR x) (bmw (X 6 (kR x) + 1))) X) 7 l = X 7 l := fun l => by
    split
    · rw [upX_ne (by decide), upX_ne (by decide)]
    · rfl
  unfold cmL
  by_cases c : cmC T X x j
  · rw [if_pos c]
    refine ⟨fun l hl => ?_, fun _ => ?_, fun w => absurd c w⟩
    · rw [upX_ne (by decide), mvX_7, if_neg hl, z]
    · rw [upX_ne (by decide), mvX_7, if_pos rfl, z]
  · rw [if_neg c]
    exact ⟨fun _ _ => rfl, fun w => absurd w c, fun _ => rfl⟩
theorem cmF_7 {T : Nat → Nat → Nat → Nat} {G : Nat → Nat → Int} {x : Nat} {X : Nat → Nat → Int} : ∀ (j l : Nat), j ≤ l → cmF T G x X j 7 l = X 7 l := by
  intro j
  induction j with
  | zero => exact fun _ _ => rfl
  | succ j ih =>
    intro l hl
    show cmL T G x (cmF T G x X j) j 7 l = _
    rw [(cmL_7 (cmF T G x X j) j).1 l (by omega)]
    exact ih l (by omega)
theorem c_isAboard52 {m l r : Nat} {X : Nat → Nat → Int} {x1 x2 : Int32} (e1 : x1.toInt = l) (e2 : x2.toInt = r) {h : ea_H} (hl : l < m) (rc : RC52 m X h) : ∃ v, qX1_isAboard_at52 x1 x2 h = some (v, h) ∧ ((v = 1 ∧ X 0 l = 1 ∧ X 1 l = r) ∨ (v = 0 ∧ ¬ (X 0 l = 1 ∧ X 1 l = r))) := by
  have hl' : l < 120 := by have := rc.1.2; omega
  have g1 := vp80 e1 hl'
  have ic : x1.toNatClampNeg = l := by
    rw [n_idx, e1]
    rfl
  have v0 : (ea_i h 53 l).toInt = X 0 l := (rc.2.1 l hl).1
  have v1 : (ea_i h 54 l).toInt = X 1 l := (rc.2.1 l hl).2.1
  have H : sat (qX1_isAboard_at52 x1 x2 h) fun y => y.2 = h ∧ ((y.1 = 1 ∧ X 0 l = 1 ∧ X 1 l = r) ∨ (y.1 = 0 ∧ ¬ (X 0 l = 1 ∧ X 1 l = r))) := by
    unfold qX1_isAboard_at52 BX1_isAboard_at52_0
    rw [ic]
    refine sat_gd g1 (sat_ite (fun z => ?_) fun z => ?_)
    · rw [n_eq, v0, l_1] at z
      refine sat_gd g1 (sat_ite (fun w => ?_) fun w => ?_)
      · rw [n_eq, v1, e2] at w
        exact sat_ret ⟨rfl, Or.inl ⟨rfl, z, w⟩⟩
      · rw [n_eq, v1, e2] at w
        exact sat_ret ⟨rfl, Or.inr ⟨rfl, fun k => w k.2⟩⟩
    · rw [n_eq, v0, l_1] at z
      exact sat_ret ⟨rfl, Or.inr ⟨rfl, fun k => z k.1⟩⟩
  obtain ⟨⟨v, h2⟩, q1, q2, q3⟩ := H
  have q2 : h2 = h := q2
  subst q2
  exact ⟨v, q1, q3⟩
theorem RC52.goal {m l : Nat} {X : Nat → Nat → Int} {v : Int} {h : ea_H} (rc : RC52 m X h) (hn : X 0 l ≠ 1) : RC52 m (upX X 2 l v) h := by
  obtain ⟨r0, r2, r3, r4, r5, r6, r7⟩ := rc
  refine ⟨r0, fun k hk => ?_, fun r hr => (r3 r hr).trans (upX_ne (by decide)).symm, fun a ha => ?_, fun r hr => ?_, ?_, r7⟩
  · obtain ⟨w0, w1, w3, w4, w5⟩ := r2 k hk
    rw [upX_ne (show (0 : Nat) ≠ 2 by decide), upX_ne (show (1 : Nat) ≠ 2 by decide), upX_row, upX_ne (show (3 : Nat) ≠ 2 by decide), upX_ne (show (4 : Nat) ≠ 2 by decide), upX_ne (show (5 : Nat) ≠ 2 by decide)]
    refine ⟨w0, w1, w3, fun z => ?_, w5⟩
    rw [if_neg (fun q => hn (by rw [← q]; exact z))]
    exact w4 z
  · rw [r4 a ha]
    exact cnt_eq fun k _ => by rw [upX_ne (show (0 : Nat) ≠ 2 by decide), upX_ne (show (1 : Nat) ≠ 2 by decide)]
  · rw [r5 r hr]
    exact cnt_eq fun k _ => by rw [upX_ne (show (0 : Nat) ≠ 2 by decide), upX_ne (show (1 : Nat) ≠ 2 by decide)]
  · rw [r6]
    exact cnt_eq fun k _ => by rw [upX_ne (show (0 : Nat) ≠ 2 by decide)]
theorem c_com9052 {T : Nat → Nat → Nat → Nat} {L : List Nat} {G : Nat → Nat → Int} {m x : Nat} (ok : tOk T) (hxk : tKey T x) (hG : G 7 0 = m) {X : Nat → Nat → Int} {b : Int} (hX : XOk T m (fun _ => b) X) (hb : b ≤ 999) {x1 x2 x4 x5 x6 x7 : Int32} (e1 : x1.toInt = x) (e2 : x2.toInt = kMin x) (e4 : x4.toInt = kI x) (e5 : x5.toInt = kR x) (e7 : x7.toInt = kA (tW T) x)
    (e6 : (x6 = 1 ∧ kI x + 1 = tS T (kT x)) ∨ (x6 = 0 ∧ ¬ kI x + 1 = tS T (kT x))) {h0 : ea_H} (hs0 : ShC h0) :
    ∀ (k j : Nat) (h : ea_H) (x8 : Int32), j + k = m → x8.toInt = j → GC G h → RC52 m (cmF T G x X j) h → RN m (cmF T G x X j) h → MkR m X (kC x) h0 (cmF T G x X j) h → fq [(51, 51), (53, 61)] [((52, 52), 10, 10), ((76, 315), 16, 17)] h0 h → sat (qX1_comes_at52_90 x1 x2 x4 x5 x6 x7 x8 h) fun y => fq [(51, 51), (53, 61)] [((52, 52), 10, 10), ((76, 315), 16, 17)] h0 y.2 ∧ GC G y.2 ∧ RC52 m (cmF T G x X m) y.2 ∧ RN m (cmF T G x X m) y.2 ∧ MkR m X (kC x) h0 (cmF T G x X m) y.2 := by
  obtain ⟨t1, t2, t3, t4, t5, t6, t7, t8⟩ := t_bounds ok hxk
  intro k
  induction k with
  | zero =>
    intro j h x8 hk e8 g rc rn mk f
    have hjm : j = m := by omega
    subst hjm
    refine uqX1_comes_at52_90 ?_
    unfold BX1_comes_at52_90
    exact sat_pos (by rw [n_le, hI_eq, rc.1.1, e8]; omega) (sat_ret ⟨f, g, rc, rn, mk⟩)
  | succ k ih =>
    intro j h x8 hk e8 g rc rn mk f
    have hj : j < m := by omega
    have hm := rc.1.2
    have hj' : j < 120 := by omega
    have gj := vp80 e8 hj'
    have ic : x8.toNatClampNeg = j := by
      rw [n_idx, e8]
      rfl
    have ic5 : x5.toNatClampNeg = kR x := by
      rw [n_idx, e5]
      rfl
    have e81 := n_inc e8 (by omega)
    have XF := cmF_ok (G := G) ok hxk hX j (by omega)
    have XO := XF j hj
    dsimp only at XO
    rw [if_neg (Nat.lt_irrefl _)] at XO
    have h7j := cmF_7 (T := T) (G := G) (x := x) (X := X) j j (Nat.le_refl _)
    have hs : cmF T G x X (j + 1) = cmL T G x (cmF T G x X j) j := rfl
    generalize cmF T G x X j = Y at *
    obtain ⟨v, p, q⟩ := c_isAboard52 e8 e5 hj rc
    have skip : ¬ cmC T Y x j → sat (qX1_comes_at52_90 x1 x2 x4 x5 x6 x7 (x8 + 1) h) fun y => fq [(51, 51), (53, 61)] [((52, 52), 10, 10), ((76, 315), 16, 17)] h0 y.2 ∧ GC G y.2 ∧ RC52 m (cmF T G x X m) y.2 ∧ RN m (cmF T G x X m) y.2 ∧ MkR m X (kC x) h0 (cmF T G x X m) y.2 := by
      intro hc
      have e : cmF T G x X (j + 1) = Y := by
        rw [hs]
        unfold cmL
        rw [if_neg hc]
      refine ih (j + 1) h (x8 + 1) (by omega) e81 g ?_ ?_ ?_ f
      · rw [e]
        exact rc
      · rw [e]
        exact rn
      · rw [e]
        exact mk
    have no : ¬ cmC T Y x j → ∀ s : Int32, (s = 0 ∨ v = 0) → sat (qX1_comes_at52_131 x1 x2 x4 x5 x6 x7 x8 s h) fun y => fq [(51, 51), (53, 61)] [((52, 52), 10, 10), ((76, 315), 16, 17)] h0 y.2 ∧ GC G y.2 ∧ RC52 m (cmF T G x X m) y.2 ∧ RN m (cmF T G x X m) y.2 ∧ MkR m X (kC x) h0 (cmF T G x X m) y.2 := by
      intro hc s hsv
      refine uqX1_comes_at52_131 ?_
      unfold BX1_comes_at52_131
      by_cases z : s = 0
      · exact sat_pos z (skip hc)
      · refine sat_neg z (sat_call p (sat_pos ?_ (skip hc)))
        rcases hsv with w | w
        · exact absurd w z
        · exact w
    refine uqX1_comes_at52_90 ?_
    unfold BX1_comes_at52_90
    rw [ic]
    refine sat_neg (by rw [n_le, hI_eq, rc.1.1, e8]; omega) ?_
    rcases q with ⟨q1, q2, q3⟩ | ⟨q1, q2⟩
    case inr =>
      have hc : ¬ cmC T Y x j := fun z => q2 ⟨z.1, z.2.1⟩
      refine sat_ite (fun _ => sat_gd gj (sat_ite (fun _ => no hc _ (Or.inr q1)) fun _ => sat_gd gj (sat_ite (fun _ => no hc _ (Or.inr q1)) fun _ => no hc _ (Or.inr q1)))) fun _ => no hc _ (Or.inr q1)
    have v5 : (ea_i h 57 j).toInt = Y 4 j := ((rc.2.1 j hj).2.2.2.1 q2).2
    have v3 : (ea_i h 55 j).toInt = Y 2 j := ((rc.2.1 j hj).2.2.2.1 q2).1
    have yes : cmC T Y x j → sat (qX1_comes_at52_131 x1 x2 x4 x5 x6 x7 x8 1 h) fun y => fq [(51, 51), (53, 61)] [((52, 52), 10, 10), ((76, 315), 16, 17)] h0 y.2 ∧ GC G y.2 ∧ RC52 m (cmF T G x X m) y.2 ∧ RN m (cmF T G x X m) y.2 ∧ MkR m X (kC x) h0 (cmF T G x X m) y.2 := by
      intro hc
      have fin : ∀ (h1 : ea_H) (Z : Nat → Nat → Int), Z = (@ite _ (Y 4 j = 0) (Classical.propDecidable _) (upX (upX Y 3 j (bmw (Y 3 j + 1))) 6 (kR x) (bmw (Y 6 (kR x) + 1))) Y) → (∀ f, f ≠ 3 → f ≠ 6 → ∀ k, Z f k = Y f k) → fq [(56, 56), (58, 58)] [] h h1 → (∀ l, m ≤ l → hI h1 56 l = hI h 56 l) → RC52 m Z h1 → sat (qX1_comes_at52_181 x1 x2 x4 x5 x6 x7 x8 h1) fun y => fq [(51, 51), (53, 61)] [((52, 52), 10, 10), ((76, 315), 16, 17)] h0 y.2 ∧ GC G y.2 ∧ RC52 m (cmF T G x X m) y.2 ∧ RN m (cmF T G x X m) y.2 ∧ MkR m X (kC x) h0 (cmF T G x X m) y.2 := by
        intro h1 Z hZ hZf f1 f56 rc1
        have hs1 : ShC h1 := ShC_core f1.1 (ShC_core f.1 hs0)
        have g1 : GC G h1 := g.kq (f1.kq rfl)
        obtain ⟨k1, k2⟩ := ltr_ref hs1 hj'
        obtain ⟨w, pw, qw⟩ := c_stateIn e7 hs1 hG g1 hj
        have sc := stIn_c G j ((kA (tW T) x : Nat) : Int)
        have rn1 : RN m Z h1 := by
         refine ⟨fun l hl => ?_, fun l hl hl2 => by rw [f1.C (76 + 2 * l) (inB_sub (A := [(52, 62)]) rfl _ (inB_no (by show 62 < 76 + 2 * l; omega))) rfl, f56 l hl]; exact ⟨(rn.2 l hl hl2).1, (rn.2 l hl hl2).2.1, fun c => (mkB_fq f1 rfl c l).trans ((rn.2 l hl hl2).2.2 c)⟩⟩
         · have o1 : ∀ c, hI h1 (76 + 2 * l) c = hI h (76 + 2 * l) c := fun c => f1.C (76 + 2 * l) (inB_sub (A := [(52, 62)]) rfl _ (inB_no (by show 62 < 76 + 2 * l; omega))) rfl c
           rw [hZf 7 (by decide) (by decide), hZf 8 (by decide) (by decide), hZf 9 (by decide) (by decide), hZf 10 (by decide) (by decide), o1, o1]
           exact rn.1 l hl
        have H := c_move52 (st := stIn G j (kA (tW T) x)) e8 e2 qw e7 hs1 hj rc1 (fun z => by rw [hZf 0 (by decide) (by decide)] at z; omega) (fun z => by rw [hZf 1 (by decide) (by decide), q3]; omega) (by omega) (by omega) (fun _ => by omega) (fun z => by omega) (by omega) (by omega) (by omega) (by omega) (fun z => by omega) rn1 (fun l hl => by rw [hZf 7 (by decide) (by decide)]; have w := (XF l hl).2.2.2.2.1; dsimp only at w; split at w <;> split at w <;> omega) (by rw [hZf 7 (by decide) (by decide)]; have w := XO.2.2.2.2.1; rw [q2, if_pos (by decide)] at w; omega)
        refine uqX1_comes_at52_181 ?_
        unfold BX1_comes_at52_181
        rw [ic, k1]
        refine sat_gd gj (sat_gd rfl (sat_gd k2 (sat_call pw (sat_bind H fun y hy => ?_))))
        obtain ⟨y1, y2, y3⟩ := hy
        have e : cmF T G x X (j + 1) = upX (mvX Z j (kMin x) (stIn G j (kA (tW T) x)) (kA (tW T) x)) 2 j (-1) := by
          rw [hs]
          unfold cmL
          rw [if_pos hc, ← hZ]
        have y4 : RC52 m (cmF T G x X (j + 1)) y.2 := by
          rw [e]
          refine RC52.goal y2 ?_
          rw [mvX_0, if_pos rfl]
          omega
        have F1 := f.tr ((f1.up rfl rfl).tr (y1.up rfl rfl))
        refine sat_bind (c_mark e1 e8 hj' t1 t2 y.2) fun z hz => ?_
        obtain ⟨z1, z2, z3⟩ := hz
        refine ih (j + 1) z.2 (x8 + 1) (by omega) e81 (g1.kq ((y1.up rfl rfl : fq [(51, 51), (52, 61)] [((76, 315), 16, 17)] h1 y.2).tr (z1.up rfl rfl) |>.kq rfl)) ?_ ?_ ?_ (F1.tr (z1.up rfl rfl))
        · obtain ⟨a0, a2, a3, a4, a5, a6, a7⟩ := y4
          refine ⟨by rw [z2]; exact a0, fun l hl => by rw [z2, z2, z2, z2, z2, z2]; exact a2 l hl, fun r hr => by rw [z2]; exact a3 r hr, fun a ha => by rw [z2]; exact a4 a ha, fun r hr => by rw [z2]; exact a5 r hr, by rw [z2]; exact a6, fun k => or01 (z2 57 k) (a7 k)⟩
        · rw [e]
          refine ⟨fun l hl => ?_, fun l hl hl2 => by rw [z2, z2]; exact ⟨(y3.2 l hl hl2).1, (y3.2 l hl hl2).2.1, fun c => UN_mk (z3 c l hl2) (by omega) ((y3.2 l hl hl2).2.2 c)⟩⟩
          rw [upX_ne (show (7 : Nat) ≠ 2 by decide), upX_ne (show (8 : Nat) ≠ 2 by decide), upX_ne (show (9 : Nat) ≠ 2 by decide), upX_ne (show (10 : Nat) ≠ 2 by decide), z2, z2]
          exact y3.1 l hl
        · intro c l hl
          have c7 := cmL_7 (T := T) (G := G) (x := x) Y j
          have m1 : mkB y.2 c l = mkB h c l := (mkB_fq y1 rfl c l).trans (mkB_fq f1 rfl c l)
          rw [z3 c l (by omega), m1, mk c l hl, hs]
          by_cases w : l = j
          · rw [w, c7.2.1 hc]
            constructor
            · rintro ((a | ⟨a, a2⟩) | ⟨a, a2⟩)
              · exact Or.inl a
              · exact Or.inr ⟨a, by omega⟩
              · exact Or.inr ⟨a, by omega⟩
            · rintro (a | ⟨a, a2⟩)
              · exact Or.inl (Or.inl a)
              · exact Or.inr ⟨a, rfl⟩
          · rw [c7.1 l w]
            constructor
            · rintro (a | ⟨a, a2⟩)
              · exact a
              · exact absurd a2 w
            · exact Or.inl
      refine uqX1_comes_at52_131 ?_
      unfold BX1_comes_at52_131
      rw [ic, ic5]
      refine sat_neg i1_ne_0 (sat_call p (sat_neg (by rw [q1]; exact i1_ne_0) (sat_gd gj (sat_ite (fun c => ?_) fun c => ?_))))
      · rw [n_eq, v5, l_0] at c
        have gr := vp80 e5 t7
        refine sat_gd gj (sat_gd gj (sat_let fun H23 q23 => sat_gd gr (sat_gd gr (sat_let fun H26 q26 => ?_))))
        have r23 : ea_i H23 58 (kR x) = ea_i h 58 (kR x) := by
          rw [q23]
          exact i_ne (by decide)
        rw [r23] at q26
        have f1 : fq [(56, 56), (58, 58)] [] h H26 := (q23 ▸ fq_wi rfl : fq [(56, 56), (58, 58)] [] h H23).tr (q26 ▸ fq_wi rfl)
        refine fin H26 (upX (upX Y 3 j (bmw (Y 3 j + 1))) 6 (kR x) (bmw (Y 6 (kR x) + 1))) (by rw [if_pos c]) (fun f h3 h6 k => by rw [upX_ne h6, upX_ne h3]) f1 (fun l hl => by rw [q26, hI_ne (by decide), q23, hI_nk (by omega)]) ?_
        obtain ⟨a0, a2, a3, a4, a5, a6, a7⟩ := rc
        refine ⟨by rw [f1.C 52 rfl rfl]; exact a0, fun l hl => ?_, fun r hr => ?_, fun a ha => ?_, fun r hr => ?_, ?_, fun k => or01 (f1.C 57 rfl rfl k) (a7 k)⟩
        · obtain ⟨w0, w1, w3, w4, w5⟩ := a2 l hl
          rw [f1.C 53 rfl rfl, f1.C 54 rfl rfl, f1.C 55 rfl rfl, f1.C 57 rfl rfl, f1.C 59 rfl rfl, upX_ne (show (0 : Nat) ≠ 6 by decide), upX_ne (show (0 : Nat) ≠ 3 by decide), upX_ne (show (1 : Nat) ≠ 6 by decide), upX_ne (show (1 : Nat) ≠ 3 by decide), upX_ne (show (2 : Nat) ≠ 6 by decide), upX_ne (show (2 : Nat) ≠ 3 by decide), upX_ne (show (4 : Nat) ≠ 6 by decide), upX_ne (show (4 : Nat) ≠ 3 by decide), upX_ne (show (5 : Nat) ≠ 6 by decide), upX_ne (show (5 : Nat) ≠ 3 by decide)]
          refine ⟨w0, w1, ?_, w4, w5⟩
          rw [q26, hI_ne (by decide), q23, hI_row, upX_ne (by decide), upX_row, n_add, hI_eq, (a2 j hj).2.2.1, l_1, w3]
          rfl
        · rw [q26, hI_row, upX_row, n_add, hI_eq, a3 (kR x) t7, l_1, q23, hI_ne (by decide), upX_ne (by decide), a3 r hr]
          rfl
        · rw [f1.C 60 rfl rfl, a4 a ha]
          exact cnt_eq fun k _ => by rw [upX_ne (show (0 : Nat) ≠ 6 by decide), upX_ne (show (0 : Nat) ≠ 3 by decide), upX_ne (show (1 : Nat) ≠ 6 by decide), upX_ne (show (1 : Nat) ≠ 3 by decide)]
        · rw [f1.C 61 rfl rfl, a5 r hr]
          exact cnt_eq fun k _ => by rw [upX_ne (show (0 : Nat) ≠ 6 by decide), upX_ne (show (0 : Nat) ≠ 3 by decide), upX_ne (show (1 : Nat) ≠ 6 by decide), upX_ne (show (1 : Nat) ≠ 3 by decide)]
        · rw [f1.C 52 rfl rfl, a6]
          exact cnt_eq fun k _ => by rw [upX_ne (show (0 : Nat) ≠ 6 by decide), upX_ne (show (0 : Nat) ≠ 3 by decide)]
      · rw [n_eq, v5, l_0] at c
        exact fin h Y (by rw [if_neg c]) (fun _ _ _ _ => rfl) (fq_rfl _ _ _) (fun _ _ => rfl) rc
    rcases e6 with ⟨e6, e9⟩ | ⟨e6, e9⟩
    · exact sat_neg (by rw [e6]; exact i1_ne_0) (yes ⟨q2, q3, Or.inl e9⟩)
    refine sat_pos e6 (sat_gd gj (sat_ite (fun c => ?_) fun c => ?_))
    · rw [n_eq, v5, l_0] at c
      exact no (fun z => by rcases z.2.2 with w | w; exact e9 w; exact w.1 c) _ (Or.inl rfl)
    rw [n_eq, v5, l_0] at c
    refine sat_gd gj (sat_ite (fun c2 => ?_) fun c2 => ?_)
    · rw [n_lt, v3, e4] at c2
      exact no (fun z => by rcases z.2.2 with w | w; exact e9 w; omega) _ (Or.inl rfl)
    rw [n_lt, v3, e4] at c2
    exact yes ⟨q2, q3, Or.inr ⟨c, by omega⟩⟩
theorem c_isAboard62 {m l r : Nat} {X : Nat → Nat → Int} {x1 x2 : Int32} (e1 : x1.toInt = l) (e2 : x2.toInt = r) {h : ea_H} (hl : l < m) (rc : RC62 m X h) : ∃ v, qX1_isAboard_at62 x1 x2 h = some (v, h) ∧ ((v = 1 ∧ X 0 l = 1 ∧ X 1 l = r) ∨ (v = 0 ∧ ¬ (X 0 l = 1 ∧ X 1 l = r))) := by
  have hl' : l < 120 := by have := rc.1.2; omega
  have g1 := vp80 e1 hl'
  have ic : x1.toNatClampNeg = l := by
    rw [n_idx, e1]
    rfl
  have v0 : (ea_i h 63 l).toInt = X 0 l := (rc.2.1 l hl).1
  have v1 : (ea_i h 64 l).toInt = X 1 l := (rc.2.1 l hl).2.1
  have H : sat (qX1_isAboard_at62 x1 x2 h) fun y => y.2 = h ∧ ((y.1 = 1 ∧ X 0 l = 1 ∧ X 1 l = r) ∨ (y.1 = 0 ∧ ¬ (X 0 l = 1 ∧ X 1 l = r))) := by
    unfold qX1_isAboard_at62 BX1_isAboard_at62_0
    rw [ic]
    refine sat_gd g1 (sat_ite (fun z => ?_) fun z => ?_)
    · rw [n_eq, v0, l_1] at z
      refine sat_gd g1 (sat_ite (fun w => ?_) fun w => ?_)
      · rw [n_eq, v1, e2] at w
        exact sat_ret ⟨rfl, Or.inl ⟨rfl, z, w⟩⟩
      · rw [n_eq, v1, e2] at w
        exact sat_ret ⟨rfl, Or.inr ⟨rfl, fun k => w k.2⟩⟩
    · rw [n_eq, v0, l_1] at z
      exact sat_ret ⟨rfl, Or.inr ⟨rfl, fun k => z k.1⟩⟩
  obtain ⟨⟨v, h2⟩, q1, q2, q3⟩ := H
  have q2 : h2 = h := q2
  subst q2
  exact ⟨v, q1, q3⟩
theorem RC62.goal {m l : Nat} {X : Nat → Nat → Int} {v : Int} {h : ea_H} (rc : RC62 m X h) (hn : X 0 l ≠ 1) : RC62 m (upX X 2 l v) h := by
  obtain ⟨r0, r2, r3, r4, r5, r6, r7⟩ := rc
  refine ⟨r0, fun k hk => ?_, fun r hr => (r3 r hr).trans (upX_ne (by decide)).symm, fun a ha => ?_, fun r hr => ?_, ?_, r7⟩
  · obtain ⟨w0, w1, w3, w4, w5⟩ := r2 k hk
    rw [upX_ne (show (0 : Nat) ≠ 2 by decide), upX_ne (show (1 : Nat) ≠ 2 by decide), upX_row, upX_ne (show (3 : Nat) ≠ 2 by decide), upX_ne (show (4 : Nat) ≠ 2 by decide), upX_ne (show (5 : Nat) ≠ 2 by decide)]
    refine ⟨w0, w1, w3, fun z => ?_, w5⟩
    rw [if_neg (fun q => hn (by rw [← q]; exact z))]
    exact w4 z
  · rw [r4 a ha]
    exact cnt_eq fun k _ => by rw [upX_ne (show (0 : Nat) ≠ 2 by decide), upX_ne (show (1 : Nat) ≠ 2 by decide)]
  · rw [r5 r hr]
    exact cnt_eq fun k _ => by rw [upX_ne (show (0 : Nat) ≠ 2 by decide), upX_ne (show (1 : Nat) ≠ 2 by decide)]
  · rw [r6]
    exact cnt_eq fun k _ => by rw [upX_ne (show (0 : Nat) ≠ 2 by decide)]
theorem c_com9062 {T : Nat → Nat → Nat → Nat} {L : List Nat} {G : Nat → Nat → Int} {m x : Nat} (ok : tOk T) (hxk : tKey T x) (hG : G 7 0 = m) {X : Nat → Nat → Int} {b : Int} (hX : XOk T m (fun _ => b) X) (hb : b ≤ 999) {x1 x2 x4 x5 x6 x7 : Int32} (e1 : x1.toInt = x) (e2 : x2.toInt = kMin x) (e4 : x4.toInt = kI x) (e5 : x5.toInt = kR x) (e7 : x7.toInt = kA (tW T) x)
    (e6 : (x6 = 1 ∧ kI x + 1 = tS T (kT x)) ∨ (x6 = 0 ∧ ¬ kI x + 1 = tS T (kT x))) {h0 : ea_H} (hs0 : ShC h0) :
    ∀ (k j : Nat) (h : ea_H) (x8 : Int32), j + k = m → x8.toInt = j → GC G h → RC62 m (cmF T G x X j) h → fq [(63, 71)] [((62, 62), 10, 10)] h0 h → sat (qX1_comes_at62_90 x1 x2 x4 x5 x6 x7 x8 h) fun y => fq [(63, 71)] [((62, 62), 10, 10)] h0 y.2 ∧ GC G y.2 ∧ RC62 m (cmF T G x X m) y.2 := by
  obtain ⟨t1, t2, t3, t4, t5, t6, t7, t8⟩ := t_bounds ok hxk
  intro k
  induction k with
  | zero =>
    intro j h x8 hk e8 g rc f
    have hjm : j = m := by omega
    subst hjm
    refine uqX1_comes_at62_90 ?_
    unfold BX1_comes_at62_90
    exact sat_pos (by rw [n_le, hI_eq, rc.1.1, e8]; omega) (sat_ret ⟨f, g, rc⟩)
  | succ k ih =>
    intro j h x8 hk e8 g rc f
    have hj : j < m := by omega
    have hm := rc.1.2
    have hj' : j < 120 := by omega
    have gj := vp80 e8 hj'
    have ic : x8.toNatClampNeg = j := by
      rw [n_idx, e8]
      rfl
    have ic5 : x5.toNatClampNeg = kR x := by
      rw [n_idx, e5]
      rfl
    have e81 := n_inc e8 (by omega)
    have XF := cmF_ok (G := G) ok hxk hX j (by omega)
    have XO := XF j hj
    dsimp only at XO
    rw [if_neg (Nat.lt_irrefl _)] at XO
    have hs : cmF T G x X (j + 1) = cmL T G x (cmF T G x X j) j := rfl
    generalize cmF T G x X j = Y at *
    obtain ⟨v, p, q⟩ := c_isAboard62 e8 e5 hj rc
    have skip : ¬ cmC T Y x j → sat (qX1_comes_at62_90 x1 x2 x4 x5 x6 x7 (x8 + 1) h) fun y => fq [(63, 71)] [((62, 62), 10, 10)] h0 y.2 ∧ GC G y.2 ∧ RC62 m (cmF T G x X m) y.2 := by
      intro hc
      have e : cmF T G x X (j + 1) = Y := by
        rw [hs]
        unfold cmL
        rw [if_neg hc]
      refine ih (j + 1) h (x8 + 1) (by omega) e81 g ?_ f
      · rw [e]
        exact rc
    have no : ¬ cmC T Y x j → ∀ s : Int32, (s = 0 ∨ v = 0) → sat (qX1_comes_at62_131 x1 x2 x4 x5 x6 x7 x8 s h) fun y => fq [(63, 71)] [((62, 62), 10, 10)] h0 y.2 ∧ GC G y.2 ∧ RC62 m (cmF T G x X m) y.2 := by
      intro hc s hsv
      refine uqX1_comes_at62_131 ?_
      unfold BX1_comes_at62_131
      by_cases z : s = 0
      · exact sat_pos z (skip hc)
      · refine sat_neg z (sat_call p (sat_pos ?_ (skip hc)))
        rcases hsv with w | w
        · exact absurd w z
        · exact w
    refine uqX1_comes_at62_90 ?_
    unfold BX1_comes_at62_90
    rw [ic]
    refine sat_neg (by rw [n_le, hI_eq, rc.1.1, e8]; omega) ?_
    rcases q with ⟨q1, q2, q3⟩ | ⟨q1, q2⟩
    case inr =>
      have hc : ¬ cmC T Y x j := fun z => q2 ⟨z.1, z.2.1⟩
      refine sat_ite (fun _ => sat_gd gj (sat_ite (fun _ => no hc _ (Or.inr q1)) fun _ => sat_gd gj (sat_ite (fun _ => no hc _ (Or.inr q1)) fun _ => no hc _ (Or.inr q1)))) fun _ => no hc _ (Or.inr q1)
    have v5 : (ea_i h 67 j).toInt = Y 4 j := ((rc.2.1 j hj).2.2.2.1 q2).2
    have v3 : (ea_i h 65 j).toInt = Y 2 j := ((rc.2.1 j hj).2.2.2.1 q2).1
    have yes : cmC T Y x j → sat (qX1_comes_at62_131 x1 x2 x4 x5 x6 x7 x8 1 h) fun y => fq [(63, 71)] [((62, 62), 10, 10)] h0 y.2 ∧ GC G y.2 ∧ RC62 m (cmF T G x X m) y.2 := by
      intro hc
      have fin : ∀ (h1 : ea_H) (Z : Nat → Nat → Int), Z = (@ite _ (Y 4 j = 0) (Classical.propDecidable _) (upX (upX Y 3 j (bmw (Y 3 j + 1))) 6 (kR x) (bmw (Y 6 (kR x) + 1))) Y) → (∀ f, f ≠ 3 → f ≠ 6 → ∀ k, Z f k = Y f k) → fq [(66, 66), (68, 68)] [] h h1 → RC62 m Z h1 → sat (qX1_comes_at62_181 x1 x2 x4 x5 x6 x7 x8 h1) fun y => fq [(63, 71)] [((62, 62), 10, 10)] h0 y.2 ∧ GC G y.2 ∧ RC62 m (cmF T G x X m) y.2 := by
        intro h1 Z hZ hZf f1 rc1
        have hs1 : ShC h1 := ShC_core f1.1 (ShC_core f.1 hs0)
        have g1 : GC G h1 := g.kq (f1.kq rfl)
        obtain ⟨k1, k2⟩ := ltr_ref hs1 hj'
        obtain ⟨w, pw, qw⟩ := c_stateIn e7 hs1 hG g1 hj
        have sc := stIn_c G j ((kA (tW T) x : Nat) : Int)
        have H := c_move62 (st := stIn G j (kA (tW T) x)) e8 e2 qw e7 hs1 hj rc1 (fun z => by rw [hZf 0 (by decide) (by decide)] at z; omega) (fun z => by rw [hZf 1 (by decide) (by decide), q3]; omega) (by omega) (by omega) (fun _ => by omega) (fun z => by omega) (by omega) (by omega) (by omega) (by omega) (fun z => by omega)
        refine uqX1_comes_at62_181 ?_
        unfold BX1_comes_at62_181
        rw [ic, k1]
        refine sat_gd gj (sat_gd rfl (sat_gd k2 (sat_call pw (sat_bind H fun y hy => ?_))))
        obtain ⟨y1, y2⟩ := hy
        have e : cmF T G x X (j + 1) = upX (mvX Z j (kMin x) (stIn G j (kA (tW T) x)) (kA (tW T) x)) 2 j (-1) := by
          rw [hs]
          unfold cmL
          rw [if_pos hc, ← hZ]
        have y4 : RC62 m (cmF T G x X (j + 1)) y.2 := by
          rw [e]
          refine RC62.goal y2 ?_
          rw [mvX_0, if_pos rfl]
          omega
        have F1 := f.tr ((f1.up rfl rfl).tr (y1.up rfl rfl))
        exact ih (j + 1) y.2 (x8 + 1) (by omega) e81 (g1.kq (y1.kq rfl)) y4 F1
      refine uqX1_comes_at62_131 ?_
      unfold BX1_comes_at62_131
      rw [ic, ic5]
      refine sat_neg i1_ne_0 (sat_call p (sat_neg (by rw [q1]; exact i1_ne_0) (sat_gd gj (sat_ite (fun c => ?_) fun c => ?_))))
      · rw [n_eq, v5, l_0] at c
        have gr := vp80 e5 t7
        refine sat_gd gj (sat_gd gj (sat_let fun H23 q23 => sat_gd gr (sat_gd gr (sat_let fun H26 q26 => ?_))))
        have r23 : ea_i H23 68 (kR x) = ea_i h 68 (kR x) := by
          rw [q23]
          exact i_ne (by decide)
        rw [r23] at q26
        have f1 : fq [(66, 66), (68, 68)] [] h H26 := (q23 ▸ fq_wi rfl : fq [(66, 66), (68, 68)] [] h H23).tr (q26 ▸ fq_wi rfl)
        refine fin H26 (upX (upX Y 3 j (bmw (Y 3 j + 1))) 6 (kR x) (bmw (Y 6 (kR x) + 1))) (by rw [if_pos c]) (fun f h3 h6 k => by rw [upX_ne h6, upX_ne h3]) f1 ?_
        obtain ⟨a0, a2, a3, a4, a5, a6, a7⟩ := rc
        refine ⟨by rw [f1.C 62 rfl rfl]; exact a0, fun l hl => ?_, fun r hr => ?_, fun a ha => ?_, fun r hr => ?_, ?_, fun k => or01 (f1.C 67 rfl rfl k) (a7 k)⟩
        · obtain ⟨w0, w1, w3, w4, w5⟩ := a2 l hl
          rw [f1.C 63 rfl rfl, f1.C 64 rfl rfl, f1.C 65 rfl rfl, f1.C 67 rfl rfl, f1.C 69 rfl rfl, upX_ne (show (0 : Nat) ≠ 6 by decide), upX_ne (show (0 : Nat) ≠ 3 by decide), upX_ne (show (1 : Nat) ≠ 6 by decide), upX_ne (show (1 : Nat) ≠ 3 by decide), upX_ne (show (2 : Nat) ≠ 6 by decide), upX_ne (show (2 : Nat) ≠ 3 by decide), upX_ne (show (4 : Nat) ≠ 6 by decide), upX_ne (show (4 : Nat) ≠ 3 by decide), upX_ne (show (5 : Nat) ≠ 6 by decide), upX_ne (show (5 : Nat) ≠ 3 by decide)]
          refine ⟨w0, w1, ?_, w4, w5⟩
          rw [q26, hI_ne (by decide), q23, hI_row, upX_ne (by decide), upX_row, n_add, hI_eq, (a2 j hj).2.2.1, l_1, w3]
          rfl
        · rw [q26, hI_row, upX_row, n_add, hI_eq, a3 (kR x) t7, l_1, q23, hI_ne (by decide), upX_ne (by decide), a3 r hr]
          rfl
        · rw [f1.C 70 rfl rfl, a4 a ha]
          exact cnt_eq fun k _ => by rw [upX_ne (show (0 : Nat) ≠ 6 by decide), upX_ne (show (0 : Nat) ≠ 3 by decide), upX_ne (show (1 : Nat) ≠ 6 by decide), upX_ne (show (1 : Nat) ≠ 3 by decide)]
        · rw [f1.C 71 rfl rfl, a5 r hr]
          exact cnt_eq fun k _ => by rw [upX_ne (show (0 : Nat) ≠ 6 by decide), upX_ne (show (0 : Nat) ≠ 3 by decide), upX_ne (show (1 : Nat) ≠ 6 by decide), upX_ne (show (1 : Nat) ≠ 3 by decide)]
        · rw [f1.C 62 rfl rfl, a6]
          exact cnt_eq fun k _ => by rw [upX_ne (show (0 : Nat) ≠ 6 by decide), upX_ne (show (0 : Nat) ≠ 3 by decide)]
      · rw [n_eq, v5, l_0] at c
        exact fin h Y (by rw [if_neg c]) (fun _ _ _ _ => rfl) (fq_rfl _ _ _) rc
    rcases e6 with ⟨e6, e9⟩ | ⟨e6, e9⟩
    · exact sat_neg (by rw [e6]; exact i1_ne_0) (yes ⟨q2, q3, Or.inl e9⟩)
    refine sat_pos e6 (sat_gd gj (sat_ite (fun c => ?_) fun c => ?_))
    · rw [n_eq, v5, l_0] at c
      exact no (fun z => by rcases z.2.2 with w | w; exact e9 w; exact w.1 c) _ (Or.inl rfl)
    rw [n_eq, v5, l_0] at c
    refine sat_gd gj (sat_ite (fun c2 => ?_) fun c2 => ?_)
    · rw [n_lt, v3, e4] at c2
      exact no (fun z => by rcases z.2.2 with w | w; exact e9 w; omega) _ (Or.inl rfl)
    rw [n_lt, v3, e4] at c2
    exact yes ⟨q2, q3, Or.inr ⟨c, by omega⟩⟩
