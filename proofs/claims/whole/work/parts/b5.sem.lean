/-! conditions read by both -/
/-- so many nots -/
def nt : Nat → Int32 → Int32
  | 0, x => x
  | j + 1, x => 1 - nt j x
theorem nt_b {x : Int32} (hx : x = 0 ∨ x = 1) : ∀ j, nt j x = (if j % 2 = 1 then 1 - x else x) ∧ (nt j x = 0 ∨ nt j x = 1) := by
  intro j
  induction j with
  | zero => exact ⟨rfl, hx⟩
  | succ j ih =>
    obtain ⟨i1, i2⟩ := ih
    refine ⟨?_, ?_⟩
    · show 1 - nt j x = _
      rw [i1]
      by_cases z : j % 2 = 1
      · rw [if_pos z, if_neg (by omega)]
        rcases hx with rfl | rfl <;> decide
      · rw [if_neg z, if_pos (by omega)]
    · show 1 - nt j x = 0 ∨ 1 - nt j x = 1
      rcases i2 with q | q <;> rw [q] <;> decide
def BL (F : (Nat → Int32) → Int32) : Prop := ∀ f, F f = 0 ∨ F f = 1
theorem BL_jn {F G : (Nat → Int32) → Int32} (hF : BL F) (hG : BL G) {x : Int32} (hx : x = -18 ∨ x = -19) : BL fun f => jn x (F f) (G f) := by
  intro f
  show jn x (F f) (G f) = 0 ∨ jn x (F f) (G f) = 1
  rcases hx with rfl | rfl <;> rcases hF f with q | q <;> rcases hG f with r | r <;> rw [q, r] <;> decide
theorem BL_cmp {F G : (Nat → Int32) → Int32} {x : Int32} (hx : x = -14 ∨ x = -15 ∨ x = -16) : BL fun f => jn x (F f) (G f) := by
  intro f
  show jn x (F f) (G f) = 0 ∨ jn x (F f) (G f) = 1
  rcases hx with rfl | rfl | rfl
  · show (if G f ≤ F f then (0 : Int32) else 1) = 0 ∨ (if G f ≤ F f then (0 : Int32) else 1) = 1
    split
    · exact Or.inl rfl
    · exact Or.inr rfl
  · show (if F f = G f then (1 : Int32) else 0) = 0 ∨ (if F f = G f then (1 : Int32) else 0) = 1
    split
    · exact Or.inr rfl
    · exact Or.inl rfl
  · show (if F f ≤ G f then (0 : Int32) else 1) = 0 ∨ (if F f ≤ G f then (0 : Int32) else 1) = 1
    split
    · exact Or.inl rfl
    · exact Or.inr rfl
section WH
variable {b : Nat → Int} {n c e e0 u u0 s s0 o d d1 d2 p i : Nat} {h H hA hB kA kB gA gB : ea_H} {F G C : (Nat → Int32) → Int32}
theorem m_close (q : PrM h b n e s (o + 1)) (ho : o < 8) (w : H = ea_wi h 326 60 (ea_i h 326 60 - (1 : Int32))) : fq [] [((326, 326), 60, 60)] h H ∧ PrM H b n e s o := by
  have f : fq [] [((326, 326), 60, 60)] h H := w ▸ fq_wf rfl
  have v60 : (ea_i h 326 60).toInt = ((o + 1 : Nat) : Int) := q.2.2.2.2.2.1
  obtain ⟨⟨t1, t2, t3⟩, m1, m2, m3, m4, m5, m6, m7⟩ := q
  refine ⟨f, ⟨(f.I 326 rfl 52 rfl).trans t1, t2, fun k hk => ⟨(f.C 362 rfl rfl k).trans (t3 k hk).1, (t3 k hk).2⟩⟩, (f.I 326 rfl 53 rfl).trans m1, (f.I 326 rfl 54 rfl).trans m2, (f.I 326 rfl 55 rfl).trans m3, fun z => (f.I 326 rfl 56 rfl).trans (m4 z), ?_, (f.I 326 rfl 45 rfl).trans m6, (f.I 326 rfl 57 rfl).trans m7⟩
  rw [w, hI_at, n_pred (by omega), v60]
  omega
theorem c_nots (q : PrC h b n c e u) : sat (qX6_readNots h) fun y => (∃ j : Nat, j ≤ 8 ∧ y.1.toInt = j ∧ (∀ i, i < j → paK b n (paS b n (e + i)) = 15) ∧ paK b n (paS b n (e + j)) ≠ 15 ∧ fq [] [((24, 24), 6, 7)] h y.2 ∧ PrC y.2 b n c (e + j) u) ∨ (y.1 = -1 ∧ (∀ i, i < 9 → paK b n (paS b n (e + i)) = 15) ∧ fq [] [((24, 24), 1, 2), ((24, 24), 6, 7)] h y.2 ∧ hI y.2 24 1 = 3 ∧ hI y.2 24 2 = paS b n (e + 8)) := by
  have L : ∀ (d j : Nat) (x1 : Int32) (hh : ea_H), j + d = 8 → x1.toInt = j → (∀ i, i < j → paK b n (paS b n (e + i)) = 15) → fq [] [((24, 24), 6, 7)] h hh → PrC hh b n c (e + j) u → sat (qX6_readNots_2 x1 hh) fun y => (∃ j : Nat, j ≤ 8 ∧ y.1.toInt = j ∧ (∀ i, i < j → paK b n (paS b n (e + i)) = 15) ∧ paK b n (paS b n (e + j)) ≠ 15 ∧ fq [] [((24, 24), 6, 7)] h y.2 ∧ PrC y.2 b n c (e + j) u) ∨ (y.1 = -1 ∧ (∀ i, i < 9 → paK b n (paS b n (e + i)) = 15) ∧ fq [] [((24, 24), 1, 2), ((24, 24), 6, 7)] h y.2 ∧ hI y.2 24 1 = 3 ∧ hI y.2 24 2 = paS b n (e + 8)) := by
    intro d
    induction d with
    | zero =>
      intro j x1 hh hj e1 hk f q
      have j8 : j = 8 := by omega
      subst j8
      refine uqX6_readNots_2 ?_
      unfold BX6_readNots_2
      refine sat_neg (by rw [n_lt, e1, l_8]; omega) ?_
      by_cases z : paK b n (paS b n (e + 8)) = 15
      · refine sat_pos (q.yes rfl z) (sat_pos (by rw [n_eq, e1]; rfl) (sat_bind (c_refuse q 3) fun y hy => sat_ret (Or.inr ⟨rfl, fun i hi => ?_, (f.up rfl rfl).tr (hy.2.1.up rfl rfl), hy.2.2.1, hy.2.2.2⟩)))
        by_cases w : i = 8
        · rw [w]
          exact z
        · exact hk i (by omega)
      · exact sat_neg (q.no (j := 15) rfl z) (sat_ret (Or.inl ⟨8, Nat.le_refl _, e1, hk, z, f, q⟩))
    | succ d ih =>
      intro j x1 hh hj e1 hk f q
      refine uqX6_readNots_2 ?_
      unfold BX6_readNots_2
      refine sat_neg (by rw [n_lt, e1, l_8]; omega) ?_
      by_cases z : paK b n (paS b n (e + j)) = 15
      · refine sat_pos (q.yes rfl z) (sat_neg (by rw [n_eq, e1, l_8]; omega) (sat_bind (c_step q (by omega)) fun y hy => ?_))
        refine ih (j + 1) (x1 + 1) y.2 (by omega) (n_inc e1 (by omega)) (fun i hi => ?_) (f.tr hy.1) hy.2
        by_cases w : i = j
        · rw [w]
          exact z
        · exact hk i (by omega)
      · exact sat_neg (q.no (j := 15) rfl z) (sat_ret (Or.inl ⟨j, by omega, e1, hk, z, f, q⟩))
  unfold qX6_readNots
  refine uqX6_readNots_0 ?_
  unfold BX6_readNots_0
  exact L 8 0 0 h rfl rfl (fun i hi => absurd hi (by omega)) (fq_rfl _ _ _) q
theorem m_one (b : Nat → Int) (n : Nat) : ∀ (j e s o dep : Nat) (h : ea_H) (P : Int32 × ea_H → Prop), PrM h b n e s o → o + j ≤ 8 → (∀ i, i < j → paK b n (paS b n (e + i)) = 15) → j < dep →
    (∀ h2, fq [] [((326, 326), 53, 56), ((326, 326), 60, 60)] h h2 → PrM h2 b n (e + j) s (o + j) → sat (qX12_one_0 (dep - j) h2) fun z => (z.1 = 0 ∧ P ((0 : Int32), z.2)) ∨ (z.1 = 1 ∧ ∃ e' s', s' + j ≤ 610 ∧ PrM z.2 b n e' s' (o + j) ∧ ∀ z2, fq [(361, 361)] [((326, 326), 45, 45), ((326, 326), 60, 60)] z.2 z2 → PrM z2 b n e' (s' + j) o → (∀ i, i < j → Sf z2 (s' + i) = (15, 0)) → (∀ i, i < s' → Sf z2 i = Sf z.2 i) → P ((1 : Int32), z2))) → sat (qX12_one_0 dep h) P := by
  intro j
  induction j with
  | zero =>
    intro e s o dep h P p ho hk hd H
    refine sat_mono (H h (fq_rfl _ _ _) p) fun z hz => ?_
    rcases hz with ⟨z1, z2⟩ | ⟨z1, e', s', -, z3, z4⟩
    · have : z = ((0 : Int32), z.2) := Prod.ext z1 rfl
      rw [this]
      exact z2
    · have : z = ((1 : Int32), z.2) := Prod.ext z1 rfl
      rw [this]
      exact z4 z.2 (fq_rfl _ _ _) z3 (fun i hi => absurd hi (by omega)) fun i _ => rfl
  | succ j ih =>
    intro e s o dep h P p ho hk hd H
    have k0 : paK b n (paS b n e) = 15 := hk 0 (by omega)
    refine uqX12_one_0 ?_
    unfold BX12_one_0
    refine sat_pos (p.yes (j := 15) rfl (by decide) (by decide) k0) (sat_bind (m_opens p (by omega)) fun y hy => ?_)
    obtain ⟨y1, y2, y3⟩ := hy
    have ed : dep - 1 - j = dep - (j + 1) := by omega
    have ee : e + 1 + j = e + (j + 1) := by omega
    have eo : o + 1 + j = o + (j + 1) := by omega
    refine sat_neg (by rw [y1]; exact i1_ne_0) (sat_gd (by omega) (sat_bind (ih (e + 1) s (o + 1) (dep - 1) y.2 (fun w => (w.1 = 0 ∧ P ((0 : Int32), w.2)) ∨ (w.1 = 1 ∧ ∃ e' s', s' + 1 ≤ 610 ∧ PrM w.2 b n e' s' (o + 1) ∧ ∀ z2, fq [(361, 361)] [((326, 326), 45, 45), ((326, 326), 60, 60)] w.2 z2 → PrM z2 b n e' (s' + 1) o → Sf z2 s' = (15, 0) → (∀ i, i < s' → Sf z2 i = Sf w.2 i) → P ((1 : Int32), z2))) y3 (by omega) (fun i hi => ?_) (by omega) (fun h2 f2 p2 => ?_)) fun w7 hw => ?_))
    · rw [show e + 1 + i = e + (i + 1) by omega]
      exact hk (i + 1) (by omega)
    · rw [ee, eo] at p2
      rw [ed, eo]
      refine sat_mono (H h2 (y2.tr f2) p2) fun z hz => ?_
      rcases hz with ⟨z1, z2⟩ | ⟨z1, e', s', z3, z4, z5⟩
      · exact Or.inl ⟨z1, Or.inl ⟨rfl, z2⟩⟩
      · refine Or.inr ⟨z1, e', s', by omega, z4, fun w f q hS hs => Or.inr ⟨rfl, e', s' + j, by omega, q, fun w3 f3 q3 hS3 hs3 => z5 w3 (f.tr f3) q3 (fun i hi => ?_) fun i hi => (hs3 i (by omega)).trans (hs i hi)⟩⟩
        by_cases c : i = j
        · rw [c]
          exact hS3
        · exact (hs3 (s' + i) (by omega)).trans (hS i (by omega))
    · rcases hw with ⟨w1, w2⟩ | ⟨w1, e', s', w3, w4, w5⟩
      · exact sat_pos w1 (sat_ret w2)
      · refine sat_neg (by rw [w1]; exact i1_ne_0) (sat_let fun H9 q9 => ?_)
        obtain ⟨f9, p9⟩ := m_close w4 (by omega) q9
        refine sat_bind (m_lay p9 (by omega) 15 0) fun w10 h10 => sat_ret ?_
        obtain ⟨a1, a2, a3, a4⟩ := h10
        exact w5 w10.2 ((f9.up rfl rfl).tr (a1.up rfl rfl)) a2 a3 fun i hi => (a4 i (by omega)).trans (Sf_same f9 rfl rfl i)
theorem mB_nots {S : Nat → Int32 × Int32} : ∀ j, s + j ≤ 610 → (∀ i, i < j → S (s + i) = (15, 0)) → mB S s0 s F → mB S s0 (s + j) fun f => nt j (F f) := by
  intro j
  induction j with
  | zero => exact fun _ _ m => m
  | succ j ih =>
    intro hs hS m
    have := ih (by omega) (fun i hi => hS i (by omega)) m
    have e := hS j (by omega)
    exact mB_not (S := S) (j := s + j) (by omega) (by rw [e]; rfl) this
/-- two parts joined -/
theorem j_bin (pc : PrC kA b n c e u) (pm : PrM kB b n e s o) (hu : u < 3600) (hs : s < 610) {q r : Nat} (b1 : cB (cd kA) p q d1 F) (b2 : cB (cd kA) q u d2 G) (m1 : mB (Sf kB) i r F) (m2 : mB (Sf kB) r s G) {x x' : Int32} (hx1 : -19 ≤ x.toInt) (hx2 : x.toInt ≤ -10) (hx3 : x.toInt ≠ -17) (hy0 : 8 ≤ x'.toInt) (hy1 : x'.toInt ≠ 11) (hy2 : x'.toInt ≠ 15) (hj : ∀ a b : Int32, jn x a b = bt2 x' a b) (hd1 : d1 ≤ d) (hd2 : d2 + 1 ≤ d) : sat (qX6_put x kA) fun y => sat (qX12_lay x' 0 kB) fun z => fq [(27, 27)] [((24, 24), 9, 9)] kA y.2 ∧ fq [(361, 361)] [((326, 326), 45, 45)] kB z.2 ∧ PrC y.2 b n c e (u + 1) ∧ PrM z.2 b n e (s + 1) o ∧ (∀ p, p < u → cd y.2 p = cd kA p) ∧ (∀ i, i < s → Sf z.2 i = Sf kB i) ∧ cB (cd y.2) p (u + 1) d (fun f => jn x (F f) (G f)) ∧ mB (Sf z.2) i (s + 1) fun f => jn x (F f) (G f) := by
  refine sat_mono (c_putP pc hu (x1 := x) (by omega) (by omega)) fun y hy => ?_
  obtain ⟨y1, y2, y3, y4⟩ := hy
  refine sat_mono (m_lay pm hs x' 0) fun z hz => ?_
  obtain ⟨z1, z2, z3, z4⟩ := hz
  have l1 := b2.1
  have l2 := m2.1
  refine ⟨y1, z1, y2, z2, fun p hp => y4 p (by omega), fun i hi => z4 i (by omega), ?_, ?_⟩
  · have := cB_bin (C := cd y.2) (r := u) (d1 := d1) (d2 := d2) (d := d) hu (by rw [y3]; exact hx1) (by rw [y3]; exact hx2) (by rw [y3]; exact hx3) hd1 hd2 (b1.cg fun j w1 w2 => y4 j (by omega)) (b2.cg fun j w1 w2 => y4 j (by omega))
    rw [y3] at this
    exact this
  · have := mB_bin (S := Sf z.2) (l := s) hs (by rw [z3]; exact hy0) (by rw [z3]; exact hy1) (by rw [z3]; exact hy2) (m1.cg fun j w1 w2 => z4 j (by omega)) (m2.cg fun j w1 w2 => z4 j (by omega))
    rw [z3] at this
    exact this.ext fun f => hj _ _
/-- it may be laid -/
noncomputable def laL (q : Bool) (x : Int32) (h : ea_H) : Option (Unit × ea_H) := if q = true then qX12_lay x 0 h else some ((), h)
def Wfail (u0 : Nat) (gA gB : ea_H) (y z : Int32 × ea_H) : Prop := y.1 = 0 ∧ pFA gA y.2 ∧ pFB gB z.2 ∧ PrX y.2 z.2 ∧ Ok9 u0 gA y.2
def WOut (b : Nat → Int) (n c e0 u0 s0 : Nat) (gA gB : ea_H) (y z : Int32 × ea_H) : Prop := (z.1 = 0 ∧ Wfail u0 gA gB y z) ∨ (y.1 = 1 ∧ z.1 = 1 ∧ ∃ e u s F, PrA b n c 0 22 e0 u0 s0 gA gB y.2 z.2 e u s F ∧ BL F)
def WAny (b : Nat → Int) (n c e0 u0 s0 : Nat) (gA gB : ea_H) (bo : Bool) (y z : Int32 × ea_H) : Prop := (z.1 = 0 ∧ Wfail u0 gA gB y z) ∨ (z.1 ≠ 0 ∧ sat (laL bo 17 z.2) fun z4 => sat (qX12_any_9 z4.2) fun z5 => WOut b n c e0 u0 s0 gA gB y z5)
def WAll (b : Nat → Int) (n c e0 u0 s0 : Nat) (gA gB : ea_H) (bo an : Bool) (y z : Int32 × ea_H) : Prop := (z.1 = 0 ∧ Wfail u0 gA gB y z) ∨ (z.1 ≠ 0 ∧ sat (laL an 16 z.2) fun z2 => sat (qX12_all_9 z2.2) fun z3 => WAny b n c e0 u0 s0 gA gB bo y z3)
def WAcc (b : Nat → Int) (n c e0 u0 s0 : Nat) (gA gB : ea_H) (bo an : Bool) (hA hB : ea_H) (e u s : Nat) : Prop := pFA gA hA ∧ pFB gB hB ∧ (u + bo.toNat + an.toNat + e0 ≤ u0 + e ∧ u0 + c ≤ 3600 + e0) ∧ (s + bo.toNat + an.toNat + e0 ≤ s0 + e ∧ s0 ≤ e0) ∧ Pr b n c hA hB e u s 0 ∧ (∀ p, p < u0 → cd hA p = cd gA p) ∧ (∀ i, i < s0 → Sf hB i = Sf gB i) ∧ ∃ u1 s1 G A, u0 ≤ u1 ∧ u1 ≤ u ∧ s0 ≤ s1 ∧ s1 ≤ s ∧ (bo = true → FR G ∧ BL G ∧ cB (cd hA) u0 u1 22 G ∧ mB (Sf hB) s0 s1 G) ∧ (bo = false → u1 = u0 ∧ s1 = s0) ∧ (an = true → FR A ∧ BL A ∧ cB (cd hA) u1 u 21 A ∧ mB (Sf hB) s1 s A) ∧ (an = false → u1 = u ∧ s1 = s)
theorem FR_jn {x : Int32} (hF : FR F) (hG : FR G) : FR fun f => jn x (F f) (G f) := fun f g h => by
  show jn x (F f) (G f) = jn x (F g) (G g)
  rw [hF f g h, hG f g h]
/-- what comes behind one comparison -/
theorem p_after {bo an : Bool} {e' u' s' : Nat} {x1 x2 x3 : Int32} {k3 : Nat} (ac : WAcc b n c e0 u0 s0 gA gB bo an hA hB e u s) (g : PrA b n c 0 20 e u s hA hB kA kB e' u' s' C) (bl : BL C) (hx1 : x1.toInt = bo.toNat) (hx2 : x2.toInt = 16 ↔ an = true) (hx3 : x3.toInt = k3) (hk3 : k3 ≤ e)
    (IH : ∀ (bo an : Bool) (x1 x2 x3 : Int32) (hA hB : ea_H) (e u s k3 : Nat), e' < e → x1.toInt = bo.toNat → (x2.toInt = 16 ↔ an = true) → x3.toInt = k3 → k3 ≤ e → WAcc b n c e0 u0 s0 gA gB bo an hA hB e u s → sat (qX6_readWhen_7 x1 x2 x3 hA) fun y => sat (qX12_one hB) fun z => WAll b n c e0 u0 s0 gA gB bo an y z) :
    sat (qX6_readWhen_90 x1 x2 x3 kA) fun y => sat (laL an 16 kB) fun z2 => sat (qX12_all_9 z2.2) fun z3 => WAny b n c e0 u0 s0 gA gB bo y z3 := by
  obtain ⟨a1, a2, a3, a4, a5, a6, a7, u1, s1, G, A, a8, a9, a10, a11, aG, aG0, aA, aA0⟩ := ac
  obtain ⟨g1, g2, g3, g4, g5, g6, g7, ⟨g8, g8b, g8c, g8d, -⟩, g9, g10, g11, g12, g13⟩ := g
  have le2 := g8.2.2.1
  have ln := g8.2.1.2.1
  have n6 := g8.1
  have fA : pFA gA kA := a1.tr g1
  have fB : pFB gB kB := a2.tr g2
  -- behind the and
  have K102 : ∀ (yA zB : ea_H) (u2 s2 : Nat) (A' : (Nat → Int32) → Int32), pFA gA yA → pFB gB zB → u2 + bo.toNat + e0 ≤ u0 + e' → s2 + bo.toNat + e0 ≤ s0 + e' → PrC yA b n c e' u2 → PrM zB b n e' s2 0 → (∀ p, p < u1 → cd yA p = cd hA p) → (∀ i, i < s1 → Sf zB i = Sf hB i) → FR A' → BL A' → cB (cd yA) u1 u2 21 A' → mB (Sf zB) s1 s2 A' → s1 < s2 → sat (qX6_readWhen_102 x1 x3 yA) fun y => sat (qX12_all_9 zB) fun z3 => WAny b n c e0 u0 s0 gA gB bo y z3 := by
    intro yA zB u2 s2 A' yf zf yu zs yp zp yc zc fr' bl' cb' mb' slt
    have lu := cb'.1
    have ls := mb'.1
    have tr : ∀ x : Int32, x.toInt = 1 → x ≠ 0 := fun x hx z => by
      rw [z] at hx
      cases hx
    refine uqX6_readWhen_102 ?_
    unfold BX6_readWhen_102
    by_cases k16 : paK b n (paS b n e') = 16
    · refine sat_pos (yp.yes (j := 16) rfl k16) (sat_sw (uqX12_all_9 ?_))
      unfold BX12_all_9
      refine sat_pos (zp.yes (j := 16) rfl (by decide) (by decide) k16) (sat_sw ?_)
      have v7 : (ea_i yA 24 7).toInt = 16 := by
        have : (ea_i yA 24 7).toInt = paK b n (paS b n e') := yp.2.2.2.2.1
        rw [this, k16]
        rfl
      refine p_nx yp zp (by omega) fun y1 z1 f1 h1 p1 q1 => ?_
      refine sat_mono (IH bo true x1 (ea_i yA 24 7) (x3 + 1) y1.2 z1.2 (e' + 1) u2 s2 (k3 + 1) (by omega) hx1 ⟨fun _ => rfl, fun _ => v7⟩ (n_inc hx3 (by omega)) (by omega) ⟨yf.tr (f1.up rfl rfl), zf.tr (h1.up rfl rfl), by rw [Bool.toNat_true]; omega, by rw [Bool.toNat_true]; omega, ⟨p1, q1, by omega, by omega, by omega⟩, fun p hp => ((cd_fq f1 rfl p).trans (yc p (by omega))).trans (a6 p hp), fun i hi => ((Sf_same h1 rfl rfl i).trans (zc i (by omega))).trans (a7 i hi), u1, s1, G, A', a8, lu, a10, ls, fun q => ?_, aG0, fun _ => ⟨fr', bl', cb'.cg fun j _ _ => cd_fq f1 rfl j, mb'.cg fun j _ _ => Sf_same h1 rfl rfl j⟩, fun q => absurd q (by decide)⟩) fun y hy => sat_bind hy fun z hz => ?_
      · obtain ⟨q1, q2, q3, q4⟩ := aG q
        exact ⟨q1, q2, q3.cg fun j _ w => (cd_fq f1 rfl j).trans (yc j w), q4.cg fun j _ w => (Sf_same h1 rfl rfl j).trans (zc j w)⟩
      · rcases hz with ⟨z0, z2⟩ | ⟨z0, z2⟩
        · exact sat_pos z0 (sat_ret (Or.inl ⟨rfl, z2⟩))
        · exact sat_neg z0 (sat_bind z2 fun w hw => hw)
    · refine sat_neg (yp.no (j := 16) rfl k16) (sat_sw (uqX12_all_9 ?_))
      unfold BX12_all_9
      refine sat_neg (zp.no (j := 16) rfl (by decide) (by decide) k16) (sat_ret ?_)
      have v7 : ∀ j : Nat, (ea_i yA 24 7).toInt = j ↔ paK b n (paS b n e') = j := fun j => by
        have : (ea_i yA 24 7).toInt = paK b n (paS b n e') := yp.2.2.2.2.1
        rw [this]
        omega
      -- behind the or
      have K123 : ∀ (wA wB : ea_H) (u3 s3 : Nat) (G' : (Nat → Int32) → Int32), pFA gA wA → pFB gB wB → u3 + e0 ≤ u0 + e' → s3 + e0 ≤ s0 + e' → PrC wA b n c e' u3 → PrM wB b n e' s3 0 → (∀ p, p < u0 → cd wA p = cd gA p) → (∀ i, i < s0 → Sf wB i = Sf gB i) → FR G' → BL G' → cB (cd wA) u0 u3 22 G' → mB (Sf wB) s0 s3 G' → s0 < s3 → sat (qX6_readWhen_123 (ea_i yA 24 7) x3 wA) fun y => sat (qX12_any_9 wB) fun z5 => WOut b n c e0 u0 s0 gA gB y z5 := by
        intro wA wB u3 s3 G' wf vf wu vs wp vp wc vc frG blG cbG mbG slG
        have lu3 := cbG.1
        have ls3 := mbG.1
        refine uqX6_readWhen_123 ?_
        unfold BX6_readWhen_123
        by_cases k17 : paK b n (paS b n e') = 17
        · refine sat_pos (by rw [n_eq]; exact (v7 17).mpr k17) (uqX6_readWhen_134 ?_)
          unfold BX6_readWhen_134
          refine sat_neg (by decide) (sat_sw (uqX12_any_9 ?_))
          unfold BX12_any_9
          refine sat_pos (vp.yes (j := 17) rfl (by decide) (by decide) k17) (sat_sw ?_)
          refine p_nx wp vp (by omega) fun y1 z1 f1 h1 p1 q1 => ?_
          refine sat_mono (IH true false 1 (ea_i yA 24 7) (x3 + 1) y1.2 z1.2 (e' + 1) u3 s3 (k3 + 1) (by omega) rfl ⟨fun q => absurd ((v7 16).mp q) (by omega), fun q => absurd q (by decide)⟩ (n_inc hx3 (by omega)) (by omega) ⟨wf.tr (f1.up rfl rfl), vf.tr (h1.up rfl rfl), by rw [Bool.toNat_true, Bool.toNat_false]; omega, by rw [Bool.toNat_true, Bool.toNat_false]; omega, ⟨p1, q1, by omega, by omega, by omega⟩, fun p hp => (cd_fq f1 rfl p).trans (wc p hp), fun i hi => (Sf_same h1 rfl rfl i).trans (vc i hi), u3, s3, G', G', lu3, Nat.le_refl _, ls3, Nat.le_refl _, fun _ => ⟨frG, blG, cbG.cg fun j _ _ => cd_fq f1 rfl j, mbG.cg fun j _ _ => Sf_same h1 rfl rfl j⟩, fun q => absurd q (by decide), fun q => absurd q (by decide), fun _ => ⟨rfl, rfl⟩⟩) fun y hy => ?_
          have al : sat (qX12_all z1.2) fun z => WAny b n c e0 u0 s0 gA gB true y z := by
            unfold qX12_all
            refine uqX12_all_0 ?_
            unfold BX12_all_0
            refine sat_bind hy fun z hz => ?_
            rcases hz with ⟨z0, z2⟩ | ⟨z0, z2⟩
            · exact sat_pos z0 (sat_ret (Or.inl ⟨rfl, z2⟩))
            · refine sat_neg z0 ?_
              obtain ⟨w, ew, hw⟩ := z2
              cases ew
              exact hw
          refine sat_bind al fun z hz => ?_
          rcases hz with ⟨z0, z2⟩ | ⟨z0, z2⟩
          · exact sat_pos z0 (sat_ret (Or.inl ⟨rfl, z2⟩))
          · exact sat_neg z0 (sat_bind z2 fun w hw => hw)
        · refine sat_neg (by rw [n_eq]; exact fun q => k17 ((v7 17).mp q)) (uqX6_readWhen_134 ?_)
          unfold BX6_readWhen_134
          refine sat_pos rfl (sat_ret ?_)
          refine uqX12_any_9 ?_
          unfold BX12_any_9
          exact sat_neg (vp.no (j := 17) rfl (by decide) (by decide) k17) (sat_ret (Or.inr ⟨rfl, rfl, e', u3, s3, G', ⟨wf, vf, by omega, lu3, by omega, slG, by omega, ⟨wp, vp, by omega, by omega, by omega⟩, wc, vc, frG, cbG, mbG⟩, blG⟩))
      cases bo with
      | false =>
        obtain ⟨z1, z2⟩ := aG0 rfl
        subst z1 z2
        refine sat_pos (by rw [n_eq, hx1]; rfl) ?_
        rw [Bool.toNat_false] at yu zs
        refine sat_mono (K123 yA zB u2 s2 A' yf zf (by omega) (by omega) yp zp (fun p hp => (yc p hp).trans (a6 p hp)) (fun i hi => (zc i hi).trans (a7 i hi)) fr' bl' (cb'.mono (by omega)) mb' slt) fun y hy => Or.inr ⟨by show (1 : Int32) ≠ 0; decide, sat_ret hy⟩
      | true =>
        obtain ⟨q1, q2, q3, q4⟩ := aG rfl
        rw [Bool.toNat_true] at yu zs
        refine sat_neg (by rw [n_eq, hx1]; decide) ?_
        have J := j_bin (x := -19) (x' := 17) (d := 22) yp zp (by omega) (by omega) (q3.cg fun j _ w => yc j w) cb' (q4.cg fun j _ w => zc j w) mb' (by decide) (by decide) (by decide) (by decide) (by decide) (by decide) (fun _ _ => rfl) (Nat.le_refl _) (by omega)
        obtain ⟨y19, ey, z4, ez, j1, j2, j3, j4, j5, j6, j7, j8⟩ := J
        refine sat_call ey ?_
        refine sat_mono (K123 y19.2 z4.2 (u2 + 1) (s2 + 1) _ (yf.tr (j1.up rfl rfl)) (zf.tr (j2.up rfl rfl)) (by omega) (by omega) j3 j4 (fun p hp => ((j5 p (by omega)).trans (yc p (by omega))).trans (a6 p hp)) (fun i hi => ((j6 i (by omega)).trans (zc i (by omega))).trans (a7 i hi)) (FR_jn q1 fr') (BL_jn q2 bl' (Or.inr rfl)) j7 j8 (by omega)) fun y hy => Or.inr ⟨by show (1 : Int32) ≠ 0; decide, ⟨z4, ez, hy⟩⟩
  refine uqX6_readWhen_90 ?_
  unfold BX6_readWhen_90
  cases an with
  | false =>
    obtain ⟨z1, z2⟩ := aA0 rfl
    subst z1 z2
    rw [Bool.toNat_false] at a3 a4
    refine sat_neg (by rw [n_eq]; exact fun q => absurd (hx2.mp q) (by decide)) ?_
    refine sat_mono (K102 kA kB u' s' C fA fB (by omega) (by omega) g8 g8b g9 g10 g11 bl (g12.mono (by omega)) g13 (by omega)) fun y hy => sat_ret hy
  | true =>
    obtain ⟨q1, q2, q3, q4⟩ := aA rfl
    rw [Bool.toNat_true] at a3 a4
    refine sat_pos (by rw [n_eq]; exact hx2.mpr rfl) ?_
    have J := j_bin (x := -18) (x' := 16) (d := 21) g8 g8b (by omega) (by omega) (q3.cg fun j _ w => g9 j w) g12 (q4.cg fun j _ w => g10 j w) g13 (by decide) (by decide) (by decide) (by decide) (by decide) (by decide) (fun _ _ => rfl) (Nat.le_refl _) (by omega)
    obtain ⟨y16, ey, z4, ez, j1, j2, j3, j4, j5, j6, j7, j8⟩ := J
    refine sat_call ey ?_
    refine sat_mono (K102 y16.2 z4.2 (u' + 1) (s' + 1) _ (fA.tr (j1.up rfl rfl)) (fB.tr (j2.up rfl rfl)) (by omega) (by omega) j3 j4 (fun p hp => (j5 p (by omega)).trans (g9 p (by omega))) (fun i hi => (j6 i (by omega)).trans (g10 i (by omega))) (FR_jn q1 g11) (BL_jn q2 bl (Or.inl rfl)) j7 j8 (by omega)) fun y hy => ⟨z4, ez, hy⟩
end WH
