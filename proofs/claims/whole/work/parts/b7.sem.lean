/-! a line read by both: a charge -/
theorem c_putX {u0 : Nat} {g h : ea_H} (k9 : Ok9 u0 g h) : sat (qX6_put (-100) h) fun y => fq [(27, 27)] [((24, 24), 9, 9)] h y.2 ∧ Ok9 u0 g y.2 := by
  obtain ⟨k1, u, hu, k3⟩ := k9
  by_cases z : u < 3600
  · exact sat_mono (c_put hu z (x1 := -100) (by decide) (by decide)) fun y hy => ⟨hy.1, fun p hp => (hy.2.2.2 p (by omega)).trans (k1 p hp), u + 1, hy.2.1, by omega⟩
  · have vu : (ea_i h 24 9).toInt = u := hu
    unfold qX6_put BX6_put_0
    exact sat_pos (by rw [n_le, vu, l_3600]; omega) (sat_ret ⟨fq_rfl _ _ _, k1, u, hu, k3⟩)
def ChF (hA hB : ea_H) (u p s w : Nat) (b : Bool) : Prop := ∃ q F, FR F ∧ cB (cd hA) p q 60 F ∧ cd hA q = -100 ∧ q < u ∧ mB (Sf hB) s w F ∧ (b = true → ∀ f, F f = 0 ∨ F f = 1)
theorem ChF.cg {hA hB hA' hB' : ea_H} {u u' p s w : Nat} {b : Bool} (c : ChF hA hB u p s w b) (ec : ∀ p, p < u → cd hA' p = cd hA p) (es : ∀ i, i < w → Sf hB' i = Sf hB i) (hu : u ≤ u') : ChF hA' hB' u' p s w b := by
  obtain ⟨q, F, c1, c2, c3, c4, c5, c6⟩ := c
  exact ⟨q, F, c1, c2.cg fun j h1 h2 => ec j (by omega), (ec q c4).trans c3, by omega, c5.cg fun i _ h => es i h, c6⟩
def ActW (k q : Nat) (h h' : ea_H) : Prop := ∀ a j, 31 ≤ a → a ≤ 48 → (a = 31 + 3 * k → j ≠ 8) → (a = 32 + 3 * k → j ≠ q) → (a = 33 + 3 * k → j ≠ q) → hI h' a j = hI h a j
theorem ActW.tr {k q : Nat} {h h1 h2 : ea_H} (x : ActW k q h h1) (y : ActW k q h1 h2) : ActW k q h h2 := fun a j a1 a2 a3 a4 a5 => (y a j a1 a2 a3 a4 a5).trans (x a j a1 a2 a3 a4 a5)
theorem ActW.of {k q : Nat} {h h' : ea_H} {A : List (Nat × Nat)} {B : List ((Nat × Nat) × Nat × Nat)} (f : fq A B h h') (w : (A.all fun q => apt (31, 48) q) = true) (w2 : (B.all fun q => apt (31, 48) q.1) = true) : ActW k q h h' := fun a j a1 a2 _ _ _ => by
  have g : fre A B [(31, 48)] [] = true := by
    unfold fre
    rw [Bool.and_eq_true]
    refine ⟨?_, rfl⟩
    rw [List.all_cons, Bool.and_eq_true, Bool.and_eq_true]
    exact ⟨⟨w, w2⟩, rfl⟩
  exact (f.kq g).W a (inB_at (r := (31, 48)) List.mem_cons_self a1 a2) j
theorem act_rng {k a : Nat} (hk : k < 6) (h1 : 31 + 3 * k ≤ a) (h2 : a ≤ 33 + 3 * k) : inB [(31, 48)] a = true := inB_at (r := (31, 48)) List.mem_cons_self (by show 31 ≤ a; omega) (by show a ≤ 48; omega)
def ChO (b : Nat → Int) (n c k q e u s : Nat) (hA hB : ea_H) (y z : Int32 × ea_H) : Prop := (z.1 = 0 ∧ PrX y.2 z.2 ∧ Ok9 u hA y.2) ∨ (z.1 = 1 ∧ ∃ e' u' s' w : Nat, e < e' ∧ u < u' ∧ u' + e ≤ u + e' ∧ s < s' ∧ s' + e ≤ s + e' ∧ PrC y.2 b n c e' u' ∧ PrM z.2 b n e' s' 0 ∧ (∀ p, p < u → cd y.2 p = cd hA p) ∧ (∀ i, i < s → Sf z.2 i = Sf hB i) ∧ hI y.2 (31 + 3 * k) 8 = ((q + 1 : Nat) : Int) ∧ hI z.2 326 44 = ((q + 1 : Nat) : Int) ∧ (∀ j, j ≠ q → hI z.2 359 j = hI hB 359 j ∧ hI z.2 360 j = hI hB 360 j) ∧ hI y.2 (32 + 3 * k) q = u ∧ hI z.2 359 q = s ∧ hI z.2 360 q = w ∧ ChF y.2 z.2 u' u s w false ∧ ((hI y.2 (33 + 3 * k) q = -1 ∧ w = s') ∨ (w ≠ s' ∧ ∃ p' : Nat, hI y.2 (33 + 3 * k) q = p' ∧ ChF y.2 z.2 u' p' w s' true)))
section CR
variable {b : Nat → Int} {n c e u s k q : Nat} {h hA hB : ea_H}
theorem p_charge (hs : ShC hA) (hk : k < 6) (pc : PrC hA b n c e u) (kc : paK b n (paS b n e) ≠ 19) (pm : PrM hB b n (e + 1) s 0) (hu : u + c ≤ 3600 + e) (hse : s ≤ e) (hq : q < 24) (h8 : hI hA (31 + 3 * k) 8 = q) (h44 : hI hB 326 44 = q) : sat (qX6_readCharge (some (31 + 3 * k)) hA) fun y => sat (qX12_aCharge hB) fun z => fq [(27, 27), (31, 48)] [((24, 24), 1, 2), ((24, 24), 6, 7), ((24, 24), 9, 9)] hA y.2 ∧ fq [(359, 361)] [((326, 326), 44, 45), ((326, 326), 53, 58), ((326, 326), 60, 60)] hB z.2 ∧ ActW k q hA y.2 ∧ ChO b n c k q e u s hA hB y z := by
  have n6 := pc.1
  have cn := pc.2.1.2.1
  have lt := pc.lt kc
  have v44 : (ea_i hB 326 44).toInt = q := h44
  have ic44 : (ea_i hB 326 44).toNatClampNeg = q := by
    rw [n_idx, v44]
    rfl
  refine sat_sw ?_
  unfold qX12_aCharge BX12_aCharge_0
  rw [ic44]
  refine sat_gd (vp80 v44 (by omega)) (sat_let fun H2 q2 => ?_)
  have F2 : fq [(359, 359)] [] hB H2 := q2 ▸ fq_wi rfl
  have pm2 : PrM H2 b n (e + 1) s 0 := pm.kq (F2.kq rfl)
  refine sat_sw ?_
  obtain ⟨r1, r2, r3, r4, r5, r6⟩ := act_ref hs hk
  unfold qX6_readCharge BX6_readCharge_0
  refine sat_gd rfl (sat_gd r4 (sat_let fun v3 q3 => ?_))
  have ev3 : v3.toInt = q := by
    rw [q3]
    exact h8
  have ic3 : v3.toNatClampNeg = q := by
    rw [n_idx, ev3]
    rfl
  rw [ic3]
  refine sat_pos (by rw [n_lt, ev3, l_24]; omega) (sat_gd rfl (sat_gd r4 (sat_gd rfl (sat_gd r4 (sat_let fun H8 q8 => ?_)))))
  have q8 : H8 = ea_wi hA (31 + 3 * k) 8 (ea_i hA (31 + 3 * k) 8 + (1 : Int32)) := q8
  have F8 : fq [(31, 48)] [] hA H8 := q8 ▸ fq_wi (act_rng hk (by omega) (by omega))
  obtain ⟨-, t2, -, t4, t5, -⟩ := act_ref (ShC_core F8.1 hs) hk
  refine sat_gd rfl (sat_gd t4 ?_)
  rw [show ea_r H8 (Option.getD (some (31 + 3 * k)) 0) 9 = some (32 + 3 * k) from t2]
  have g32 : vp_in v3 (ea_l H8 (Option.getD (some (32 + 3 * k)) 0)) := by
    show vp_in v3 (ea_l H8 (32 + 3 * k))
    rw [t5.2]
    exact vp80 ev3 hq
  refine sat_gd rfl (sat_gd t5.1 (sat_gd g32 (sat_let fun H14 q14 => ?_)))
  have q14 : H14 = ea_wi H8 (32 + 3 * k) q (ea_i H8 24 9) := q14
  have F14 : fq [(31, 48)] [] hA H14 := F8.tr (q14 ▸ fq_wi (act_rng hk (by omega) (by omega)))
  obtain ⟨-, -, w3, w4, -, w6⟩ := act_ref (ShC_core F14.1 hs) hk
  refine sat_gd rfl (sat_gd w4 ?_)
  rw [show ea_r H14 (Option.getD (some (31 + 3 * k)) 0) 10 = some (33 + 3 * k) from w3]
  have g33 : vp_in v3 (ea_l H14 (Option.getD (some (33 + 3 * k)) 0)) := by
    show vp_in v3 (ea_l H14 (33 + 3 * k))
    rw [w6.2]
    exact vp80 ev3 hq
  refine sat_gd rfl (sat_gd w6.1 (sat_gd g33 (sat_let fun H20 q20 => ?_)))
  have q20 : H20 = ea_wi H14 (33 + 3 * k) q (-1) := q20
  have F20 : fq [(31, 48)] [] hA H20 := F14.tr (q20 ▸ fq_wi (act_rng hk (by omega) (by omega)))
  have x8 : hI H20 (31 + 3 * k) 8 = ((q + 1 : Nat) : Int) := by
    rw [q20, hI_ne (by omega), q14, hI_ne (by omega), q8, hI_at, n_inc h8 (by omega)]
  have x32 : hI H20 (32 + 3 * k) q = u := by
    rw [q20, hI_ne (by omega), q14, hI_at, q8, i_ne (by omega)]
    exact pc.2.2.2.2.2.2
  have x33 : hI H20 (33 + 3 * k) q = -1 := by
    rw [q20, hI_at]
    rfl
  have X20 : ActW k q hA H20 := fun a j a1 a2 a3 a4 a5 => by
    rw [q20, hI_wi, if_neg (fun z => a5 z.1 z.2), q14, hI_wi, if_neg (fun z => a4 z.1 z.2), q8, hI_wi, if_neg (fun z => a3 z.1 z.2)]
  obtain ⟨y21, ey21, f21, p21⟩ := c_step (pc.kq (F20.kq rfl)) kc
  obtain ⟨y22, ey22, z3, ez3, r⟩ := p_sums b n c 8 0 40 40 (by omega) (by omega) (by omega) 0 y21.2 H2 (e + 1) u s rfl ⟨p21, pm2, by omega, by omega, by omega⟩
  have C21 : ∀ p, cd y21.2 p = cd hA p := fun p => (cd_fq f21 rfl p).trans (cd_fq F20 rfl p)
  refine sat_call ey21 (sat_call ey22 (sat_sw (sat_call ez3 ?_)))
  rcases r with r | ⟨ry, rz, e1, u1, s1, F, g⟩
  · refine sat_pos r.2.1 (sat_ret (sat_pos r.1 (sat_ret ⟨?_, ?_, ?_, Or.inl ⟨rfl, r.2.2.2.2.1, r.2.2.2.2.2.tr (Nat.le_refl _) fun p _ => C21 p⟩⟩)))
    · exact (F20.up rfl rfl).tr ((f21.up rfl rfl).tr (r.2.2.1.up rfl rfl))
    · exact (F2.up rfl rfl).tr (r.2.2.2.1.up rfl rfl)
    · exact X20.tr ((ActW.of f21 rfl rfl).tr (ActW.of r.2.2.1 rfl rfl))
  obtain ⟨g1, g2, g3, g4, g5, g6, g7, ⟨g8, g8b, g8c, g8d, -⟩, g9, g10, g11, g12, g13⟩ := g
  have le1 := g8.2.2.1
  obtain ⟨y23, ey23, f23, p23, c23, d23⟩ := c_putP g8 (by omega) (x1 := -100) (by decide) (by decide)
  have v44' : (ea_i z3.2 326 44).toInt = q := by
    show hI z3.2 326 44 = q
    rw [g2.I 326 rfl 44 rfl, F2.I 326 rfl 44 rfl, h44]
  have ic44' : (ea_i z3.2 326 44).toNatClampNeg = q := by
    rw [n_idx, v44']
    rfl
  rw [ic44']
  refine sat_neg (by rw [rz]; exact i1_ne_0) (sat_gd (vp80 v44' hq) (sat_let fun H5 q5 => ?_))
  have F5 : fq [(360, 360)] [] z3.2 H5 := q5 ▸ fq_wi rfl
  have pm5 : PrM H5 b n e1 s1 0 := g8b.kq (F5.kq rfl)
  have v45 : (ea_i z3.2 326 45).toInt = s1 := g8b.2.2.2.2.2.2.1
  have S5 : ∀ i, Sf H5 i = Sf z3.2 i := Sf_same F5 rfl rfl
  have FA23 : fq [(27, 27), (31, 48)] [((24, 24), 1, 2), ((24, 24), 6, 7), ((24, 24), 9, 9)] hA y23.2 := (F20.up rfl rfl).tr ((f21.up rfl rfl).tr ((g1.up rfl rfl).tr (f23.up rfl rfl)))
  have FB5 : fq [(359, 361)] [((326, 326), 44, 45), ((326, 326), 53, 58), ((326, 326), 60, 60)] hB H5 := (F2.up rfl rfl).tr ((g2.up rfl rfl).tr (F5.up rfl rfl))
  have X23' : ∀ a j, 31 ≤ a → a ≤ 48 → hI y23.2 a j = hI H20 a j := fun a j a1 a2 => (((f23.kq rfl : keq [(31, 48)] [] _ _).W a (inB_at (r := (31, 48)) List.mem_cons_self a1 a2) j).trans ((g1.kq rfl : keq [(31, 48)] [] _ _).W a (inB_at (r := (31, 48)) List.mem_cons_self a1 a2) j)).trans ((f21.kq rfl : keq [(31, 48)] [] _ _).W a (inB_at (r := (31, 48)) List.mem_cons_self a1 a2) j)
  have X23 : ActW k q hA y23.2 := fun a j a1 a2 a3 a4 a5 => (X23' a j a1 a2).trans (X20 a j a1 a2 a3 a4 a5)
  have C23 : ∀ p, p < u → cd y23.2 p = cd hA p := fun p hp => ((d23 p (by omega)).trans (g9 p hp)).trans (C21 p)
  have S53 : ∀ i, i < s → Sf H5 i = Sf hB i := fun i hi => ((S5 i).trans (g10 i hi)).trans (Sf_same F2 rfl rfl i)
  have chs : ChF y23.2 H5 (u1 + 1) u s s1 false := ⟨u1, F, g11, (g12.cg fun j _ _ => d23 j (by omega)).mono (by omega), c23, by omega, g13.cg fun i _ _ => S5 i, fun z => absurd z (by decide)⟩
  have x359 : hI H5 359 q = s := by
    rw [F5.C 359 rfl rfl q, g2.C 359 rfl rfl q, q2, hI_at]
    exact pm.2.2.2.2.2.2.1
  have x360 : hI H5 360 q = s1 := by
    rw [q5, hI_at]
    exact v45
  have oth : ∀ j, j ≠ q → hI H5 359 j = hI hB 359 j ∧ hI H5 360 j = hI hB 360 j := fun j hj => ⟨by rw [F5.C 359 rfl rfl j, g2.C 359 rfl rfl j, q2, hI_nk hj], by rw [q5, hI_nk hj, g2.C 360 rfl rfl j, F2.C 360 rfl rfl j]⟩
  have v44'' : hI H5 326 44 = q := (F5.I 326 rfl 44 rfl).trans v44'
  by_cases k13 : paK b n (paS b n e1) = 13
  · have lt1 := p23.lt (by omega)
    refine sat_pos (pm5.yes (j := 13) rfl (by decide) (by decide) k13) ?_
    obtain ⟨y24, ey24, f24, p24⟩ := c_step p23 (by omega)
    obtain ⟨z7, ez7, h7, p7⟩ := m_next pm5
    refine sat_call ez7 (sat_sw (sat_neg (by rw [ry]; exact i1_ne_0) (sat_call ey23 (sat_pos (p23.yes (j := 13) rfl k13) (sat_call ey24 ?_)))))
    have FA24 := FA23.tr (f24.up rfl rfl : fq [(27, 27), (31, 48)] [((24, 24), 1, 2), ((24, 24), 6, 7), ((24, 24), 9, 9)] y23.2 y24.2)
    obtain ⟨-, -, b3, b4, -, b6⟩ := act_ref (ShC_core FA24.1 hs) hk
    refine sat_gd rfl (sat_gd b4 ?_)
    rw [show ea_r y24.2 (Option.getD (some (31 + 3 * k)) 0) 10 = some (33 + 3 * k) from b3]
    have g33' : vp_in v3 (ea_l y24.2 (Option.getD (some (33 + 3 * k)) 0)) := by
      show vp_in v3 (ea_l y24.2 (33 + 3 * k))
      rw [b6.2]
      exact vp80 ev3 hq
    refine sat_gd rfl (sat_gd b6.1 (sat_gd g33' (sat_let fun H30 q30 => ?_)))
    have q30 : H30 = ea_wi y24.2 (33 + 3 * k) q (ea_i y24.2 24 9) := q30
    have F30 : fq [(31, 48)] [] y24.2 H30 := q30 ▸ fq_wi (act_rng hk (by omega) (by omega))
    have FA30 := FA24.tr (F30.up rfl rfl : fq [(27, 27), (31, 48)] [((24, 24), 1, 2), ((24, 24), 6, 7), ((24, 24), 9, 9)] y24.2 H30)
    have p30 : PrC H30 b n c (e1 + 1) (u1 + 1) := p24.kq (F30.kq rfl)
    have X24 : ∀ a j, 31 ≤ a → a ≤ 48 → hI y24.2 a j = hI y23.2 a j := fun a j a1 a2 => (f24.kq rfl : keq [(31, 48)] [] _ _).W a (inB_at (r := (31, 48)) List.mem_cons_self a1 a2) j
    have X30 : ActW k q hA H30 := fun a j a1 a2 a3 a4 a5 => by
      rw [q30, hI_wi, if_neg (fun z => a5 z.1 z.2), X24 a j a1 a2]
      exact X23 a j a1 a2 a3 a4 a5
    have C30 : ∀ p, cd H30 p = cd y23.2 p := fun p => (cd_fq F30 rfl p).trans (cd_fq f24 rfl p)
    have S7 : ∀ i, Sf z7.2 i = Sf H5 i := Sf_same h7 rfl rfl
    obtain ⟨y31, ey31, z8, ez8, r8⟩ := p_when (b := b) (n := n) (c := c) (e := e1 + 1) (u := u1 + 1) (s := s1) (hA := H30) (hB := z7.2) ⟨p30, p7, by omega, by omega, by omega⟩
    refine sat_call ey31 (sat_sw (sat_call ez8 ?_))
    rcases r8 with ⟨rz8, ry8, fA8, fB8, px, k9⟩ | ⟨ry8, rz8, e2, u2, s2, G, g', blG⟩
    · obtain ⟨x1, x2, x3⟩ := px
      have k9' : Ok9 u hA y31.2 := k9.tr (by omega) fun p hp => (C30 p).trans (C23 p hp)
      refine sat_pos rz8 (sat_ret (sat_bind (c_putX k9') fun y32 h32 => sat_gd (Or.inl ry8) (sat_ret ⟨?_, ?_, ?_, Or.inl ⟨rfl, ⟨?_, ?_, ?_⟩, h32.2⟩⟩)))
      · exact FA30.tr ((fA8.up rfl rfl).tr (h32.1.up rfl rfl))
      · exact FB5.tr ((h7.up rfl rfl).tr (fB8.up rfl rfl))
      · exact X30.tr ((ActW.of fA8 rfl rfl).tr (ActW.of h32.1 rfl rfl))
      · rw [h32.1.I 24 rfl 1 rfl]
        exact x1
      · rw [h32.1.I 24 rfl 1 rfl]
        exact x2
      · rw [h32.1.I 24 rfl 2 rfl]
        exact x3
    · obtain ⟨w1, w2, w3, w4, w5, w6, w7, ⟨w8, w8b, w8c, w8d, -⟩, w9, w10, w11, w12, w13⟩ := g'
      have le2 := w8.2.2.1
      refine sat_neg (by rw [rz8]; exact i1_ne_0) (sat_let fun H9 q9 => sat_ret ?_)
      obtain ⟨y32, ey32, f32, p32, c32, d32⟩ := c_putP w8 (by omega) (x1 := -100) (by decide) (by decide)
      have F9 : fq [] [((326, 326), 44, 44)] z8.2 H9 := q9 ▸ fq_wf rfl
      have S9 : ∀ i, Sf H9 i = Sf z8.2 i := Sf_same F9 rfl rfl
      have w44 : (ea_i z8.2 326 44).toInt = q := by
        show hI z8.2 326 44 = q
        rw [w2.I 326 rfl 44 rfl, h7.I 326 rfl 44 rfl, v44'']
      have XX : ∀ a j, 31 ≤ a → a ≤ 48 → hI y32.2 a j = hI H30 a j := fun a j a1 a2 => ((f32.kq rfl : keq [(31, 48)] [] _ _).W a (inB_at (r := (31, 48)) List.mem_cons_self a1 a2) j).trans ((w1.kq rfl : keq [(31, 48)] [] _ _).W a (inB_at (r := (31, 48)) List.mem_cons_self a1 a2) j)
      have C32 : ∀ p, p < u1 + 1 → cd y32.2 p = cd y23.2 p := fun p hp => ((d32 p (by omega)).trans (w9 p hp)).trans (C30 p)
      have S8 : ∀ i, i < s1 → Sf H9 i = Sf H5 i := fun i hi => ((S9 i).trans (w10 i hi)).trans (S7 i)
      have row : ∀ a, a = 359 ∨ a = 360 → ∀ j, hI H9 a j = hI H5 a j := fun a ha j => by
        rcases ha with rfl | rfl
        · rw [F9.C 359 rfl rfl j, w2.C 359 rfl rfl j, h7.C 359 rfl rfl j]
        · rw [F9.C 360 rfl rfl j, w2.C 360 rfl rfl j, h7.C 360 rfl rfl j]
      refine sat_call ey32 (sat_gd (Or.inr ry8) (sat_ret ⟨?_, ?_, ?_, Or.inr ⟨rfl, e2, u2 + 1, s2, s1, by omega, by omega, by omega, by omega, by omega, p32, w8b.kq (F9.kq rfl), fun p hp => (C32 p (by omega)).trans (C23 p hp), fun i hi => (S8 i (by omega)).trans (S53 i hi), ?_, ?_, fun j hj => ?_, ?_, ?_, ?_, ?_, Or.inr ⟨by omega, u1 + 1, ?_, ?_⟩⟩⟩))
      · exact FA30.tr ((w1.up rfl rfl).tr (f32.up rfl rfl))
      · exact FB5.tr ((h7.up rfl rfl).tr ((w2.up rfl rfl).tr (F9.up rfl rfl)))
      · exact X30.tr ((ActW.of w1 rfl rfl).tr (ActW.of f32 rfl rfl))
      · show hI y32.2 (31 + 3 * k) 8 = _
        rw [XX _ _ (by omega) (by omega), q30, hI_ne (by omega), X24 _ _ (by omega) (by omega), X23' _ _ (by omega) (by omega), x8]
      · rw [q9, hI_at, n_inc w44 (by omega)]
      · rw [row 359 (Or.inl rfl), row 360 (Or.inr rfl)]
        exact oth j hj
      · show hI y32.2 (32 + 3 * k) q = _
        rw [XX _ _ (by omega) (by omega), q30, hI_ne (by omega), X24 _ _ (by omega) (by omega), X23' _ _ (by omega) (by omega), x32]
      · rw [row 359 (Or.inl rfl), x359]
      · rw [row 360 (Or.inr rfl), x360]
      · exact chs.cg C32 S8 (by omega)
      · show hI y32.2 (33 + 3 * k) q = _
        rw [XX _ _ (by omega) (by omega), q30, hI_at]
        exact p24.2.2.2.2.2.2
      · exact ⟨u2, G, w11, (w12.cg fun j _ _ => d32 j (by omega)).mono (by omega), c32, by omega, w13.cg fun i _ _ => S9 i, fun _ => blG⟩
  · refine sat_neg (pm5.no (j := 13) rfl (by decide) (by decide) k13) (sat_let fun H6 q6 => sat_ret ?_)
    refine sat_neg (by rw [ry]; exact i1_ne_0) (sat_call ey23 (sat_neg (p23.no (j := 13) rfl k13) (sat_ret ⟨FA23, ?_, X23, Or.inr ⟨rfl, e1, u1 + 1, s1, s1, by omega, by omega, by omega, by omega, by omega, p23, ?_, C23, ?_, ?_, ?_, ?_, ?_, ?_, ?_, ?_, Or.inl ⟨?_, rfl⟩⟩⟩)))
    · exact FB5.tr ((q6 ▸ fq_wf rfl : fq [] [((326, 326), 44, 44)] H5 H6).up rfl rfl)
    · exact pm5.kq ((q6 ▸ fq_wf rfl : fq [] [((326, 326), 44, 44)] H5 H6).kq rfl)
    · exact fun i hi => (Sf_same (q6 ▸ fq_wf rfl : fq [] [((326, 326), 44, 44)] H5 H6) rfl rfl i).trans (S53 i hi)
    · show hI y23.2 (31 + 3 * k) 8 = _
      rw [X23' _ _ (by omega) (by omega), x8]
    · rw [q6, hI_at, n_inc v44'' (by omega)]
    · intro j hj
      rw [q6, hI_ne (by decide), hI_ne (by decide)]
      exact oth j hj
    · show hI y23.2 (32 + 3 * k) q = _
      rw [X23' _ _ (by omega) (by omega), x32]
    · rw [q6, hI_ne (by decide), x359]
    · rw [q6, hI_ne (by decide), x360]
    · exact chs.cg (fun _ _ => rfl) (fun i _ => Sf_same (q6 ▸ fq_wf rfl : fq [] [((326, 326), 44, 44)] H5 H6) rfl rfl i) (Nat.le_refl _)
    · show hI y23.2 (33 + 3 * k) q = _
      rw [X23' _ _ (by omega) (by omega), x33]
end CR
