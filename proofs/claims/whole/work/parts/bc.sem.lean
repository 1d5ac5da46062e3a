/-! act, of both -/
def FqA (h h' : ea_H) : Prop := fq [(26, 27), (31, 48)] [((23, 23), 1, 1), ((24, 24), 0, 9)] h h'
def FqB (h h' : ea_H) : Prop := fq [(347, 361)] [((326, 326), 25, 25), ((326, 326), 43, 62)] h h'
def AcPost (h hB : ea_H) (y z : Int32 × ea_H) : Prop := y.1 = z.1 ∧ FqA h y.2 ∧ FqB hB z.2 ∧ (hI y.2 24 0 = 0 ∧ hI z.2 326 52 = 0) ∧ hI y.2 24 1 = hI z.2 326 59 ∧ hI y.2 24 2 = hI z.2 326 62 ∧ (∃ k u : Nat, hI y.2 23 1 = k ∧ hI z.2 326 25 = k ∧ k ≤ 6 ∧ hI y.2 24 9 = u ∧ u ≤ 600 * k ∧ ∀ i, i < k → AcE y.2 z.2 u i) ∧ (∀ i, 0 ≤ hI z.2 347 i) ∧ (∀ a : Nat, (a : Int) < hI hB 326 25 → hI z.2 354 a = hI hB 354 a) ∧ hI hB 326 25 ≤ hI z.2 326 25
section PA2
variable {h hB : ea_H} {n k u0 : Nat} {d : Int32}
theorem ChB.ofF {hA g h1 : ea_H} {u p s w : Nat} {t : Bool} (c : ChF hA g u p s w t) (e : ∀ i, i < w → St h1 k i = Sf g i) : ChB hA h1 k u p s w t := by
  obtain ⟨q, F, c1, c2, c3, c4, c5, c6⟩ := c
  exact ⟨q, F, c1, c2, c3, c4, c5.cg fun i _ hi => e i hi, c6⟩
theorem p_act (hs : ShC h) (t0 : hI h 24 0 = n) (t1 : hI hB 326 52 = n) (t2 : n ≤ 600) (t3 : ∀ k, k < n → hI h 25 k = hI hB 362 k ∧ 0 ≤ hI hB 362 k ∧ hI hB 362 k < 256) (a1 : hI h 23 1 = k) (a2 : hI hB 326 25 = k) (a3 : k ≤ 6) (a4 : hI h 24 9 = u0) (a5 : u0 ≤ 600 * k) (a6 : ∀ i, i < k → AcE h hB u0 i) (dy : ∀ i, 0 ≤ hI hB 347 i) : sat (qX11_act d h) fun y => sat (qX12_act d hB) fun z => AcPost h hB y z := by
  have day : ∀ i, i < k → hI h (31 + 3 * i) 0 = hI hB 347 i := fun i hi => (a6 i hi).1.1
  obtain ⟨v, qv, sv⟩ := c_mayBegin (d := d) hs a1 a3 fun i hi => by
    rw [day i hi]
    exact dy i
  unfold qX11_act BX11_act_0
  refine sat_call qv ?_
  refine sat_sw ?_
  unfold qX12_act
  refine uqX12_act_0 ?_
  unfold BX12_act_0
  refine sat_let fun H1 q1 => sat_let fun H2 q2 => ?_
  have F2 : fq [] [((326, 326), 59, 59), ((326, 326), 62, 62)] hB H2 := (q1 ▸ fq_wf rfl : fq [] [((326, 326), 59, 59), ((326, 326), 62, 62)] hB H1).tr (q2 ▸ fq_wf rfl)
  have X59 : hI H2 326 59 = 0 := by
    rw [q2, hI_nk (by decide), q1, hI_at]
    rfl
  have X62 : hI H2 326 62 = -1 := by
    rw [q2, hI_at]
    rfl
  have w25 : (ea_i H2 326 25).toInt = k := (F2.I 326 rfl 25 rfl).trans a2
  obtain ⟨vd, qd, sd⟩ := m_isDay d H2
  have i25 : 0 < k → (ea_i H2 326 25 - (1 : Int32)).toInt = ((k - 1 : Nat) : Int) := fun k0 => by
    rw [n_pred (by omega), w25]
    omega
  have c25 : 0 < k → (ea_i H2 326 25 - (1 : Int32)).toNatClampNeg = k - 1 := fun k0 => by
    rw [n_idx, i25 k0]
    rfl
  have w347 : 0 < k → (ea_i H2 347 (k - 1)).toInt = hI h (31 + 3 * (k - 1)) 0 := fun k0 => (F2.C 347 rfl rfl (k - 1)).trans (day (k - 1) (by omega)).symm
  rcases sv with ⟨v0, no⟩ | ⟨v1, k6, d0, d7, dk⟩
  · -- refused
    have fin : ∀ H, H = ea_wi H2 326 52 0 → sat (if v = (0 : Int32) then (Option.bind (qX6_drop h) fun w6 => (some (((-1) : Int32), w6.2))) else (Option.bind (qX8_next d h) fun w2 => (Option.bind (qX6_read w2.1 w2.2) fun w3 => (if w3.1 = (0 : Int32) then (some (((-1) : Int32), w3.2)) else (Option.bind (qX8_add w3.2) fun w4 => (some (w4.1, w4.2))))))) fun y => AcPost h hB y (((-1) : Int32), H) := by
      intro H q
      refine sat_pos v0 (sat_bind (c_drop h) fun y hy => sat_ret ?_)
      obtain ⟨f, e0, e1, e2⟩ := hy
      have G : fq [] [((326, 326), 52, 52)] H2 H := q ▸ fq_wf rfl
      have GB : FqB hB H := (F2.up rfl rfl).tr (G.up rfl rfl)
      refine ⟨rfl, f.up rfl rfl, GB, ⟨e0, ?_⟩, ?_, ?_, ⟨k, u0, (f.I 23 rfl 1 rfl).trans a1, ?_, a3, (f.I 24 rfl 9 rfl).trans a4, a5, fun i hi => ?_⟩, fun i => ?_, fun a _ => ?_, ?_⟩
      · show hI H 326 52 = 0
        rw [q, hI_at]
        rfl
      · show hI y.2 24 1 = hI H 326 59
        rw [e1, q, hI_nk (by decide), X59]
      · show hI y.2 24 2 = hI H 326 62
        rw [e2, q, hI_nk (by decide), X62]
      · show hI H 326 25 = k
        rw [q, hI_nk (by decide)]
        exact w25
      · have FF : fq [] [((326, 326), 52, 52), ((326, 326), 59, 59), ((326, 326), 62, 62)] hB H := (F2.up rfl rfl).tr (G.up rfl rfl)
        exact (a6 i hi).kq (f.kq rfl) (FF.kq rfl) (by omega)
      · show 0 ≤ hI H 347 i
        rw [q, hI_ne (by decide), F2.C 347 rfl rfl i]
        exact dy i
      · show hI H 354 a = _
        rw [q, hI_ne (by decide), F2.C 354 rfl rfl a]
      · show _ ≤ hI H 326 25
        rw [q, hI_nk (by decide), F2.I 326 rfl 25 rfl]
        exact Int.le_refl _
    refine sat_call qd ?_
    rcases sd with ⟨d1, d2⟩ | ⟨d1, d2, d3⟩
    · exact sat_pos d1 (sat_let fun H4 q4 => sat_ret (fin H4 q4))
    refine sat_neg (by rw [d1]; exact i1_ne_0) (sat_ite (fun z => sat_let fun H5 q5 => sat_ret (fin H5 q5)) fun z => sat_neg (fun z2 => ?_) ?_)
    · rw [n_eq, w25, l_6] at z
      rw [n_le, w25, l_0] at z2
      exact no ⟨by omega, d2, d3, fun k0 => by omega⟩
    · rw [n_eq, w25, l_6] at z
      by_cases k0 : 0 < k
      · refine sat_gd (vp80 (i25 k0) (by omega)) ?_
        rw [c25 k0]
        refine sat_neg (fun z3 => ?_) (sat_let fun H7 q7 => sat_ret (fin H7 q7))
        have z3 : ea_i H2 347 (k - 1) ≤ d := z3
        rw [n_le, w347 k0] at z3
        exact no ⟨by omega, d2, d3, fun _ => z3⟩
      · exact absurd ⟨by omega, d2, d3, fun k1 => absurd k1 k0⟩ no
  -- begun
  have toJ : ∀ Q : Int32 × ea_H → Prop, sat (qX12_act_55 d H2) Q → sat (Option.bind (qX12_isDay d H2) fun w3 => (if w3.1 = (0 : Int32) then (ea_let (ea_wi w3.2 326 52 0) fun H4 => (some (((-1) : Int32), H4))) else (if (ea_i w3.2 326 25) = (6 : Int32) then (ea_let (ea_wi w3.2 326 52 0) fun H5 => (some (((-1) : Int32), H5))) else (if (ea_i w3.2 326 25) ≤ (0 : Int32) then (qX12_act_55 d w3.2) else (gd (vp_in ((ea_i w3.2 326 25) - (1 : Int32)) 6) (if (ea_i w3.2 347 (Int32.toNatClampNeg ((ea_i w3.2 326 25) - (1 : Int32)))) ≤ d then (qX12_act_55 d w3.2) else (ea_let (ea_wi w3.2 326 52 0) fun H7 => (some (((-1) : Int32), H7))))))))) Q := by
    intro Q HQ
    refine sat_call qd ?_
    rcases sd with ⟨e1, e2⟩ | ⟨e1, e2, e3⟩
    · exact absurd ⟨d0, d7⟩ e2
    refine sat_neg (by rw [e1]; exact i1_ne_0) (sat_neg (by rw [n_eq, w25, l_6]; omega) (sat_ite (fun _ => HQ) fun z => ?_))
    rw [n_le, w25, l_0] at z
    refine sat_gd (vp80 (i25 (by omega)) (by omega)) ?_
    rw [c25 (by omega)]
    refine sat_pos ?_ HQ
    show ea_i H2 347 (k - 1) ≤ d
    rw [n_le, w347 (by omega)]
    exact dk (by omega)
  refine toJ _ (sat_sw ?_)
  have tpM : TpM H2 (fun i => hI hB 362 i) n := ⟨(F2.I 326 rfl 52 rfl).trans t1, t2, fun k hk => ⟨F2.C 362 rfl rfl k, (t3 k hk).2⟩⟩
  obtain ⟨w, fw, pn, ru, w43, w44, Hw⟩ := m_act55 (d := d) tpM
  obtain ⟨y2, ey2, y21, f2, bg, oth2⟩ := c_next (d := d) hs k6 a1
  have tpC : TpC y2.2 (fun i => hI hB 362 i) n := ⟨(f2.I 24 rfl 0 rfl).trans t0, t2, fun k hk => ⟨(f2.C 25 rfl rfl k).trans (t3 k hk).1, (t3 k hk).2⟩⟩
  have h9 : hI y2.2 24 9 = u0 := (f2.I 24 rfl 9 rfl).trans a4
  obtain ⟨c, H4, f4, pc, e40, e42, Hr⟩ := c_read0 tpC h9 (some (31 + 3 * k))
  have cn := pc.2.1.2.1
  have act4 : ∀ a j, 31 ≤ a → a ≤ 48 → hI H4 a j = hI y2.2 a j := fun a j b1 b2 => (f4.kq rfl : keq [(31, 48)] [] _ _).W a (inB_at (r := (31, 48)) List.mem_cons_self b1 b2) j
  have bg4 : ∀ j, j ≤ 8 → hI H4 (31 + 3 * k) j = if j = 0 then d.toInt else if j = 3 then 1439 else if j = 7 then 3 else 0 := fun j hj => (act4 _ _ (by omega) (by omega)).trans (bg j hj)
  have hs4 : ShC H4 := ShC_core f4.1 (ShC_core f2.1 hs)
  have ln : Ln (fun i => hI hB 362 i) n c k 0 0 0 u0 0 H4 w := by
    refine ⟨pc, pn, by omega, ⟨bg4 1 (by decide), w43⟩, ⟨bg4 8 (by decide), w44⟩, ⟨fun j j1 j2 => ?_, ?_⟩, fun i hi => absurd hi (by omega)⟩
    · rw [bg4 j (by omega), if_neg (by omega), ru j j1 j2]
    · rw [ru 7 (by decide) (by decide)]
      decide
  have lines := p_lines (b := fun i => hI hB 362 i) (n := n) (c := c) (k := k) (u0 := u0) (gA := H4) (gB := w) hs4 k6 (x2 := ea_i y2.2 24 9) (d := d)
    (Q := fun y z => (y.1 = 1 ∧ ∃ (L q e u s : Nat) (g : ea_H), FLn k u0 H4 w y.2 g ∧ (u0 ≤ u ∧ u ≤ u0 + e) ∧ Ln (fun i => hI hB 362 i) n c k L q e u s y.2 g ∧ z.1.toInt = k ∧ fq [(347, 358)] [((326, 326), 25, 25), ((326, 326), 52, 52), ((326, 326), 59, 59), ((326, 326), 62, 62)] g z.2 ∧ (hI z.2 326 52 = 0 ∧ hI z.2 326 59 = 0 ∧ hI z.2 326 62 = -1 ∧ hI z.2 326 25 = ((k + 1 : Nat) : Int)) ∧ Ac9 d k g z.2 ∧ (∀ a, 347 ≤ a → a ≤ 355 → ∀ j, j ≠ k → hI z.2 a j = hI g a j) ∧ (∀ j, j < q → hI z.2 356 (25 * k + j) = hI g 359 j ∧ hI z.2 357 (24 * k + j) = hI g 360 j) ∧ hI z.2 356 (25 * k + q) = s ∧ (∀ j, j < 25 * k → hI z.2 356 j = hI g 356 j) ∧ (∀ j, j < 24 * k → hI z.2 357 j = hI g 357 j) ∧ (∀ j, j < 2 * s → hI z.2 358 (1220 * k + j) = hI g 361 j) ∧ ∀ j, j < 1220 * k → hI z.2 358 j = hI g 358 j) ∨ (y.1 = 0 ∧ ∃ kA g : ea_H, y.2 = ea_wi kA 24 9 (ea_i y2.2 24 9) ∧ FLn k u0 H4 w kA g ∧ PrX kA g ∧ z.1 = -1 ∧ fq [] [((326, 326), 52, 52), ((326, 326), 59, 59), ((326, 326), 62, 62)] g z.2 ∧ hI z.2 326 52 = 0 ∧ hI z.2 326 59 = hI g 326 57 ∧ hI z.2 326 62 = hI g 326 58))
    (fun L q e u s kA g fl hu ln' => by
      obtain ⟨pc', pn', b1, b2, b3, b4, b5⟩ := id ln'
      have g25 : hI g 326 25 = k := ((fl.2.1.I 326 rfl 25 rfl).trans (fw.I 326 rfl 25 rfl)).trans w25
      have g45 : hI g 326 45 = s := by
        have := pn'.2.2.2.2.2.2.1
        rw [hI_nk (by decide)] at this
        exact this
      have g57 : hI g 326 57 = 0 := by
        have := pn'.2.2.2.2.2.2.2
        rw [hI_nk (by decide)] at this
        exact this
      have ec := pc'.2.2.1
      refine sat_mono (m_137 (d := d) (q := q) (s := s) g25 k6 b3.2 (by omega) g45 (by omega) g57) fun z hz => Or.inl ⟨rfl, L, q, e, u, s, g, fl, hu, ln', hz⟩)
    (fun kA g fl px => sat_mono (m_137n (h := g) (d := d)) fun z hz => Or.inr ⟨rfl, kA, g, rfl, fl, px, hz⟩)
    (c + 1) 0 0 0 u0 0 0 0 H4 w (by omega) rfl (Nat.le_refl _) ⟨fq_rfl _ _ _, fq_rfl _ _ _, fun _ _ => rfl, fun _ _ _ _ _ => rfl⟩ ⟨Nat.le_refl _, by omega⟩ ln
  obtain ⟨y, ey, z, ez, res⟩ := lines
  have er : qX6_read (some (31 + 3 * k)) y2.2 = some y := sat_at (Hr _ ⟨y, ey, rfl⟩)
  refine sat_neg (by rw [v1]; exact i1_ne_0) (sat_call ey2 ?_)
  rw [y21]
  refine sat_call er ?_
  have FA4 : FqA h H4 := (f2.up rfl rfl).tr (f4.up rfl rfl)
  have FBw : FqB hB w := (F2.up rfl rfl).tr (fw.up rfl rfl)
  have C4 : ∀ p, cd H4 p = cd h p := fun p => (cd_fq f4 rfl p).trans (cd_fq f2 rfl p)
  have FBr : fq [] [((326, 326), 43, 51), ((326, 326), 53, 57), ((326, 326), 59, 59), ((326, 326), 62, 62)] hB w := (F2.up rfl rfl).tr (fw.up rfl rfl)
  rcases res with ⟨ry, L, q, e, u, s, g, fl, hu, ln', z1, z2, ⟨z3, z4, z5, z6⟩, ⟨r0, r1, r2, r3, r4, r5, r6, r7, r8⟩, z8, z9, z10, z11, z12, z13, z14⟩ | ⟨ry, kA, g, ey', fl, ⟨px1, px2, px3⟩, z1, z2, z3, z4, z5⟩
  · obtain ⟨pc', pn', b1, b2, b3, b4, b5⟩ := ln'
    have ec := pc'.2.2.1
    have q1' : hI y.2 23 1 = k := ((fl.1.I 23 rfl 1 rfl).trans ((f4.I 23 rfl 1 rfl).trans (f2.I 23 rfl 1 rfl))).trans a1
    refine sat_neg (by rw [ry]; exact i1_ne_0) ?_
    unfold qX8_add BX8_add_0
    refine sat_bind (Q := fun w4 => w4.1.toInt = (k : Int) ∧ w4.2 = ea_wi y.2 23 1 (ea_i y.2 23 1 + (1 : Int32))) (sat_let fun Hc qc => sat_ret ⟨?_, qc⟩) fun w4 hw4 => sat_ret (Hw _ ⟨z, ez, ?_⟩)
    · have : (ea_i Hc 23 1).toInt = ((k + 1 : Nat) : Int) := by
        show hI Hc 23 1 = _
        rw [qc, hI_at, n_inc q1' (by omega)]
      show (ea_i Hc 23 1 - (1 : Int32)).toInt = k
      rw [n_pred (by omega), this]
      omega
    obtain ⟨w41, w42⟩ := hw4
    have Gc : fq [] [((23, 23), 1, 1)] y.2 w4.2 := w42 ▸ fq_wf rfl
    have FA : FqA h w4.2 := (FA4.tr (fl.1.up rfl rfl)).tr (Gc.up rfl rfl)
    have FB : FqB hB z.2 := (FBw.tr (fl.2.1.up rfl rfl)).tr (z2.up rfl rfl)
    have Cc : ∀ p, cd w4.2 p = cd y.2 p := cd_fq Gc rfl
    have actc : ∀ a j, 31 ≤ a → a ≤ 48 → hI w4.2 a j = hI y.2 a j := fun a j c1 c2 => (Gc.kq rfl : keq [(31, 48)] [] _ _).W a (inB_at (r := (31, 48)) List.mem_cons_self c1 c2) j
    have glo : ∀ a, 347 ≤ a → a ≤ 358 → ∀ j, hI g a j = hI hB a j := fun a c1 c2 j => ((fl.2.1.kq rfl : keq [(347, 358)] [] _ _).W a (inB_at (r := (347, 358)) List.mem_cons_self c1 c2) j).trans ((FBr.kq rfl : keq [(347, 358)] [] _ _).W a (inB_at (r := (347, 358)) List.mem_cons_self c1 c2) j)
    refine ⟨n_eq.mpr (w41.trans z1.symm), FA, FB, ⟨?_, z3⟩, ?_, ?_, ⟨k + 1, u, ?_, z6, by omega, ?_, by omega, fun i hi => ?_⟩, fun i => ?_, fun a ha => ?_, ?_⟩
    · rw [Gc.I 24 rfl 0 rfl, fl.1.I 24 rfl 0 rfl]
      exact e40
    · rw [Gc.I 24 rfl 1 rfl, z4]
      exact pc'.2.2.2.2.2.1.1
    · rw [Gc.I 24 rfl 2 rfl, z5]
      exact pc'.2.2.2.2.2.1.2
    · rw [w42, hI_at, n_inc q1' (by omega)]
    · rw [Gc.I 24 rfl 9 rfl]
      exact pc'.2.2.2.2.2.2
    · by_cases zi : i = k
      · subst zi
        refine ⟨⟨?_, ?_, ?_, ?_, ?_, ?_, ?_, ?_, ?_⟩, by omega, q, ?_, ?_, by omega, fun j hj => ?_⟩
        · rw [actc _ _ (by omega) (by omega), r0, fl.2.2.2 _ 0 (by omega) (by omega) (Or.inr (Or.inr ⟨rfl, rfl⟩)), bg4 0 (by decide)]
          rfl
        · rw [actc _ _ (by omega) (by omega), r1, b2.1, b2.2]
        · rw [actc _ _ (by omega) (by omega), r2]
          exact b4.1 2 (by decide) (by decide)
        · rw [actc _ _ (by omega) (by omega), r3]
          exact b4.1 3 (by decide) (by decide)
        · rw [actc _ _ (by omega) (by omega), r4]
          exact b4.1 4 (by decide) (by decide)
        · rw [actc _ _ (by omega) (by omega), r5]
          exact b4.1 5 (by decide) (by decide)
        · rw [actc _ _ (by omega) (by omega), r6]
          exact b4.1 6 (by decide) (by decide)
        · rw [actc _ _ (by omega) (by omega), r7]
          exact b4.1 7 (by decide) (by decide)
        · rw [r7]
          exact b4.2
        · rw [actc _ _ (by omega) (by omega)]
          exact b3.1
        · rw [r8]
          exact b3.2
        · obtain ⟨p, s1, w1, e1, c1, c2, c3, c4, c5, c6, c7, c8, c9⟩ := b5 j hj
          have es : ∀ m, m < s → St z.2 i m = Sf g m := fun m hm => by
            unfold St Sf
            rw [show ea_i z.2 358 (1220 * i + 2 * m) = ea_i g 361 (2 * m) from n_eq.mpr (z13 (2 * m) (by omega)), show ea_i z.2 358 (1220 * i + 2 * m + 1) = ea_i g 361 (2 * m + 1) from n_eq.mpr (z13 (2 * m + 1) (by omega))]
          refine ⟨p, s1, w1, e1, ?_, (z9 j hj).1.trans c2, (z9 j hj).2.trans c3, ?_, ChB.ofF (c8.cg (fun p _ => Cc p) (fun _ _ => rfl) (Nat.le_refl _)) fun m hm => es m (by omega), ?_⟩
          · rw [actc _ _ (by omega) (by omega)]
            exact c1
          · by_cases zj : j + 1 = q
            · rw [Nat.add_assoc, zj, z10, c4 zj]
            · rw [Nat.add_assoc, (z9 (j + 1) (by omega)).1]
              exact c5 (by omega)
          · rw [actc _ _ (by omega) (by omega)]
            rcases c9 with c9 | ⟨c9, p', c10, c11⟩
            · exact Or.inl c9
            · exact Or.inr ⟨c9, p', c10, ChB.ofF (c11.cg (fun p _ => Cc p) (fun _ _ => rfl) (Nat.le_refl _)) fun m hm => es m (by omega)⟩
      · have old := a6 i (by omega)
        refine old.cg (fun a j c1 c2 => ?_) (fun a c1 c2 => ?_) (fun j hj => ?_) (fun j hj => ?_) (fun m hm => ?_) (fun p hp => ?_) hu.1 (by omega)
        · rw [actc a j (by omega) (by omega), fl.2.2.2 a j (by omega) (by omega) (by omega), act4 a j (by omega) (by omega)]
          exact oth2 a j (by omega)
        · rw [z8 a c1 c2 i zi]
          exact glo a c1 (by omega) i
        · rw [z11 _ (by omega)]
          exact glo 356 (by decide) (by decide) _
        · rw [z12 _ (by omega)]
          exact glo 357 (by decide) (by decide) _
        · unfold St
          rw [show ea_i z.2 358 (1220 * i + 2 * m) = ea_i hB 358 (1220 * i + 2 * m) from n_eq.mpr ((z14 _ (by omega)).trans (glo 358 (by decide) (by decide) _)), show ea_i z.2 358 (1220 * i + 2 * m + 1) = ea_i hB 358 (1220 * i + 2 * m + 1) from n_eq.mpr ((z14 _ (by omega)).trans (glo 358 (by decide) (by decide) _))]
        · rw [Cc, fl.2.2.1 p hp, C4]
    · by_cases zi : i = k
      · rw [zi, r0]
        exact d0
      · rw [z8 347 (by decide) (by decide) i zi, glo 347 (by decide) (by decide) i]
        exact dy i
    · rw [a2] at ha
      rw [z8 354 (by decide) (by decide) a (by omega)]
      exact glo 354 (by decide) (by decide) a
    · rw [a2, z6]
      omega
  · refine sat_pos ry (sat_ret (Hw _ ⟨z, ez, ?_⟩))
    have Gc : fq [] [((24, 24), 9, 9)] kA y.2 := by
      rw [ey']
      exact fq_wf rfl
    have FA : FqA h y.2 := (FA4.tr (fl.1.up rfl rfl)).tr (Gc.up rfl rfl)
    have FB : FqB hB z.2 := (FBw.tr (fl.2.1.up rfl rfl)).tr (z2.up rfl rfl)
    have zlo : ∀ a, 347 ≤ a → a ≤ 358 → ∀ j, hI z.2 a j = hI hB a j := fun a c1 c2 j => ((z2.kq rfl : keq [(347, 358)] [] _ _).W a (inB_at (r := (347, 358)) List.mem_cons_self c1 c2) j).trans (((fl.2.1.kq rfl : keq [(347, 358)] [] _ _).W a (inB_at (r := (347, 358)) List.mem_cons_self c1 c2) j).trans ((FBr.kq rfl : keq [(347, 358)] [] _ _).W a (inB_at (r := (347, 358)) List.mem_cons_self c1 c2) j))
    refine ⟨z1.symm, FA, FB, ⟨?_, z3⟩, ?_, ?_, ⟨k, u0, ?_, ?_, a3, ?_, a5, fun i hi => ?_⟩, fun i => ?_, fun a _ => zlo 354 (by decide) (by decide) a, ?_⟩
    · show hI y.2 24 0 = 0
      rw [Gc.I 24 rfl 0 rfl, fl.1.I 24 rfl 0 rfl]
      exact e40
    · show hI y.2 24 1 = _
      rw [Gc.I 24 rfl 1 rfl, z4]
      exact px2
    · show hI y.2 24 2 = _
      rw [Gc.I 24 rfl 2 rfl, z5]
      exact px3
    · show hI y.2 23 1 = k
      rw [Gc.I 23 rfl 1 rfl, fl.1.I 23 rfl 1 rfl, f4.I 23 rfl 1 rfl, f2.I 23 rfl 1 rfl]
      exact a1
    · rw [z2.I 326 rfl 25 rfl, fl.2.1.I 326 rfl 25 rfl, fw.I 326 rfl 25 rfl]
      exact w25
    · show hI y.2 24 9 = u0
      rw [ey', hI_at]
      exact h9
    · refine (a6 i hi).cg (fun a j c1 c2 => ?_) (fun a c1 c2 => zlo a c1 (by omega) i) (fun j hj => zlo 356 (by decide) (by decide) _) (fun j hj => zlo 357 (by decide) (by decide) _) (fun m hm => St_eq (fun j => zlo 358 (by decide) (by decide) j) m) (fun p hp => ?_) (Nat.le_refl _) (a6 i hi).2.1
      · show hI y.2 a j = _
        rw [(Gc.kq rfl : keq [(31, 48)] [] _ _).W a (inB_at (r := (31, 48)) List.mem_cons_self (by show 31 ≤ a; omega) (by show a ≤ 48; omega)) j, fl.2.2.2 a j (by omega) (by omega) (by omega), act4 a j (by omega) (by omega)]
        exact oth2 a j (by omega)
      · show cd y.2 p = _
        rw [cd_fq Gc rfl p, fl.2.2.1 p hp, C4]
    · rw [zlo 347 (by decide) (by decide) i]
      exact dy i
    · rw [z2.I 326 rfl 25 rfl, fl.2.1.I 326 rfl 25 rfl, fw.I 326 rfl 25 rfl, F2.I 326 rfl 25 rfl]
      exact Int.le_refl _
end PA2
