/-! the text read by both: a token ahead, codes and steps -/
theorem sat_sw {α β : Type} {A : Option α} {B : Option β} {Q : α → β → Prop} (H : sat B fun z => sat A fun y => Q y z) : sat A fun y => sat B fun z => Q y z := by
  obtain ⟨z, e, y, e2, q⟩ := H
  exact ⟨y, e2, z, e, q⟩
theorem sat_2 {α β γ δ : Type} {A : Option α} {k : α → Option γ} {B : Option β} {m : β → Option δ} {R : α → β → Prop} {Q : γ → δ → Prop} (H : sat A fun y => sat B fun z => R y z) (K : ∀ y z, R y z → sat (k y) fun y' => sat (m z) fun z' => Q y' z') : sat (Option.bind A k) fun y' => sat (Option.bind B m) fun z' => Q y' z' := by
  obtain ⟨y, e, z, e2, r⟩ := H
  rw [e, e2]
  exact K y z r
def paVk (k : Nat) : Prop := k ≤ 20 ∨ k ∈ [40, 41, 42, 43, 45, 47, 59, 60, 61, 62]
def paOk (k : Nat) : Bool := decide (k ≤ 20) || decide (k ∈ [40, 41, 42, 43, 45, 47, 59, 60, 61, 62])
theorem paOk_of {k : Nat} (h : k ≤ 20 ∨ k ∈ [40, 41, 42, 43, 45, 47, 59, 60, 61, 62]) : paOk k = true := by
  unfold paOk
  rw [Bool.or_eq_true, decide_eq_true_eq, decide_eq_true_eq]
  exact h
theorem pa_inj0 : ∀ k, k < 64 → paOk k = true → ∀ j, j < 64 → paOk j = true → (paX k = paX j ↔ k = j) := by decide +kernel
theorem pa_rng0 : ∀ k, k < 64 → paOk k = true → (201 ≤ paX k ↔ 6 ≤ k ∧ k ≤ 12) ∧ (6 ≤ k → k ≤ 12 → paX k = 195 + k) ∧ (3 ≤ paX k ∧ paX k ≤ 8 ↔ k ≤ 5) ∧ (k ≤ 5 → paX k = k + 3) ∧ paX k ≤ 207 := by decide +kernel
theorem pa_inj (k : Nat) (hk : k < 64) (h : k ≤ 20 ∨ k ∈ [40, 41, 42, 43, 45, 47, 59, 60, 61, 62]) (j : Nat) (hj : j < 64) (h2 : j ≤ 20 ∨ j ∈ [40, 41, 42, 43, 45, 47, 59, 60, 61, 62]) : paX k = paX j ↔ k = j := pa_inj0 k hk (paOk_of h) j hj (paOk_of h2)
theorem pa_rng (k : Nat) (hk : k < 64) (h : k ≤ 20 ∨ k ∈ [40, 41, 42, 43, 45, 47, 59, 60, 61, 62]) : (201 ≤ paX k ↔ 6 ≤ k ∧ k ≤ 12) ∧ (6 ≤ k → k ≤ 12 → paX k = 195 + k) ∧ (3 ≤ paX k ∧ paX k ≤ 8 ↔ k ≤ 5) ∧ (k ≤ 5 → paX k = k + 3) ∧ paX k ≤ 207 := pa_rng0 k hk (paOk_of h)
/-- a step told, not yet copied -/
def Sf (h : ea_H) (i : Nat) : Int32 × Int32 := (ea_i h 361 (2 * i), ea_i h 361 (2 * i + 1))
/-- the class has come to the e-th token, with u codes -/
def PrC (h : ea_H) (b : Nat → Int) (n c e u : Nat) : Prop := n ≤ 600 ∧ TkC h b n c ∧ e ≤ c ∧ hI h 24 6 = e ∧ hI h 24 7 = paK b n (paS b n e) ∧ (hI h 24 1 = 0 ∧ hI h 24 2 = -1) ∧ hI h 24 9 = u
/-- the reference has come to the e-th token, with s steps, o open -/
def PrM (h : ea_H) (b : Nat → Int) (n e s o : Nat) : Prop := TpM h b n ∧ hI h 326 53 = paP b n (e + 1) ∧ hI h 326 54 = paX (paK b n (paS b n e)) ∧ hI h 326 55 = paS b n e ∧ (paK b n (paS b n e) = 18 → hI h 326 56 = paV b n (paS b n e)) ∧ hI h 326 60 = o ∧ hI h 326 45 = s ∧ hI h 326 57 = 0
section PR
variable {b : Nat → Int} {n c e u s o : Nat} {h h' : ea_H} {A : List (Nat × Nat)} {B : List ((Nat × Nat) × Nat × Nat)}
theorem PrC.kq (f : keq [(26, 26)] [((24, 24), 1, 2), ((24, 24), 5, 7), ((24, 24), 9, 9)] h h') (p : PrC h b n c e u) : PrC h' b n c e u := by
  obtain ⟨p0, ⟨t1, t2, t3, t4, t5⟩, p2, p3, p4, p5, p6⟩ := p
  exact ⟨p0, ⟨(f.V 24 5 rfl).trans t1, t2, t3, t4, fun j hj => (f.W 26 rfl j).trans (t5 j hj)⟩, p2, (f.V 24 6 rfl).trans p3, (f.V 24 7 rfl).trans p4, ⟨(f.V 24 1 rfl).trans p5.1, (f.V 24 2 rfl).trans p5.2⟩, (f.V 24 9 rfl).trans p6⟩
theorem PrM.kq (f : keq [(362, 362)] [((326, 326), 45, 45), ((326, 326), 52, 57), ((326, 326), 60, 60)] h h') (p : PrM h b n e s o) : PrM h' b n e s o := by
  obtain ⟨⟨t1, t2, t3⟩, p1, p2, p3, p4, p5, p6, p7⟩ := p
  exact ⟨⟨(f.V 326 52 rfl).trans t1, t2, fun k hk => ⟨(f.W 362 rfl k).trans (t3 k hk).1, (t3 k hk).2⟩⟩, (f.V 326 53 rfl).trans p1, (f.V 326 54 rfl).trans p2, (f.V 326 55 rfl).trans p3, fun z => (f.V 326 56 rfl).trans (p4 z), (f.V 326 60 rfl).trans p5, (f.V 326 45 rfl).trans p6, (f.V 326 57 rfl).trans p7⟩
theorem PrC.t (p : PrC h b n c e u) {t : Int32} {j : Nat} (ht : t.toInt = j) : ea_i h 24 7 = t ↔ paK b n (paS b n e) = j := by
  have v : (ea_i h 24 7).toInt = paK b n (paS b n e) := p.2.2.2.2.1
  rw [n_eq, v, ht]
  omega
theorem PrC.yes (p : PrC h b n c e u) {t : Int32} {j : Nat} (ht : t.toInt = j) (k : paK b n (paS b n e) = j) : ea_i h 24 7 = t := (p.t ht).mpr k
theorem PrC.no (p : PrC h b n c e u) {t : Int32} {j : Nat} (ht : t.toInt = j) (k : ¬ paK b n (paS b n e) = j) : ¬ ea_i h 24 7 = t := fun z => k ((p.t ht).mp z)
theorem PrM.t (p : PrM h b n e s o) {t : Int32} {j : Nat} (ht : t.toInt = paX j) (hj : j < 64) (hv : j ≤ 20 ∨ j ∈ [40, 41, 42, 43, 45, 47, 59, 60, 61, 62]) : ea_i h 326 54 = t ↔ paK b n (paS b n e) = j := by
  have v : (ea_i h 326 54).toInt = paX (paK b n (paS b n e)) := p.2.2.1
  rw [n_eq, v, ht, Int.ofNat_inj, pa_inj _ (paK_lt b n _) (paK_b b n _).1 j hj hv]
theorem PrM.yes (p : PrM h b n e s o) {t : Int32} {j : Nat} (ht : t.toInt = paX j) (hj : j < 64) (hv : j ≤ 20 ∨ j ∈ [40, 41, 42, 43, 45, 47, 59, 60, 61, 62]) (k : paK b n (paS b n e) = j) : ea_i h 326 54 = t := (p.t ht hj hv).mpr k
theorem PrM.no (p : PrM h b n e s o) {t : Int32} {j : Nat} (ht : t.toInt = paX j) (hj : j < 64) (hv : j ≤ 20 ∨ j ∈ [40, 41, 42, 43, 45, 47, 59, 60, 61, 62]) (k : ¬ paK b n (paS b n e) = j) : ¬ ea_i h 326 54 = t := fun z => k ((p.t ht hj hv).mp z)
theorem PrC.lt (p : PrC h b n c e u) (k : paK b n (paS b n e) ≠ 19) : e < c := by
  obtain ⟨-, ⟨-, -, t3, -, -⟩, p2, -⟩ := p
  rcases Nat.lt_or_ge e c with z | z
  · exact z
  · rw [show e = c by omega] at k
    exact absurd t3 k
theorem paT_b (hn : n ≤ 600) (b : Nat → Int) (j : Nat) : paT b n j / 131072 = (paV b n (paS b n j)).toNat ∧ paT b n j / 128 % 1024 = paS b n j ∧ paT b n j % 128 = paK b n (paS b n j) ∧ paT b n j < 1310720000 := by
  have h1 := paV_b (b := b) (paP_le b n j).2.1
  have h2 := (paP_le b n j).2.1
  have h3 := paK_lt b n (paS b n j)
  unfold paT
  omega
theorem c_step (p : PrC h b n c e u) (k : paK b n (paS b n e) ≠ 19) : sat (qX6_step h) fun y => fq [] [((24, 24), 6, 7)] h y.2 ∧ PrC y.2 b n c (e + 1) u := by
  have hlt := p.lt k
  obtain ⟨p0, ⟨t1, t2, t3, t4, t5⟩, p2, p3, p4, p5, p6⟩ := id p
  have v5 : (ea_i h 24 5).toInt = ((c + 1 : Nat) : Int) := t1
  have v6 : (ea_i h 24 6).toInt = e := p3
  have v5' : (ea_i h 24 5 - (1 : Int32)).toInt = c := by
    rw [n_pred (by omega), v5]
    omega
  unfold qX6_step
  refine uqX6_step_0 ?_
  unfold BX6_step_0
  refine sat_neg (by rw [n_le, v5', v6]; omega) (sat_let fun H1 q1 => ?_)
  have w6 : hI H1 24 6 = ((e + 1 : Nat) : Int) := by rw [q1, hI_at, n_inc v6 (by omega)]
  have w6' : (ea_i H1 24 6).toInt = ((e + 1 : Nat) : Int) := w6
  have ic : (ea_i H1 24 6).toNatClampNeg = e + 1 := by
    rw [n_idx, w6']
    rfl
  refine uqX6_step_23 ?_
  unfold BX6_step_23
  rw [ic]
  refine sat_gd (vp80 w6 (by omega)) (sat_let fun H4 q4 => sat_ret ?_)
  have F : fq [] [((24, 24), 6, 7)] h H4 := (q1 ▸ fq_wf rfl : fq [] [((24, 24), 6, 7)] h H1).tr (q4 ▸ fq_wf rfl)
  have vt : (ea_i H1 26 (e + 1)).toInt = paT b n (e + 1) := by
    show hI H1 26 (e + 1) = _
    rw [q1, hI_ne (by decide)]
    exact t5 (e + 1) (by omega)
  obtain ⟨-, -, b3, -⟩ := paT_b p0 b (e + 1)
  refine ⟨F, p0, ⟨(F.I 24 rfl 5 rfl).trans t1, t2, t3, t4, fun j hj => (F.C 26 rfl rfl j).trans (t5 j hj)⟩, by omega, ?_, ?_, ⟨(F.I 24 rfl 1 rfl).trans p5.1, (F.I 24 rfl 2 rfl).trans p5.2⟩, (F.I 24 rfl 9 rfl).trans p6⟩
  · show hI H4 24 6 = _
    rw [q4, hI_nk (by decide), w6]
  · show hI H4 24 7 = _
    rw [q4, hI_at, s_and_127 (by omega), vt]
    omega
theorem m_next (p : PrM h b n e s o) : sat (qX12_next0 h) fun y => fq [] [((326, 326), 53, 56)] h y.2 ∧ PrM y.2 b n (e + 1) s o := by
  obtain ⟨t, p1, p2, p3, p4, p5, p6, p7⟩ := id p
  refine sat_mono (m_next0 t (paP_le b n (e + 1)).1 p1) fun y hy => ?_
  obtain ⟨F, y1, y2, y3, y4⟩ := hy
  exact ⟨F, t.fq F, y1, y2, y3, y4, (F.I 326 rfl 60 rfl).trans p5, (F.I 326 rfl 45 rfl).trans p6, (F.I 326 rfl 57 rfl).trans p7⟩
theorem c_refuse (p : PrC h b n c e u) (x1 : Int32) : sat (qX6_refuse x1 h) fun y => y.1 = 0 ∧ fq [] [((24, 24), 1, 2)] h y.2 ∧ hI y.2 24 1 = x1.toInt ∧ hI y.2 24 2 = paS b n e := by
  obtain ⟨p0, ⟨t1, t2, t3, t4, t5⟩, p2, p3, p4, p5, p6⟩ := p
  unfold qX6_refuse BX6_refuse_0
  refine sat_let fun H1 q1 => ?_
  have w6 : (ea_i H1 24 6).toInt = e := by
    show hI H1 24 6 = _
    rw [q1, hI_nk (by decide), p3]
  have ic : (ea_i H1 24 6).toNatClampNeg = e := by
    rw [n_idx, w6]
    rfl
  rw [ic]
  refine sat_gd (vp80 w6 (by omega)) (sat_let fun H3 q3 => sat_ret ⟨rfl, (q1 ▸ fq_wf rfl : fq [] [((24, 24), 1, 2)] h H1).tr (q3 ▸ fq_wf rfl), ?_, ?_⟩)
  · show hI H3 24 1 = _
    rw [q3, hI_nk (by decide), q1, hI_at]
  · have vt : (ea_i H1 26 e).toInt = paT b n e := by
      show hI H1 26 e = _
      rw [q1, hI_ne (by decide)]
      exact t5 e p2
    obtain ⟨-, b2, -, -⟩ := paT_b p0 b e
    show hI H3 24 2 = _
    rw [q3, hI_at, s_and_1023 (by rw [s_shr_7, vt]; omega), s_shr_7, vt]
    omega
theorem m_bad (p : PrM h b n e s o) (x1 : Int32) : sat (qX12_bad x1 h) fun y => y.1 = 0 ∧ fq [] [((326, 326), 57, 58)] h y.2 ∧ hI y.2 326 57 = x1.toInt ∧ hI y.2 326 58 = paS b n e := by
  unfold qX12_bad BX12_bad_0
  refine sat_let fun H1 q1 => sat_let fun H2 q2 => sat_ret ⟨rfl, (q1 ▸ fq_wf rfl : fq [] [((326, 326), 57, 58)] h H1).tr (q2 ▸ fq_wf rfl), ?_, ?_⟩
  · show hI H2 326 57 = _
    rw [q2, hI_nk (by decide), q1, hI_at]
  · show hI H2 326 58 = _
    rw [q2, hI_at]
    show hI H1 326 55 = _
    rw [q1, hI_nk (by decide)]
    exact p.2.2.2.1
theorem c_value (p : PrC h b n c e u) : ∃ v, qX6_value h = some (v, h) ∧ v.toInt = paV b n (paS b n e) := by
  obtain ⟨p0, ⟨t1, t2, t3, t4, t5⟩, p2, p3, p4, p5, p6⟩ := p
  have w6 : (ea_i h 24 6).toInt = e := p3
  have ic : (ea_i h 24 6).toNatClampNeg = e := by
    rw [n_idx, w6]
    rfl
  have vt : (ea_i h 26 e).toInt = paT b n e := t5 e p2
  obtain ⟨b1, -, -, -⟩ := paT_b p0 b e
  have h1 := paV_b (b := b) (paP_le b n e).2.1
  refine ⟨ea_i h 26 e >>> ((17 : Int32) &&& 31), ?_, ?_⟩
  · unfold qX6_value BX6_value_0
    rw [ic, gd_pos (vp80 w6 (by omega))]
  · rw [s_shr_17, vt]
    omega
theorem c_putP (p : PrC h b n c e u) (hu : u < 3600) {x1 : Int32} (h1 : -32768 ≤ x1.toInt) (h2 : x1.toInt < 32768) : sat (qX6_put x1 h) fun y => fq [(27, 27)] [((24, 24), 9, 9)] h y.2 ∧ PrC y.2 b n c e (u + 1) ∧ cd y.2 u = x1 ∧ ∀ p, p ≠ u → cd y.2 p = cd h p := by
  obtain ⟨p0, ⟨t1, t2, t3, t4, t5⟩, p2, p3, p4, p5, p6⟩ := p
  refine sat_mono (c_put p6 hu h1 h2) fun y hy => ?_
  obtain ⟨F, y1, y2, y3⟩ := hy
  exact ⟨F, ⟨p0, ⟨(F.I 24 rfl 5 rfl).trans t1, t2, t3, t4, fun j hj => (F.C 26 rfl rfl j).trans (t5 j hj)⟩, p2, (F.I 24 rfl 6 rfl).trans p3, (F.I 24 rfl 7 rfl).trans p4, ⟨(F.I 24 rfl 1 rfl).trans p5.1, (F.I 24 rfl 2 rfl).trans p5.2⟩, y1⟩, y2, y3⟩
theorem m_lay (p : PrM h b n e s o) (hs : s < 610) (x1 x2 : Int32) : sat (qX12_lay x1 x2 h) fun y => fq [(361, 361)] [((326, 326), 45, 45)] h y.2 ∧ PrM y.2 b n e (s + 1) o ∧ Sf y.2 s = (x1, x2) ∧ ∀ i, i ≠ s → Sf y.2 i = Sf h i := by
  obtain ⟨⟨t1, t2, t3⟩, p1, p2, p3, p4, p5, p6, p7⟩ := p
  have d2 : ∀ H : ea_H, hI H 326 45 = s → ((2 : Int32) * ea_i H 326 45).toInt = ((2 * s : Nat) : Int) := fun H e => by
    have e : (ea_i H 326 45).toInt = s := e
    rw [n_mul, e, l_2, n_bm (by omega) (by omega)]
    omega
  have a0 := d2 h p6
  have i0 : ((2 : Int32) * ea_i h 326 45).toNatClampNeg = 2 * s := by
    rw [n_idx, a0]
    rfl
  unfold qX12_lay BX12_lay_0
  rw [i0]
  refine sat_gd (vp80 a0 (by omega)) (sat_let fun H2 q2 => ?_)
  have c2 : hI H2 326 45 = s := by rw [q2, hI_ne (by decide), p6]
  have a1 : ((2 : Int32) * ea_i H2 326 45 + (1 : Int32)).toInt = ((2 * s + 1 : Nat) : Int) := n_inc (d2 H2 c2) (by omega)
  have i1 : ((2 : Int32) * ea_i H2 326 45 + (1 : Int32)).toNatClampNeg = 2 * s + 1 := by
    rw [n_idx, a1]
    rfl
  rw [i1]
  refine sat_gd (vp80 a1 (by omega)) (sat_let fun H4 q4 => sat_let fun H5 q5 => sat_ret ?_)
  have c4 : hI H4 326 45 = s := by rw [q4, hI_ne (by decide), c2]
  have F : fq [(361, 361)] [((326, 326), 45, 45)] h H5 := ((q2 ▸ fq_wi rfl : fq [(361, 361)] [((326, 326), 45, 45)] h H2).tr (q4 ▸ fq_wi rfl : fq [(361, 361)] [((326, 326), 45, 45)] H2 H4)).tr (q5 ▸ fq_wf rfl)
  have r : ∀ k, ea_i H5 361 k = if k = 2 * s + 1 then x2 else if k = 2 * s then x1 else ea_i h 361 k := fun k => by
    rw [q5, i_ne (by decide), q4]
    by_cases z : k = 2 * s + 1
    · rw [if_pos z, z, i_eq]
    · rw [if_neg z, i_nk z, q2]
      by_cases z2 : k = 2 * s
      · rw [if_pos z2, z2, i_eq]
      · rw [if_neg z2, i_nk z2]
  refine ⟨F, ⟨⟨(F.I 326 rfl 52 rfl).trans t1, t2, fun k hk => ⟨(F.C 362 rfl rfl k).trans (t3 k hk).1, (t3 k hk).2⟩⟩, (F.I 326 rfl 53 rfl).trans p1, (F.I 326 rfl 54 rfl).trans p2, (F.I 326 rfl 55 rfl).trans p3, fun z => (F.I 326 rfl 56 rfl).trans (p4 z), (F.I 326 rfl 60 rfl).trans p5, ?_, (F.I 326 rfl 57 rfl).trans p7⟩, ?_, fun i hi => ?_⟩
  · show hI H5 326 45 = _
    rw [q5, hI_at, n_inc c4 (by omega)]
  · show (ea_i H5 361 (2 * s), ea_i H5 361 (2 * s + 1)) = _
    rw [r, r, if_neg (by omega), if_pos rfl, if_pos rfl]
  · show (ea_i H5 361 (2 * i), ea_i H5 361 (2 * i + 1)) = _
    rw [r, r, if_neg (by omega), if_neg (by omega), if_neg (by omega), if_neg (by omega)]
    rfl
theorem cd_same (f : fq A B h h') (w : inB A 27 = false) (p : Nat) : cd h' p = cd h p := cd_fq f w p
theorem Sf_same (f : fq A B h h') (w : inB A 361 = false) (w2 : outP B 361 = true) (i : Nat) : Sf h' i = Sf h i := by
  unfold Sf
  rw [i_row f w w2]
end PR
/-- what reading may change -/
def pFA (h h' : ea_H) : Prop := fq [(27, 27)] [((24, 24), 1, 2), ((24, 24), 6, 7), ((24, 24), 9, 9)] h h'
def pFB (h h' : ea_H) : Prop := fq [(361, 361)] [((326, 326), 45, 45), ((326, 326), 53, 58), ((326, 326), 60, 60)] h h'
/-- both at the e-th token, u codes, s steps, o open -/
def Pr (b : Nat → Int) (n c : Nat) (hA hB : ea_H) (e u s o : Nat) : Prop := PrC hA b n c e u ∧ PrM hB b n e s o ∧ u + c ≤ 3600 + e ∧ s ≤ e ∧ o ≤ 8
/-- both have refused, alike -/
def PrX (hA hB : ea_H) : Prop := hI hA 24 1 ≠ 0 ∧ hI hA 24 1 = hI hB 326 57 ∧ hI hA 24 2 = hI hB 326 58
/-- codes stay below u -/
def Ok9 (u : Nat) (gA hA : ea_H) : Prop := (∀ p, p < u → cd hA p = cd gA p) ∧ ∃ v : Nat, hI hA 24 9 = v ∧ u ≤ v
/-- read from the tokens e0 .. e - 1 of both: worth F -/
def PrA (b : Nat → Int) (n c o D e0 u0 s0 : Nat) (gA gB hA hB : ea_H) (e u s : Nat) (F : (Nat → Int32) → Int32) : Prop := pFA gA hA ∧ pFB gB hB ∧ e0 < e ∧ u0 ≤ u ∧ u + e0 ≤ u0 + e ∧ s0 < s ∧ s + e0 ≤ s0 + e ∧ Pr b n c hA hB e u s o ∧ (∀ p, p < u0 → cd hA p = cd gA p) ∧ (∀ i, i < s0 → Sf hB i = Sf gB i) ∧ FR F ∧ cB (cd hA) u0 u D F ∧ mB (Sf hB) s0 s F
def Pout (b : Nat → Int) (n c o D e0 u0 s0 : Nat) (gA gB : ea_H) (y z : Int32 × ea_H) : Prop := (y.1 = 0 ∧ z.1 = 0 ∧ pFA gA y.2 ∧ pFB gB z.2 ∧ PrX y.2 z.2 ∧ Ok9 u0 gA y.2) ∨ (y.1 = 1 ∧ z.1 = 1 ∧ ∃ e u s F, PrA b n c o D e0 u0 s0 gA gB y.2 z.2 e u s F)
section PW
variable {b : Nat → Int} {n c e e0 u u0 s s0 o D D2 : Nat} {gA gB hA hB h1A h1B h2A h2B : ea_H} {F G : (Nat → Int32) → Int32}
theorem Ok9.tr {u1 u2 : Nat} (hu : u1 ≤ u2) (C : ∀ p, p < u1 → cd hA p = cd gA p) (q : Ok9 u2 hA h1A) : Ok9 u1 gA h1A := by
  obtain ⟨q1, v, q2, q3⟩ := q
  exact ⟨fun p hp => (q1 p (by omega)).trans (C p hp), v, q2, by omega⟩
/-- what was refused within is refused -/
theorem Pout.fail {o' D' e1 u1 s1 u2 : Nat} {y z : Int32 × ea_H} (fA : pFA gA hA) (fB : pFB gB hB) (C : ∀ p, p < u1 → cd hA p = cd gA p) (hu : u1 ≤ u2) (q : y.1 = 0 ∧ z.1 = 0 ∧ pFA hA y.2 ∧ pFB hB z.2 ∧ PrX y.2 z.2 ∧ Ok9 u2 hA y.2) : Pout b n c o' D' e1 u1 s1 gA gB ((0 : Int32), y.2) ((0 : Int32), z.2) := Or.inl ⟨rfl, rfl, fA.tr q.2.2.1, fB.tr q.2.2.2.1, q.2.2.2.2.1, q.2.2.2.2.2.tr hu C⟩
/-- a next token for both -/
theorem p_nx {α β : Type} {k : Unit × ea_H → Option α} {m : Unit × ea_H → Option β} {Q : α → β → Prop} (p1 : PrC hA b n c e u) (p2 : PrM hB b n e s o) (kn : paK b n (paS b n e) ≠ 19) (K : ∀ y z : Unit × ea_H, fq [] [((24, 24), 6, 7)] hA y.2 → fq [] [((326, 326), 53, 56)] hB z.2 → PrC y.2 b n c (e + 1) u → PrM z.2 b n (e + 1) s o → sat (k y) fun y' => sat (m z) fun z' => Q y' z') : sat (Option.bind (qX6_step hA) k) fun y' => sat (Option.bind (qX12_next0 hB) m) fun z' => Q y' z' := by
  refine sat_2 (R := fun y z => (fq [] [((24, 24), 6, 7)] hA y.2 ∧ PrC y.2 b n c (e + 1) u) ∧ fq [] [((326, 326), 53, 56)] hB z.2 ∧ PrM z.2 b n (e + 1) s o) ?_ fun y z r => K y z r.1.1 r.2.1 r.1.2 r.2.2
  exact sat_mono (c_step p1 kn) fun y hy => sat_mono (m_next p2) fun z hz => ⟨hy, hz⟩
theorem p_next {α β : Type} {k : Unit × ea_H → Option α} {m : Unit × ea_H → Option β} {Q : α → β → Prop} (p : Pr b n c hA hB e u s o) (kn : paK b n (paS b n e) ≠ 19) (K : ∀ y z : Unit × ea_H, fq [] [((24, 24), 6, 7)] hA y.2 → fq [] [((326, 326), 53, 56)] hB z.2 → Pr b n c y.2 z.2 (e + 1) u s o → sat (k y) fun y' => sat (m z) fun z' => Q y' z') : sat (Option.bind (qX6_step hA) k) fun y' => sat (Option.bind (qX12_next0 hB) m) fun z' => Q y' z' := by
  obtain ⟨p1, p2, p3, p4, p5⟩ := p
  refine sat_2 (R := fun y z => (fq [] [((24, 24), 6, 7)] hA y.2 ∧ PrC y.2 b n c (e + 1) u) ∧ fq [] [((326, 326), 53, 56)] hB z.2 ∧ PrM z.2 b n (e + 1) s o) ?_ fun y z r => K y z r.1.1 r.2.1 ⟨r.1.2, r.2.2, by omega, by omega, p5⟩
  exact sat_mono (c_step p1 kn) fun y hy => sat_mono (m_next p2) fun z hz => ⟨hy, hz⟩
/-- two parts and what joins them -/
theorem PrA.bin (a : PrA b n c o D e0 u0 s0 gA gB hA hB e u s F) (f1 : fq [] [((24, 24), 6, 7)] hA h1A) (f2 : fq [] [((326, 326), 53, 56)] hB h1B) {e2 u2 s2 : Nat} (g : PrA b n c o D2 (e + 1) u s h1A h1B h2A h2B e2 u2 s2 G) {x x' : Int32} (hx1 : -19 ≤ x.toInt) (hx2 : x.toInt ≤ -10) (hx3 : x.toInt ≠ -17) (hy0 : 8 ≤ x'.toInt) (hy1 : x'.toInt ≠ 11) (hy2 : x'.toInt ≠ 15) (hj : ∀ a b : Int32, jn x a b = bt2 x' a b) (hD : D2 + 1 ≤ D) : sat (qX6_put x h2A) fun y => sat (qX12_lay x' 0 h2B) fun z => PrA b n c o D e0 u0 s0 gA gB y.2 z.2 e2 (u2 + 1) (s2 + 1) fun f => jn x (F f) (G f) := by
  obtain ⟨a1, a2, a3, a4, a5, a6, a7, a8, a9, a10, a11, a12, a13⟩ := a
  obtain ⟨g1, g2, g3, g4, g5, g6, g7, ⟨g8, g8b, g8c, g8d, g8e⟩, g9, g10, g11, g12, g13⟩ := g
  obtain ⟨-, -, a8c, a8d, -⟩ := a8
  have le2 := g8.2.2.1
  have ln := g8.2.1.2.1
  have n6 := g8.1
  refine sat_mono (c_putP g8 (by omega) (x1 := x) (by omega) (by omega)) fun y hy => ?_
  obtain ⟨y1, y2, y3, y4⟩ := hy
  refine sat_mono (m_lay g8b (by omega) x' 0) fun z hz => ?_
  obtain ⟨z1, z2, z3, z4⟩ := hz
  have cA : ∀ p, p < u → cd y.2 p = cd hA p := fun p hp => ((y4 p (by omega)).trans (g9 p hp)).trans (cd_fq f1 rfl p)
  have sB : ∀ i, i < s → Sf z.2 i = Sf hB i := fun i hi => ((z4 i (by omega)).trans (g10 i hi)).trans (Sf_same f2 rfl rfl i)
  refine ⟨(a1.tr (f1.up rfl rfl)).tr (g1.tr (y1.up rfl rfl)), (a2.tr (f2.up rfl rfl)).tr (g2.tr (z1.up rfl rfl)), by omega, by omega, by omega, by omega, by omega, ⟨y2, z2, by omega, by omega, g8e⟩, fun p hp => (cA p (by omega)).trans (a9 p hp), fun i hi => (sB i (by omega)).trans (a10 i hi), fun f g h => ?_, ?_, ?_⟩
  · show jn x (F f) (G f) = jn x (F g) (G g)
    rw [a11 f g h, g11 f g h]
  · have b1 : cB (cd y.2) u0 u D F := a12.cg fun j h1 h2 => cA j h2
    have b2 : cB (cd y.2) u u2 D2 G := g12.cg fun j h1 h2 => y4 j (by omega)
    have := cB_bin (C := cd y.2) (r := u2) (d1 := D) (d2 := D2) (d := D) (by omega) (by rw [y3]; exact hx1) (by rw [y3]; exact hx2) (by rw [y3]; exact hx3) (Nat.le_refl _) hD b1 b2
    rw [y3] at this
    exact this
  · have b1 : mB (Sf z.2) s0 s F := a13.cg fun j h1 h2 => sB j h2
    have b2 : mB (Sf z.2) s s2 G := g13.cg fun j h1 h2 => z4 j (by omega)
    have := mB_bin (S := Sf z.2) (l := s2) (by omega) (by rw [z3]; exact hy0) (by rw [z3]; exact hy1) (by rw [z3]; exact hy2) b1 b2
    rw [z3] at this
    refine this.ext fun f => ?_
    exact hj _ _
end PW
