/-! the lines read by both -/
def ChL (k q u s : Nat) (hA hB : ea_H) : Prop := ∀ i, i < q → ∃ p s1 w e1 : Nat, hI hA (32 + 3 * k) i = p ∧ hI hB 359 i = s1 ∧ hI hB 360 i = w ∧ (i + 1 = q → e1 = s) ∧ (i + 1 < q → hI hB 359 (i + 1) = e1) ∧ w ≤ s ∧ e1 ≤ s ∧ ChF hA hB u p s1 w false ∧ ((hI hA (33 + 3 * k) i = -1 ∧ w = e1) ∨ (w ≠ e1 ∧ ∃ p' : Nat, hI hA (33 + 3 * k) i = p' ∧ ChF hA hB u p' w e1 true))
def BdF (k : Nat) (hA hB : ea_H) (y z : Int32 × ea_H) : Prop := fq [(27, 27), (31, 48)] [((24, 24), 1, 2), ((24, 24), 6, 7), ((24, 24), 9, 9)] hA y.2 ∧ fq [(359, 361)] [((326, 326), 44, 51), ((326, 326), 53, 58), ((326, 326), 60, 61)] hB z.2 ∧ ∀ a j, 31 ≤ a → a ≤ 48 → (a < 31 + 3 * k ∨ 33 + 3 * k < a ∨ (a = 31 + 3 * k ∧ j = 0)) → hI y.2 a j = hI hA a j
def BdO (b : Nat → Int) (n c k L e u : Nat) (hA : ea_H) (y z : Int32 × ea_H) : Prop := (z.1 = 0 ∧ PrX y.2 z.2 ∧ ∀ p, p < u → cd y.2 p = cd hA p) ∨ (z.1 = 1 ∧ ∃ q' e' u' s' : Nat, e < e' ∧ u ≤ u' ∧ PrC y.2 b n c e' u' ∧ PrM z.2 b n e' s' 0 ∧ (u' + c ≤ 3600 + e' ∧ s' ≤ e' ∧ q' ≤ L + 1 ∧ u' + e ≤ u + e') ∧ (hI y.2 (31 + 3 * k) 1 = ((L + 1 : Nat) : Int) ∧ hI z.2 326 43 = L) ∧ (hI y.2 (31 + 3 * k) 8 = q' ∧ hI z.2 326 44 = q') ∧ RuE k y.2 z.2 ∧ ChL k q' u' s' y.2 z.2 ∧ ∀ p, p < u → cd y.2 p = cd hA p)
section BD
variable {b : Nat → Int} {n c e u s k q L : Nat} {h hA hB : ea_H}
theorem p_bodyC (hs : ShC hA) (hk : k < 6) (pc : PrC hA b n c e u) (kc : paK b n (paS b n e) ≠ 19) (pm : PrM hB b n (e + 1) s 0) (bd : u + c ≤ 3600 + e ∧ s ≤ e ∧ q ≤ L ∧ L < 24) (h1 : hI hA (31 + 3 * k) 1 = ((L + 1 : Nat) : Int)) (h43 : hI hB 326 43 = L) (h8 : hI hA (31 + 3 * k) 8 = q) (h44 : hI hB 326 44 = q) (ru : RuE k hA hB) (ch : ChL k q u s hA hB) : sat (qX6_readCharge (some (31 + 3 * k)) hA) fun y => sat (qX12_aCharge hB) fun z => BdF k hA hB y z ∧ BdO b n c k L e u hA y z := by
  refine sat_mono (p_charge hs hk pc kc pm bd.1 bd.2.1 (by omega) h8 h44) fun y hy => sat_mono hy fun z hz => ?_
  obtain ⟨f1, f2, X, o⟩ := hz
  refine ⟨⟨f1, f2.up rfl rfl, fun a j a1 a2 a3 => X a j a1 a2 (fun w => by omega) (fun w => by omega) fun w => by omega⟩, ?_⟩
  rcases o with ⟨z0, px, k9⟩ | ⟨z1, e', u', s', w, o1, o2, o3, o4, o5, o6, o7, o8, o9, o10, o11, o12, o13, o14, o15, o16, o17⟩
  · exact Or.inl ⟨z0, px, k9.1⟩
  have hw : w ≤ s' := by
    rcases o17 with ⟨-, o17⟩ | ⟨-, p', -, q', F, -, -, -, -, m, -⟩
    · omega
    · exact m.1
  refine Or.inr ⟨z1, q + 1, e', u', s', o1, by omega, o6, o7, by omega, ⟨?_, ?_⟩, ⟨o10, o11⟩, ⟨fun j j1 j2 => ?_, ?_⟩, fun i hi => ?_, o8⟩
  · rw [X (31 + 3 * k) 1 (by omega) (by omega) (fun _ => by decide) (fun w => by omega) (fun w => by omega)]
    exact h1
  · rw [f2.I 326 rfl 43 rfl]
    exact h43
  · rw [X (31 + 3 * k) j (by omega) (by omega) (fun _ => by omega) (fun w => by omega) (fun w => by omega), (f2.kq rfl : keq [] [((326, 326), 46, 51)] _ _).V 326 (44 + j) (inP_iff.mpr ⟨_, List.mem_cons_self, ⟨by show 326 ≤ 326; decide, by show 326 ≤ 326; decide⟩, by show 46 ≤ 44 + j; omega, by show 44 + j ≤ 51; omega⟩)]
    exact ru.1 j j1 j2
  · rw [f2.I 326 rfl 51 rfl]
    exact ru.2
  · by_cases z : i = q
    · rw [z]
      exact ⟨u, s, w, s', o13, o14, o15, fun _ => rfl, fun x => absurd x (by omega), hw, Nat.le_refl _, o16, o17⟩
    · obtain ⟨p, s1, w1, e1, c1, c2, c3, c4, c5, c6, c7, c8, c9⟩ := ch i (by omega)
      refine ⟨p, s1, w1, e1, ?_, ?_, ?_, fun x => absurd x (by omega), fun x => ?_, by omega, by omega, c8.cg o8 (fun i hi => o9 i (by omega)) (by omega), ?_⟩
      · rw [X (32 + 3 * k) i (by omega) (by omega) (fun w => by omega) (fun _ => z) (fun w => by omega)]
        exact c1
      · rw [(o12 i z).1]
        exact c2
      · rw [(o12 i z).2]
        exact c3
      · by_cases x2 : i + 1 = q
        · rw [x2, o14, c4 x2]
        · rw [(o12 (i + 1) x2).1]
          exact c5 (by omega)
      · rw [X (33 + 3 * k) i (by omega) (by omega) (fun w => by omega) (fun w => by omega) (fun _ => z)]
        rcases c9 with c9 | ⟨c9, p', c10, c11⟩
        · exact Or.inl c9
        · exact Or.inr ⟨c9, p', c10, c11.cg o8 (fun i hi => o9 i (by omega)) (by omega)⟩
theorem p_bodyR (hs : ShC hA) (hk : k < 6) (pc : PrC hA b n c e u) (k1 : 1 ≤ paK b n (paS b n e)) (k5 : paK b n (paS b n e) ≤ 5) (pm : PrM hB b n (e + 1) s 0) (bd : u + c ≤ 3600 + e ∧ s ≤ e ∧ q ≤ L ∧ L < 24) (h1 : hI hA (31 + 3 * k) 1 = ((L + 1 : Nat) : Int)) (h43 : hI hB 326 43 = L) (h8 : hI hA (31 + 3 * k) 8 = q) (h44 : hI hB 326 44 = q) (ru : RuE k hA hB) (ch : ChL k q u s hA hB) {x1 : Int32} (e1 : x1.toInt = ((paK b n (paS b n e) + 3 : Nat) : Int)) : sat (qX6_readRule (some (31 + 3 * k)) hA) fun y => sat (qX12_inner x1 hB) fun z => BdF k hA hB y z ∧ BdO b n c k L e u hA y z := by
  refine sat_mono (p_rule (s := s) hs hk pc k1 k5 pm e1) fun y hy => sat_mono hy fun z hz => ?_
  obtain ⟨⟨f1, f2, X⟩, o⟩ := hz
  have C : ∀ p, cd y.2 p = cd hA p := cd_fq f1 rfl
  have S : ∀ i, Sf z.2 i = Sf hB i := Sf_same f2 rfl rfl
  refine ⟨⟨f1.up rfl rfl, f2.up rfl rfl, fun a j a1 a2 a3 => X a j a1 a2 fun w => by omega⟩, ?_⟩
  rcases o with ⟨z0, px⟩ | ⟨z1, e', o1, o2, o3, o4⟩
  · exact Or.inl ⟨z0, px, fun p _ => C p⟩
  refine Or.inr ⟨z1, q, e', u, s, o1, Nat.le_refl _, o2, o3, by omega, ⟨?_, ?_⟩, ⟨?_, ?_⟩, o4 ru, fun i hi => ?_, fun p _ => C p⟩
  · rw [X (31 + 3 * k) 1 (by omega) (by omega) (fun _ => by decide)]
    exact h1
  · rw [f2.I 326 rfl 43 rfl]
    exact h43
  · rw [X (31 + 3 * k) 8 (by omega) (by omega) (fun _ => by decide)]
    exact h8
  · rw [f2.I 326 rfl 44 rfl]
    exact h44
  · obtain ⟨p, s1, w1, e1, c1, c2, c3, c4, c5, c6, c7, c8, c9⟩ := ch i hi
    refine ⟨p, s1, w1, e1, ?_, ?_, ?_, c4, fun x => ?_, c6, c7, c8.cg (fun p _ => C p) (fun i _ => S i) (Nat.le_refl _), ?_⟩
    · rw [X (32 + 3 * k) i (by omega) (by omega) (fun w => by omega)]
      exact c1
    · rw [f2.C 359 rfl rfl i]
      exact c2
    · rw [f2.C 360 rfl rfl i]
      exact c3
    · rw [f2.C 359 rfl rfl (i + 1)]
      exact c5 x
    · rw [X (33 + 3 * k) i (by omega) (by omega) (fun w => by omega)]
      rcases c9 with c9 | ⟨c9, p', c10, c11⟩
      · exact Or.inl c9
      · exact Or.inr ⟨c9, p', c10, c11.cg (fun p _ => C p) (fun i _ => S i) (Nat.le_refl _)⟩
/-- as PrM, whatever is open -/
def PrN (h : ea_H) (b : Nat → Int) (n e s : Nat) : Prop := PrM (ea_wi h 326 60 0) b n e s 0
theorem PrM.any {o : Nat} (p : PrM h b n e s o) : PrN h b n e s := by
  have F : fq [] [((326, 326), 60, 60)] h (ea_wi h 326 60 0) := fq_wf rfl
  obtain ⟨⟨t1, t2, t3⟩, m1, m2, m3, m4, m5, m6, m7⟩ := p
  refine ⟨⟨(F.I 326 rfl 52 rfl).trans t1, t2, fun k hk => ⟨(F.C 362 rfl rfl k).trans (t3 k hk).1, (t3 k hk).2⟩⟩, (F.I 326 rfl 53 rfl).trans m1, (F.I 326 rfl 54 rfl).trans m2, (F.I 326 rfl 55 rfl).trans m3, fun z => (F.I 326 rfl 56 rfl).trans (m4 z), ?_, (F.I 326 rfl 45 rfl).trans m6, (F.I 326 rfl 57 rfl).trans m7⟩
  rw [hI_at]
  rfl
theorem PrN.v (p : PrN h b n e s) : (ea_i h 326 54).toInt = paX (paK b n (paS b n e)) := by
  have := p.2.2.1
  rw [hI_nk (by decide)] at this
  exact this
theorem PrN.yes (p : PrN h b n e s) {t : Int32} {j : Nat} (ht : t.toInt = paX j) (hj : j < 64) (hv : j ≤ 20 ∨ j ∈ [40, 41, 42, 43, 45, 47, 59, 60, 61, 62]) (k : paK b n (paS b n e) = j) : ea_i h 326 54 = t := by
  have := PrM.yes p ht hj hv k
  rw [i_nk (by decide)] at this
  exact this
theorem PrN.no (p : PrN h b n e s) {t : Int32} {j : Nat} (ht : t.toInt = paX j) (hj : j < 64) (hv : j ≤ 20 ∨ j ∈ [40, 41, 42, 43, 45, 47, 59, 60, 61, 62]) (k : ¬ paK b n (paS b n e) = j) : ¬ ea_i h 326 54 = t := by
  have := PrM.no p ht hj hv k
  rw [i_nk (by decide)] at this
  exact this
theorem m_badN (p : PrN h b n e s) (x1 : Int32) : sat (qX12_bad x1 h) fun y => BadM b n e x1.toInt h y := by
  have e55 : hI h 326 55 = paS b n e := by
    have := p.2.2.2.1
    rw [hI_nk (by decide)] at this
    exact this
  unfold qX12_bad BX12_bad_0
  refine sat_let fun H1 q1 => sat_let fun H2 q2 => sat_ret ⟨rfl, (q1 ▸ fq_wf rfl : fq [] [((326, 326), 57, 58)] h H1).tr (q2 ▸ fq_wf rfl), ?_, ?_⟩
  · show hI H2 326 57 = _
    rw [q2, hI_nk (by decide), q1, hI_at]
  · show hI H2 326 58 = _
    rw [q2, hI_at]
    show hI H1 326 55 = _
    rw [q1, hI_nk (by decide)]
    exact e55
/-- between two lines -/
def Ln (b : Nat → Int) (n c k L q e u s : Nat) (hA hB : ea_H) : Prop := PrC hA b n c e u ∧ PrN hB b n e s ∧ (u + c ≤ 3600 + e ∧ s ≤ e ∧ q ≤ L ∧ L ≤ 24) ∧ (hI hA (31 + 3 * k) 1 = L ∧ hI hB 326 43 = L) ∧ (hI hA (31 + 3 * k) 8 = q ∧ hI hB 326 44 = q) ∧ RuE k hA hB ∧ ChL k q u s hA hB
def FLn (k u0 : Nat) (gA gB hA hB : ea_H) : Prop := fq [(27, 27), (31, 48)] [((24, 24), 1, 2), ((24, 24), 6, 7), ((24, 24), 9, 9)] gA hA ∧ fq [(359, 361)] [((326, 326), 43, 51), ((326, 326), 53, 58), ((326, 326), 60, 61)] gB hB ∧ (∀ p, p < u0 → cd hA p = cd gA p) ∧ ∀ a j, 31 ≤ a → a ≤ 48 → (a < 31 + 3 * k ∨ 33 + 3 * k < a ∨ (a = 31 + 3 * k ∧ j = 0)) → hI hA a j = hI gA a j
theorem FLn.tr {u0 : Nat} {gA gB hA hB kA kB : ea_H} (x : FLn k u0 gA gB hA hB) (y : FLn k u0 hA hB kA kB) : FLn k u0 gA gB kA kB := ⟨x.1.tr y.1, x.2.1.tr y.2.1, fun p hp => (y.2.2.1 p hp).trans (x.2.2.1 p hp), fun a j a1 a2 a3 => (y.2.2.2 a j a1 a2 a3).trans (x.2.2.2 a j a1 a2 a3)⟩
theorem c_quit {r1 : Option Nat} {x2 x4 : Int32} (h : ea_H) : sat (qX6_read_36 r1 x2 0 x4 h) fun y => y = ((0 : Int32), ea_wi h 24 9 x2) := by
  have e : sat (qX6_read_162 x2 0 h) fun y => y = ((0 : Int32), ea_wi h 24 9 x2) := by
    refine uqX6_read_162 ?_
    unfold BX6_read_162
    exact sat_pos rfl (sat_let fun H q => sat_gd (Or.inl rfl) (sat_ret (by rw [q])))
  refine uqX6_read_36 ?_
  unfold BX6_read_36
  exact sat_ite (fun _ => e) fun _ => sat_pos rfl e
theorem c_fail {r1 : Option Nat} {x2 x4 : Int32} (h1 : hI h 24 1 ≠ 0) : sat (qX6_read_134 r1 x2 x4 h) fun y => y = ((0 : Int32), ea_wi h 24 9 x2) := by
  refine uqX6_read_134 ?_
  unfold BX6_read_134
  refine sat_neg (fun z => h1 ?_) (c_quit h)
  show (ea_i h 24 1).toInt = 0
  rw [z]
  rfl
theorem p_lines {u0 : Nat} {gA gB : ea_H} (hs : ShC gA) (hk : k < 6) {x2 d : Int32} {Q : Int32 × ea_H → Int32 × ea_H → Prop}
    (H1 : ∀ (L q e u s : Nat) (hA hB : ea_H), FLn k u0 gA gB hA hB → u0 ≤ u ∧ u ≤ u0 + e → Ln b n c k L q e u s hA hB → sat (qX12_act_137 d 1 hB) (Q ((1 : Int32), hA)))
    (H0 : ∀ hA hB : ea_H, FLn k u0 gA gB hA hB → PrX hA hB → sat (qX12_act_137 d 0 hB) (Q ((0 : Int32), ea_wi hA 24 9 x2))) :
    ∀ (m L q e u s t : Nat) (x4 : Int32) (hA hB : ea_H), c < e + m → x4.toInt = t → t ≤ e → FLn k u0 gA gB hA hB → u0 ≤ u ∧ u ≤ u0 + e → Ln b n c k L q e u s hA hB → sat (qX6_read_36 (some (31 + 3 * k)) x2 1 x4 hA) fun y => sat (qX12_act_118 d 1 hB) (Q y) := by
  intro m
  induction m with
  | zero =>
    intro L q e u s t x4 hA hB hm e4 ht fl hu ln
    have := ln.1.2.2.1
    omega
  | succ m ih =>
    intro L q e u s t x4 hA hB hm e4 ht fl hu ln
    obtain ⟨pc, pm, bd, ⟨h1, h43⟩, ⟨h8, h44⟩, ru, ch⟩ := id ln
    have n6 := pc.1
    have cn := pc.2.1.2.1
    have ec := pc.2.2.1
    have x4n : ¬ (600 : Int32) < x4 := by
      rw [n_lt, e4, l_600]
      omega
    have kv := (paK_b b n (paS b n e)).1
    have kl := paK_lt b n (paS b n e)
    have rg := pa_rng _ kl kv
    have vK : (ea_i hA 24 7).toInt = paK b n (paS b n e) := pc.2.2.2.2.1
    have vM : (ea_i hB 326 54).toInt = paX (paK b n (paS b n e)) := pm.v
    have hs' : ShC hA := ShC_core fl.1.1 hs
    obtain ⟨-, -, -, r4, -, -⟩ := act_ref hs' hk
    have x4s : (x4 + (1 : Int32)).toInt = ((t + 1 : Nat) : Int) := n_inc e4 (by omega)
    by_cases k19 : paK b n (paS b n e) = 19
    · refine uqX6_read_36 ?_
      unfold BX6_read_36
      refine sat_neg x4n (sat_neg i1_ne_0 (sat_pos (pc.yes (j := 19) rfl k19) (uqX6_read_162 ?_)))
      unfold BX6_read_162
      refine sat_neg i1_ne_0 (sat_gd (Or.inr rfl) (sat_ret ?_))
      refine uqX12_act_118 ?_
      unfold BX12_act_118
      exact sat_neg i1_ne_0 (sat_pos (pm.yes (j := 19) rfl (by decide) (by decide) k19) (H1 L q e u s hA hB fl hu ln))
    refine sat_sw (uqX12_act_118 ?_)
    unfold BX12_act_118
    refine sat_neg i1_ne_0 (sat_neg (pm.no (j := 19) rfl (by decide) (by decide) k19) (sat_sw ?_))
    -- a refusal
    have fin : ∀ y w : Int32 × ea_H, qX12_aLine hB = some w → w.1 = 0 → (∀ P : Int32 × ea_H → Prop, sat (qX6_read_134 (some (31 + 3 * k)) x2 x4 y.2) P → sat (qX6_read_36 (some (31 + 3 * k)) x2 1 x4 hA) P) → FLn k u0 gA gB y.2 w.2 → PrX y.2 w.2 → sat (qX6_read_36 (some (31 + 3 * k)) x2 1 x4 hA) fun y => sat (Option.bind (qX12_aLine hB) fun w24 => qX12_act_118 d w24.1 w24.2) (Q y) := by
      intro y w ew w0 toC fl' px
      refine toC _ (sat_mono (c_fail px.1) fun y' hy' => ?_)
      rw [hy']
      refine sat_call ew ?_
      rw [w0]
      refine uqX12_act_118 ?_
      unfold BX12_act_118
      exact sat_pos rfl (H0 y.2 w.2 fl' px)
    have flx : ∀ (y z : Int32 × ea_H) (x : Int), RefC b n e x hA y → BadM b n e x hB z → FLn k u0 gA gB y.2 z.2 := fun y z x r w => fl.tr ⟨r.2.1.up rfl rfl, w.2.1.up rfl rfl, fun p _ => cd_fq r.2.1 rfl p, fun a j a1 a2 _ => (r.2.1.kq rfl : keq [(31, 48)] [] _ _).W a (inB_at (r := (31, 48)) List.mem_cons_self a1 a2) j⟩
    obtain ⟨vi, qi, si⟩ := m_isIn (ea_i hB 326 54) 3 8 hB
    rw [vM, l_3, l_8] at si
    by_cases k5 : paK b n (paS b n e) ≤ 5
    · have ki : vi = 1 := by
        rcases si with ⟨-, si⟩ | ⟨si, -⟩
        · have := rg.2.2.1.mpr k5
          omega
        · exact si
      have v43 : (ea_i hB 326 43).toInt = L := h43
      have v1 : (ea_i hA (31 + 3 * k) 1).toInt = L := h1
      have c5 : ea_i hA 24 7 ≤ (5 : Int32) := by
        rw [n_le, vK, l_5]
        omega
      by_cases L24 : L = 24
      · obtain ⟨z, ez, hz⟩ := m_badN pm 3
        obtain ⟨y, ey, hy⟩ := c_refuse pc 3
        have c24 : ¬ ea_i hA (31 + 3 * k) 1 < (24 : Int32) := by
          rw [n_lt, v1, l_24]
          omega
        refine fin y z (sat_at ?_) hz.1 (fun P HP => uqX6_read_36 ?_) (flx y z 3 hy hz) (px_of hy hz (by decide))
        · unfold qX12_aLine BX12_aLine_0
          exact sat_call qi (sat_neg (by rw [ki]; exact i1_ne_0) (sat_pos (by rw [n_eq, v43, l_24]; omega) (sat_call ez (sat_gd (Or.inl hz.1) (sat_ret rfl)))))
        · unfold BX6_read_36
          exact sat_neg x4n (sat_neg i1_ne_0 (sat_neg (pc.no (j := 19) rfl k19) (sat_pos c5 (sat_gd rfl (sat_gd r4 (sat_neg c24 (sat_call ey HP)))))))
      have c24 : ea_i hA (31 + 3 * k) 1 < (24 : Int32) := by
        rw [n_lt, v1, l_24]
        omega
      -- a line's body
      obtain ⟨H3, q3⟩ : ∃ H3, H3 = ea_wi hB 326 60 0 := ⟨_, rfl⟩
      have F3 : fq [] [((326, 326), 60, 60)] hB H3 := q3 ▸ fq_wf rfl
      have pm3 : PrM H3 b n e s 0 := by
        rw [q3]
        exact pm
      obtain ⟨z4, ez4, g4, pm4⟩ := m_next pm3
      have F4 : fq [] [((326, 326), 53, 56), ((326, 326), 60, 60)] hB z4.2 := (F3.up rfl rfl).tr (g4.up rfl rfl)
      obtain ⟨HA, qA⟩ : ∃ HA, HA = ea_wi hA (31 + 3 * k) 1 (ea_i hA (31 + 3 * k) 1 + (1 : Int32)) := ⟨_, rfl⟩
      have GA : fq [(31, 48)] [] hA HA := qA ▸ fq_wi (act_rng hk (by omega) (by omega))
      have pA : PrC HA b n c e u := pc.kq (GA.kq rfl)
      have a1 : hI HA (31 + 3 * k) 1 = ((L + 1 : Nat) : Int) := by rw [qA, hI_at, n_inc v1 (by omega)]
      have aj : ∀ a j, (a = 31 + 3 * k → j ≠ 1) → hI HA a j = hI hA a j := fun a j w => by rw [qA, hI_wi, if_neg (fun z => w z.1 z.2)]
      have ruA : RuE k HA z4.2 := ⟨fun j j1 j2 => by
        rw [aj _ j (fun _ => by omega), (F4.kq rfl : keq [] [((326, 326), 46, 51)] _ _).V 326 (44 + j) (inP_iff.mpr ⟨_, List.mem_cons_self, ⟨by show 326 ≤ 326; decide, by show 326 ≤ 326; decide⟩, by show 46 ≤ 44 + j; omega, by show 44 + j ≤ 51; omega⟩)]
        exact ru.1 j j1 j2, by
        rw [F4.I 326 rfl 51 rfl]
        exact ru.2⟩
      have chA : ChL k q u s HA z4.2 := fun i hi => by
        obtain ⟨p, s1, w1, e1, c1, c2, c3, c4, c5, c6, c7, c8, c9⟩ := ch i hi
        have C : ∀ p, cd HA p = cd hA p := cd_fq GA rfl
        have S : ∀ i, Sf z4.2 i = Sf hB i := Sf_same F4 rfl rfl
        refine ⟨p, s1, w1, e1, (aj _ _ fun w => by omega).trans c1, (F4.C 359 rfl rfl i).trans c2, (F4.C 360 rfl rfl i).trans c3, c4, fun x => (F4.C 359 rfl rfl (i + 1)).trans (c5 x), c6, c7, c8.cg (fun p _ => C p) (fun i _ => S i) (Nat.le_refl _), ?_⟩
        rw [aj _ _ fun w => by omega]
        rcases c9 with c9 | ⟨c9, p', c10, c11⟩
        · exact Or.inl c9
        · exact Or.inr ⟨c9, p', c10, c11.cg (fun p _ => C p) (fun i _ => S i) (Nat.le_refl _)⟩
      have flA : FLn k u0 gA gB HA z4.2 := fl.tr ⟨GA.up rfl rfl, F4.up rfl rfl, fun p _ => cd_fq GA rfl p, fun a j a1 a2 a3 => aj a j fun w => by omega⟩
      have e43 : hI z4.2 326 43 = L := (F4.I 326 rfl 43 rfl).trans h43
      have e44 : hI z4.2 326 44 = q := (F4.I 326 rfl 44 rfl).trans h44
      have a8 : hI HA (31 + 3 * k) 8 = q := (aj _ _ fun _ => by decide).trans h8
      have ev2 : (ea_i hB 326 54).toInt = ((paK b n (paS b n e) + 3 : Nat) : Int) := by rw [vM, rg.2.2.2.1 k5]
      have hsA : ShC HA := ShC_core GA.1 hs'
      have bd' : u + c ≤ 3600 + e ∧ s ≤ e ∧ q ≤ L ∧ L < 24 := by omega
      -- behind the body
      have rest : ∀ y z : Int32 × ea_H, (∀ P : Int32 × ea_H → Prop, sat (qX6_read_134 (some (31 + 3 * k)) x2 x4 y.2) P → sat (qX6_read_36 (some (31 + 3 * k)) x2 1 x4 hA) P) → qX12_inner (ea_i hB 326 54) z4.2 = some z → BdF k HA z4.2 y z → BdO b n c k L e u HA y z → sat (qX6_read_36 (some (31 + 3 * k)) x2 1 x4 hA) fun y => sat (Option.bind (qX12_aLine hB) fun w24 => qX12_act_118 d w24.1 w24.2) (Q y) := by
        intro y z toC ez bf bo
        obtain ⟨f1, f2, f3⟩ := bf
        have toR : ∀ P : Int32 × ea_H → Prop, sat (if z.1 = (0 : Int32) then (some ((0 : Int32), z.2)) else (ea_let (ea_wi z.2 326 43 ((ea_i z.2 326 43) + (1 : Int32))) fun H6 => (Option.bind (qX12_need (59 : Int32) H6) fun w7 => (gd ((w7.1 = 0 ∨ w7.1 = 1)) (some (w7.1, w7.2)))))) P → sat (qX12_aLine hB) P := by
          intro P HP
          unfold qX12_aLine BX12_aLine_0
          refine sat_call qi (sat_neg (by rw [ki]; exact i1_ne_0) (sat_neg (by rw [n_eq, v43, l_24]; omega) (sat_sub (sat_let fun H3' q3' => ?_))))
          have q3' : H3' = H3 := by
            rw [q3]
            exact q3'
          rw [q3']
          exact sat_call ez4 (sat_call ez HP)
        rcases bo with ⟨z0, px, C⟩ | ⟨z1, q', e', u', s', o1, o2, o3, o4, o5, o6, o7, o8, o9, o10⟩
        · exact fin y ((0 : Int32), z.2) (sat_at (toR _ (sat_pos z0 (sat_ret rfl)))) rfl toC (flA.tr ⟨f1, f2.up rfl rfl, fun p hp => C p (by omega), f3⟩) px
        have fl' : FLn k u0 gA gB y.2 z.2 := flA.tr ⟨f1, f2.up rfl rfl, fun p hp => o10 p (by omega), f3⟩
        have le' := o3.2.2.1
        have w1 : (ea_i y.2 24 1).toInt = 0 := o3.2.2.2.2.2.1.1
        have z43 : (ea_i z.2 326 43).toInt = L := o6.2
        obtain ⟨H6, q6⟩ : ∃ H6, H6 = ea_wi z.2 326 43 ((ea_i z.2 326 43) + (1 : Int32)) := ⟨_, rfl⟩
        have G6 : fq [] [((326, 326), 43, 43)] z.2 H6 := q6 ▸ fq_wf rfl
        have p6 : PrM H6 b n e' s' 0 := o4.kq (G6.kq rfl)
        refine toC _ (uqX6_read_134 ?_)
        unfold BX6_read_134
        refine sat_pos (by rw [n_eq, w1]; rfl) ?_
        by_cases k59 : paK b n (paS b n e') = 59
        · obtain ⟨y7, ey7, f7, p7⟩ := c_step o3 (by omega)
          have sk : qX6_skip 59 y.2 = some ((1 : Int32), y7.2) := by
            unfold qX6_skip BX6_skip_0
            rw [if_pos (o3.yes (j := 59) rfl k59), ey7]
            rfl
          obtain ⟨z7, ez7, z71, z72, z73⟩ := m_need p6 (x1 := 59) (j := 59) rfl (by decide) (by decide) k59
          have aE : qX12_aLine hB = some ((1 : Int32), z7.2) := by
            refine sat_at (toR _ (sat_neg (by rw [z1]; exact i1_ne_0) (sat_let fun H6' q6' => ?_)))
            rw [q6', ← q6]
            exact sat_call ez7 (sat_gd (Or.inr z71) (sat_ret (by rw [z71])))
          refine sat_call sk (sat_neg i1_ne_0 ?_)
          refine sat_mono (ih (L + 1) q' (e' + 1) u' s' (t + 1) (x4 + 1) y7.2 z7.2 (by omega) x4s (by omega) (fl'.tr ⟨f7.up rfl rfl, (G6.up rfl rfl).tr (z72.up rfl rfl), fun p _ => cd_fq f7 rfl p, fun a j a1 a2 _ => (f7.kq rfl : keq [(31, 48)] [] _ _).W a (inB_at (r := (31, 48)) List.mem_cons_self a1 a2) j⟩) (by omega) ?_) fun y' hy' => sat_call aE hy'
          have Y7 : ∀ a j, 31 ≤ a → a ≤ 48 → hI y7.2 a j = hI y.2 a j := fun a j a1 a2 => (f7.kq rfl : keq [(31, 48)] [] _ _).W a (inB_at (r := (31, 48)) List.mem_cons_self a1 a2) j
          have G7 : fq [] [((326, 326), 43, 43), ((326, 326), 53, 56)] z.2 z7.2 := (G6.up rfl rfl).tr (z72.up rfl rfl)
          have C7 : ∀ p, cd y7.2 p = cd y.2 p := cd_fq f7 rfl
          have S7 : ∀ i, Sf z7.2 i = Sf z.2 i := Sf_same G7 rfl rfl
          refine ⟨p7, z73.any, by omega, ⟨(Y7 _ _ (by omega) (by omega)).trans o6.1, ?_⟩, ⟨(Y7 _ _ (by omega) (by omega)).trans o7.1, (G7.I 326 rfl 44 rfl).trans o7.2⟩, ⟨fun j j1 j2 => ?_, ?_⟩, fun i hi => ?_⟩
          · rw [z72.I 326 rfl 43 rfl, q6, hI_at, n_inc z43 (by omega)]
          · rw [Y7 _ _ (by omega) (by omega), (G7.kq rfl : keq [] [((326, 326), 46, 51)] _ _).V 326 (44 + j) (inP_iff.mpr ⟨_, List.mem_cons_self, ⟨by show 326 ≤ 326; decide, by show 326 ≤ 326; decide⟩, by show 46 ≤ 44 + j; omega, by show 44 + j ≤ 51; omega⟩)]
            exact o8.1 j j1 j2
          · rw [G7.I 326 rfl 51 rfl]
            exact o8.2
          · obtain ⟨p, s1, w1, e1, c1, c2, c3, c4, c5, c6, c7, c8, c9⟩ := o9 i hi
            refine ⟨p, s1, w1, e1, (Y7 _ _ (by omega) (by omega)).trans c1, (G7.C 359 rfl rfl i).trans c2, (G7.C 360 rfl rfl i).trans c3, c4, fun x => (G7.C 359 rfl rfl (i + 1)).trans (c5 x), c6, c7, c8.cg (fun p _ => C7 p) (fun i _ => S7 i) (Nat.le_refl _), ?_⟩
            rw [Y7 _ _ (by omega) (by omega)]
            rcases c9 with c9 | ⟨c9, p', c10, c11⟩
            · exact Or.inl c9
            · exact Or.inr ⟨c9, p', c10, c11.cg (fun p _ => C7 p) (fun i _ => S7 i) (Nat.le_refl _)⟩
        · obtain ⟨y7, ey7, hy7⟩ := c_refuse o3 1
          have sk : qX6_skip 59 y.2 = some (y7.1, y7.2) := by
            unfold qX6_skip BX6_skip_0
            rw [if_neg (o3.no (j := 59) rfl k59), ey7]
            exact gd_pos (Or.inl hy7.1)
          obtain ⟨z7, ez7, hz7⟩ := m_needn p6 (x1 := 59) (j := 59) rfl (by decide) (by decide) k59
          have aE : qX12_aLine hB = some z7 := by
            refine sat_at (toR _ (sat_neg (by rw [z1]; exact i1_ne_0) (sat_let fun H6' q6' => ?_)))
            rw [q6', ← q6]
            exact sat_call ez7 (sat_gd (Or.inl hz7.1) (sat_ret rfl))
          refine sat_call sk (sat_pos hy7.1 (sat_mono (c_quit y7.2) fun y' hy' => ?_))
          rw [hy']
          refine sat_call aE ?_
          rw [hz7.1]
          refine uqX12_act_118 ?_
          unfold BX12_act_118
          exact sat_pos rfl (H0 y7.2 z7.2 (fl'.tr ⟨hy7.2.1.up rfl rfl, (G6.up rfl rfl).tr (hz7.2.1.up rfl rfl), fun p _ => cd_fq hy7.2.1 rfl p, fun a j a1 a2 _ => (hy7.2.1.kq rfl : keq [(31, 48)] [] _ _).W a (inB_at (r := (31, 48)) List.mem_cons_self a1 a2) j⟩) (px_of hy7 hz7 (by decide)))
      -- the class's block
      by_cases k0 : paK b n (paS b n e) = 0
      · obtain ⟨y, ey, z, ez, bf, bo⟩ := p_bodyC hsA hk pA k19 pm4 bd' a1 e43 a8 e44 ruA chA
        refine rest y z (fun P HP => uqX6_read_36 ?_) (sat_at ?_) bf bo
        · unfold BX6_read_36
          refine sat_neg x4n (sat_neg i1_ne_0 (sat_neg (pc.no (j := 19) rfl k19) (sat_pos c5 (sat_gd rfl (sat_gd r4 (sat_pos c24 (sat_pos (pc.yes (j := 0) rfl k0) (sat_gd rfl (sat_gd r4 (sat_gd rfl (sat_gd r4 (sat_let fun H17 q17 => ?_))))))))))))
          have q17 : H17 = HA := by
            rw [qA]
            exact q17
          rw [q17]
          exact sat_call ey HP
        · unfold qX12_inner
          refine uqX12_inner_0 ?_
          unfold BX12_inner_0
          have zz : z.1 = 0 ∨ z.1 = 1 := by
            rcases bo with bo | bo
            · exact Or.inl bo.1
            · exact Or.inr bo.1
          exact sat_pos (by rw [n_eq, ev2, k0]; rfl) (sat_call ez (sat_gd zz (sat_ret rfl)))
      · obtain ⟨y, ey, z, ez, bf, bo⟩ := p_bodyR hsA hk pA (by omega) k5 pm4 bd' a1 e43 a8 e44 ruA chA ev2
        refine rest y z (fun P HP => uqX6_read_36 ?_) ez bf bo
        unfold BX6_read_36
        refine sat_neg x4n (sat_neg i1_ne_0 (sat_neg (pc.no (j := 19) rfl k19) (sat_pos c5 (sat_gd rfl (sat_gd r4 (sat_pos c24 (sat_neg (pc.no (j := 0) rfl k0) (sat_gd rfl (sat_gd r4 (sat_gd rfl (sat_gd r4 (sat_let fun H17 q17 => ?_))))))))))))
        have q17 : H17 = HA := by
          rw [qA]
          exact q17
        rw [q17]
        exact sat_call ey HP
    · have ki : vi = 0 := by
        rcases si with ⟨si, -⟩ | ⟨-, si⟩
        · exact si
        · have := rg.2.2.1.mp (by omega)
          omega
      obtain ⟨z, ez, hz⟩ := m_badN pm 1
      obtain ⟨y, ey, hy⟩ := c_refuse pc 1
      refine fin y z (sat_at ?_) hz.1 (fun P HP => uqX6_read_36 ?_) (flx y z 1 hy hz) (px_of hy hz (by decide))
      · unfold qX12_aLine BX12_aLine_0
        exact sat_call qi (sat_pos ki (sat_call ez (sat_gd (Or.inl hz.1) (sat_ret rfl))))
      · unfold BX6_read_36
        exact sat_neg x4n (sat_neg i1_ne_0 (sat_neg (pc.no (j := 19) rfl k19) (sat_neg (by rw [n_le, vK, l_5]; omega) (sat_call ey HP))))
end BD
