/-! acts: what both have of them; lines, charges -/
def FR (F : (Nat → Int32) → Int32) : Prop := ∀ f g : Nat → Int32, (∀ k, k < 7 → f k = g k) → F f = F g
def St (h : ea_H) (k : Nat) : Nat → Int32 × Int32 := fun e => (ea_i h 358 (1220 * k + 2 * e), ea_i h 358 (1220 * k + 2 * e + 1))
def ChB (hA hB : ea_H) (k u p s w : Nat) (b : Bool) : Prop := ∃ q F, FR F ∧ cB (cd hA) p q 60 F ∧ cd hA q = -100 ∧ q < u ∧ mB (St hB k) s w F ∧ (b = true → ∀ f, F f = 0 ∨ F f = 1)
def AcE (hA hB : ea_H) (u k : Nat) : Prop := (hI hA (31 + 3 * k) 0 = hI hB 347 k ∧ hI hA (31 + 3 * k) 1 = hI hB 348 k ∧ hI hA (31 + 3 * k) 2 = hI hB 349 k ∧ hI hA (31 + 3 * k) 3 = hI hB 350 k ∧ hI hA (31 + 3 * k) 4 = hI hB 351 k ∧ hI hA (31 + 3 * k) 5 = hI hB 352 k ∧ hI hA (31 + 3 * k) 6 = hI hB 353 k ∧ hI hA (31 + 3 * k) 7 = hI hB 354 k ∧ 0 ≤ hI hB 354 k ∧ hI hB 354 k ≤ 9999) ∧ u ≤ 3600 ∧
  ∃ n : Nat, hI hA (31 + 3 * k) 8 = n ∧ hI hB 355 k = n ∧ n ≤ 24 ∧ ∀ i, i < n → ∃ p s w e : Nat, hI hA (32 + 3 * k) i = p ∧ hI hB 356 (25 * k + i) = s ∧ hI hB 357 (24 * k + i) = w ∧ hI hB 356 (25 * k + i + 1) = e ∧ ChB hA hB k u p s w false ∧ ((hI hA (33 + 3 * k) i = -1 ∧ w = e) ∨ (w ≠ e ∧ ∃ p' : Nat, hI hA (33 + 3 * k) i = p' ∧ ChB hA hB k u p' w e true))
def SAc (h : ea_H) : Prop := ∃ c u : Nat, (hI h 23 1 = c ∧ hI h 326 25 = c ∧ c ≤ 6) ∧ (hI h 24 9 = u ∧ u ≤ 600 * c) ∧ ∀ k, k < c → AcE h h u k
section AC
variable {hA hB hA' hB' h h' : ea_H} {u k l : Nat}
theorem ChB.cg {u' p s w : Nat} {b : Bool} (ec : ∀ p, p < u → cd hA' p = cd hA p) (es : ∀ e, s ≤ e → e < w → St hB' k e = St hB k e) (hu : u ≤ u') (c : ChB hA hB k u p s w b) : ChB hA' hB' k u' p s w b := by
  obtain ⟨q, F, c1, c2, c3, c4, c5, c6⟩ := c
  exact ⟨q, F, c1, c2.cg fun j h1 h2 => ec j (by omega), (ec q c4).trans c3, by omega, c5.cg es, c6⟩
theorem AcE.cg {u' : Nat} (ea : ∀ a j, 31 + 3 * k ≤ a → a ≤ 33 + 3 * k → hI hA' a j = hI hA a j) (eb : ∀ a, 347 ≤ a → a ≤ 355 → hI hB' a k = hI hB a k) (e56 : ∀ i, i ≤ 24 → hI hB' 356 (25 * k + i) = hI hB 356 (25 * k + i)) (e57 : ∀ i, i < 24 → hI hB' 357 (24 * k + i) = hI hB 357 (24 * k + i)) (e58 : ∀ e, e < 610 → St hB' k e = St hB k e) (ec : ∀ p, p < u → cd hA' p = cd hA p) (hu : u ≤ u') (hu' : u' ≤ 3600) (c : AcE hA hB u k) : AcE hA' hB' u' k := by
  obtain ⟨c1, c2, n, d1, d2, d3, d4⟩ := c
  refine ⟨?_, hu', n, (ea _ _ (by omega) (by omega)).trans d1, (eb 355 (by decide) (by decide)).trans d2, d3, fun i hi => ?_⟩
  · rw [ea _ _ (by omega) (by omega), ea _ _ (by omega) (by omega), ea _ _ (by omega) (by omega), ea _ _ (by omega) (by omega), ea _ _ (by omega) (by omega), ea _ _ (by omega) (by omega), ea _ _ (by omega) (by omega), ea _ _ (by omega) (by omega), eb 347 (by decide) (by decide), eb 348 (by decide) (by decide), eb 349 (by decide) (by decide), eb 350 (by decide) (by decide), eb 351 (by decide) (by decide), eb 352 (by decide) (by decide), eb 353 (by decide) (by decide), eb 354 (by decide) (by decide)]
    exact c1
  · obtain ⟨p, s, w, e, f1, f2, f3, f4, f5, f6⟩ := d4 i hi
    have hw : ∀ {s w F}, mB (St hB k) s w F → w ≤ 610 := fun m => m.2.1
    have cg : ∀ {p s w b}, ChB hA hB k u p s w b → ChB hA' hB' k u' p s w b := fun {p s w b} c => by
      have c0 := c
      obtain ⟨q, F, c1, c2, c3, c4, c5, c6⟩ := c
      exact c0.cg ec (fun e h1 h2 => e58 e (by have := c5.2.1; omega)) hu
    refine ⟨p, s, w, e, (ea _ _ (by omega) (by omega)).trans f1, (e56 i (by omega)).trans f2, (e57 i (by omega)).trans f3, (e56 (i + 1) (by omega)).trans f4, cg f5, ?_⟩
    rw [ea (33 + 3 * k) i (by omega) (by omega)]
    rcases f6 with f6 | ⟨f6, p', f7, f8⟩
    · exact Or.inl f6
    · exact Or.inr ⟨f6, p', f7, cg f8⟩
theorem St_eq (e : ∀ j, hI hB' 358 j = hI hB 358 j) (q : Nat) : St hB' k q = St hB k q := by
  unfold St
  rw [show ea_i hB' 358 (1220 * k + 2 * q) = ea_i hB 358 (1220 * k + 2 * q) from n_eq.mpr (e _), show ea_i hB' 358 (1220 * k + 2 * q + 1) = ea_i hB 358 (1220 * k + 2 * q + 1) from n_eq.mpr (e _)]
theorem AcE.kq (sa : keq [(27, 27), (31, 48)] [] hA hA') (sb : keq [(347, 358)] [] hB hB') (hk : k < 6) (c : AcE hA hB u k) : AcE hA' hB' u k := by
  refine c.cg (fun a j h1 h2 => sa.W a (inB_at (r := (31, 48)) (List.mem_cons_of_mem _ List.mem_cons_self) (by show 31 ≤ a; omega) (by show a ≤ 48; omega)) j) (fun a h1 h2 => sb.W a (inB_at (r := (347, 358)) List.mem_cons_self (by show 347 ≤ a; omega) (by show a ≤ 358; omega)) k) (fun i _ => sb.W 356 rfl _) (fun i _ => sb.W 357 rfl _) (fun e _ => St_eq (fun j => sb.W 358 rfl j) e) (fun p _ => ?_) (Nat.le_refl _) c.2.1
  unfold cd
  have : ea_j hA' 27 (p / 4) = ea_j hA 27 (p / 4) := n_eqJ.mpr (sa.2.2 27 rfl _)
  rw [this]
theorem SAc.kq (s : keq [(27, 27), (31, 48), (347, 358)] [((23, 23), 1, 1), ((24, 24), 9, 9), ((326, 326), 25, 25)] h h') (c : SAc h) : SAc h' := by
  obtain ⟨c, u, ⟨c1, c2, c3⟩, ⟨c4, c5⟩, c6⟩ := c
  exact ⟨c, u, ⟨(s.V 23 1 rfl).trans c1, (s.V 326 25 rfl).trans c2, c3⟩, ⟨(s.V 24 9 rfl).trans c4, c5⟩, fun k hk => (c6 k hk).kq (s.sub rfl rfl) (s.sub rfl rfl) (by omega)⟩
/-! an act's cells -/
theorem act_i1 : ∀ k, k < 6 → (28, k, some (31 + 3 * k)) ∈ ShC_rf := by decide +kernel
theorem act_i2 : ∀ k, k < 6 → (31 + 3 * k, 9, some (32 + 3 * k)) ∈ ShC_rf := by decide +kernel
theorem act_i3 : ∀ k, k < 6 → (31 + 3 * k, 10, some (33 + 3 * k)) ∈ ShC_rf := by decide +kernel
theorem act_in2 : ∀ k, k < 6 → (ShC_cl.getD (31 + 3 * k) (0, 0)).1 = 0 ∧ ShC_cl.getD (32 + 3 * k) (0, 0) = (20, 24) ∧ ShC_cl.getD (33 + 3 * k) (0, 0) = (20, 24) := by decide +kernel
theorem act_ref (hs : ShC h) (hk : k < 6) : ea_r h 28 k = some (31 + 3 * k) ∧ ea_r h (31 + 3 * k) 9 = some (32 + 3 * k) ∧ ea_r h (31 + 3 * k) 10 = some (33 + 3 * k) ∧ (31 + 3 * k < ea_n h ∧ ea_c h (31 + 3 * k) = 0) ∧ ((32 + 3 * k < ea_n h ∧ ea_c h (32 + 3 * k) = 20) ∧ ea_l h (32 + 3 * k) = 24) ∧ ((33 + 3 * k < ea_n h ∧ ea_c h (33 + 3 * k) = 20) ∧ ea_l h (33 + 3 * k) = 24) := by
  have a1 := act_i1 k hk
  have a2 := act_i2 k hk
  have a3 := act_i3 k hk
  obtain ⟨a4, a5, a6⟩ := act_in2 k hk
  obtain ⟨b1, b2, b3⟩ := hs.1 (31 + 3 * k) (by omega)
  obtain ⟨d1, d2, d3⟩ := hs.1 (32 + 3 * k) (by omega)
  obtain ⟨e1, e2, e3⟩ := hs.1 (33 + 3 * k) (by omega)
  rw [Nat.zero_add] at b1 b2 d1 d2 d3 e1 e2 e3
  rw [a4] at b2
  rw [a5] at d2 d3
  rw [a6] at e2 e3
  exact ⟨hs.2 _ a1, hs.2 _ a2, hs.2 _ a3, ⟨b1, b2⟩, ⟨⟨d1, d2⟩, d3⟩, ⟨e1, e2⟩, e3⟩
theorem c_actOf (hs : ShC h) {c : Nat} (hc : hI h 23 1 = c) (hc6 : c ≤ 6) (x1 : Int32) : (qX8_actOf x1 h = some (none, h) ∧ ¬ (0 ≤ x1.toInt ∧ x1.toInt < c)) ∨ ∃ k : Nat, x1.toInt = k ∧ k < c ∧ qX8_actOf x1 h = some (some (31 + 3 * k), h) := by
  unfold qX8_actOf BX8_actOf_0
  by_cases c1 : x1 < 0
  · refine Or.inl ⟨if_pos c1, ?_⟩
    rw [n_lt, l_0] at c1
    omega
  · by_cases c2 : ea_i h 23 1 ≤ x1
    · refine Or.inl ⟨(if_neg c1).trans (if_pos c2), ?_⟩
      rw [n_le, hI_eq, hc] at c2
      omega
    · have d1 := c1
      have d2 := c2
      rw [n_lt, l_0] at d1
      rw [n_le, hI_eq, hc] at d2
      obtain ⟨k, e1⟩ : ∃ k : Nat, x1.toInt = k := ⟨x1.toInt.toNat, by omega⟩
      have hk : k < c := by omega
      have ic : x1.toNatClampNeg = k := by
        rw [n_idx, e1]
        rfl
      refine Or.inr ⟨k, e1, hk, ?_⟩
      rw [if_neg c1, if_neg c2, gd_pos (vp80 e1 (show k < 6 by omega)), ic, (act_ref hs (show k < 6 by omega)).1]
/-- the last of the first c whose day has come -/
def nmO (f : Nat → Int) (d : Int) : Nat → Int
  | 0 => -1
  | k + 1 => if f k ≤ d then (k : Int) else nmO f d k
theorem nmO_b (f : Nat → Int) (d : Int) : ∀ c : Nat, -1 ≤ nmO f d c ∧ nmO f d c < c := by
  intro c
  induction c with
  | zero => exact ⟨Int.le_refl _, by show (-1 : Int) < 0; decide⟩
  | succ c ih =>
    unfold nmO
    split <;> omega
theorem c_numberOn (hs : ShC h) {c : Nat} (hc : hI h 23 1 = c) (hc6 : c ≤ 6) {x1 : Int32} {d : Int} (e1 : x1.toInt = d) : ∃ v, qX8_numberOn x1 h = some (v, h) ∧ v.toInt = nmO (fun k => hI h (31 + 3 * k) 0) d c := by
  refine sat_ex ?_
  have H : ∀ (j k : Nat) (x2 x3 : Int32), k + j = c → x3.toInt = k → x2.toInt = nmO (fun k => hI h (31 + 3 * k) 0) d k → sat (qX8_numberOn_4 x1 x2 x3 h) fun y => y.2 = h ∧ y.1.toInt = nmO (fun k => hI h (31 + 3 * k) 0) d c := by
    intro j
    induction j with
    | zero =>
      intro k x2 x3 hk e3 e2
      refine uqX8_numberOn_4 ?_
      unfold BX8_numberOn_4
      refine sat_pos (by rw [n_le, hI_eq, hc, e3]; omega) (sat_ret ⟨rfl, ?_⟩)
      rw [show c = k by omega]
      exact e2
    | succ j ih =>
      intro k x2 x3 hk e3 e2
      obtain ⟨r1, r2, r3, r4, r5, r6⟩ := act_ref hs (show k < 6 by omega)
      have ic : x3.toNatClampNeg = k := by
        rw [n_idx, e3]
        rfl
      have v0 : (ea_i h (31 + 3 * k) 0).toInt = hI h (31 + 3 * k) 0 := rfl
      refine uqX8_numberOn_4 ?_
      unfold BX8_numberOn_4
      rw [ic, r1]
      refine sat_neg (by rw [n_le, hI_eq, hc, e3]; omega) (sat_gd (vp80 e3 (by omega)) (sat_gd rfl (sat_gd r4 (sat_ite (fun z => ?_) fun z => ?_))))
      · have z : x1 < ea_i h (31 + 3 * k) 0 := z
        rw [n_lt, e1, v0] at z
        exact ih (k + 1) x2 (x3 + 1) (by omega) (n_inc e3 (by omega)) (e2.trans (if_neg (show ¬ hI h (31 + 3 * k) 0 ≤ d by omega)).symm)
      · have z : ¬ x1 < ea_i h (31 + 3 * k) 0 := z
        rw [n_lt, e1, v0] at z
        exact ih (k + 1) x3 (x3 + 1) (by omega) (n_inc e3 (by omega)) (e3.trans (if_pos (show hI h (31 + 3 * k) 0 ≤ d by omega)).symm)
  unfold qX8_numberOn
  refine uqX8_numberOn_0 ?_
  unfold BX8_numberOn_0
  exact H c 0 (-1) 0 (by omega) rfl rfl
theorem m_actOn {c : Nat} (hc : hI h 326 25 = c) (hc6 : c ≤ 6) {x1 : Int32} {d : Int} (e1 : x1.toInt = d) : ∃ v, qX12_actOn x1 h = some (v, h) ∧ v.toInt = nmO (hI h 347) d c := by
  refine sat_ex ?_
  have v25 : (ea_i h 326 25).toInt = c := hc
  have H : ∀ (k : Nat) (x2 : Int32), k ≤ c → x2.toInt = (k : Int) - 1 → nmO (hI h 347) d c = nmO (hI h 347) d k → sat (qX12_actOn_7 x1 x2 h) fun y => y.2 = h ∧ y.1.toInt = nmO (hI h 347) d c := by
    intro k
    induction k with
    | zero =>
      intro x2 hk e2 hn
      refine uqX12_actOn_7 ?_
      unfold BX12_actOn_7
      exact sat_pos (by rw [n_lt, e2, l_0]; decide) (sat_ret ⟨rfl, by rw [hn]; exact e2⟩)
    | succ k ih =>
      intro x2 hk e2 hn
      have e2' : x2.toInt = (k : Int) := by omega
      have ic : x2.toNatClampNeg = k := by
        rw [n_idx, e2']
        rfl
      have v0 : (ea_i h 347 k).toInt = hI h 347 k := rfl
      refine uqX12_actOn_7 ?_
      unfold BX12_actOn_7
      rw [ic]
      refine sat_neg (by rw [n_lt, e2', l_0]; omega) (sat_gd (vp80 e2' (by omega)) (sat_ite (fun z => ?_) fun z => ?_))
      · rw [n_le, v0, e1] at z
        exact sat_ret ⟨rfl, by rw [hn, e2']; exact (if_pos z).symm⟩
      · rw [n_le, v0, e1] at z
        obtain ⟨w, hw, ew⟩ : ∃ w : Int32, x2 + (-1 : Int32) = w ∧ w.toInt = (k : Int) - 1 := ⟨_, rfl, by rw [n_add, e2', l_m1, n_bm (by omega) (by omega)]; omega⟩
        rw [hw]
        exact ih w (by omega) ew (hn.trans (if_neg z))
  unfold qX12_actOn
  refine uqX12_actOn_0 ?_
  unfold BX12_actOn_0
  exact sat_sub (H c _ (Nat.le_refl _) (by rw [n_pred (by omega), v25]) rfl)
/-! what a letter is charged by -/
def LtE (hA hB : ea_H) (l : Nat) : Prop := hI hA (76 + 2 * l) 0 = hI hB 364 l ∧ hI hA (76 + 2 * l) 3 = hI hB 367 l ∧ hI hA (76 + 2 * l) 4 = hI hB 368 l ∧ hI hA (76 + 2 * l) 6 = hI hB 370 l ∧ hI hA (76 + 2 * l) 7 = (if hI hB 371 l = 1000000 then 0 else hI hB 371 l) ∧ (hI hA (76 + 2 * l) 8 = 0 ↔ hI hB 378 l = 0) ∧ (hI hB 364 l = 2 → hI hB 372 l = hI hA (76 + 2 * l) 9 + 1)
def fcB (hB : ea_H) (l : Nat) : Nat → Int32 := fun k => if k = 0 then (if hI hB 371 l = 1000000 then 0 else ea_i hB 371 l) else if k = 1 then ea_i hB 367 l else if k = 2 then ea_i hB 368 l else if k = 3 then (ea_i hB 370 l - ea_i hB 370 l / (1440 : Int32) * (1440 : Int32)) / (60 : Int32) else if k = 4 then ea_i hB 370 l / (1440 : Int32) else if k = 5 then ea_i hB 364 l else if hI hB 378 l = 0 then 0 else 1
theorem c_ask (hs : ShC hA) (hl : l < 120) (e : LtE hA hB l) : sat (qX8_ask (some (76 + 2 * l)) hA) fun y => fq [(29, 29)] [] hA y.2 ∧ ∀ k, k < 7 → ea_i y.2 29 k = fcB hB l k := by
  obtain ⟨e0, e3, e4, e6, e7, e8, -⟩ := e
  have rf : ∀ {h : ea_H}, ShC h → 76 + 2 * l < ea_n h ∧ ea_c h (76 + 2 * l) = 5 := fun hs => (ltr_ref hs hl).2
  have w0 : ea_i hA (76 + 2 * l) 0 = ea_i hB 364 l := n_eq.mpr e0
  have w3 : ea_i hA (76 + 2 * l) 3 = ea_i hB 367 l := n_eq.mpr e3
  have w4 : ea_i hA (76 + 2 * l) 4 = ea_i hB 368 l := n_eq.mpr e4
  have w6 : ea_i hA (76 + 2 * l) 6 = ea_i hB 370 l := n_eq.mpr e6
  have w7 : ea_i hA (76 + 2 * l) 7 = if hI hB 371 l = 1000000 then 0 else ea_i hB 371 l := by
    rw [n_eq, n_if]
    exact e7
  have w8 : ea_i hA (76 + 2 * l) 8 = 0 ↔ hI hB 378 l = 0 := by
    rw [n_eq]
    exact e8
  unfold qX8_ask BX8_ask_0
  have st : ∀ {h h' : ea_H} {j : Nat} {x : Int32}, h' = ea_wi h 29 j x → ShC h → ShC h' ∧ (∀ a k, a ≠ 29 → ea_i h' a k = ea_i h a k) ∧ fq [(29, 29)] [] h h' := fun {h h' j x} q hs => ⟨ShC_core (q ▸ rfl) hs, fun a k ha => by rw [q, i_ne ha], q ▸ fq_wi rfl⟩
  refine sat_gd rfl (sat_gd (rf hs) (sat_gd (vp80 (n := 0) rfl (by decide)) (sat_let fun H4 q4 => ?_)))
  have q4 : H4 = ea_wi hA 29 0 (ea_i hA (76 + 2 * l) 7) := q4
  obtain ⟨s4, o4, f4⟩ := st q4 hs
  refine sat_gd rfl (sat_gd (rf s4) (sat_gd (vp80 (n := 1) rfl (by decide)) (sat_let fun H8 q8 => ?_)))
  have q8 : H8 = ea_wi H4 29 1 (ea_i H4 (76 + 2 * l) 3) := q8
  obtain ⟨s8, o8, f8⟩ := st q8 s4
  refine sat_gd rfl (sat_gd (rf s8) (sat_gd (vp80 (n := 2) rfl (by decide)) (sat_let fun H12 q12 => ?_)))
  have q12 : H12 = ea_wi H8 29 2 (ea_i H8 (76 + 2 * l) 4) := q12
  obtain ⟨s12, o12, f12⟩ := st q12 s8
  refine sat_gd rfl (sat_gd (rf s12) (sat_gd (vp80 (n := 3) rfl (by decide)) (sat_let fun H16 q16 => ?_)))
  have q16 : H16 = ea_wi H12 29 3 ((ea_i H12 (76 + 2 * l) 6 - ea_i H12 (76 + 2 * l) 6 / (1440 : Int32) * (1440 : Int32)) / (60 : Int32)) := q16
  obtain ⟨s16, o16, f16⟩ := st q16 s12
  have pd : qX5_dayOf (76 + 2 * l) H16 = some (ea_i H16 (76 + 2 * l) 6 / (1440 : Int32), H16) := by
    unfold qX5_dayOf BX5_dayOf_0
    exact gd_pos (rf s16)
  refine sat_gd rfl (sat_gd (rf s16) (sat_call pd (sat_gd (vp80 (n := 4) rfl (by decide)) (sat_let fun H21 q21 => ?_))))
  have q21 : H21 = ea_wi H16 29 4 (ea_i H16 (76 + 2 * l) 6 / (1440 : Int32)) := q21
  obtain ⟨s21, o21, f21⟩ := st q21 s16
  refine sat_gd rfl (sat_gd (rf s21) (sat_gd (vp80 (n := 5) rfl (by decide)) (sat_let fun H25 q25 => ?_)))
  have q25 : H25 = ea_wi H21 29 5 (ea_i H21 (76 + 2 * l) 0) := q25
  obtain ⟨s25, o25, f25⟩ := st q25 s21
  have n29 : 76 + 2 * l ≠ 29 := by omega
  have F25 : fq [(29, 29)] [] hA H25 := f4.tr (f8.tr (f12.tr (f16.tr (f21.tr f25))))
  have fin : ∀ (H : ea_H) (x : Int32), H = ea_wi H25 29 6 x → x = (if hI hB 378 l = 0 then 0 else 1) → fq [(29, 29)] [] hA H ∧ ∀ k, k < 7 → ea_i H 29 k = fcB hB l k := by
    intro H x q hx
    refine ⟨F25.tr (q ▸ fq_wi rfl), fun k hk => ?_⟩
    have : k = 0 ∨ k = 1 ∨ k = 2 ∨ k = 3 ∨ k = 4 ∨ k = 5 ∨ k = 6 := by omega
    rcases this with z | z | z | z | z | z | z <;> subst z
    · rw [q, i_nk (by decide), q25, i_nk (by decide), q21, i_nk (by decide), q16, i_nk (by decide), q12, i_nk (by decide), q8, i_nk (by decide), q4, i_eq, w7]
      rfl
    · rw [q, i_nk (by decide), q25, i_nk (by decide), q21, i_nk (by decide), q16, i_nk (by decide), q12, i_nk (by decide), q8, i_eq, o4 _ _ n29, w3]
      rfl
    · rw [q, i_nk (by decide), q25, i_nk (by decide), q21, i_nk (by decide), q16, i_nk (by decide), q12, i_eq, o8 _ _ n29, o4 _ _ n29, w4]
      rfl
    · rw [q, i_nk (by decide), q25, i_nk (by decide), q21, i_nk (by decide), q16, i_eq, o12 _ _ n29, o8 _ _ n29, o4 _ _ n29, w6]
      rfl
    · rw [q, i_nk (by decide), q25, i_nk (by decide), q21, i_eq, o16 _ _ n29, o12 _ _ n29, o8 _ _ n29, o4 _ _ n29, w6]
      rfl
    · rw [q, i_nk (by decide), q25, i_eq, o21 _ _ n29, o16 _ _ n29, o12 _ _ n29, o8 _ _ n29, o4 _ _ n29, w0]
      rfl
    · rw [q, i_eq, hx]
      rfl
  have o8' : ea_i H25 (76 + 2 * l) 8 = ea_i hA (76 + 2 * l) 8 := by rw [o25 _ _ n29, o21 _ _ n29, o16 _ _ n29, o12 _ _ n29, o8 _ _ n29, o4 _ _ n29]
  refine sat_gd rfl (sat_gd (rf s25) (sat_ite (fun z => ?_) fun z => ?_))
  · have z : ea_i H25 (76 + 2 * l) 8 = 0 := z
    rw [o8', w8] at z
    exact sat_gd (vp80 (n := 6) rfl (by decide)) (sat_let fun H29 q29 => sat_ret (fin H29 0 q29 (if_pos z).symm))
  · have z : ¬ ea_i H25 (76 + 2 * l) 8 = 0 := z
    rw [o8', w8] at z
    exact sat_gd (vp80 (n := 6) rfl (by decide)) (sat_let fun H31 q31 => sat_ret (fin H31 1 q31 (if_neg z).symm))
theorem m_gathers {x1 : Int32} (e1 : x1.toInt = l) (hl : l < 120) : sat (qX12_gathers x1 hB) fun y => fq [(391, 391)] [] hB y.2 ∧ ∀ k, k < 7 → fa1 (ea_i y.2 391) k = fcB hB l k := by
  have g := vp80 e1 hl
  have ic : x1.toNatClampNeg = l := by
    rw [n_idx, e1]
    rfl
  have v71 : (ea_i hB 371 l).toInt = hI hB 371 l := rfl
  have K : ∀ s0 : Int32, s0 = (if hI hB 371 l = 1000000 then 0 else ea_i hB 371 l) → sat (qX12_gathers_27 x1 s0 1 hB) fun y => fq [(391, 391)] [] hB y.2 ∧ ∀ k, k < 7 → fa1 (ea_i y.2 391) k = fcB hB l k := by
    intro s0 hs0
    refine uqX12_gathers_27 ?_
    unfold BX12_gathers_27
    rw [ic]
    refine sat_gd (vp80 (n := 1) rfl (by decide)) (sat_let fun H5 q5 => sat_gd g (sat_gd (vp80 (n := 2) rfl (by decide)) (sat_let fun H8 q8 => sat_gd g (sat_gd (vp80 (n := 3) rfl (by decide)) (sat_let fun H11 q11 => sat_gd g (sat_gd (vp80 (n := 4) rfl (by decide)) (sat_let fun H14 q14 => sat_gd g (sat_gd (vp80 (n := 5) rfl (by decide)) (sat_let fun H17 q17 => sat_gd g (sat_gd (vp80 (n := 6) rfl (by decide)) (sat_let fun H20 q20 => sat_gd g ?_)))))))))))
    have q5 : H5 = ea_wi hB 391 1 s0 := q5
    have q8 : H8 = ea_wi H5 391 2 (ea_i H5 367 l) := q8
    have q11 : H11 = ea_wi H8 391 3 (ea_i H8 368 l) := q11
    have q14 : H14 = ea_wi H11 391 4 ((ea_i H11 370 l - ea_i H11 370 l / (1440 : Int32) * (1440 : Int32)) / (60 : Int32)) := q14
    have q17 : H17 = ea_wi H14 391 5 (ea_i H14 370 l / (1440 : Int32)) := q17
    have q20 : H20 = ea_wi H17 391 6 (ea_i H17 364 l) := q20
    have F : fq [(391, 391)] [] hB H20 := (q5 ▸ fq_wi rfl : fq [(391, 391)] [] hB H5).tr ((q8 ▸ fq_wi rfl : fq [(391, 391)] [] H5 H8).tr ((q11 ▸ fq_wi rfl : fq [(391, 391)] [] H8 H11).tr ((q14 ▸ fq_wi rfl : fq [(391, 391)] [] H11 H14).tr ((q17 ▸ fq_wi rfl : fq [(391, 391)] [] H14 H17).tr (q20 ▸ fq_wi rfl)))))
    have fin : ∀ (H : ea_H) (x : Int32), H = ea_wi H20 391 7 x → x = (if hI hB 378 l = 0 then 0 else 1) → fq [(391, 391)] [] hB H ∧ ∀ k, k < 7 → fa1 (ea_i H 391) k = fcB hB l k := by
      intro H x q hx
      refine ⟨F.tr (q ▸ fq_wi rfl), fun k hk => ?_⟩
      have : k = 0 ∨ k = 1 ∨ k = 2 ∨ k = 3 ∨ k = 4 ∨ k = 5 ∨ k = 6 := by omega
      unfold fa1
      rcases this with z | z | z | z | z | z | z <;> subst z
      · rw [q, i_nk (by decide), q20, i_nk (by decide), q17, i_nk (by decide), q14, i_nk (by decide), q11, i_nk (by decide), q8, i_nk (by decide), q5, i_eq, hs0]
        rfl
      · rw [q, i_nk (by decide), q20, i_nk (by decide), q17, i_nk (by decide), q14, i_nk (by decide), q11, i_nk (by decide), q8, i_eq, q5, i_ne (by decide)]
        rfl
      · rw [q, i_nk (by decide), q20, i_nk (by decide), q17, i_nk (by decide), q14, i_nk (by decide), q11, i_eq, q8, i_ne (by decide), q5, i_ne (by decide)]
        rfl
      · rw [q, i_nk (by decide), q20, i_nk (by decide), q17, i_nk (by decide), q14, i_eq, q11, i_ne (by decide), q8, i_ne (by decide), q5, i_ne (by decide)]
        rfl
      · rw [q, i_nk (by decide), q20, i_nk (by decide), q17, i_eq, q14, i_ne (by decide), q11, i_ne (by decide), q8, i_ne (by decide), q5, i_ne (by decide)]
        rfl
      · rw [q, i_nk (by decide), q20, i_eq, q17, i_ne (by decide), q14, i_ne (by decide), q11, i_ne (by decide), q8, i_ne (by decide), q5, i_ne (by decide)]
        rfl
      · rw [q, i_eq, hx]
        rfl
    refine sat_ite (fun z => ?_) fun z => ?_
    · rw [n_eq, l_0] at z
      have z : hI hB 378 l = 0 := (F.C 378 rfl rfl l).symm.trans z
      exact sat_gd (vp80 (n := 7) rfl (by decide)) (sat_let fun H23 q23 => sat_ret (fin H23 0 q23 (if_pos z).symm))
    · rw [n_eq, l_0] at z
      have z : ¬ hI hB 378 l = 0 := fun w => z ((F.C 378 rfl rfl l).trans w)
      exact sat_gd (vp80 (n := 7) rfl (by decide)) (sat_let fun H25 q25 => sat_ret (fin H25 1 q25 (if_neg z).symm))
  unfold qX12_gathers
  refine uqX12_gathers_0 ?_
  unfold BX12_gathers_0
  rw [ic]
  refine sat_gd g (sat_ite (fun z => ?_) fun z => ?_)
  · rw [n_eq, v71, l_1000000] at z
    exact K 0 (if_pos z).symm
  · rw [n_eq, v71, l_1000000] at z
    exact sat_gd g (K _ (if_neg z).symm)
end AC
