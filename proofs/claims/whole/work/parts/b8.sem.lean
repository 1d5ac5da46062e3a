/-! a line read by both: a rule -/
def RuE (k : Nat) (hA hB : ea_H) : Prop := (∀ j, 2 ≤ j → j ≤ 7 → hI hA (31 + 3 * k) j = hI hB 326 (44 + j)) ∧ 0 ≤ hI hB 326 51 ∧ hI hB 326 51 ≤ 9999
def ActR (k : Nat) (h h' : ea_H) : Prop := ∀ a j, 31 ≤ a → a ≤ 48 → (a = 31 + 3 * k → j < 2 ∨ 7 < j) → hI h' a j = hI h a j
theorem ActR.of {k : Nat} {h h' : ea_H} {A : List (Nat × Nat)} {B : List ((Nat × Nat) × Nat × Nat)} (f : fq A B h h') (w : fre A B [(31, 48)] [] = true) : ActR k h h' := fun a j a1 a2 _ => (f.kq w).W a (inB_at (r := (31, 48)) List.mem_cons_self a1 a2) j
theorem ActR.tr {k : Nat} {h h1 h2 : ea_H} (x : ActR k h h1) (y : ActR k h1 h2) : ActR k h h2 := fun a j a1 a2 a3 => (y a j a1 a2 a3).trans (x a j a1 a2 a3)
theorem ActR.wi {k j : Nat} {h : ea_H} {x : Int32} (h1 : 2 ≤ j) (h2 : j ≤ 7) : ActR k h (ea_wi h (31 + 3 * k) j x) := fun a i a1 a2 a3 => by
  rw [hI_wi, if_neg]
  rintro ⟨z1, z2⟩
  have := a3 z1
  omega
def RuO (b : Nat → Int) (n c k e u s : Nat) (hA hB : ea_H) (y z : Int32 × ea_H) : Prop := (z.1 = 0 ∧ PrX y.2 z.2) ∨ (z.1 = 1 ∧ ∃ e' : Nat, e < e' ∧ PrC y.2 b n c e' u ∧ PrM z.2 b n e' s 0 ∧ (RuE k hA hB → RuE k y.2 z.2))
def RuF (k : Nat) (hA hB : ea_H) (y z : Int32 × ea_H) : Prop := fq [(31, 48)] [((24, 24), 1, 2), ((24, 24), 6, 7)] hA y.2 ∧ fq [] [((326, 326), 46, 51), ((326, 326), 53, 58), ((326, 326), 61, 61)] hB z.2 ∧ ActR k hA y.2
section RL
variable {b : Nat → Int} {n c e u s k o : Nat} {h hA hB : ea_H}
theorem m_aNumber (p : PrM h b n e s o) {x1 : Int32} {M : Nat} (e1 : x1.toInt = M) : (paK b n (paS b n e) ≠ 18 ∧ sat (qX12_aNumber x1 h) fun y => BadM b n e 1 h y) ∨ (paK b n (paS b n e) = 18 ∧ (M : Int) < paV b n (paS b n e) ∧ sat (qX12_aNumber x1 h) fun y => BadM b n e 2 h y) ∨ (paK b n (paS b n e) = 18 ∧ paV b n (paS b n e) ≤ (M : Int) ∧ sat (qX12_aNumber x1 h) fun y => y.1 = 1 ∧ fq [] [((326, 326), 53, 56), ((326, 326), 61, 61)] h y.2 ∧ PrM y.2 b n (e + 1) s o ∧ hI y.2 326 61 = paV b n (paS b n e)) := by
  unfold qX12_aNumber BX12_aNumber_0
  by_cases k18 : paK b n (paS b n e) = 18
  · have v56 : (ea_i h 326 56).toInt = paV b n (paS b n e) := p.2.2.2.2.1 k18
    by_cases z : paV b n (paS b n e) ≤ (M : Int)
    · refine Or.inr (Or.inr ⟨k18, z, sat_pos (p.yes (j := 18) rfl (by decide) (by decide) k18) (sat_pos (by rw [n_le, v56, e1]; exact z) (sat_let fun H1 q1 => ?_))⟩)
      have F1 : fq [] [((326, 326), 61, 61)] h H1 := q1 ▸ fq_wf rfl
      refine sat_bind (m_next (p.kq (F1.kq rfl))) fun y hy => sat_ret ⟨rfl, (F1.up rfl rfl).tr (hy.1.up rfl rfl), hy.2, ?_⟩
      rw [hy.1.I 326 rfl 61 rfl, q1, hI_at]
      exact v56
    · exact Or.inr (Or.inl ⟨k18, by omega, sat_pos (p.yes (j := 18) rfl (by decide) (by decide) k18) (sat_neg (by rw [n_le, v56, e1]; exact z) (sat_bind (m_bad p 2) fun y hy => sat_gd (Or.inl hy.1) (sat_ret hy)))⟩)
  · exact Or.inl ⟨k18, sat_neg (p.no (j := 18) rfl (by decide) (by decide) k18) (sat_bind (m_bad p 1) fun y hy => sat_gd (Or.inl hy.1) (sat_ret hy))⟩
theorem ref_bad2 {gA gB hA hB : ea_H} {x : Int} {y z : Int32 × ea_H} {v w : Int32} {e : Nat} (r : RefC b n e x hA y) (q : BadM b n e x hB z) (hx : x ≠ 0) (fA : fq [(31, 48)] [((24, 24), 1, 2), ((24, 24), 6, 7)] gA hA) (fB : fq [] [((326, 326), 46, 51), ((326, 326), 53, 58), ((326, 326), 61, 61)] gB hB) (ar : ActR k gA hA) : RuF k gA gB (v, y.2) (w, z.2) ∧ PrX y.2 z.2 := ⟨⟨fA.tr (r.2.1.up rfl rfl), fB.tr (q.2.1.up rfl rfl), ar.tr (ActR.of r.2.1 rfl)⟩, px_of r q hx⟩
theorem p_rule (hs : ShC hA) (hk : k < 6) (pc : PrC hA b n c e u) (k1 : 1 ≤ paK b n (paS b n e)) (k5 : paK b n (paS b n e) ≤ 5) (pm : PrM hB b n (e + 1) s 0) {x1 : Int32} (e1 : x1.toInt = ((paK b n (paS b n e) + 3 : Nat) : Int)) : sat (qX6_readRule (some (31 + 3 * k)) hA) fun y => sat (qX12_inner x1 hB) fun z => RuF k hA hB y z ∧ RuO b n c k e u s hA hB y z := by
  have vK : (ea_i hA 24 7).toInt = paK b n (paS b n e) := pc.2.2.2.2.1
  obtain ⟨M, sx0, eM, hM, hM2, Href⟩ : ∃ (M : Nat) (sx0 : Int32), sx0.toInt = M ∧ (paK b n (paS b n e) = 2 → M = 99) ∧ (paK b n (paS b n e) ≠ 2 → M = 9999) ∧ ∀ P, sat (qX12_inner_24 x1 sx0 hB) P → sat (qX12_inner x1 hB) P := by
    have n3 : ¬ x1 = 3 := by
      rw [n_eq, e1, l_3]
      omega
    by_cases z : paK b n (paS b n e) = 2
    · refine ⟨99, 99, rfl, fun _ => rfl, fun w => absurd z w, fun P H => ?_⟩
      unfold qX12_inner
      refine uqX12_inner_0 ?_
      unfold BX12_inner_0
      exact sat_neg n3 (sat_pos (by rw [n_eq, e1, z]; rfl) H)
    · refine ⟨9999, 9999, rfl, fun w => absurd w z, fun _ => rfl, fun P H => ?_⟩
      unfold qX12_inner
      refine uqX12_inner_0 ?_
      unfold BX12_inner_0
      exact sat_neg n3 (sat_neg (by rw [n_eq, e1, l_5]; omega) H)
  refine sat_sw (Href _ (sat_sw ?_))
  obtain ⟨y1, ey1, f1, p1⟩ := c_step pc (by omega)
  unfold qX6_readRule
  refine uqX6_readRule_0 ?_
  unfold BX6_readRule_0
  refine sat_call ey1 (sat_sw (uqX12_inner_24 ?_))
  unfold BX12_inner_24
  have vb := paV_b (b := b) (paP_le b n (e + 1)).2.1
  have a1 : ActR k hA y1.2 := ActR.of f1 rfl
  rcases m_aNumber pm eM with ⟨k18, H⟩ | ⟨k18, hv, H⟩ | ⟨k18, hv, H⟩
  · refine sat_bind H fun z hz => sat_pos hz.1 (sat_ret ?_)
    refine sat_neg (p1.no (j := 18) rfl k18) (sat_bind (c_refuse p1 1) fun y hy => sat_gd (Or.inl hy.1) (sat_ret ?_))
    have := ref_bad2 (v := y.1) (w := 0) hy hz (by decide) (f1.up rfl rfl) (fq_rfl _ _ hB) a1
    exact ⟨this.1, Or.inl ⟨rfl, this.2⟩⟩
  · have K2 : paK b n (paS b n e) = 2 := by
      by_cases w : paK b n (paS b n e) = 2
      · exact w
      · have := hM2 w
        omega
    have M99 := hM K2
    obtain ⟨v, qv, ev⟩ := c_value p1
    refine sat_bind H fun z hz => sat_pos hz.1 (sat_ret ?_)
    refine sat_pos (p1.yes (j := 18) rfl k18) (sat_call qv (sat_pos (by rw [n_eq, vK, K2]; rfl) (sat_neg (by rw [n_le, ev, l_99]; omega) (sat_bind (c_refuse p1 2) fun y hy => sat_gd (Or.inl hy.1) (sat_ret ?_)))))
    have := ref_bad2 (v := y.1) (w := 0) hy hz (by decide) (f1.up rfl rfl) (fq_rfl _ _ hB) a1
    exact ⟨this.1, Or.inl ⟨rfl, this.2⟩⟩
  obtain ⟨v, qv, ev⟩ := c_value p1
  obtain ⟨z5, ez5, z51, z52, z53, z54⟩ := H
  refine sat_call ez5 (sat_neg (by rw [z51]; exact i1_ne_0) ?_)
  -- the class comes to its second part
  refine sat_sw (sat_pos (p1.yes (j := 18) rfl k18) (sat_call qv ?_))
  refine sat_mono (P := fun y => sat (if x1 = (4 : Int32) then (ea_let (ea_i z5.2 326 61) fun (v6 : Int32) => (Option.bind (qX12_need (9 : Int32) z5.2) fun w7 => (if w7.1 = (0 : Int32) then (some ((0 : Int32), w7.2)) else (Option.bind (qX12_aNumber (1439 : Int32) w7.2) fun w8 => (if w8.1 = (0 : Int32) then (some ((0 : Int32), w8.2)) else (ea_let (ea_wi w8.2 326 46 v6) fun H9 => (ea_let (ea_wi H9 326 47 (ea_i H9 326 61)) fun H10 => (qX12_inner_76 (x1 : Int32) H10)))))))) else (qX12_inner_76 (x1 : Int32) z5.2)) fun z => RuF k hA hB y z ∧ RuO b n c k e u s hA hB y z) ?_ fun y hy => hy
  have fB5 : fq [] [((326, 326), 46, 51), ((326, 326), 53, 58), ((326, 326), 61, 61)] hB z5.2 := z52.up rfl rfl
  have to46 : ∀ Q : Int32 × ea_H → Prop, sat (qX6_readRule_46 (some (31 + 3 * k)) (ea_i hA 24 7) v y1.2) Q → sat (if (ea_i hA 24 7) = (2 : Int32) then (if v ≤ (99 : Int32) then (qX6_readRule_46 (some (31 + 3 * k)) (ea_i hA 24 7) v y1.2) else (Option.bind (qX6_refuse (2 : Int32) y1.2) fun w3 => (gd (w3.1 = 0 ∨ w3.1 = 1) (some (w3.1, w3.2))))) else (qX6_readRule_46 (some (31 + 3 * k)) (ea_i hA 24 7) v y1.2)) Q := by
    intro Q HQ
    refine sat_ite (fun w => ?_) fun _ => HQ
    rw [n_eq, vK, l_2] at w
    have := hM (by omega)
    exact sat_pos (by rw [n_le, ev, l_99]; omega) HQ
  refine to46 _ (uqX6_readRule_46 ?_)
  unfold BX6_readRule_46
  obtain ⟨y10, ey10, f10, p10⟩ := c_step p1 (by omega)
  have F10 : fq [] [((24, 24), 6, 7)] hA y10.2 := f1.tr f10
  have a10 : ActR k hA y10.2 := ActR.of F10 rfl
  refine sat_call ey10 ?_
  obtain ⟨-, -, -, r4, -, -⟩ := act_ref (ShC_core F10.1 hs) hk
  by_cases K1 : paK b n (paS b n e) = 1
  · refine sat_pos (by rw [vK, K1]; rfl) (sat_sw (sat_pos (by rw [n_eq, e1, K1]; rfl) (sat_let fun v6 q6 => ?_)))
    have v6e : v6.toInt = paV b n (paS b n (e + 1)) := by
      rw [q6]
      exact z54
    unfold qX6_readAfter BX6_readAfter_0
    by_cases k14 : paK b n (paS b n (e + 1 + 1)) = 14
    · obtain ⟨y2, ey2, f2, p2⟩ := c_step p10 (by omega)
      have sk : qX6_skip 14 y10.2 = some ((1 : Int32), y2.2) := by
        unfold qX6_skip BX6_skip_0
        rw [if_pos (p10.yes (j := 14) rfl k14), ey2]
        rfl
      obtain ⟨z7, ez7, z71, z72, z73⟩ := m_need z53 (x1 := 9) (j := 14) rfl (by decide) (by decide) k14
      refine sat_call ez7 (sat_neg (by rw [z71]; exact i1_ne_0) ?_)
      have fB7 : fq [] [((326, 326), 46, 51), ((326, 326), 53, 58), ((326, 326), 61, 61)] hB z7.2 := fB5.tr (z72.up rfl rfl)
      have F2 : fq [] [((24, 24), 6, 7)] hA y2.2 := F10.tr f2
      have a2 : ActR k hA y2.2 := ActR.of F2 rfl
      have vb2 := paV_b (b := b) (paP_le b n (e + 1 + 1 + 1)).2.1
      rcases m_aNumber (M := 1439) z73 (x1 := 1439) rfl with ⟨k18', H⟩ | ⟨k18', hv', H⟩ | ⟨k18', hv', H⟩
      · refine sat_bind H fun z hz => sat_pos hz.1 (sat_ret ?_)
        obtain ⟨y3, ey3, hy3⟩ := c_refuse p2 1
        refine sat_bind (Q := fun w => w = y3) ?_ fun w hw => ?_
        · exact sat_call sk (sat_neg i1_ne_0 (sat_neg (p2.no (j := 18) rfl k18') (sat_call ey3 (sat_gd (Or.inl hy3.1) (sat_ret rfl)))))
        · subst hw
          have := ref_bad2 (v := w.1) (w := 0) hy3 hz (by decide) (F2.up rfl rfl) fB7 a2
          exact sat_gd (Or.inl hy3.1) (sat_ret ⟨this.1, Or.inl ⟨rfl, this.2⟩⟩)
      · obtain ⟨v2, qv2, ev2⟩ := c_value p2
        refine sat_bind H fun z hz => sat_pos hz.1 (sat_ret ?_)
        obtain ⟨y3, ey3, hy3⟩ := c_refuse p2 2
        refine sat_bind (Q := fun w => w = y3) ?_ fun w hw => ?_
        · exact sat_call sk (sat_neg i1_ne_0 (sat_pos (p2.yes (j := 18) rfl k18') (sat_call qv2 (sat_neg (by rw [n_le, ev2, l_1439]; omega) (sat_call ey3 (sat_gd (Or.inl hy3.1) (sat_ret rfl)))))))
        · subst hw
          have := ref_bad2 (v := w.1) (w := 0) hy3 hz (by decide) (F2.up rfl rfl) fB7 a2
          exact sat_gd (Or.inl hy3.1) (sat_ret ⟨this.1, Or.inl ⟨rfl, this.2⟩⟩)
      · obtain ⟨v2, qv2, ev2⟩ := c_value p2
        obtain ⟨z8, ez8, z81, z82, z83, z84⟩ := H
        refine sat_call ez8 (sat_neg (by rw [z81]; exact i1_ne_0) (sat_let fun H9 q9 => sat_let fun H10 q10 => uqX12_inner_76 ?_))
        unfold BX12_inner_76
        refine sat_neg (by rw [n_eq, e1, K1]; decide) (uqX12_inner_89 ?_)
        unfold BX12_inner_89
        refine sat_neg (by rw [n_eq, e1, K1]; decide) (uqX12_inner_103 ?_)
        unfold BX12_inner_103
        refine sat_neg (by rw [n_eq, e1, K1]; decide) (uqX12_inner_117 ?_)
        unfold BX12_inner_117
        refine sat_neg (by rw [n_eq, e1, K1]; decide) (sat_ret ?_)
        have G9 : fq [] [((326, 326), 46, 47)] z8.2 H10 := (q9 ▸ fq_wf rfl : fq [] [((326, 326), 46, 47)] z8.2 H9).tr (q10 ▸ fq_wf rfl)
        -- the class
        refine sat_bind (Q := fun w => w.1 = 1 ∧ fq [(31, 48)] [((24, 24), 6, 7)] y2.2 w.2 ∧ PrC w.2 b n c (e + 1 + 1 + 1 + 1) u ∧ ActR k y2.2 w.2 ∧ ∀ j, 2 ≤ j → j ≤ 7 → hI w.2 (31 + 3 * k) j = if j = 2 then v.toInt else if j = 3 then paV b n (paS b n (e + 1 + 1 + 1)) else hI y2.2 (31 + 3 * k) j) ?_ fun w hw => ?_
        · refine sat_call sk (sat_neg i1_ne_0 (sat_pos (p2.yes (j := 18) rfl k18') (sat_call qv2 (sat_pos (by rw [n_le, ev2, l_1439]; omega) ?_))))
          obtain ⟨-, -, -, t4, -, -⟩ := act_ref (ShC_core F2.1 hs) hk
          refine sat_gd rfl (sat_gd t4 (sat_let fun H5 q5 => ?_))
          have q5 : H5 = ea_wi y2.2 (31 + 3 * k) 2 v := q5
          have G5 : fq [(31, 48)] [] y2.2 H5 := q5 ▸ fq_wi (act_rng hk (by omega) (by omega))
          have p5 : PrC H5 b n c (e + 1 + 1 + 1) u := p2.kq (G5.kq rfl)
          obtain ⟨v7, qv7, ev7⟩ := c_value p5
          obtain ⟨-, -, -, t5, -, -⟩ := act_ref (ShC_core (F2.1 ▸ G5.1) hs) hk
          refine sat_call qv7 (sat_gd rfl (sat_gd t5 (sat_let fun H9' q9' => ?_)))
          have q9' : H9' = ea_wi H5 (31 + 3 * k) 3 v7 := q9'
          have G9' : fq [(31, 48)] [] y2.2 H9' := G5.tr (q9' ▸ fq_wi (act_rng hk (by omega) (by omega)))
          have p9 : PrC H9' b n c (e + 1 + 1 + 1) u := p2.kq (G9'.kq rfl)
          refine sat_bind (c_step p9 (by omega)) fun y11 h11 => sat_ret ⟨rfl, (G9'.up rfl rfl).tr (h11.1.up rfl rfl), h11.2, ?_, fun j j1 j2 => ?_⟩
          · exact ((q5 ▸ ActR.wi (by decide) (by decide) : ActR k y2.2 H5).tr (q9' ▸ ActR.wi (by decide) (by decide))).tr (ActR.of h11.1 rfl)
          · rw [(h11.1.kq rfl : keq [(31, 48)] [] _ _).W (31 + 3 * k) (inB_at (r := (31, 48)) List.mem_cons_self (by show 31 ≤ 31 + 3 * k; omega) (by show 31 + 3 * k ≤ 48; omega)) j, q9']
            by_cases z3 : j = 3
            · subst z3
              rw [hI_at, if_neg (by decide), if_pos rfl, ev7]
            · rw [hI_nk z3, q5]
              by_cases z2 : j = 2
              · subst z2
                rw [hI_at, if_pos rfl]
              · rw [hI_nk z2, if_neg z2, if_neg z3]
        · obtain ⟨w1, w2, w3, w4, w5⟩ := hw
          refine sat_gd (Or.inr w1) (sat_ret ⟨⟨(F2.up rfl rfl).tr (w2.up rfl rfl), fB7.tr ((z82.up rfl rfl).tr (G9.up rfl rfl)), a2.tr w4⟩, Or.inr ⟨rfl, e + 1 + 1 + 1 + 1, by omega, w3, z83.kq (G9.kq rfl), fun ru => ⟨fun j j1 j2 => ?_, ?_⟩⟩⟩)
          · have m8 : ∀ j, 2 ≤ j → j ≤ 7 → hI z8.2 326 (44 + j) = hI hB 326 (44 + j) := fun j j1 j2 => (((z52.tr (z72.up rfl rfl)).tr z82).kq rfl : keq [] [((326, 326), 46, 51)] _ _).V 326 (44 + j) (inP_iff.mpr ⟨_, List.mem_cons_self, ⟨by show 326 ≤ 326; decide, by show 326 ≤ 326; decide⟩, by show 46 ≤ 44 + j; omega, by show 44 + j ≤ 51; omega⟩)
            show hI w.2 (31 + 3 * k) j = hI H10 326 (44 + j)
            rw [w5 j j1 j2]
            by_cases z2 : j = 2
            · subst z2
              rw [if_pos rfl, q10, hI_nk (by decide), q9, hI_at, v6e, ev]
            by_cases z3 : j = 3
            · subst z3
              rw [if_neg (by decide), if_pos rfl, q10, hI_at]
              show _ = hI H9 326 61
              rw [q9, hI_nk (by decide), z84]
            · rw [if_neg z2, if_neg z3, q10, hI_nk (by omega), q9, hI_nk (by omega), m8 j j1 j2, (F2.kq rfl : keq [(31, 48)] [] _ _).W (31 + 3 * k) (inB_at (r := (31, 48)) List.mem_cons_self (by show 31 ≤ 31 + 3 * k; omega) (by show 31 + 3 * k ≤ 48; omega)) j]
              exact ru.1 j j1 j2
          · show 0 ≤ hI H10 326 51 ∧ hI H10 326 51 ≤ 9999
            rw [G9.I 326 rfl 51 rfl, z82.I 326 rfl 51 rfl, z72.I 326 rfl 51 rfl, z52.I 326 rfl 51 rfl]
            exact ru.2
    · refine sat_bind (m_needn z53 (x1 := 9) (j := 14) rfl (by decide) (by decide) k14) fun z hz => sat_pos hz.1 (sat_ret ?_)
      obtain ⟨y3, ey3, hy3⟩ := c_refuse p10 1
      have sk : qX6_skip 14 y10.2 = some (y3.1, y3.2) := by
        unfold qX6_skip BX6_skip_0
        rw [if_neg (p10.no (j := 14) rfl k14), ey3]
        exact gd_pos (Or.inl hy3.1)
      refine sat_bind (Q := fun w => w = ((0 : Int32), y3.2)) ?_ fun w hw => ?_
      · exact sat_call sk (sat_pos hy3.1 (sat_ret rfl))
      · subst hw
        have := ref_bad2 (v := 0) (w := 0) hy3 hz (by decide) (F10.up rfl rfl) fB5 a10
        exact sat_gd (Or.inl rfl) (sat_ret ⟨this.1, Or.inl ⟨rfl, this.2⟩⟩)
  -- the others
  have fin : ∀ (j : Nat) (Hc Hm : ea_H), 4 ≤ j → j ≤ 7 → Hc = ea_wi y10.2 (31 + 3 * k) j v → Hm = ea_wi z5.2 326 (44 + j) (ea_i z5.2 326 61) → RuF k hA hB ((1 : Int32), Hc) ((1 : Int32), Hm) ∧ RuO b n c k e u s hA hB ((1 : Int32), Hc) ((1 : Int32), Hm) := by
    intro j Hc Hm j4 j7 qc qm
    have Gc : fq [(31, 48)] [] y10.2 Hc := qc ▸ fq_wi (act_rng hk (by omega) (by omega))
    have Gm : fq [] [((326, 326), 46, 51)] z5.2 Hm := qm ▸ fq_wf (inP_iff.mpr ⟨_, List.mem_cons_self, ⟨by show 326 ≤ 326; decide, by show 326 ≤ 326; decide⟩, by show 46 ≤ 44 + j; omega, by show 44 + j ≤ 51; omega⟩)
    have m5 : ∀ j, 2 ≤ j → j ≤ 7 → hI z5.2 326 (44 + j) = hI hB 326 (44 + j) := fun j j1 j2 => (z52.kq rfl : keq [] [((326, 326), 46, 51)] _ _).V 326 (44 + j) (inP_iff.mpr ⟨_, List.mem_cons_self, ⟨by show 326 ≤ 326; decide, by show 326 ≤ 326; decide⟩, by show 46 ≤ 44 + j; omega, by show 44 + j ≤ 51; omega⟩)
    refine ⟨⟨(F10.up rfl rfl).tr (Gc.up rfl rfl), fB5.tr (Gm.up rfl rfl), a10.tr (qc ▸ ActR.wi (by omega) j7)⟩, Or.inr ⟨rfl, e + 1 + 1, by omega, p10.kq (Gc.kq rfl), z53.kq (Gm.kq rfl), fun ru => ⟨fun i i1 i2 => ?_, ?_⟩⟩⟩
    · show hI Hc (31 + 3 * k) i = hI Hm 326 (44 + i)
      by_cases z : i = j
      · subst z
        rw [qc, hI_at, qm, hI_at, ev]
        exact z54.symm
      · rw [qc, hI_nk z, qm, hI_nk (by omega), m5 i i1 i2, (F10.kq rfl : keq [(31, 48)] [] _ _).W (31 + 3 * k) (inB_at (r := (31, 48)) List.mem_cons_self (by show 31 ≤ 31 + 3 * k; omega) (by show 31 + 3 * k ≤ 48; omega)) i]
        exact ru.1 i i1 i2
    · show 0 ≤ hI Hm 326 51 ∧ hI Hm 326 51 ≤ 9999
      by_cases z : j = 7
      · subst z
        rw [qm, show 44 + 7 = 51 from rfl, hI_at]
        show 0 ≤ hI z5.2 326 61 ∧ hI z5.2 326 61 ≤ 9999
        rw [z54]
        exact vb
      · rw [qm, hI_nk (by omega), m5 7 (by omega) (by omega)]
        exact ru.2
  refine sat_neg (by rw [vK]; omega) (sat_sw (sat_neg (by rw [n_eq, e1, l_4]; omega) (uqX12_inner_76 ?_)))
  unfold BX12_inner_76
  by_cases K2 : paK b n (paS b n e) = 2
  · refine sat_pos (by rw [n_eq, e1, K2]; rfl) (sat_let fun Hm qm => ?_)
    refine uqX12_inner_89 ?_
    unfold BX12_inner_89
    refine sat_neg (by rw [n_eq, e1, K2]; decide) ?_
    refine uqX12_inner_103 ?_
    unfold BX12_inner_103
    refine sat_neg (by rw [n_eq, e1, K2]; decide) ?_
    refine uqX12_inner_117 ?_
    unfold BX12_inner_117
    refine sat_neg (by rw [n_eq, e1, K2]; decide) ?_
    refine sat_ret ?_
    refine sat_pos (by rw [vK, K2]; rfl) (sat_gd rfl (sat_gd r4 (sat_let fun Hc qc => sat_ret (fin 4 Hc Hm (by decide) (by decide) qc qm))))
  refine sat_neg (by rw [n_eq, e1, l_5]; omega) (uqX12_inner_89 ?_)
  unfold BX12_inner_89
  by_cases K3 : paK b n (paS b n e) = 3
  · refine sat_pos (by rw [n_eq, e1, K3]; rfl) (sat_let fun Hm qm => ?_)
    refine uqX12_inner_103 ?_
    unfold BX12_inner_103
    refine sat_neg (by rw [n_eq, e1, K3]; decide) ?_
    refine uqX12_inner_117 ?_
    unfold BX12_inner_117
    refine sat_neg (by rw [n_eq, e1, K3]; decide) ?_
    refine sat_ret ?_
    refine sat_neg (by rw [vK]; omega) (sat_pos (by rw [vK, K3]; rfl) (sat_gd rfl (sat_gd r4 (sat_let fun Hc qc => sat_ret (fin 5 Hc Hm (by decide) (by decide) qc qm)))))
  refine sat_neg (by rw [n_eq, e1, l_6]; omega) (uqX12_inner_103 ?_)
  unfold BX12_inner_103
  by_cases K4 : paK b n (paS b n e) = 4
  · refine sat_pos (by rw [n_eq, e1, K4]; rfl) (sat_let fun Hm qm => ?_)
    refine uqX12_inner_117 ?_
    unfold BX12_inner_117
    refine sat_neg (by rw [n_eq, e1, K4]; decide) ?_
    refine sat_ret ?_
    refine sat_neg (by rw [vK]; omega) (sat_neg (by rw [vK]; omega) (sat_pos (by rw [vK, K4]; rfl) (sat_gd rfl (sat_gd r4 (sat_let fun Hc qc => sat_ret (fin 6 Hc Hm (by decide) (by decide) qc qm))))))
  refine sat_neg (by rw [n_eq, e1, l_7]; omega) (uqX12_inner_117 ?_)
  unfold BX12_inner_117
  · have K5 : paK b n (paS b n e) = 5 := by omega
    refine sat_pos (by rw [n_eq, e1, K5]; rfl) (sat_let fun Hm qm => ?_)
    refine sat_ret ?_
    refine sat_neg (by rw [vK]; omega) (sat_neg (by rw [vK]; omega) (sat_neg (by rw [vK]; omega) ((sat_gd rfl (sat_gd r4 (sat_let fun Hc qc => sat_ret (fin 7 Hc Hm (by decide) (by decide) qc qm)))))))
end RL
