/-! calls: where -/
section WH
variable {T : Nat → Nat → Nat → Nat} {L : List Nat} {G : Nat → Nat → Int} {m : Nat} {X : Nat → Nat → Int} {h : ea_H}
theorem fstB_le {mi mj p q : Nat} (hq : fstB L mi q) (hp : fstB L mj p) (h : mi ≤ mj) : q ≤ p := by
  apply Nat.not_lt.mp
  intro z
  have a := hq.1
  have := (hq.2 p (by omega)).mp z
  have := (hp.2 p (by omega)).mpr (by omega)
  omega
theorem ldK_srt (hL : tList T L) (M : Nat → Bool) (p : Nat) : (ldK L M p).Pairwise (· < ·) := hL.1.sublist (List.filter_sublist.trans (List.take_sublist _ _))
/-- the rows that came up to a minute -/
theorem row_at (hL : tList T L) {pf fr : Nat → Int} {M : Nat → Bool} {p q l t : Nat} (hqp : q ≤ p) (hq : fstB L t q) (ld : Ld1 T L G pf fr M p X l) (p1 : pf l ≤ t) : X 8 (1000 * l + (ldK L M q).length) ≤ t ∧ (ldK L M q).length ≤ (ldK L M p).length ∧ ∀ r, (ldK L M q).length < r → r ≤ (ldK L M p).length → (t : Int) < X 8 (1000 * l + r) := by
  obtain ⟨d1, d2, ⟨d3, d4, d5⟩, d6, d7, d8⟩ := ld
  obtain ⟨R, hR⟩ := ldK_pre (L := L) (M := M) hqp
  have hle : (ldK L M q).length ≤ (ldK L M p).length := by
    rw [hR, List.length_append]
    omega
  have hgd : ∀ j, j < (ldK L M q).length → (ldK L M p).getD j 0 = (ldK L M q).getD j 0 := by
    intro j hj
    rw [hR, List.getD_eq_getElem?_getD, List.getElem?_append_left hj, ← List.getD_eq_getElem?_getD]
  refine ⟨?_, hle, fun r h1 h2 => ?_⟩
  · by_cases z : (ldK L M q).length = 0
    · rw [z, Nat.add_zero, d3]
      exact p1
    · have hk : (ldK L M q).length - 1 < (ldK L M q).length := by omega
      obtain ⟨a1, -⟩ := d6 _ (show (ldK L M q).length - 1 < (ldK L M p).length by omega)
      rw [hgd _ hk] at a1
      have hmem2 : (ldK L M q).getD ((ldK L M q).length - 1) 0 ∈ L.take q := (List.mem_filter.mp (getD_mem hk)).1
      obtain ⟨j, j1, j2, j3⟩ := take_at hmem2
      have := (hq.2 j j2).mp j1
      rw [j3] at this
      rw [show (ldK L M q).length = 1 + ((ldK L M q).length - 1) by omega, a1]
      omega
  · have hk : r - 1 < (ldK L M p).length := by omega
    obtain ⟨a1, -⟩ := d6 _ hk
    rw [show r = 1 + (r - 1) by omega, a1]
    apply Classical.byContradiction
    intro w
    have hmem := getD_mem hk
    generalize hx : (ldK L M p).getD (r - 1) 0 = x at *
    obtain ⟨hm1, hm2⟩ := List.mem_filter.mp hmem
    obtain ⟨j, j1, j2, j3⟩ := take_at hm1
    have hjq : j < q := (hq.2 j j2).mpr (by rw [j3]; omega)
    have hin : x ∈ ldK L M q := by
      refine List.mem_filter.mpr ⟨?_, hm2⟩
      rw [List.mem_take_iff_getElem]
      refine ⟨j, by omega, ?_⟩
      rw [← j3, List.getD_eq_getElem?_getD, List.getElem?_eq_getElem j2]
      rfl
    obtain ⟨k, hk2, e2⟩ := List.getElem_of_mem hin
    have e3 : (ldK L M q).getD k 0 = x := by
      rw [List.getD_eq_getElem?_getD, List.getElem?_eq_getElem hk2]
      exact e2
    have := getD_inj (ldK_srt hL M p) hk (show k < (ldK L M p).length by omega) (by rw [hx, hgd k hk2, e3])
    omega
theorem call_where {n : Nat} (hs : ShC h) (bs : SBas h n) (b : STb h T) (wc : SWyC h T) (sb : SBg h n T m X G) (sl : SLs h m) (sh : SBh h m X) (x1 x2 x3 : Int32) : tw (qX11_where x1 x2 x3 h) (qX12_where x1 x2 x3) fun h' => fq [(13, 17)] [] h h' ∧ SWyC h' T := by
  obtain ⟨b1, b2, b3, b4, b5, b6⟩ := bs
  obtain ⟨ok, cC, cM⟩ := b
  obtain ⟨hG, gc, gm, rc, rn, rm, df, L, p, hL, hp, hX, hld⟩ := sb
  have hm := rm.1.2
  have rm0 := rm.1.1
  have h9 := t_len2 ok hL
  rcases c_letterOf x1 hs rc.1.1 rc.1.2 with ⟨pl, np⟩ | ⟨l, e1, hl, pl⟩
  · unfold tw qX11_where BX11_where_0
    refine sat_call pl (sat_pos rfl (sat_ret ?_))
    unfold qX12_where
    refine uqX12_where_0 ?_
    unfold BX12_where_0
    obtain ⟨v1, q1, s1⟩ := m_isLetterOf x1 (h := h) (by omega)
    refine sat_call q1 ?_
    rcases s1 with ⟨r1, s1⟩ | ⟨r1, s1⟩
    · exact sat_pos r1 (sat_ret ⟨rfl, fq_rfl _ _ _, wc⟩)
    refine sat_neg (by rw [r1]; exact i1_ne_0) ?_
    dsimp only
    exact absurd s1 (by omega)
  obtain ⟨k1, k2⟩ := ltr_ref hs (show l < 120 by omega)
  have g1 := vp80 e1 (show l < 120 by omega)
  have ic : x1.toNatClampNeg = l := by
    rw [n_idx, e1]
    rfl
  obtain ⟨ld, p0, p1⟩ := hld l hl
  obtain ⟨⟨f0, f1⟩, ht⟩ := sh l hl
  have rb : RwB X l (hI h 326 0) := row_b ok hL b2 hp ld (hX l hl) p0 p1 f0 f1 ht
  obtain ⟨-, -, -, -, ⟨w7, w8⟩, -⟩ := hX l hl
  have h7 : 1 ≤ X 7 l ∧ X 7 l ≤ 1000 := by
    have := hp.1
    dsimp only at w8
    split at w8 <;> omega
  have v16 : (ea_i h (76 + 2 * l) 16).toInt = X 7 l := (rn.1 l hl).1
  have v6 : (ea_i h (76 + 2 * l) 6).toInt = hI h (76 + 2 * l) 6 := rfl
  have e370 : hI h 370 l = hI h (76 + 2 * l) 6 := ((sl l hl).1 6 (by decide)).symm
  have ref : ∀ (h1 : ea_H) (Q : Int32 × ea_H → Prop), hiq h h1 → (¬ (hI h (76 + 2 * l) 6 ≤ x2.toInt ∧ x2.toInt ≤ hI h 326 0) ∨ ¬ (0 ≤ x3.toInt ∧ x3.toInt ≤ 1) → Q (-1, h1)) → ((hI h (76 + 2 * l) 6 ≤ x2.toInt ∧ x2.toInt ≤ hI h 326 0) → (0 ≤ x3.toInt ∧ x3.toInt ≤ 1) → ∃ r : Nat, (r : Int) < X 7 l ∧ X 8 (1000 * l + r) ≤ x2.toInt ∧ (∀ r2 : Nat, r < r2 → (r2 : Int) < X 7 l → x2.toInt < X 8 (1000 * l + r2)) ∧ ∀ v : Int32, v.toInt = (if x3.toInt = 0 then X 9 (1000 * l + r) else X 10 (1000 * l + r)) → Q (v, h1)) → sat (qX12_where x1 x2 x3 h1) Q := by
    intro h1 Q hq hno hyes
    have rm1 := RM0.hi hq rm
    have r0 := rm1.1.1
    have v7 : (ea_i h1 376 l).toInt = X 7 l := (rm1.2.1 l).2.2.2.2.2.1
    have v370 : (ea_i h1 370 l).toInt = hI h (76 + 2 * l) 6 := (hq 370 l (by decide)).trans e370
    have v0 : (ea_i h1 326 0).toInt = hI h 326 0 := hq 326 0 (by decide)
    unfold qX12_where
    refine uqX12_where_0 ?_
    unfold BX12_where_0
    obtain ⟨v1, q1, s1⟩ := m_isLetterOf x1 (h := h1) (by omega)
    refine sat_call q1 ?_
    rcases s1 with ⟨r1, s1⟩ | ⟨r1, s1⟩
    · exact sat_pos r1 (absurd s1 (by omega))
    refine sat_neg (by rw [r1]; exact i1_ne_0) ?_
    dsimp only
    rw [ic]
    refine sat_gd g1 ?_
    obtain ⟨v3, q3, s3⟩ := m_isIn x2 (ea_i h1 370 l) (ea_i h1 326 0) h1
    rw [v370, v0] at s3
    refine sat_call q3 ?_
    rcases s3 with ⟨r3, s3⟩ | ⟨r3, s3⟩
    · exact sat_pos r3 (sat_ret (hno (Or.inl s3)))
    refine sat_neg (by rw [r3]; exact i1_ne_0) ?_
    obtain ⟨v4, q4, s4⟩ := m_isIn x3 0 1 h1
    rw [l_0, l_1] at s4
    refine sat_call q4 ?_
    rcases s4 with ⟨r4, s4⟩ | ⟨r4, s4⟩
    · exact sat_pos r4 (sat_ret (hno (Or.inr s4)))
    refine sat_neg (by rw [r4]; exact i1_ne_0) (sat_gd g1 (sat_let fun v6 hv6 => ?_))
    dsimp only at hv6 ⊢
    have ev6 : v6.toInt = X 7 l - 1 := by rw [hv6, n_pred (by omega), v7]
    obtain ⟨r, hr, hr8, hgt, hQ⟩ := hyes s3 s4
    have W : ∀ (j : Nat) (x4 : Int32), x4.toInt = ((r + j : Nat) : Int) → ((r + j : Nat) : Int) < X 7 l → sat (qX12_where_46 x1 x2 x3 x4 h1) Q := by
      intro j
      induction j with
      | zero =>
        intro x4 e4 hj
        have e5 : ((1000 : Int32) * x1 + x4).toInt = ((1000 * l + r : Nat) : Int) := by
          rw [n_add, n_mul, e1, e4, l_1000, n_bm (z := 1000 * (l : Int)) (by omega) (by omega), n_bm (by omega) (by omega)]
          omega
        have ic5 : ((1000 : Int32) * x1 + x4).toNatClampNeg = 1000 * l + r := by
          rw [n_idx, e5]
          rfl
        have g5 := vp80 e5 (show 1000 * l + r < 120000 by omega)
        obtain ⟨-, -, -, -, -, -, a8, a9, a10⟩ := rm1.2.1 (1000 * l + r)
        refine uqX12_where_46 ?_
        unfold BX12_where_46
        rw [ic5]
        refine sat_gd g5 (sat_pos (by rw [n_le, hI_eq, a8]; exact hr8) (sat_ite (fun z => ?_) fun z => ?_))
        · rw [n_eq, l_0] at z
          exact sat_gd g5 (sat_ret (hQ _ (by rw [if_pos z]; exact a9)))
        · rw [n_eq, l_0] at z
          exact sat_gd g5 (sat_ret (hQ _ (by rw [if_neg z]; exact a10)))
      | succ j ih =>
        intro x4 e4 hj
        have e5 : ((1000 : Int32) * x1 + x4).toInt = ((1000 * l + (r + (j + 1)) : Nat) : Int) := by
          rw [n_add, n_mul, e1, e4, l_1000, n_bm (z := 1000 * (l : Int)) (by omega) (by omega), n_bm (by omega) (by omega)]
          omega
        have ic5 : ((1000 : Int32) * x1 + x4).toNatClampNeg = 1000 * l + (r + (j + 1)) := by
          rw [n_idx, e5]
          rfl
        have g5 := vp80 e5 (show 1000 * l + (r + (j + 1)) < 120000 by omega)
        obtain ⟨-, -, -, -, -, -, a8, -⟩ := rm1.2.1 (1000 * l + (r + (j + 1)))
        have hb := hgt (r + (j + 1)) (by omega) hj
        refine uqX12_where_46 ?_
        unfold BX12_where_46
        rw [ic5]
        refine sat_gd g5 (sat_neg (by rw [n_le, hI_eq, a8]; omega) (ih _ ?_ (by omega)))
        rw [n_add, e4, show ((-1 : Int32)).toInt = -1 from rfl, n_bm (by omega) (by omega)]
        omega
    exact W (X 7 l - 1 - r).toNat v6 (by omega) (by omega)
  have no : (¬ (hI h (76 + 2 * l) 6 ≤ x2.toInt ∧ x2.toInt ≤ hI h 326 0) ∨ ¬ (0 ≤ x3.toInt ∧ x3.toInt ≤ 1)) → sat (some ((-1 : Int32), h)) fun y => sat (qX12_where x1 x2 x3 y.2) fun z => y.1 = z.1 ∧ fq [(13, 17)] [] h z.2 ∧ SWyC z.2 T := fun hn => sat_ret (ref h _ (fun _ _ _ => rfl) (fun _ => ⟨rfl, fq_rfl _ _ _, wc⟩) fun u1 u2 => hn.elim (fun w => absurd u1 w) fun w => absurd u2 w)
  unfold tw qX11_where BX11_where_0
  refine sat_call pl (sat_neg (by simp) (sat_gd rfl (sat_gd k2 (sat_ite (fun c1 => ?_) fun c1 => ?_))))
  · rw [n_lt] at c1
    have c1 : x2.toInt < hI h (76 + 2 * l) 6 := c1
    exact no (Or.inl (by omega))
  rw [n_lt] at c1
  have c1 : ¬ x2.toInt < hI h (76 + 2 * l) 6 := c1
  refine sat_ite (fun c2 => ?_) fun c2 => ?_
  · rw [n_le] at c2
    have c2 : x2.toInt ≤ hI h 0 14 := c2
    obtain ⟨t, et⟩ : ∃ t : Nat, x2.toInt = t := ⟨x2.toInt.toNat, by omega⟩
    obtain ⟨q, hq⟩ := fstB_ex (t_wL ok hL) t
    have hqp := fstB_le hq hp (by omega)
    have ei : ((ea_i h (76 + 2 * l) 16) - (1 : Int32)).toInt = (((X 7 l - 1).toNat : Nat) : Int) := by
      rw [n_pred (by omega), v16]
      omega
    refine sat_gd rfl (sat_gd k2 (sat_bind (c_rowOf ok hL hs cC wc gc hG hm rn hl b3 ld rb hqp hq p0 (by omega) (by omega) f0 f1 h7 e1 ei et) fun w4 hw4 => ?_))
    obtain ⟨⟨f4, wc4⟩, hv⟩ := hw4
    obtain ⟨y1, y2, y3⟩ := row_at hL hqp hq ld (by omega)
    have d2 := ld.2.1
    have hrow : ∃ r : Nat, (r : Int) < X 7 l ∧ w4.1.toInt = rwV X l r ∧ X 8 (1000 * l + r) ≤ t ∧ ∀ r2 : Nat, r < r2 → (r2 : Int) < X 7 l → (t : Int) < X 8 (1000 * l + r2) := by
      rcases hv with ⟨u1, u2, u3⟩ | ⟨u1, u3⟩
      · exact ⟨_, by omega, u3, u2, fun r2 h1 h2 => by omega⟩
      · refine ⟨_, ?_, u3, ?_, fun r2 h1 h2 => ?_⟩
        · split at d2 <;> omega
        · rw [Nat.min_eq_right (by split at d2 <;> omega)]
          exact y1
        · rw [Nat.min_eq_right (by split at d2 <;> omega)] at h1
          by_cases z : r2 ≤ (ldK L (fun c => mkB h c l) p).length
          · exact y3 r2 h1 z
          · have er : (X 7 l - 1).toNat = r2 := by split at d2 <;> omega
            rw [er] at u1
            apply Classical.byContradiction
            intro w
            exact u1 ⟨by omega, by omega⟩
    obtain ⟨r, hr, hval, hr8, hgt⟩ := hrow
    obtain ⟨a8, a9, a10⟩ := rb r hr
    unfold rwV at hval
    have hq4 : hiq h w4.2 := f4.hiq rfl
    have fin : ∀ v : Int32, ((0 ≤ x3.toInt ∧ x3.toInt ≤ 1) → v.toInt = (if x3.toInt = 0 then X 9 (1000 * l + r) else X 10 (1000 * l + r))) → (¬ (0 ≤ x3.toInt ∧ x3.toInt ≤ 1) → v = -1) → sat (some (v, w4.2)) fun y => sat (qX12_where x1 x2 x3 y.2) fun z => y.1 = z.1 ∧ fq [(13, 17)] [] h z.2 ∧ SWyC z.2 T := by
      intro v ev en
      refine sat_ret (ref w4.2 _ hq4 (fun z => ⟨en (z.elim (fun w => absurd ⟨by omega, by omega⟩ w) id), f4, wc4⟩) fun _ s4 => ⟨r, hr, by omega, fun r2 h1 h2 => by have := hgt r2 h1 h2; omega, fun u eu => ⟨n_eq.mpr ((ev s4).trans eu.symm), f4, wc4⟩⟩)
    refine sat_ite (fun z => ?_) fun z0 => ?_
    · obtain ⟨v, pv, qv⟩ := c_stOf hval a8.1 a9.1 a9.2 a10.1 a10.2 w4.2
      exact sat_call pv (fin v (fun _ => by rw [if_pos z]; exact qv) fun w => absurd ⟨by omega, by omega⟩ w)
    refine sat_ite (fun z => ?_) fun z1 => ?_
    · obtain ⟨v, pv, qv⟩ := c_plOf hval a8.1 a9.1 a9.2 a10.1 a10.2 w4.2
      exact sat_call pv (fin v (fun _ => by rw [if_neg z0]; exact qv) fun w => absurd ⟨by omega, by omega⟩ w)
    exact fin (-1) (fun w => by omega) fun _ => rfl
  · rw [n_le] at c2
    have c2 : ¬ x2.toInt ≤ hI h 0 14 := c2
    exact no (Or.inl (by omega))
end WH
