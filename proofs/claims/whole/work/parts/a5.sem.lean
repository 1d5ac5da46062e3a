/-! calls: tried, inForce -/
theorem tw_of2 {α : Type} {A : Option (α × ea_H)} {B : ea_H → Option (α × ea_H)} {R : ea_H → Prop} {Q : ea_H → α × ea_H → α × ea_H → Prop} (H : ∀ hB, R hB → sat A fun yA => sat (B hB) fun yB => Q hB yA yB) (r : sat A fun yA => R yA.2) : sat A fun yA => sat (B yA.2) fun yB => Q yA.2 yA yB := by
  obtain ⟨yA, pA, rA⟩ := r
  obtain ⟨yA', pA', h⟩ := H yA.2 rA
  have e : yA' = yA := Option.some.inj (pA'.symm.trans pA)
  rw [e] at h
  exact ⟨yA, pA, h⟩
def SLf (h : ea_H) (m : Nat) : Prop := ∀ l, l < m → LtE h h l
section TR
variable {hA hB hB' h h' : ea_H} {u k l m : Nat} {X : Nat → Nat → Int}
theorem LtE.hi (e : hiq hB hB') (c : LtE hA hB l) : LtE hA hB' l := by
  unfold LtE
  rw [e 364 l (by decide), e 367 l (by decide), e 368 l (by decide), e 370 l (by decide), e 371 l (by decide), e 378 l (by decide), e 372 l (by decide)]
  exact c
theorem AcE.hi (e : hiq hB hB') (c : AcE hA hB u k) : AcE hA hB' u k := c.cg (fun _ _ _ _ => rfl) (fun a h1 h2 => e a k (by omega)) (fun i _ => e 356 _ (by decide)) (fun i _ => e 357 _ (by decide)) (fun q _ => St_eq (fun j => e 358 j (by decide)) q) (fun _ _ => rfl) (Nat.le_refl _) c.2.1
theorem SLf.lq (hm : m ≤ 120) (s : keq [(364, 364), (367, 368), (370, 372), (378, 378)] [] h h') (e : ltE [0, 3, 4, 6, 7, 8, 9] h h') (c : SLf h m) : SLf h' m := fun l hl => by
  unfold LtE
  rw [e l 0 (by omega) (by decide), e l 3 (by omega) (by decide), e l 4 (by omega) (by decide), e l 6 (by omega) (by decide), e l 7 (by omega) (by decide), e l 8 (by omega) (by decide), e l 9 (by omega) (by decide), s.W 364 rfl, s.W 367 rfl, s.W 368 rfl, s.W 370 rfl, s.W 371 rfl, s.W 372 rfl, s.W 378 rfl]
  exact c l hl
theorem LtE.fqA {A : List (Nat × Nat)} {h1 h2 : ea_H} (f : fq A [] h1 h2) (w : inB A (76 + 2 * l) = false) (c : LtE h1 hB l) : LtE h2 hB l := by
  have o : ∀ j, hI h2 (76 + 2 * l) j = hI h1 (76 + 2 * l) j := fun j => f.C (76 + 2 * l) w rfl j
  unfold LtE
  rw [o, o, o, o, o, o, o]
  exact c
theorem LtE.fqB {h1 h2 : ea_H} (f : fq [(363, 363), (391, 391)] [] h1 h2) (c : LtE hA h1 l) : LtE hA h2 l := by
  unfold LtE
  rw [f.C 364 rfl rfl, f.C 367 rfl rfl, f.C 368 rfl rfl, f.C 370 rfl rfl, f.C 371 rfl rfl, f.C 378 rfl rfl, f.C 372 rfl rfl]
  exact c
theorem ls_tried (hs : ShC hA) (hk : k < 6) (ac : AcE hA hB u k) (lt : ∀ l, l < m → LtE hA hB l) (hm : m ≤ 120) (mA : hI hA 52 0 = m) (mB : hI hB 326 63 = m) {x1 : Int32} (e1 : x1.toInt = k) : ∀ (j i : Nat) (y : Int64) (xA xB : Int32) (h1 h2 : ea_H), i + j = m → xA.toInt = i → xB.toInt = i → fq [(29, 30)] [] hA h1 → fq [(363, 363), (391, 391)] [] hB h2 →
    sat (qX11_tried_22 (some (31 + 3 * k)) y xA h1) fun yA => sat (qX12_tried_23 x1 y xB h2) fun yB => yA.1 = yB.1 ∧ fq [(29, 30)] [] hA yA.2 ∧ fq [(363, 363), (391, 391)] [] hB yB.2 := by
  intro j
  induction j with
  | zero =>
    intro i y xA xB h1 h2 hj eA eB f1 f2
    have m1 : (ea_i h1 52 0).toInt = m := (f1.C 52 rfl rfl 0).trans mA
    have m2 : (ea_i h2 326 63).toInt = m := (f2.C 326 rfl rfl 63).trans mB
    refine uqX11_tried_22 ?_
    unfold BX11_tried_22
    refine sat_pos (by rw [n_le, m1, eA]; omega) (sat_ret ?_)
    refine uqX12_tried_23 ?_
    unfold BX12_tried_23
    exact sat_pos (by rw [n_le, m2, eB]; omega) (sat_ret ⟨rfl, f1, f2⟩)
  | succ j ih =>
    intro i y xA xB h1 h2 hj eA eB f1 f2
    have hi : i < m := by omega
    have m1 : (ea_i h1 52 0).toInt = m := (f1.C 52 rfl rfl 0).trans mA
    have m2 : (ea_i h2 326 63).toInt = m := (f2.C 326 rfl rfl 63).trans mB
    have hs1 := ShC_core f1.1 hs
    have icA : xA.toNatClampNeg = i := by
      rw [n_idx, eA]
      rfl
    have k1 := (ltr_ref hs1 (show i < 120 by omega)).1
    obtain ⟨wA, pA, wB, pB, h3, g1, g2⟩ := ls_charge (hA := h1) (hB := h2) (u := u) hs1 hk (show i < 120 by omega) (ac.kq (f1.kq rfl) (f2.kq rfl) hk) (((lt i hi).fqA f1 (inB_no (by omega))).fqB f2) eB e1
    refine uqX11_tried_22 ?_
    unfold BX11_tried_22
    rw [icA, k1]
    refine sat_neg (by rw [n_le, m1, eA]; omega) (sat_gd (vp80 eA (by omega)) (sat_call pA (sat_sub ?_)))
    refine sat_mono (ih (i + 1) _ (xA + 1) (xB + 1) wA.2 wB.2 (by omega) (n_inc eA (by omega)) (n_inc eB (by omega)) (f1.tr g1) (f2.tr g2)) fun yA hy => ?_
    refine uqX12_tried_23 ?_
    unfold BX12_tried_23
    refine sat_neg (by rw [n_le, m2, eB]; omega) (sat_call pB (sat_sub ?_))
    rw [← h3]
    exact hy
theorem call_tried (hs : ShC h) (rc : RC52 m X h) (rm : RM0 m X h) (ac : SAc h) (lf : SLf h m) (x1 : Int32) : tw (qX11_tried x1 h) (qX12_tried x1) fun h' => fq [(29, 30), (363, 363), (391, 391)] [] h h' := by
  obtain ⟨c, u, ⟨c1, c2, c3⟩, c4, c5⟩ := ac
  have v25 : ∀ hB, hiq h hB → (ea_i hB 326 25).toInt = c := fun hB e => (e 326 25 (by decide)).trans c2
  rcases c_actOf hs c1 c3 x1 with ⟨p, np⟩ | ⟨k, e1, hk, p⟩
  · unfold tw qX11_tried
    refine uqX11_tried_0 ?_
    unfold BX11_tried_0
    refine sat_call p (sat_pos rfl (sat_ret ?_))
    show sat (qX12_tried x1 h) _
    unfold qX12_tried
    refine uqX12_tried_0 ?_
    unfold BX12_tried_0
    obtain ⟨v, q, r⟩ := m_isIn x1 0 (ea_i h 326 25 - 1) h
    have v := v25 h (fun _ _ _ => rfl)
    rw [l_0, n_pred (by omega), v] at r
    refine sat_call q ?_
    rcases r with ⟨r1, r2⟩ | ⟨r1, r2⟩
    · exact sat_pos r1 (sat_ret ⟨rfl, fq_rfl _ _ _⟩)
    · omega
  · have H : ∀ hB, hiq h hB → sat (qX11_tried x1 h) fun yA => sat (qX12_tried x1 hB) fun yB => yA.1 = yB.1 ∧ fq [(29, 30)] [] h yA.2 ∧ fq [(363, 363), (391, 391)] [] hB yB.2 := fun hB e => by
      unfold qX11_tried
      refine uqX11_tried_0 ?_
      unfold BX11_tried_0
      refine sat_call p (sat_neg (by simp) ?_)
      refine sat_mono (ls_tried (hA := h) (hB := hB) hs (show k < 6 by omega) ((c5 k hk).hi e) (fun l hl => (lf l hl).hi e) rc.1.2 rc.1.1 ((e 326 63 (by decide)).trans rm.1.1) e1 m 0 0 0 0 h hB (by omega) rfl rfl (fq_rfl _ _ _) (fq_rfl _ _ _)) fun yA hy => ?_
      unfold qX12_tried
      refine uqX12_tried_0 ?_
      unfold BX12_tried_0
      obtain ⟨v, q, r⟩ := m_isIn x1 0 (ea_i hB 326 25 - 1) hB
      have vv := v25 hB e
      rw [l_0, n_pred (by omega), vv] at r
      refine sat_call q ?_
      rcases r with ⟨r1, r2⟩ | ⟨r1, r2⟩
      · omega
      · exact sat_neg (by rw [r1]; exact i1_ne_0) hy
    have R := tw_of2 (Q := fun hB yA yB => yA.1 = yB.1 ∧ fq [(29, 30)] [] h yA.2 ∧ fq [(363, 363), (391, 391)] [] hB yB.2) H (by
      obtain ⟨yA, pA, -, -, -, f, -⟩ := H h fun _ _ _ => rfl
      exact ⟨yA, pA, f.hiq rfl⟩)
    exact sat_mono R fun yA hy => sat_mono hy fun yB hz => ⟨hz.1, (hz.2.1.up rfl rfl).tr (hz.2.2.up rfl rfl)⟩
def ifF (h : ea_H) (k : Nat) (w : Int) : Int := if w = 0 then k else if w = 1 then hI h 348 k else if w = 2 then hI h 349 k else if w = 3 then hI h 350 k else if w = 4 then hI h 351 k else if w = 5 then hI h 352 k else if w = 6 then hI h 353 k else if w = 7 then hI h 354 k else -1
theorem nmO_cg {f g : Nat → Int} {d : Int} : ∀ c, (∀ k, k < c → f k = g k) → nmO f d c = nmO g d c := by
  intro c
  induction c with
  | zero => exact fun _ => rfl
  | succ c ih =>
    intro e
    unfold nmO
    rw [e c (Nat.lt_succ_self c), ih fun k hk => e k (by omega)]
theorem call_inForce (hs : ShC h) (ac : SAc h) (x1 x2 : Int32) : tw (qX11_inForce x1 x2 h) (qX12_inForce x1 x2) fun h' => h' = h := by
  obtain ⟨c, u, ⟨c1, c2, c3⟩, c4, c5⟩ := ac
  have eN : ∀ d : Int, nmO (fun k => hI h (31 + 3 * k) 0) d c = nmO (hI h 347) d c := fun d => nmO_cg c fun k hk => (c5 k hk).1.1
  obtain ⟨vm, pm, qm⟩ := m_actOn (h := h) c2 c3 (x1 := x1) rfl
  have ref : ∀ Q : Int32 × ea_H → Prop, (¬ (0 ≤ x1.toInt ∧ x1.toInt < 7) ∨ nmO (hI h 347) x1.toInt c = -1 → Q (-1, h)) → (∀ k : Nat, 0 ≤ x1.toInt ∧ x1.toInt < 7 → nmO (hI h 347) x1.toInt c = k → k < c → ∀ v : Int32, v.toInt = ifF h k x2.toInt → Q (v, h)) → sat (qX12_inForce x1 x2 h) Q := by
    intro Q hno hyes
    have K : ∀ s : Int32, (s.toInt = -1 → ¬ (0 ≤ x1.toInt ∧ x1.toInt < 7) ∨ nmO (hI h 347) x1.toInt c = -1) → (∀ k : Nat, s.toInt = k → (0 ≤ x1.toInt ∧ x1.toInt < 7) ∧ nmO (hI h 347) x1.toInt c = k) → -1 ≤ s.toInt → sat (qX12_inForce_16 x2 s h) Q := by
      intro s s1 s2 s3
      refine uqX12_inForce_16 ?_
      unfold BX12_inForce_16
      refine sat_ite (fun z => ?_) fun z => ?_
      · rw [n_eq, l_m1] at z
        exact sat_ret (hno (s1 z))
      rw [n_eq, l_m1] at z
      obtain ⟨k, ek⟩ : ∃ k : Nat, s.toInt = k := ⟨s.toInt.toNat, by omega⟩
      obtain ⟨t1, t2⟩ := s2 k ek
      have hk : k < c := by
        have := (nmO_b (hI h 347) x1.toInt c).2
        omega
      have g := vp80 ek (show k < 6 by omega)
      have ic : s.toNatClampNeg = k := by
        rw [n_idx, ek]
        rfl
      rw [ic]
      have fin := hyes k t1 t2 hk
      unfold ifF at fin
      refine sat_ite (fun w => ?_) fun w0 => ?_
      · exact sat_ret (fin s (by rw [if_pos w]; exact ek))
      rw [if_neg w0] at fin
      refine sat_ite (fun w => ?_) fun w1 => ?_
      · exact sat_gd g (sat_ret (fin _ (by rw [if_pos w]; rfl)))
      rw [if_neg w1] at fin
      refine sat_ite (fun w => ?_) fun w2 => ?_
      · exact sat_gd g (sat_ret (fin _ (by rw [if_pos w]; rfl)))
      rw [if_neg w2] at fin
      refine sat_ite (fun w => ?_) fun w3 => ?_
      · exact sat_gd g (sat_ret (fin _ (by rw [if_pos w]; rfl)))
      rw [if_neg w3] at fin
      refine sat_ite (fun w => ?_) fun w4 => ?_
      · exact sat_gd g (sat_ret (fin _ (by rw [if_pos w]; rfl)))
      rw [if_neg w4] at fin
      refine sat_ite (fun w => ?_) fun w5 => ?_
      · exact sat_gd g (sat_ret (fin _ (by rw [if_pos w]; rfl)))
      rw [if_neg w5] at fin
      refine sat_ite (fun w => ?_) fun w6 => ?_
      · exact sat_gd g (sat_ret (fin _ (by rw [if_pos w]; rfl)))
      rw [if_neg w6] at fin
      refine sat_ite (fun w => ?_) fun w7 => ?_
      · exact sat_gd g (sat_ret (fin _ (by rw [if_pos w]; rfl)))
      rw [if_neg w7] at fin
      exact sat_ret (fin _ rfl)
    unfold qX12_inForce
    refine uqX12_inForce_0 ?_
    unfold BX12_inForce_0
    obtain ⟨vd, pd, qd⟩ := m_isDay x1 h
    refine sat_call pd ?_
    rcases qd with ⟨q1, q2⟩ | ⟨q1, q2⟩
    · exact sat_pos q1 (K (-1) (fun _ => Or.inl q2) (fun k e => by rw [l_m1] at e; omega) (by rw [l_m1]; decide))
    · refine sat_neg (by rw [q1]; exact i1_ne_0) (sat_call pm (K vm (fun z => Or.inr (qm.symm.trans z)) (fun k e => ⟨q2, qm.symm.trans e⟩) ?_))
      have := (nmO_b (hI h 347) x1.toInt c).1
      omega
  have no : (¬ (0 ≤ x1.toInt ∧ x1.toInt < 7) ∨ nmO (hI h 347) x1.toInt c = -1) → sat (some ((-1 : Int32), h)) fun y => sat (qX12_inForce x1 x2 y.2) fun z => y.1 = z.1 ∧ z.2 = h := fun hn => sat_ret (ref _ (fun _ => ⟨rfl, rfl⟩) fun k a b hk v hv => by
    rcases hn with w | w
    · exact absurd a w
    · omega)
  unfold tw qX11_inForce BX11_inForce_0
  refine sat_ite (fun z => ?_) fun z => ?_
  · rw [n_lt, l_0] at z
    exact no (Or.inl (by omega))
  rw [n_lt, l_0] at z
  refine sat_eti (fun w => ?_) fun w => ?_
  · rw [n_lt, l_7] at w
    exact no (Or.inl (by omega))
  rw [n_lt, l_7] at w
  obtain ⟨vn, pn, qn⟩ := c_numberOn hs c1 c3 (x1 := x1) rfl
  rw [eN] at qn
  refine sat_call pn ?_
  have nb := nmO_b (hI h 347) x1.toInt c
  rcases c_actOf hs c1 c3 vn with ⟨p, np⟩ | ⟨k, e1, hk, p⟩
  · refine sat_call p (sat_pos rfl (no (Or.inr (by omega))))
  refine sat_call p (sat_neg (by simp) ?_)
  obtain ⟨a0, a1, a2, a3, a4, a5, a6, a7, -⟩ := (c5 k hk).1
  obtain ⟨r1, r2, r3, r4, r5, r6⟩ := act_ref hs (show k < 6 by omega)
  have fin : ∀ v : Int32, v.toInt = ifF h k x2.toInt → sat (some (v, h)) fun y => sat (qX12_inForce x1 x2 y.2) fun z => y.1 = z.1 ∧ z.2 = h := fun v hv => sat_ret (ref _ (fun q => by
    rcases q with q | q
    · omega
    · omega) fun k' a b hk' v' hv' => ⟨n_eq.mpr (hv.trans (by rw [hv', show k' = k by omega])), rfl⟩)
  unfold ifF at fin
  refine sat_ite (fun w => ?_) fun w0 => ?_
  · exact fin vn (by rw [if_pos w]; exact e1)
  rw [if_neg w0] at fin
  refine sat_ite (fun w => ?_) fun w1 => ?_
  · exact sat_gd rfl (sat_gd r4 (fin _ (by rw [if_pos w]; exact a1)))
  rw [if_neg w1] at fin
  refine sat_ite (fun w => ?_) fun w2 => ?_
  · exact sat_gd rfl (sat_gd r4 (fin _ (by rw [if_pos w]; exact a2)))
  rw [if_neg w2] at fin
  refine sat_ite (fun w => ?_) fun w3 => ?_
  · exact sat_gd rfl (sat_gd r4 (fin _ (by rw [if_pos w]; exact a3)))
  rw [if_neg w3] at fin
  refine sat_ite (fun w => ?_) fun w4 => ?_
  · exact sat_gd rfl (sat_gd r4 (fin _ (by rw [if_pos w]; exact a4)))
  rw [if_neg w4] at fin
  refine sat_ite (fun w => ?_) fun w5 => ?_
  · exact sat_gd rfl (sat_gd r4 (fin _ (by rw [if_pos w]; exact a5)))
  rw [if_neg w5] at fin
  refine sat_ite (fun w => ?_) fun w6 => ?_
  · exact sat_gd rfl (sat_gd r4 (fin _ (by rw [if_pos w]; exact a6)))
  rw [if_neg w6] at fin
  refine sat_ite (fun w => ?_) fun w7 => ?_
  · exact sat_gd rfl (sat_gd r4 (fin _ (by rw [if_pos w]; exact a7)))
  rw [if_neg w7] at fin
  exact fin _ rfl
end TR
