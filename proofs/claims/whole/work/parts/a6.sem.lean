/-! a letter's price, by both side by side -/
section PRC
variable {hA hB h h' : ea_H} {u k l c : Nat}
theorem lt_out {l k a b : Nat} (h : k < a ∨ b < k) : inP [((76, 315), a, b)] (76 + 2 * l) k = false := by
  rw [Bool.eq_false_iff]
  intro z
  obtain ⟨q, q1, ⟨q2, q3⟩, q4, q5⟩ := inP_iff.mp z
  rw [List.mem_singleton.mp q1] at q4 q5
  dsimp only at q4 q5
  omega
theorem LtE.wide {h1 h2 : ea_H} (f : fq [(29, 30)] [((76, 315), 10, 14)] h1 h2) (c : LtE h1 hB l) : LtE h2 hB l := by
  have o : ∀ j, j < 10 → hI h2 (76 + 2 * l) j = hI h1 (76 + 2 * l) j := fun j hj => f.I (76 + 2 * l) (inB_no (by omega)) j (lt_out (Or.inl hj))
  unfold LtE
  rw [o 0 (by decide), o 3 (by decide), o 4 (by decide), o 6 (by decide), o 7 (by decide), o 8 (by decide), o 9 (by decide)]
  exact c
theorem LtE.fqB2 {h1 h2 : ea_H} (f : fq [(363, 363), (373, 374), (379, 379), (391, 391)] [] h1 h2) (c : LtE hA h1 l) : LtE hA h2 l := by
  unfold LtE
  rw [f.C 364 rfl rfl, f.C 367 rfl rfl, f.C 368 rfl rfl, f.C 370 rfl rfl, f.C 371 rfl rfl, f.C 378 rfl rfl, f.C 372 rfl rfl]
  exact c
/-- what both know of a letter's charge -/
def PrE (hA h2 : ea_H) (l : Nat) (s : Int) : Prop := hI hA (76 + 2 * l) 10 = hI h2 374 l ∧ hI hA (76 + 2 * l) 11 = hI h2 373 l ∧ hI hA (76 + 2 * l) 12 = (if hI h2 379 l = 0 then s else -1) ∧ (hI hA (76 + 2 * l) 13 = 0 ↔ hI h2 379 l = 0) ∧ ((hI h2 373 l = -1 ∧ hI hA (76 + 2 * l) 14 = 3) ∨ ∃ a : Nat, hI h2 373 l = a ∧ (a < 6 ∧ (a : Int) < hI h2 326 25) ∧ hI h2 354 a = hI hA (76 + 2 * l) 14 ∧ 0 ≤ hI h2 354 a ∧ hI h2 354 a ≤ 9999)
theorem frV_01 (hB : ea_H) (l k : Nat) : frV hB l k = 0 ∨ frV hB l k = 1 := by
  unfold frV
  split
  · exact Or.inr rfl
  · exact Or.inl rfl
theorem frV_cg {h1 h2 : ea_H} (f : fq [(363, 363), (373, 374), (379, 379), (391, 391)] [] h1 h2) : frV h2 l k = frV h1 l k := by
  unfold frV
  rw [f.C 364 rfl rfl, f.C 372 rfl rfl, f.C 351 rfl rfl]
theorem ls_price (hs : ShC hA) (hl : l < 120) (lt : LtE hA hB l) (cA : hI hA 23 1 = c) (cB : hI hB 326 25 = c) (hc : c ≤ 6) (ac : ∀ k, k < c → AcE hA hB u k) (now : hI hB 326 0 = hI hB 370 l) (n0 : 0 ≤ hI hB 370 l) (z10 : hI hA (76 + 2 * l) 10 = 0) (z12 : hI hA (76 + 2 * l) 12 = -1) (z13 : hI hA (76 + 2 * l) 13 = 0) (z14 : hI hA (76 + 2 * l) 14 = 3) {x2 x6 x7 x8 : Int32} (e7 : x7.toInt = l) (e8 : x7 < x8) :
    sat (qX8_price (some (76 + 2 * l)) hA) fun yA => fq [(29, 30)] [((76, 315), 10, 14)] hA yA.2 ∧ (∀ a k, a ≠ 76 + 2 * l → a ≠ 29 → a ≠ 30 → hI yA.2 a k = hI hA a k) ∧ ∀ Q : Int32 × ea_H → Prop, (∀ (h2 : ea_H) (s0 : Int32), fq [(363, 363), (373, 374), (379, 379), (391, 391)] [] hB h2 → (∀ j, j ≠ l → hI h2 373 j = hI hB 373 j ∧ hI h2 374 j = hI hB 374 j ∧ hI h2 379 j = hI hB 379 j) → PrE yA.2 h2 l s0.toInt → sat (qX12_post_390 x2 x7 s0 x7 h2) Q) → sat (qX12_post_190 x2 x6 x7 x8 hB) Q := by
  have g7 := vp80 e7 hl
  have ic7 : x7.toNatClampNeg = l := by
    rw [n_idx, e7]
    rfl
  have rf : ∀ {h : ea_H}, ShC h → 76 + 2 * l < ea_n h ∧ ea_c h (76 + 2 * l) = 5 := fun hs => (ltr_ref hs hl).2
  have n76 : 76 + 2 * l ≠ 29 ∧ 76 + 2 * l ≠ 30 := by omega
  have v6 : ea_i hA (76 + 2 * l) 6 = ea_i hB 370 l := n_eq.mpr lt.2.2.2.1
  have pd : qX5_dayOf (76 + 2 * l) hA = some (ea_i hB 370 l / (1440 : Int32), hA) := by
    unfold qX5_dayOf BX5_dayOf_0
    rw [gd_pos (rf hs), v6]
  have eN : ∀ d : Int, nmO (fun k => hI hA (31 + 3 * k) 0) d c = nmO (hI hB 347) d c := fun d => nmO_cg c fun k hk => (ac k hk).1.1
  obtain ⟨vn, pn, qn⟩ := c_numberOn hs cA hc (x1 := ea_i hB 370 l / (1440 : Int32)) rfl
  rw [eN] at qn
  have vday : ea_i hB 326 0 / (1440 : Int32) = ea_i hB 370 l / (1440 : Int32) := by rw [show ea_i hB 326 0 = ea_i hB 370 l from n_eq.mpr now]
  obtain ⟨vm, pm, qm⟩ := m_actOn (h := hB) cB hc (x1 := ea_i hB 326 0 / (1440 : Int32)) rfl
  rw [vday] at qm
  have nb := nmO_b (hI hB 347) (ea_i hB 370 l / (1440 : Int32)).toInt c
  have evm : vm = vn := n_eq.mpr (qm.trans qn.symm)
  -- the reference up to the label 320
  have H42 : ∀ H, H = ea_wi hB 373 l vm → fq [(363, 363), (373, 374), (379, 379), (391, 391)] [] hB H := fun H q => q ▸ fq_wi rfl
  unfold qX8_price BX8_price_0
  refine sat_gd rfl (sat_gd (rf hs) (sat_call pd (sat_call pn (sat_gd rfl (sat_gd (rf hs) (sat_let fun H7 q7 => ?_))))))
  have q7 : H7 = ea_wi hA (76 + 2 * l) 11 vn := q7
  have f7 : fq [(29, 30)] [((76, 315), 10, 14)] hA H7 := q7 ▸ fq_wf (lt_in l 11 10 14 hl (by decide) (by decide) List.mem_cons_self)
  have o7 : ∀ a k, a ≠ 76 + 2 * l → hI H7 a k = hI hA a k := fun a k ha => by rw [q7, hI_ne ha]
  have s7 := ShC_core f7.1 hs
  have r7 : ea_i H7 (76 + 2 * l) 11 = vn := by rw [q7, i_eq]
  refine sat_gd rfl (sat_gd (rf s7) ?_)
  rw [show ea_i H7 (Option.getD (some (76 + 2 * l)) 0) 11 = vn from r7]
  rcases c_actOf s7 ((o7 23 1 (by omega)).trans cA) hc vn with ⟨p, np⟩ | ⟨k, ek, hk, p⟩
  · -- no act
    have e1 : vn.toInt = -1 := by omega
    refine sat_call p (sat_pos rfl (sat_ret ⟨f7, fun a k h1 _ _ => o7 a k h1, fun Q K => ?_⟩))
    refine uqX12_post_190 ?_
    unfold BX12_post_190
    rw [ic7]
    refine sat_pos e8 (sat_call pm (sat_gd g7 (sat_let fun H q => sat_gd g7 ?_)))
    have q : H = ea_wi hB 373 l vm := q
    have i73 : ea_i H 373 l = vm := by rw [q, i_eq]
    rw [i73]
    refine sat_pos (by rw [evm, n_eq, l_m1]; exact e1) ?_
    refine uqX12_post_320 ?_
    unfold BX12_post_320
    rw [ic7]
    refine sat_gd g7 (sat_gd (Or.inl rfl) (sat_let fun H66 q66 => sat_gd g7 ?_))
    have j73 : ea_i H66 373 l = vm := by rw [q66, i_ne (by decide), i73]
    rw [j73]
    refine sat_pos (by rw [evm, n_eq, l_m1]; exact e1) ?_
    refine uqX12_post_355 ?_
    unfold BX12_post_355
    rw [ic7]
    refine sat_gd g7 (sat_let fun H72 q72 => sat_gd g7 ?_)
    have k73 : ea_i H72 373 l = vm := by rw [q72, i_ne (by decide), j73]
    rw [k73]
    refine sat_pos (by rw [evm, n_eq, l_m1]; exact e1) ?_
    have F : fq [(363, 363), (373, 374), (379, 379), (391, 391)] [] hB H72 := (H42 H q).tr ((q66 ▸ fq_wi rfl : fq [(363, 363), (373, 374), (379, 379), (391, 391)] [] H H66).tr (q72 ▸ fq_wi rfl))
    have v73 : hI H72 373 l = -1 := by
      show (ea_i H72 373 l).toInt = -1
      rw [k73, evm]
      exact e1
    have v74 : hI H72 374 l = 0 := by
      rw [q72, hI_at]
      rfl
    have v79 : hI H72 379 l = 0 := by
      rw [q72, hI_ne (by decide), q66, hI_at]
      rfl
    refine K H72 (-1) F (fun j hj => ⟨?_, ?_, ?_⟩) ⟨?_, ?_, ?_, ?_, Or.inl ⟨v73, ?_⟩⟩
    · rw [q72, hI_ne (by decide), q66, hI_ne (by decide), q, hI_nk hj]
    · rw [q72, hI_nk hj, q66, hI_ne (by decide), q, hI_ne (by decide)]
    · rw [q72, hI_ne (by decide), q66, hI_nk hj, q, hI_ne (by decide)]
    · show hI H7 (76 + 2 * l) 10 = _
      rw [v74, q7, hI_nk (by decide)]
      exact z10
    · show hI H7 (76 + 2 * l) 11 = _
      rw [v73, q7, hI_at]
      exact e1
    · show hI H7 (76 + 2 * l) 12 = _
      rw [if_pos v79, q7, hI_nk (by decide)]
      exact z12
    · show hI H7 (76 + 2 * l) 13 = 0 ↔ _
      rw [v79, q7, hI_nk (by decide), z13]
    · show hI H7 (76 + 2 * l) 14 = 3
      rw [q7, hI_nk (by decide)]
      exact z14
  -- an act k
  have hk6 : k < 6 := by omega
  have ac7 : AcE H7 hB u k := (ac k hk).kq (f7.kq rfl) ((fq_rfl [] [] hB).kq rfl) hk6
  obtain ⟨r1, r2, r3, r4, r5, r6⟩ := act_ref s7 hk6
  refine sat_call p (sat_neg (by simp) (sat_gd rfl (sat_gd r4 (sat_gd rfl (sat_gd (rf s7) (sat_let fun H15 q15 => ?_))))))
  have q15 : H15 = ea_wi H7 (76 + 2 * l) 14 (ea_i H7 (31 + 3 * k) 7) := q15
  have f15 : fq [(29, 30)] [((76, 315), 10, 14)] hA H15 := f7.tr (q15 ▸ fq_wf (lt_in l 14 10 14 hl (by decide) (by decide) List.mem_cons_self))
  have s15 := ShC_core f15.1 hs
  have lt15 := lt.wide f15
  have ac15 : AcE H15 hB u k := (ac k hk).kq (f15.kq rfl) ((fq_rfl [] [] hB).kq rfl) hk6
  have pf := c_isFree s15 hk6 hl ac15 lt15
  refine sat_call pf (sat_gd rfl (sat_gd (rf s15) (sat_gd (frV_01 hB l k) (sat_let fun H20 q20 => ?_))))
  have q20 : H20 = ea_wi H15 (76 + 2 * l) 13 (frV hB l k) := q20
  have f20 : fq [(29, 30)] [((76, 315), 10, 14)] hA H20 := f15.tr (q20 ▸ fq_wf (lt_in l 13 10 14 hl (by decide) (by decide) List.mem_cons_self))
  have s20 := ShC_core f20.1 hs
  -- the reference's heap ahead of its charge
  obtain ⟨H, q⟩ : ∃ H, H = ea_wi hB 373 l vm := ⟨_, rfl⟩
  obtain ⟨H66, q66⟩ : ∃ H66, H66 = ea_wi H 379 l (frV hB l k) := ⟨_, rfl⟩
  have fH := H42 H q
  have f66 : fq [(363, 363), (373, 374), (379, 379), (391, 391)] [] hB H66 := fH.tr (q66 ▸ fq_wi rfl)
  have i73 : ea_i H 373 l = vm := by rw [q, i_eq]
  have j73 : ea_i H66 373 l = vm := by rw [q66, i_ne (by decide), i73]
  have emk : vm.toInt = k := by
    rw [evm]
    exact ek
  have nm1 : ¬ vm = -1 := by
    rw [n_eq, l_m1, emk]
    omega
  have ac20 : AcE H20 H66 u k := (ac k hk).kq (f20.kq rfl) (f66.kq rfl) hk6
  obtain ⟨w21, p21, w69, p69, e21, g21, g69⟩ := ls_charge s20 hk6 hl ac20 ((lt.wide f20).fqB2 f66) e7 emk
  have mf := m_isFree (hB := H) hk6 hl e7 emk
  rw [frV_cg fH] at mf
  obtain ⟨H72, q72⟩ : ∃ H72, H72 = ea_wi w69.2 374 l w69.1 := ⟨_, rfl⟩
  have f72 : fq [(363, 363), (373, 374), (379, 379), (391, 391)] [] hB H72 := f66.tr ((g69.up rfl rfl).tr (q72 ▸ fq_wi rfl))
  have k73 : ea_i H72 373 l = vm := by
    rw [q72, i_ne (by decide)]
    exact (n_eq.mpr (g69.C 373 rfl rfl l)).trans j73
  refine sat_call p21 (sat_gd rfl (sat_gd (rf (ShC_core g21.1 s20)) (sat_let fun H24 q24 => ?_)))
  have q24 : H24 = ea_wi w21.2 (76 + 2 * l) 10 w21.1 := q24
  have f24 : fq [(29, 30)] [((76, 315), 10, 14)] hA H24 := f20.tr ((g21.up rfl rfl).tr (q24 ▸ fq_wf (lt_in l 10 10 14 hl (by decide) (by decide) List.mem_cons_self)))
  have s24 := ShC_core f24.1 hs
  have w21f : ∀ j, hI w21.2 (76 + 2 * l) j = hI H20 (76 + 2 * l) j := fun j => g21.C (76 + 2 * l) (inB_no (by omega)) rfl j
  have o24 : ∀ a j, a ≠ 76 + 2 * l → a ≠ 29 → a ≠ 30 → hI H24 a j = hI hA a j := fun a j h1 h2 h3 => by
    rw [q24, hI_ne h1, g21.I a (by
      rw [Bool.eq_false_iff]
      intro z
      obtain ⟨r, z1, z2, z3⟩ := inB_iff.mp z
      rw [List.mem_singleton.mp z1] at z2 z3
      dsimp only at z2 z3
      omega) j rfl, q20, hI_ne h1, q15, hI_ne h1, o7 a j h1]
  have t13 : ea_i H24 (76 + 2 * l) 13 = frV hB l k := by
    refine n_eq.mpr ?_
    show hI H24 (76 + 2 * l) 13 = _
    rw [q24, hI_nk (by decide), w21f, q20, hI_at]
  have ac24 : AcE H24 H72 u k := (ac k hk).kq (f24.kq rfl) (f72.kq rfl) hk6
  have lt24 : LtE H24 H72 l := (lt.wide f24).fqB2 f72
  obtain ⟨n, dn, -⟩ := ac24.2.2
  obtain ⟨w27, p27, w75, p75, e27, -, g27, g75, -⟩ := ls_line s24 hk6 hl ac24 lt24 e7 emk dn
  -- the reference, whole
  have refq : ∀ Q : Int32 × ea_H → Prop, sat (qX12_post_390 x2 x7 w75.1 x7 w75.2) Q → sat (qX12_post_190 x2 x6 x7 x8 hB) Q := by
    intro Q K
    have L320 : sat (qX12_post_320 x2 x7 (frV hB l k) x7 H) Q := by
      refine uqX12_post_320 ?_
      unfold BX12_post_320
      rw [ic7]
      refine sat_gd g7 (sat_gd (frV_01 hB l k) (sat_let fun H' q' => ?_))
      rw [← q66] at q'
      subst q'
      rw [j73]
      refine sat_gd g7 (sat_neg nm1 (sat_gd g7 (sat_call p69 ?_)))
      refine uqX12_post_355 ?_
      unfold BX12_post_355
      rw [ic7]
      refine sat_gd g7 (sat_let fun H' q' => ?_)
      rw [← q72] at q'
      subst q'
      rw [k73]
      exact sat_gd g7 (sat_neg nm1 (sat_gd g7 (sat_call p75 K)))
    refine uqX12_post_190 ?_
    unfold BX12_post_190
    rw [ic7]
    refine sat_pos e8 (sat_call pm (sat_gd g7 (sat_let fun H' q' => ?_)))
    have q' : H' = ea_wi hB 373 l vm := q'
    rw [← q] at q'
    subst q'
    rw [i73]
    refine sat_gd g7 (sat_neg nm1 (sat_gd g7 (sat_call mf (sat_ite (fun z => ?_) fun z => ?_))))
    · have z : frV hB l k = 0 := z
      rw [z] at L320
      exact L320
    · have z : ¬ frV hB l k = 0 := z
      rcases frV_01 hB l k with y | y
      · exact absurd y z
      · rw [y] at L320
        exact L320
  have F75 : fq [(363, 363), (373, 374), (379, 379), (391, 391)] [] hB w75.2 := f72.tr (g75.up rfl rfl)
  have u73 : hI w75.2 373 l = k := by
    rw [g75.C 373 rfl rfl]
    show (ea_i H72 373 l).toInt = k
    rw [k73]
    exact emk
  have u74 : hI w75.2 374 l = w69.1.toInt := by rw [g75.C 374 rfl rfl, q72, hI_at]
  have u79 : hI w75.2 379 l = (frV hB l k).toInt := by rw [g75.C 379 rfl rfl, q72, hI_ne (by decide), g69.C 379 rfl rfl, q66, hI_at]
  have oth : ∀ j, j ≠ l → hI w75.2 373 j = hI hB 373 j ∧ hI w75.2 374 j = hI hB 374 j ∧ hI w75.2 379 j = hI hB 379 j := fun j hj => ⟨by rw [g75.C 373 rfl rfl, q72, hI_ne (by decide), g69.C 373 rfl rfl, q66, hI_ne (by decide), q, hI_nk hj], by rw [g75.C 374 rfl rfl, q72, hI_nk hj, g69.C 374 rfl rfl, q66, hI_ne (by decide), q, hI_ne (by decide)], by rw [g75.C 379 rfl rfl, q72, hI_ne (by decide), g69.C 379 rfl rfl, q66, hI_nk hj, q, hI_ne (by decide)]⟩
  have dead : hI hA (31 + 3 * k) 7 = hI hB 354 k ∧ 0 ≤ hI hB 354 k ∧ hI hB 354 k ≤ 9999 := (ac k hk).1.2.2.2.2.2.2.2
  -- the end, by both
  have fin : ∀ (He : ea_H) (v12 : Int), fq [(29, 30)] [((76, 315), 10, 14)] H24 He → (∀ a j, a ≠ 76 + 2 * l → a ≠ 29 → a ≠ 30 → hI He a j = hI H24 a j) → (∀ j, j ≠ 12 → hI He (76 + 2 * l) j = hI H24 (76 + 2 * l) j) → hI He (76 + 2 * l) 12 = v12 → v12 = (if hI w75.2 379 l = 0 then w75.1.toInt else -1) →
      fq [(29, 30)] [((76, 315), 10, 14)] hA He ∧ (∀ a k, a ≠ 76 + 2 * l → a ≠ 29 → a ≠ 30 → hI He a k = hI hA a k) ∧ ∀ Q : Int32 × ea_H → Prop, (∀ (h2 : ea_H) (s0 : Int32), fq [(363, 363), (373, 374), (379, 379), (391, 391)] [] hB h2 → (∀ j, j ≠ l → hI h2 373 j = hI hB 373 j ∧ hI h2 374 j = hI hB 374 j ∧ hI h2 379 j = hI hB 379 j) → PrE He h2 l s0.toInt → sat (qX12_post_390 x2 x7 s0 x7 h2) Q) → sat (qX12_post_190 x2 x6 x7 x8 hB) Q := by
    intro He v12 fe oe se e12 ev
    refine ⟨f24.tr fe, fun a j h1 h2 h3 => (oe a j h1 h2 h3).trans (o24 a j h1 h2 h3), fun Q K => refq Q (K w75.2 w75.1 F75 oth ⟨?_, ?_, e12.trans ev, ?_, Or.inr ⟨k, u73, ⟨hk6, by rw [F75.I 326 rfl 25 rfl, cB]; omega⟩, ?_, ?_⟩⟩)⟩
    · rw [se 10 (by decide), q24, hI_at, u74, e21]
    · rw [se 11 (by decide), q24, hI_nk (by decide), w21f, q20, hI_nk (by decide), q15, hI_nk (by decide), u73]
      show (ea_i H7 (76 + 2 * l) 11).toInt = k
      rw [r7]
      exact ek
    · rw [se 13 (by decide), u79]
      show (ea_i H24 (76 + 2 * l) 13).toInt = 0 ↔ _
      rw [t13]
    · rw [F75.C 354 rfl rfl, se 14 (by decide), q24, hI_nk (by decide), w21f, q20, hI_nk (by decide), q15, hI_at]
      exact dead.1.symm.trans (o7 _ _ (by omega)).symm
    · rw [F75.C 354 rfl rfl]
      exact dead.2
  refine sat_gd rfl (sat_gd (rf s24) (sat_ite (fun z => ?_) fun z => ?_))
  · have z : ea_i H24 (76 + 2 * l) 13 = 0 := z
    rw [t13] at z
    refine sat_call p27 (sat_gd rfl (sat_gd (rf (ShC_core g27.1 s24)) (sat_let fun H30 q30 => sat_ret ?_)))
    have q30 : H30 = ea_wi w27.2 (76 + 2 * l) 12 w27.1 := q30
    have gl : ∀ j, hI w27.2 (76 + 2 * l) j = hI H24 (76 + 2 * l) j := fun j => g27.C (76 + 2 * l) (inB_no (by omega)) rfl j
    refine fin H30 w27.1.toInt ((g27.up rfl rfl).tr (q30 ▸ fq_wf (lt_in l 12 10 14 hl (by decide) (by decide) List.mem_cons_self))) (fun a j h1 h2 h3 => ?_) (fun j hj => by rw [q30, hI_nk hj, gl]) (by rw [q30, hI_at]) ?_
    · rw [q30, hI_ne h1, g27.I a (by
        rw [Bool.eq_false_iff]
        intro z
        obtain ⟨r, z1, z2, z3⟩ := inB_iff.mp z
        rw [List.mem_singleton.mp z1] at z2 z3
        dsimp only at z2 z3
        omega) j rfl]
    · rw [u79, z, l_0, if_pos rfl, e27]
  · have z : ¬ ea_i H24 (76 + 2 * l) 13 = 0 := z
    rw [t13] at z
    refine sat_gd rfl (sat_gd (rf s24) (sat_let fun H33 q33 => sat_ret ?_))
    have q33 : H33 = ea_wi H24 (76 + 2 * l) 12 (-1) := q33
    refine fin H33 (-1) (q33 ▸ fq_wf (lt_in l 12 10 14 hl (by decide) (by decide) List.mem_cons_self)) (fun a j h1 _ _ => by rw [q33, hI_ne h1]) (fun j hj => by rw [q33, hI_nk hj]) (by rw [q33, hI_at]; rfl) ?_
    rw [u79, if_neg]
    intro y
    exact z (n_eq.mpr y)
end PRC
