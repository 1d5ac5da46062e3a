/-! lines and charges, by both side by side -/
theorem tw_of {α : Type} {A : Option (α × ea_H)} {B : ea_H → Option (α × ea_H)} {R : ea_H → Prop} {Q : α × ea_H → α × ea_H → Prop} (H : ∀ hB, R hB → sat A fun yA => sat (B hB) fun yB => Q yA yB) (r : sat A fun yA => R yA.2) : sat A fun yA => sat (B yA.2) fun yB => Q yA yB := by
  obtain ⟨yA, pA, rA⟩ := r
  obtain ⟨yA', pA', h⟩ := H yA.2 rA
  have e : yA' = yA := Option.some.inj (pA'.symm.trans pA)
  rw [e] at h
  exact ⟨yA, pA, h⟩
section LN
variable {hA hB : ea_H} {u k l : Nat}
theorem FR.at {F : (Nat → Int32) → Int32} (r : FR F) {f g : Nat → Int32} {fc : Nat → Int32} (h1 : ∀ q, q < 7 → f q = fc q) (h2 : ∀ q, q < 7 → g q = fc q) : F f = F g := r f g fun q hq => (h1 q hq).trans (h2 q hq).symm
theorem n_25 {x y : Int32} {k i : Nat} (e1 : x.toInt = k) (e2 : y.toInt = i) (hk : k < 6) (hi : i < 24) : ((25 : Int32) * x + y).toInt = ((25 * k + i : Nat) : Int) ∧ ((25 : Int32) * x + y).toNatClampNeg = 25 * k + i ∧ ((25 : Int32) * x + y + (1 : Int32)).toInt = ((25 * k + i + 1 : Nat) : Int) ∧ ((25 : Int32) * x + y + (1 : Int32)).toNatClampNeg = 25 * k + i + 1 ∧ ((24 : Int32) * x + y).toInt = ((24 * k + i : Nat) : Int) ∧ ((24 : Int32) * x + y).toNatClampNeg = 24 * k + i := by
  have i0 : ((25 : Int32) * x + y).toInt = 25 * (k : Int) + i := by simp (disch := omega) only [n_add, n_sub, n_mul, n_neg, n_bm, n_idx, n_if, hI_eq, l_m1000, l_m100, l_m60, l_m19, l_m18, l_m17, l_m16, l_m15, l_m14, l_m13, l_m12, l_m11, l_m10, l_m8, l_m1, l_0, l_1, l_2, l_3, l_4, l_5, l_6, l_7, l_8, l_9, l_10, l_11, l_12, l_13, l_14, l_15, l_16, l_17, l_18, l_19, l_20, l_21, l_24, l_25, l_32, l_40, l_41, l_42, l_43, l_45, l_47, l_48, l_57, l_59, l_60, l_61, l_62, l_63, l_64, l_65, l_70, l_80, l_90, l_97, l_99, l_100, l_120, l_122, l_127, l_144, l_150, l_201, l_202, l_203, l_204, l_205, l_206, l_207, l_255, l_300, l_364, l_480, l_560, l_600, l_601, l_620, l_840, l_900, l_980, l_999, l_1000, l_1023, l_1024, l_1220, l_1439, l_1440, l_2240, l_2400, l_3000, l_3600, l_4095, l_4096, l_7320, l_9999, l_10079, l_10080, l_12000, l_99999, l_120000, l_1000000, l_2147483647, e1, e2]
  have i1 : ((25 : Int32) * x + y).toInt = ((25 * k + i : Nat) : Int) := by
    rw [i0]
    omega
  have i2 := n_inc i1 (by omega)
  have j0 : ((24 : Int32) * x + y).toInt = 24 * (k : Int) + i := by simp (disch := omega) only [n_add, n_sub, n_mul, n_neg, n_bm, n_idx, n_if, hI_eq, l_m1000, l_m100, l_m60, l_m19, l_m18, l_m17, l_m16, l_m15, l_m14, l_m13, l_m12, l_m11, l_m10, l_m8, l_m1, l_0, l_1, l_2, l_3, l_4, l_5, l_6, l_7, l_8, l_9, l_10, l_11, l_12, l_13, l_14, l_15, l_16, l_17, l_18, l_19, l_20, l_21, l_24, l_25, l_32, l_40, l_41, l_42, l_43, l_45, l_47, l_48, l_57, l_59, l_60, l_61, l_62, l_63, l_64, l_65, l_70, l_80, l_90, l_97, l_99, l_100, l_120, l_122, l_127, l_144, l_150, l_201, l_202, l_203, l_204, l_205, l_206, l_207, l_255, l_300, l_364, l_480, l_560, l_600, l_601, l_620, l_840, l_900, l_980, l_999, l_1000, l_1023, l_1024, l_1220, l_1439, l_1440, l_2240, l_2400, l_3000, l_3600, l_4095, l_4096, l_7320, l_9999, l_10079, l_10080, l_12000, l_99999, l_120000, l_1000000, l_2147483647, e1, e2]
  have j1 : ((24 : Int32) * x + y).toInt = ((24 * k + i : Nat) : Int) := by
    rw [j0]
    omega
  exact ⟨i1, by rw [n_idx, i1]; rfl, i2, by rw [n_idx, i2]; rfl, j1, by rw [n_idx, j1]; rfl⟩
theorem ls_line7 (hs : ShC hA) (hk : k < 6) (ac : AcE hA hB u k) {fc : Nat → Int32} (hfA : ∀ q, q < 7 → ea_i hA 29 q = fc q) (hfB : ∀ q, q < 7 → fa1 (ea_i hB 391) q = fc q) {x2 : Int32} (e2 : x2.toInt = k) {n : Nat} (hn : hI hA (31 + 3 * k) 8 = n) : ∀ (j i : Nat) (xA xB : Int32) (h1 h2 : ea_H), i + j = n → xA.toInt = i → xB.toInt = i → fq [(30, 30)] [] hA h1 → fq [(363, 363)] [] hB h2 →
    sat (qX8_lineFor_7 (some (31 + 3 * k)) xA h1) fun yA => sat (qX12_lineOf_7 x2 xB h2) fun yB => yA.1 = yB.1 ∧ (yA.1.toInt = -1 ∨ ∃ i : Nat, i < n ∧ yA.1.toInt = i) ∧ fq [(30, 30)] [] hA yA.2 ∧ fq [(363, 363)] [] hB yB.2 := by
  obtain ⟨-, hu, n2, d1, d2, d3, d4⟩ := ac
  have en : n2 = n := by omega
  subst en
  have g2 := vp80 e2 hk
  have ic2 : x2.toNatClampNeg = k := by
    rw [n_idx, e2]
    rfl
  have v55 : ∀ h2, fq [(363, 363)] [] hB h2 → (ea_i h2 355 k).toInt = n2 := fun h2 f => (f.C 355 rfl rfl k).trans d2
  have v8 : ∀ h1, fq [(30, 30)] [] hA h1 → (ea_i h1 (31 + 3 * k) 8).toInt = n2 := fun h1 f => (f.C (31 + 3 * k) (inB_no (by omega)) rfl 8).trans d1
  intro j
  induction j with
  | zero =>
    intro i xA xB h1 h2 hj eA eB f1 f2
    obtain ⟨r1, r2, r3, r4, r5, r6⟩ := act_ref (ShC_core f1.1 hs) hk
    refine uqX8_lineFor_7 ?_
    unfold BX8_lineFor_7
    refine sat_gd rfl (sat_gd r4 (sat_pos ?_ (sat_ret ?_)))
    · show ea_i h1 (31 + 3 * k) 8 ≤ xA
      rw [n_le, v8 h1 f1, eA]
      omega
    refine uqX12_lineOf_7 ?_
    unfold BX12_lineOf_7
    rw [ic2]
    exact sat_gd g2 (sat_pos (by rw [n_le, v55 h2 f2, eB]; omega) (sat_ret ⟨rfl, Or.inl rfl, f1, f2⟩))
  | succ j ih =>
    intro i xA xB h1 h2 hj eA eB f1 f2
    have hi : i < n2 := by omega
    obtain ⟨r1, r2, r3, r4, r5, r6⟩ := act_ref (ShC_core f1.1 hs) hk
    obtain ⟨p, s, w, e, c1, c2, c3, c4, -, c6⟩ := d4 i hi
    obtain ⟨i25, c25, i26, c26, i24, c24⟩ := n_25 e2 eB hk (by omega)
    have icA : xA.toNatClampNeg = i := by
      rw [n_idx, eA]
      rfl
    have w57 : (ea_i h2 357 (24 * k + i)).toInt = w := (f2.C 357 rfl rfl _).trans c3
    have w56 : (ea_i h2 356 (25 * k + i + 1)).toInt = e := (f2.C 356 rfl rfl _).trans c4
    have g33 : vp_in xA (ea_l h1 (Option.getD (some (33 + 3 * k)) 0)) := by
      show vp_in xA (ea_l h1 (33 + 3 * k))
      rw [r6.2]
      exact vp80 eA (by omega)
    have row : hI h1 (33 + 3 * k) i = hI hA (33 + 3 * k) i := f1.C (33 + 3 * k) (inB_no (by omega)) rfl i
    refine uqX8_lineFor_7 ?_
    unfold BX8_lineFor_7
    refine sat_gd rfl (sat_gd r4 (sat_neg ?_ (sat_gd rfl (sat_gd r4 ?_))))
    · show ¬ ea_i h1 (31 + 3 * k) 8 ≤ xA
      rw [n_le, v8 h1 f1, eA]
      omega
    rw [show ea_r h1 (Option.getD (some (31 + 3 * k)) 0) 10 = some (33 + 3 * k) from r3, icA]
    refine sat_gd rfl (sat_gd r6.1 (sat_gd g33 ?_))
    have v33 : (ea_i h1 (33 + 3 * k) i).toInt = hI hA (33 + 3 * k) i := row
    rcases c6 with ⟨c6, c7⟩ | ⟨c6, p', c7, q, F, fr, cb, hq100, hqu, mb, h01⟩
    · refine sat_pos ?_ (sat_ret ?_)
      · show ea_i h1 (33 + 3 * k) i = -1
        rw [n_eq, v33, l_m1]
        exact c6
      refine uqX12_lineOf_7 ?_
      unfold BX12_lineOf_7
      rw [ic2, c24, c26]
      refine sat_gd g2 (sat_neg (by rw [n_le, v55 h2 f2, eB]; omega) (sat_gd (vp80 i24 (by omega)) (sat_sub (sat_gd (vp80 i26 (by omega)) (sat_sub (sat_pos (by rw [n_eq, w57, w56, c7]) (sat_ret ⟨n_eq.mpr (eA.trans eB.symm), Or.inr ⟨i, hi, eA⟩, f1, f2⟩)))))))
    · have e33 : (ea_i h1 (33 + 3 * k) i).toInt = p' := v33.trans c7
      have hw := c_worth (h := h1) cb (by decide) (fun j _ _ => cd_fq f1 rfl j) (by omega) ((cd_fq f1 rfl q).trans hq100) e33
      have hc := m_comesTo (h := h2) mb hk (fun e' h1' h2' => by
        have := congrArg Prod.fst (St_eq (hB := hB) (hB' := h2) (k := k) (fun j => f2.C 358 rfl rfl j) e')
        have t2 := congrArg Prod.snd (St_eq (hB := hB) (hB' := h2) (k := k) (fun j => f2.C 358 rfl rfl j) e')
        exact ⟨this, t2⟩) e2 w57 w56
      obtain ⟨w7, pw7, vw7, fw7⟩ := hc
      have eF : F (ea_i h1 29) = F (fa1 (ea_i h2 391)) := fr.at (fc := fc) (fun q hq => (congrFun (i_row f1 (a := 29) rfl rfl) q).trans (hfA q hq)) fun q hq => (by rw [i_row f2 (a := 391) rfl rfl]; exact hfB q hq)
      refine sat_neg ?_ (sat_gd rfl (sat_gd r4 (sat_gd rfl (sat_gd r6.1 (sat_gd g33 (sat_bind hw fun w14 hw14 => ?_))))))
      · show ¬ ea_i h1 (33 + 3 * k) i = -1
        rw [n_eq, e33, l_m1]
        omega
      obtain ⟨v14, f14⟩ := hw14
      refine sat_ite (fun z => ?_) fun z => ?_
      · rw [v14, eF] at z
        refine sat_mono (ih (i + 1) (xA + 1) (xB + 1) w14.2 w7.2 (by omega) (n_inc eA (by omega)) (n_inc eB (by omega)) (f1.tr f14) (f2.tr fw7)) fun yA hy => ?_
        refine uqX12_lineOf_7 ?_
        unfold BX12_lineOf_7
        rw [ic2, c24, c26]
        refine sat_gd g2 (sat_neg (by rw [n_le, v55 h2 f2, eB]; omega) (sat_gd (vp80 i24 (by omega)) (sat_sub (sat_gd (vp80 i26 (by omega)) (sat_sub (sat_neg (by rw [n_eq, w57, w56]; omega) (sat_call pw7 (sat_neg ?_ hy))))))))
        rw [vw7, z]
        decide
      · rw [v14, eF] at z
        refine sat_ret ?_
        refine uqX12_lineOf_7 ?_
        unfold BX12_lineOf_7
        rw [ic2, c24, c26]
        refine sat_gd g2 (sat_neg (by rw [n_le, v55 h2 f2, eB]; omega) (sat_gd (vp80 i24 (by omega)) (sat_sub (sat_gd (vp80 i26 (by omega)) (sat_sub (sat_neg (by rw [n_eq, w57, w56]; omega) (sat_call pw7 (sat_pos ?_ (sat_ret ⟨n_eq.mpr (eA.trans eB.symm), Or.inr ⟨i, hi, eA⟩, f1.tr f14, f2.tr fw7⟩)))))))))
        rw [vw7]
        rcases h01 rfl (fa1 (ea_i h2 391)) with w | w
        · exact absurd w z
        · exact w
theorem ls_line (hs : ShC hA) (hk : k < 6) (hl : l < 120) (ac : AcE hA hB u k) (lt : LtE hA hB l) {x1 x2 : Int32} (e1 : x1.toInt = l) (e2 : x2.toInt = k) {n : Nat} (hn : hI hA (31 + 3 * k) 8 = n) : sat (qX8_lineFor (some (31 + 3 * k)) (some (76 + 2 * l)) hA) fun yA => sat (qX12_lineOf x1 x2 hB) fun yB => yA.1 = yB.1 ∧ (yA.1.toInt = -1 ∨ ∃ i : Nat, i < n ∧ yA.1.toInt = i) ∧ fq [(29, 30)] [] hA yA.2 ∧ fq [(363, 363), (391, 391)] [] hB yB.2 ∧ (∀ q, q < 7 → ea_i yA.2 29 q = fcB hB l q) ∧ ∀ q, q < 7 → fa1 (ea_i yB.2 391) q = fcB hB l q := by
  obtain ⟨wA, pA, fA, vA⟩ := c_ask hs hl lt
  obtain ⟨wB, pB, fB, vB⟩ := m_gathers (hB := hB) e1 hl
  have ac2 : AcE wA.2 wB.2 u k := ac.kq (fA.kq rfl) (fB.kq rfl) hk
  unfold qX8_lineFor
  refine uqX8_lineFor_0 ?_
  unfold BX8_lineFor_0
  refine sat_call pA (sat_mono (ls_line7 (ShC_core fA.1 hs) hk ac2 vA vB e2 ((fA.C (31 + 3 * k) (inB_no (by omega)) rfl 8).trans hn) n 0 0 0 wA.2 wB.2 (by omega) rfl rfl (fq_rfl _ _ _) (fq_rfl _ _ _)) fun yA hy => ?_)
  obtain ⟨yB, pyB, h1, h2, h3, h4⟩ := hy
  unfold qX12_lineOf
  refine uqX12_lineOf_0 ?_
  unfold BX12_lineOf_0
  refine sat_call pB ⟨yB, pyB, h1, h2, (fA.up rfl rfl).tr (h3.up rfl rfl), (fB.up rfl rfl).tr (h4.up rfl rfl), fun q hq => ?_, fun q hq => ?_⟩
  · rw [i_row h3 (a := 29) rfl rfl]
    exact vA q hq
  · rw [i_row h4 (a := 391) rfl rfl]
    exact vB q hq
def frV (hB : ea_H) (l k : Nat) : Int32 := if hI hB 364 l = 2 ∧ hI hB 372 l ≤ hI hB 351 k then 1 else 0
theorem c_isFree (hs : ShC hA) (hk : k < 6) (hl : l < 120) (ac : AcE hA hB u k) (lt : LtE hA hB l) : qX8_isFree (some (31 + 3 * k)) (some (76 + 2 * l)) hA = some (frV hB l k, hA) := by
  obtain ⟨r1, r2, r3, r4, r5, r6⟩ := act_ref hs hk
  have k2 := (ltr_ref hs hl).2
  have v0 : (ea_i hA (76 + 2 * l) 0).toInt = hI hB 364 l := lt.1
  have v4 : (ea_i hA (31 + 3 * k) 4).toInt = hI hB 351 k := ac.1.2.2.2.2.1
  refine sat_at ?_
  unfold qX8_isFree BX8_isFree_0 frV
  refine sat_gd rfl (sat_gd k2 (sat_ite (fun z => ?_) fun z => ?_))
  · have z : ea_i hA (76 + 2 * l) 0 = 2 := z
    rw [n_eq, v0, l_2] at z
    have v9 : hI hB 372 l = (ea_i hA (76 + 2 * l) 9).toInt + 1 := lt.2.2.2.2.2.2 z
    refine sat_gd rfl (sat_gd k2 (sat_gd rfl (sat_gd r4 (sat_ite (fun w => ?_) fun w => ?_))))
    · have w : ea_i hA (31 + 3 * k) 4 ≤ ea_i hA (76 + 2 * l) 9 := w
      rw [n_le, v4] at w
      rw [if_neg (fun q => by have := q.2; omega)]
      exact sat_ret rfl
    · have w : ¬ ea_i hA (31 + 3 * k) 4 ≤ ea_i hA (76 + 2 * l) 9 := w
      rw [n_le, v4] at w
      rw [if_pos ⟨z, by omega⟩]
      exact sat_ret rfl
  · have z : ¬ ea_i hA (76 + 2 * l) 0 = 2 := z
    rw [n_eq, v0, l_2] at z
    rw [if_neg (fun q => z q.1)]
    exact sat_ret rfl
theorem m_isFree (hk : k < 6) (hl : l < 120) {x1 x2 : Int32} (e1 : x1.toInt = l) (e2 : x2.toInt = k) : qX12_isFree x1 x2 hB = some (frV hB l k, hB) := by
  have g1 := vp80 e1 hl
  have ic1 : x1.toNatClampNeg = l := by
    rw [n_idx, e1]
    rfl
  have ic2 : x2.toNatClampNeg = k := by
    rw [n_idx, e2]
    rfl
  have v0 : (ea_i hB 364 l).toInt = hI hB 364 l := rfl
  have v1 : (ea_i hB 351 k).toInt = hI hB 351 k := rfl
  have v2 : (ea_i hB 372 l).toInt = hI hB 372 l := rfl
  refine sat_at ?_
  unfold qX12_isFree BX12_isFree_0 frV
  rw [ic1, ic2]
  refine sat_gd g1 (sat_ite (fun z => ?_) fun z => ?_)
  · rw [n_eq, v0, l_2] at z
    refine sat_gd g1 (sat_gd (vp80 e2 hk) (sat_ite (fun w => ?_) fun w => ?_))
    · rw [n_lt, v1, v2] at w
      rw [if_neg (fun q => by have := q.2; omega)]
      exact sat_ret rfl
    · rw [n_lt, v1, v2] at w
      rw [if_pos ⟨z, by omega⟩]
      exact sat_ret rfl
  · rw [n_eq, v0, l_2] at z
    rw [if_neg (fun q => z q.1)]
    exact sat_ret rfl
/-- what comes to the line's worth -/
def chT (hB : ea_H) (l k : Nat) (v : Int32) : Int32 :=
  let v1 := if ea_i hB 370 l - ea_i hB 370 l / (1440 : Int32) * (1440 : Int32) ≤ ea_i hB 350 k then v else v + ea_i hB 349 k
  let v2 := if hI hB 364 l = 3 then v1 + ea_i hB 352 k else v1
  if hI hB 364 l = 4 then v2 + ea_i hB 353 k else v2
def clV (w : Int32) : Int32 := if w.toInt < 0 then 0 else if 99999 < w.toInt then 99999 else w
theorem c_ch46 (hs : ShC hA) (hk : k < 6) (hl : l < 120) (ac : AcE hA hB u k) (lt : LtE hA hB l) (v : Int32) : sat (qX8_chargeBy_46 (some (31 + 3 * k)) (some (76 + 2 * l)) v hA) fun y => y = (chT hB l k v, hA) := by
  obtain ⟨r1, r2, r3, r4, r5, r6⟩ := act_ref hs hk
  have k2 := (ltr_ref hs hl).2
  obtain ⟨a0, a1, a2, a3, a4, a5, a6, -⟩ := ac.1
  have w6 : ea_i hA (76 + 2 * l) 6 = ea_i hB 370 l := n_eq.mpr lt.2.2.2.1
  have v0 : (ea_i hA (76 + 2 * l) 0).toInt = hI hB 364 l := lt.1
  have t2 : ea_i hA (31 + 3 * k) 2 = ea_i hB 349 k := n_eq.mpr a2
  have t3 : ea_i hA (31 + 3 * k) 3 = ea_i hB 350 k := n_eq.mpr a3
  have t5 : ea_i hA (31 + 3 * k) 5 = ea_i hB 352 k := n_eq.mpr a5
  have t6 : ea_i hA (31 + 3 * k) 6 = ea_i hB 353 k := n_eq.mpr a6
  have K87 : ∀ v2 : Int32, sat (qX8_chargeBy_87 (some (31 + 3 * k)) (some (76 + 2 * l)) v2 hA) fun y => y = ((if hI hB 364 l = 4 then v2 + ea_i hB 353 k else v2), hA) := fun v2 => by
    refine uqX8_chargeBy_87 ?_
    unfold BX8_chargeBy_87
    refine sat_gd rfl (sat_gd k2 (sat_ite (fun z => ?_) fun z => ?_))
    · have z : ea_i hA (76 + 2 * l) 0 = 4 := z
      rw [n_eq, v0, l_4] at z
      rw [if_pos z]
      refine sat_gd rfl (sat_gd r4 (sat_sub (sat_ret ?_)))
      show (v2 + ea_i hA (31 + 3 * k) 6, hA) = _
      rw [t6]
    · have z : ¬ ea_i hA (76 + 2 * l) 0 = 4 := z
      rw [n_eq, v0, l_4] at z
      rw [if_neg z]
      exact sat_ret rfl
  have K70 : ∀ v1 : Int32, sat (qX8_chargeBy_70 (some (31 + 3 * k)) (some (76 + 2 * l)) v1 hA) fun y => y = ((if hI hB 364 l = 4 then (if hI hB 364 l = 3 then v1 + ea_i hB 352 k else v1) + ea_i hB 353 k else if hI hB 364 l = 3 then v1 + ea_i hB 352 k else v1), hA) := fun v1 => by
    refine uqX8_chargeBy_70 ?_
    unfold BX8_chargeBy_70
    refine sat_gd rfl (sat_gd k2 (sat_ite (fun z => ?_) fun z => ?_))
    · have z : ea_i hA (76 + 2 * l) 0 = 3 := z
      rw [n_eq, v0, l_3] at z
      rw [if_pos z]
      refine sat_gd rfl (sat_gd r4 (sat_sub ?_))
      show sat (qX8_chargeBy_87 _ _ (v1 + ea_i hA (31 + 3 * k) 5) hA) _
      rw [t5]
      exact K87 _
    · have z : ¬ ea_i hA (76 + 2 * l) 0 = 3 := z
      rw [n_eq, v0, l_3] at z
      rw [if_neg z]
      exact K87 _
  refine uqX8_chargeBy_46 ?_
  unfold BX8_chargeBy_46
  refine sat_gd rfl (sat_gd k2 (sat_gd rfl (sat_gd r4 (sat_ite (fun z => ?_) fun z => ?_))))
  · have z : ea_i hA (76 + 2 * l) 6 - ea_i hA (76 + 2 * l) 6 / (1440 : Int32) * (1440 : Int32) ≤ ea_i hA (31 + 3 * k) 3 := z
    rw [w6, t3] at z
    have e : chT hB l k v = _ := rfl
    unfold chT at e ⊢
    rw [if_pos z]
    exact K70 v
  · have z : ¬ ea_i hA (76 + 2 * l) 6 - ea_i hA (76 + 2 * l) 6 / (1440 : Int32) * (1440 : Int32) ≤ ea_i hA (31 + 3 * k) 3 := z
    rw [w6, t3] at z
    unfold chT
    rw [if_neg z]
    refine sat_gd rfl (sat_gd r4 (sat_sub ?_))
    show sat (qX8_chargeBy_70 _ _ (v + ea_i hA (31 + 3 * k) 2) hA) _
    rw [t2]
    exact K70 _
theorem m_ch81 (hk : k < 6) (hl : l < 120) {x1 x2 : Int32} (e1 : x1.toInt = l) (e2 : x2.toInt = k) (v : Int32) : sat (qX12_chargeBy_81 x1 x2 v hB) fun y => y = (chT hB l k v, hB) := by
  have g1 := vp80 e1 hl
  have g2 := vp80 e2 hk
  have ic1 : x1.toNatClampNeg = l := by
    rw [n_idx, e1]
    rfl
  have ic2 : x2.toNatClampNeg = k := by
    rw [n_idx, e2]
    rfl
  have v0 : (ea_i hB 364 l).toInt = hI hB 364 l := rfl
  have K87 : ∀ v2 : Int32, sat (qX12_chargeBy_134 x1 x2 v2 hB) fun y => y = ((if hI hB 364 l = 4 then v2 + ea_i hB 353 k else v2), hB) := fun v2 => by
    refine uqX12_chargeBy_134 ?_
    unfold BX12_chargeBy_134
    rw [ic1, ic2]
    refine sat_gd g1 (sat_ite (fun z => ?_) fun z => ?_)
    · rw [n_eq, v0, l_4] at z
      rw [if_pos z]
      exact sat_gd g2 (sat_sub (sat_ret rfl))
    · rw [n_eq, v0, l_4] at z
      rw [if_neg z]
      exact sat_ret rfl
  have K70 : ∀ v1 : Int32, sat (qX12_chargeBy_113 x1 x2 v1 hB) fun y => y = ((if hI hB 364 l = 4 then (if hI hB 364 l = 3 then v1 + ea_i hB 352 k else v1) + ea_i hB 353 k else if hI hB 364 l = 3 then v1 + ea_i hB 352 k else v1), hB) := fun v1 => by
    refine uqX12_chargeBy_113 ?_
    unfold BX12_chargeBy_113
    rw [ic1, ic2]
    refine sat_gd g1 (sat_ite (fun z => ?_) fun z => ?_)
    · rw [n_eq, v0, l_3] at z
      rw [if_pos z]
      exact sat_gd g2 (sat_sub (K87 _))
    · rw [n_eq, v0, l_3] at z
      rw [if_neg z]
      exact K87 _
  refine uqX12_chargeBy_81 ?_
  unfold BX12_chargeBy_81 chT
  rw [ic1, ic2]
  refine sat_gd g1 (sat_gd g2 (sat_ite (fun z => ?_) fun z => ?_))
  · rw [if_pos z]
    exact K70 v
  · rw [if_neg z]
    exact sat_gd g2 (sat_sub (K70 _))
theorem ls_charge (hs : ShC hA) (hk : k < 6) (hl : l < 120) (ac : AcE hA hB u k) (lt : LtE hA hB l) {x1 x2 : Int32} (e1 : x1.toInt = l) (e2 : x2.toInt = k) : sat (qX8_chargeBy (some (31 + 3 * k)) (some (76 + 2 * l)) hA) fun yA => sat (qX12_chargeBy x1 x2 hB) fun yB => yA.1 = yB.1 ∧ fq [(29, 30)] [] hA yA.2 ∧ fq [(363, 363), (391, 391)] [] hB yB.2 := by
  have ac0 := ac
  obtain ⟨-, hu, n, d1, d2, d3, d4⟩ := ac
  have pf := c_isFree hs hk hl ac0 lt
  have mf := m_isFree (hB := hB) hk hl e1 e2
  have vcl : ∀ w : Int32, (if (99999 : Int32) < (if w < (0 : Int32) then (0 : Int32) else w) then (99999 : Int32) else (if w < (0 : Int32) then (0 : Int32) else w)) = clV w := fun w => by
    unfold clV
    by_cases c : w < 0
    · have c2 := c
      rw [n_lt, l_0] at c2
      rw [if_pos c, if_pos c2, if_neg (by rw [n_lt, l_99999, l_0]; decide)]
    · have c2 := c
      rw [n_lt, l_0] at c2
      rw [if_neg c, if_neg c2]
      by_cases d : (99999 : Int32) < w
      · have d2 := d
        rw [n_lt, l_99999] at d2
        rw [if_pos d, if_pos d2]
      · have d2 := d
        rw [n_lt, l_99999] at d2
        rw [if_neg d, if_neg d2]
  have M54 : ∀ (w : Int32) (h2 : ea_H), fq [(363, 363), (391, 391)] [] hB h2 → sat (qX12_chargeBy_54 x1 x2 w h2) fun yB => chT hB l k (clV w) = yB.1 ∧ fq [(363, 363), (391, 391)] [] hB yB.2 := fun w h2 f => by
    have e : ∀ v, chT h2 l k v = chT hB l k v := fun v => by
      unfold chT
      rw [i_row f (a := 370) rfl rfl, i_row f (a := 350) rfl rfl, i_row f (a := 349) rfl rfl, i_row f (a := 352) rfl rfl, i_row f (a := 353) rfl rfl, f.C 364 rfl rfl]
    have go : ∀ v, clV w = v → sat (qX12_chargeBy_81 x1 x2 v h2) fun yB => chT hB l k (clV w) = yB.1 ∧ fq [(363, 363), (391, 391)] [] hB yB.2 := fun v hv => sat_mono (m_ch81 hk hl e1 e2 v) fun y hy => by
      rw [hy]
      exact ⟨by rw [hv]; exact (e v).symm, f⟩
    refine uqX12_chargeBy_54 ?_
    unfold BX12_chargeBy_54
    refine sat_ite (fun z => ?_) fun z => ?_
    · rw [n_le, l_0] at z
      refine sat_ite (fun y => ?_) fun y => ?_
      · rw [n_le, l_99999] at y
        exact go w (by unfold clV; rw [if_neg (by omega), if_neg (by omega)])
      · rw [n_le, l_99999] at y
        exact go _ (by unfold clV; rw [if_neg (by omega), if_pos (by omega)])
    · rw [n_le, l_0] at z
      exact go _ (by unfold clV; rw [if_pos (by omega)])
  unfold qX8_chargeBy
  refine uqX8_chargeBy_0 ?_
  unfold BX8_chargeBy_0
  refine sat_call pf (sat_ite (fun z => ?_) fun z => ?_)
  case refine_2 =>
    have z : ¬ frV hB l k = 0 := z
    refine sat_ret ?_
    unfold qX12_chargeBy
    refine uqX12_chargeBy_0 ?_
    unfold BX12_chargeBy_0
    exact sat_call mf (sat_neg z (sat_ret ⟨rfl, fq_rfl _ _ _, fq_rfl _ _ _⟩))
  have z : frV hB l k = 0 := z
  obtain ⟨yA, pA, yB, pB, h1, h2, f1, f2, fcA, fcB'⟩ := ls_line hs hk hl ac0 lt e1 e2 d1
  refine sat_call pA ?_
  have ac2 : AcE yA.2 yB.2 u k := ac0.kq (f1.kq rfl) (f2.kq rfl) hk
  have lt2 : LtE yA.2 hB l := by
    obtain ⟨l0, l3, l4, l6, l7, l8, l9⟩ := lt
    have o : ∀ j, hI yA.2 (76 + 2 * l) j = hI hA (76 + 2 * l) j := fun j => f1.C (76 + 2 * l) (inB_no (by omega)) rfl j
    unfold LtE
    rw [o, o, o, o, o, o, o]
    exact ⟨l0, l3, l4, l6, l7, l8, l9⟩
  have ac3 : AcE yA.2 hB u k := ac0.kq (f1.kq rfl) ((fq_rfl [] [] hB).kq rfl) hk
  have hs2 := ShC_core f1.1 hs
  have C46 : ∀ (h1 : ea_H) (w : Int32), fq [(30, 30)] [] yA.2 h1 → sat (qX8_chargeBy_46 (some (31 + 3 * k)) (some (76 + 2 * l)) w h1) fun y => y.1 = chT hB l k w ∧ fq [(29, 30)] [] hA y.2 := fun h1 w f => by
    have lt3 : LtE h1 hB l := by
      obtain ⟨l0, l3, l4, l6, l7, l8, l9⟩ := lt2
      have o : ∀ j, hI h1 (76 + 2 * l) j = hI yA.2 (76 + 2 * l) j := fun j => f.C (76 + 2 * l) (inB_no (by omega)) rfl j
      unfold LtE
      rw [o, o, o, o, o, o, o]
      exact ⟨l0, l3, l4, l6, l7, l8, l9⟩
    exact sat_mono (c_ch46 (ShC_core f.1 hs2) hk hl (ac3.kq (f.kq rfl) ((fq_rfl [] [] hB).kq rfl) hk) lt3 w) fun y hy => by
      rw [hy]
      exact ⟨rfl, f1.tr (f.up rfl rfl)⟩
  rcases h2 with h2 | ⟨i, hi, h2⟩
  · refine sat_pos (n_eq.mpr h2) (sat_mono (C46 yA.2 0 (fq_rfl _ _ _)) fun y hy => ?_)
    unfold qX12_chargeBy
    refine uqX12_chargeBy_0 ?_
    unfold BX12_chargeBy_0
    refine sat_call mf (sat_pos z (sat_call pB (sat_pos (by rw [← h1]; exact n_eq.mpr h2) (sat_mono (M54 0 yB.2 f2) fun w hw => ⟨hy.1.trans ?_, hy.2, hw.2⟩))))
    have : clV 0 = 0 := rfl
    rw [this] at hw
    exact hw.1
  · obtain ⟨r1, r2, r3, r4, r5, r6⟩ := act_ref hs2 hk
    obtain ⟨-, -, n3, d1', d2', d3', d4'⟩ := ac2
    have en : n3 = n := by
      have := (f2.C 355 rfl rfl k).symm.trans d2'
      omega
    obtain ⟨p, s, w, e, c1, c2, c3, c4, ⟨q, F, fr, cb, hq100, hqu, mb, -⟩, -⟩ := d4' i (by omega)
    have hB1 : yB.1.toInt = i := by
      rw [← h1]
      exact h2
    obtain ⟨i25, c25, i26, c26, i24, c24⟩ := n_25 e2 hB1 hk (by omega)
    have icA : yA.1.toNatClampNeg = i := by
      rw [n_idx, h2]
      rfl
    have g32 : vp_in yA.1 (ea_l yA.2 (Option.getD (some (32 + 3 * k)) 0)) := by
      show vp_in yA.1 (ea_l yA.2 (32 + 3 * k))
      rw [r5.2]
      exact vp80 h2 (by omega)
    have hw := c_worth (h := yA.2) cb (by decide) (fun j _ _ => rfl) (by omega) hq100 (show (ea_i yA.2 (32 + 3 * k) i).toInt = p from c1)
    have hc := m_comesTo (h := yB.2) mb hk (fun e' h1' h2' => ⟨rfl, rfl⟩) e2 (show (ea_i yB.2 356 (25 * k + i)).toInt = s from c2) (show (ea_i yB.2 357 (24 * k + i)).toInt = w from c3)
    obtain ⟨w7, pw7, vw7, fw7⟩ := hc
    have eF : F (ea_i yA.2 29) = F (fa1 (ea_i yB.2 391)) := fr.at fcA fcB'
    refine sat_neg (fun q => by
      have q : yA.1 = -1 := q
      rw [n_eq, h2, l_m1] at q
      omega) ?_
    rw [show ea_r yA.2 (Option.getD (some (31 + 3 * k)) 0) 9 = some (32 + 3 * k) from r2, icA]
    refine sat_gd rfl (sat_gd r4 (sat_gd rfl (sat_gd r5.1 (sat_gd g32 (sat_bind hw fun w8 hw8 => ?_)))))
    obtain ⟨v8, f8⟩ := hw8
    refine sat_sub ?_
    rw [vcl]
    refine sat_mono (C46 w8.2 (clV w8.1) f8) fun y hy => ?_
    unfold qX12_chargeBy
    refine uqX12_chargeBy_0 ?_
    unfold BX12_chargeBy_0
    refine sat_call mf (sat_pos z (sat_call pB (sat_neg (fun q => by
      rw [← h1, n_eq, h2, l_m1] at q
      omega) ?_)))
    rw [c25, c24]
    refine sat_gd (vp80 i25 (by omega)) (sat_gd (vp80 i24 (by omega)) (sat_call pw7 (sat_mono (M54 w7.1 w7.2 (f2.tr (fw7.up rfl rfl))) fun wz hz => ⟨hy.1.trans ?_, hy.2, hz.2⟩)))
    rw [v8, eF, ← vw7]
    exact hz.1
end LN
