/-! post: the new letter among the letters -/
theorem cps_ex {α ι : Type} {A : Option α} {F : ι → Prop} {B : ι → Option α} (h : ∀ Q : α → Prop, (∀ i, F i → sat (B i) Q) → sat A Q) : ∃ i, F i ∧ ∀ Q : α → Prop, sat (B i) Q → sat A Q := by
  apply Classical.byContradiction
  intro hn
  obtain ⟨y, e, q⟩ := h (fun y => A ≠ some y) fun i hi => by
    apply Classical.byContradiction
    intro hs
    refine hn ⟨i, hi, fun Q hq => ?_⟩
    obtain ⟨y, e, q⟩ := hq
    refine ⟨y, ?_, q⟩
    apply Classical.byContradiction
    intro ne
    exact hs ⟨y, e, ne⟩
  exact q e
/-- the letters with the new one -/
def nX (X : Nat → Nat → Int) (m : Nat) (now a : Int) : Nat → Nat → Int := mvX (upX X 2 m (-1)) m now 0 a
section NX
variable {T : Nat → Nat → Nat → Nat} {L : List Nat} {G G' X : Nat → Nat → Int} {m n p : Nat} {now a : Int} {h h' : ea_H}
theorem nX_0 (k : Nat) : nX X m now a 0 k = if k = m then 0 else X 0 k := by
  unfold nX
  rw [mvX_0, upX_ne (by decide)]
theorem nX_1 (k : Nat) : nX X m now a 1 k = if k = m then a else X 1 k := by
  unfold nX
  rw [mvX_1, upX_ne (by decide)]
theorem nX_2 (k : Nat) : nX X m now a 2 k = if k = m then -1 else X 2 k := by
  unfold nX
  rw [mvX_2, upX_row]
theorem nX_3 (k : Nat) : nX X m now a 3 k = X 3 k := by
  unfold nX
  rw [mvX_3, upX_ne (by decide)]
theorem nX_4 (k : Nat) : nX X m now a 4 k = if k = m then 0 else X 4 k := by
  unfold nX
  rw [mvX_4, upX_ne (by decide)]
theorem nX_5 (k : Nat) : nX X m now a 5 k = if k = m then now else X 5 k := by
  unfold nX
  rw [mvX_5, upX_ne (by decide)]
theorem nX_6 (k : Nat) : nX X m now a 6 k = X 6 k := by
  unfold nX
  rw [mvX_6, upX_ne (by decide)]
theorem nX_7 (h7 : X 7 m = 0) (k : Nat) : nX X m now a 7 k = if k = m then 1 else X 7 k := by
  unfold nX
  rw [mvX_7, upX_ne (by decide), upX_ne (by decide), h7]
  rfl
theorem nX_8 (h7 : X 7 m = 0) (k : Nat) : nX X m now a 8 k = (if k = 1000 * m then now else X 8 k) ∧ nX X m now a 9 k = (if k = 1000 * m then 0 else X 9 k) ∧ nX X m now a 10 k = if k = 1000 * m then a else X 10 k := by
  unfold nX
  rw [mvX_8, mvX_9, mvX_10, upX_ne (show (7 : Nat) ≠ 2 by decide), upX_ne (show (8 : Nat) ≠ 2 by decide), upX_ne (show (9 : Nat) ≠ 2 by decide), upX_ne (show (10 : Nat) ≠ 2 by decide), h7]
  exact ⟨rfl, rfl, rfl⟩
theorem nX_sa (h7 : X 7 m = 0) {l : Nat} (hl : l ≠ m) : SAl X (nX X m now a) l := by
  refine ⟨⟨?_, ?_, ?_, ?_⟩, fun i hi => ?_⟩
  · rw [nX_0, if_neg hl]
  · rw [nX_1, if_neg hl]
  · rw [nX_7 h7, if_neg hl]
  · rw [nX_5, if_neg hl]
  · obtain ⟨q1, q2, q3⟩ := nX_8 (now := now) (a := a) h7 (1000 * l + i)
    rw [if_neg (by omega)] at q1 q2 q3
    exact ⟨q1, q2, q3⟩
theorem c_begin52 (hs : ShC h) (hm : m < 120) (rc : RC52 m X h) (rn : RN m X h) (h3 : X 3 m = 0) (h7 : X 7 m = 0) (b7 : ∀ l, l < m → 1 ≤ X 7 l ∧ X 7 l ≤ 1000) {x1 x2 : Int32} {at' : Nat} (e1 : x1.toInt = now) (e2 : x2.toInt = at') (ha : at' < 12) (n0 : 0 ≤ now) (n1 : now ≤ 10079) : sat (qX1_begin_at52 x1 x2 h) fun y => fq [(53, 54), (60, 60)] [((52, 52), 0, 0), ((52, 52), 10, 10), ((76, 315), 16, 17)] h y.2 ∧ (∀ c k, 76 ≤ c → c ≤ 315 → c ≠ 76 + 2 * m → hI y.2 c k = hI h c k) ∧ RC52 (m + 1) (nX X m now at') y.2 ∧ RN (m + 1) (nX X m now at') y.2 := by
  obtain ⟨⟨r0, r1⟩, r2, r3, r4, r5, r6, r7⟩ := rc
  have v0 : (ea_i h 52 0).toInt = m := r0
  have g0 := vp80 v0 hm
  have ic0 : (ea_i h 52 0).toNatClampNeg = m := by
    rw [n_idx, v0]
    rfl
  have ic2 : x2.toNatClampNeg = at' := by
    rw [n_idx, e2]
    rfl
  have g2 := vp80 e2 ha
  have cb := fun (P : Nat → Prop) => cnt_b P m
  unfold qX1_begin_at52 BX1_begin_at52_0
  rw [ic0, ic2]
  refine sat_let fun H1 q1 => sat_let fun H2 q2 => sat_gd g2 (sat_gd g2 (sat_let fun H5 q5 => sat_gd g0 (sat_let fun H7 q7 => sat_gd g0 (sat_let fun H9 q9 => sat_gd g0 ?_))))
  have F : fq [(53, 54), (60, 60)] [((52, 52), 0, 0), ((52, 52), 10, 10)] h H9 := (q1 ▸ fq_wf rfl : fq [(53, 54), (60, 60)] [((52, 52), 0, 0), ((52, 52), 10, 10)] h H1).tr ((q2 ▸ fq_wf rfl : fq [(53, 54), (60, 60)] [((52, 52), 0, 0), ((52, 52), 10, 10)] H1 H2).tr ((q5 ▸ fq_wi rfl : fq [(53, 54), (60, 60)] [((52, 52), 0, 0), ((52, 52), 10, 10)] H2 H5).tr ((q7 ▸ fq_wi rfl : fq [(53, 54), (60, 60)] [((52, 52), 0, 0), ((52, 52), 10, 10)] H5 H7).tr (q9 ▸ fq_wi rfl))))
  have hs9 := ShC_core F.1 hs
  obtain ⟨k1, k2⟩ := ltr_ref hs9 hm
  rw [k1]
  have lt9 : ∀ c k, 76 ≤ c → hI H9 c k = hI h c k := fun c k hc => by
    rw [q9, hI_ne (by omega), q7, hI_ne (by omega), q5, hI_ne (by omega), q2, hI_ne (by omega), q1, hI_ne (by omega)]
  have c16 : hI H9 (76 + 2 * m) 16 = 0 := (lt9 _ _ (by omega)).trans (rn.2 m (Nat.le_refl _) hm).1
  refine sat_gd rfl (sat_gd k2 (sat_bind (c_note e1 (st := 0) rfl e2 n0 n1 (by decide) (by decide) (by omega) (by omega) hm hs9 c16 (by decide) (by decide)) fun y hy => sat_ret ?_))
  obtain ⟨y1, y2, y3⟩ := hy
  have f3 : fq [] [((76, 315), 16, 17)] H9 y.2 := y1.wid (fun a ha => ha) fun c k _ hk => by
    rw [Bool.eq_false_iff] at hk ⊢
    intro z
    obtain ⟨q, q1, q2, q3⟩ := inP_iff.mp z
    rw [List.mem_singleton.mp q1] at q2 q3
    exact hk (inP_at (r := ((76, 315), 16, 17)) List.mem_cons_self (by show 76 ≤ c; have := q2.1; dsimp only at this; omega) (by show c ≤ 315; have := q2.2; dsimp only at this; omega) q3.1 q3.2)
  have oth : ∀ c k, 76 ≤ c → c ≤ 315 → c ≠ 76 + 2 * m → hI y.2 c k = hI h c k := fun c k h1 h2 h3 => by
    rw [y1.C c rfl (outP_one (by omega))]
    exact lt9 c k h1
  have t53 : ∀ l, hI y.2 53 l = if l = m then 0 else hI h 53 l := fun l => by
    rw [f3.C 53 rfl rfl, q9, hI_ne (by decide), q7, hI_row, q5, hI_ne (by decide), q2, hI_ne (by decide), q1, hI_ne (by decide)]
    rfl
  have t54 : ∀ l, hI y.2 54 l = if l = m then (at' : Int) else hI h 54 l := fun l => by
    rw [f3.C 54 rfl rfl, q9, hI_row, e2, q7, hI_ne (by decide), q5, hI_ne (by decide), q2, hI_ne (by decide), q1, hI_ne (by decide)]
  have b60 := cb fun q => X 0 q = 0 ∧ X 1 q = at'
  have b10 := cb fun q => X 0 q = 0 ∨ X 0 q = 1
  have v60 : (ea_i h 60 at').toInt = cnt (fun q => X 0 q = 0 ∧ X 1 q = at') m := r4 at' ha
  have v10 : (ea_i h 52 10).toInt = cnt (fun q => X 0 q = 0 ∨ X 0 q = 1) m := r6
  have t60 : ∀ c, hI y.2 60 c = if c = at' then cnt (fun q => X 0 q = 0 ∧ X 1 q = at') m + 1 else hI h 60 c := fun c => by
    have e : ea_i H2 60 at' = ea_i h 60 at' := by rw [q2, i_ne (by decide), q1, i_ne (by decide)]
    rw [f3.C 60 rfl rfl, q9, hI_ne (by decide), q7, hI_ne (by decide), q5, hI_row, e, n_add, v60, l_1, n_bm (by omega) (by omega), q2, hI_ne (by decide), q1, hI_ne (by decide)]
  have t10 : hI y.2 52 10 = cnt (fun q => X 0 q = 0 ∨ X 0 q = 1) m + 1 := by
    have e : ea_i H1 52 10 = ea_i h 52 10 := by rw [q1, i_nk (by decide)]
    rw [f3.C 52 rfl rfl, q9, hI_ne (by decide), q7, hI_ne (by decide), q5, hI_ne (by decide), q2, hI_at, e, n_add, v10, l_1, n_bm (by omega) (by omega)]
  have t0 : hI y.2 52 0 = ((m + 1 : Nat) : Int) := by
    rw [f3.C 52 rfl rfl, q9, hI_ne (by decide), q7, hI_ne (by decide), q5, hI_ne (by decide), q2, hI_nk (by decide), q1, hI_at, n_inc v0 (by omega)]
  have same : ∀ (P Q : Nat → Prop), (∀ q, q < m → (P q ↔ Q q)) → ¬ Q m → cnt P m = cnt Q (m + 1) := fun P Q e hm => by
    rw [cnt_s, one_neg hm, Int.add_zero]
    exact cnt_eq e
  have FF := (F.up rfl rfl : fq [(53, 54), (60, 60)] [((52, 52), 0, 0), ((52, 52), 10, 10), ((76, 315), 16, 17)] h H9).tr (f3.up rfl rfl)
  refine ⟨FF, oth, ⟨⟨t0, by omega⟩, fun l hl => ?_, fun r hr => ?_, fun c hc => ?_, fun r hr => ?_, ?_, fun k => or01 (FF.C 57 rfl rfl k) (r7 k)⟩, fun l hl => ?_, fun l hl hl2 => ?_⟩
  · rw [t53, t54, FF.C 56 rfl rfl, FF.C 55 rfl rfl, FF.C 57 rfl rfl, FF.C 59 rfl rfl, nX_0, nX_1, nX_2, nX_3, nX_4, nX_5]
    by_cases z : l = m
    · rw [if_pos z, if_pos z, if_pos z, if_pos z, if_pos z, if_pos z, if_pos z, z, h3]
      exact ⟨rfl, rfl, (rn.2 m (Nat.le_refl _) hm).2.1, fun q => absurd q (by decide), fun q => by rcases q with q | q <;> exact absurd q (by decide)⟩
    · rw [if_neg z, if_neg z, if_neg z, if_neg z, if_neg z, if_neg z, if_neg z]
      exact r2 l (by omega)
  · rw [FF.C 58 rfl rfl, nX_6]
    exact r3 r hr
  · rw [t60]
    by_cases z : c = at'
    · subst z
      rw [if_pos rfl, cnt_s, one_pos (by rw [nX_0, nX_1, if_pos rfl, if_pos rfl]; exact ⟨rfl, rfl⟩)]
      congr 1
      exact cnt_eq fun q hq => by rw [nX_0, nX_1, if_neg (by omega), if_neg (by omega)]
    · rw [if_neg z, r4 c hc]
      refine same _ _ (fun q hq => by rw [nX_0, nX_1, if_neg (by omega), if_neg (by omega)]) ?_
      rw [nX_0, nX_1, if_pos rfl, if_pos rfl]
      intro w
      have := w.2
      omega
  · rw [FF.C 61 rfl rfl, r5 r hr]
    refine same _ _ (fun q hq => by rw [nX_0, nX_1, if_neg (by omega), if_neg (by omega)]) ?_
    rw [nX_0, if_pos rfl]
    intro w
    exact absurd w.1 (by decide)
  · rw [t10, cnt_s, one_pos (by rw [nX_0, if_pos rfl]; exact Or.inl rfl)]
    congr 1
    exact cnt_eq fun q hq => by rw [nX_0, if_neg (by omega)]
  · rw [nX_7 h7]
    by_cases z : l = m
    · obtain ⟨w1, w2, w3⟩ := nX_8 (X := X) (now := now) (a := (at' : Int)) h7 (1000 * m + ((1 : Int) - 1).toNat)
      rw [if_pos (by omega)] at w1 w2 w3
      rw [if_pos z, z, w1, w2, w3]
      exact ⟨y2, y3⟩
    · have b7l := b7 l (by omega)
      obtain ⟨w1, w2, w3⟩ := nX_8 (X := X) (now := now) (a := (at' : Int)) h7 (1000 * l + (X 7 l - 1).toNat)
      rw [if_neg (by omega)] at w1 w2 w3
      rw [if_neg z, w1, w2, w3, oth _ _ (by omega) (by omega) (by omega), oth _ _ (by omega) (by omega) (by omega)]
      exact rn.1 l (by omega)
  · obtain ⟨u1, u2, u3⟩ := rn.2 l (by omega) hl2
    rw [oth _ _ (by omega) (by omega) (by omega), FF.C 56 rfl rfl]
    exact ⟨u1, u2, fun c => (mkB_fq FF rfl c l).trans (u3 c)⟩
/-- what is told of the letters with the new one -/
def nG (G : Nat → Nat → Int) (m : Nat) (to dd : Int) : Nat → Nat → Int := upX (upX (upX (upX G 0 m to) 1 m 0) 2 m dd) 7 0 ((m + 1 : Nat) : Int)
theorem nG_l {to dd : Int} (k : Nat) : nG G m to dd 0 k = (if k = m then to else G 0 k) ∧ nG G m to dd 1 k = (if k = m then 0 else G 1 k) ∧ nG G m to dd 2 k = (if k = m then dd else G 2 k) := by
  unfold nG
  rw [upX_ne (show (0 : Nat) ≠ 7 by decide), upX_ne (show (0 : Nat) ≠ 2 by decide), upX_ne (show (0 : Nat) ≠ 1 by decide), upX_row, upX_ne (show (1 : Nat) ≠ 7 by decide), upX_ne (show (1 : Nat) ≠ 2 by decide), upX_row, upX_ne (show (1 : Nat) ≠ 0 by decide), upX_ne (show (2 : Nat) ≠ 7 by decide), upX_row, upX_ne (show (2 : Nat) ≠ 1 by decide), upX_ne (show (2 : Nat) ≠ 0 by decide)]
  exact ⟨rfl, rfl, rfl⟩
theorem nG_f {to dd : Int} {f : Nat} (h0 : f ≠ 0) (h1 : f ≠ 1) (h2 : f ≠ 2) (h7 : f ≠ 7) (k : Nat) : nG G m to dd f k = G f k := by
  unfold nG
  rw [upX_ne h7, upX_ne h2, upX_ne h1, upX_ne h0]
theorem nG_7 {to dd : Int} : nG G m to dd 7 0 = ((m + 1 : Nat) : Int) ∧ nG G m to dd 7 1 = G 7 1 := by
  unfold nG
  rw [upX_row, upX_row, if_pos rfl, if_neg (by decide), upX_ne (by decide), upX_ne (by decide), upX_ne (by decide)]
  exact ⟨rfl, rfl⟩
theorem Ld1_g {pf fr : Nat → Int} {M : Nat → Bool} {l : Nat} (g0 : G' 0 l = G 0 l) (g1 : G' 1 l = G 1 l) (h : Ld1 T L G pf fr M p X l) : Ld1 T L G' pf fr M p X l := by
  have s : ∀ town, stIn G' l town = stIn G l town := fun town => by
    unfold stIn
    rw [g0, g1]
  obtain ⟨d1, d2, d3, d4, d5, d6⟩ := h
  refine ⟨d1, d2, d3, fun i hi => ?_, fun hx x hxm hg => ?_, d6⟩
  · unfold ldRow
    rw [s]
    exact d4 i hi
  · rw [g0]
    exact d5 hx x hxm hg
theorem ldK_none {M : Nat → Bool} (hM : ∀ c, M c = false) (p : Nat) : ldK L M p = [] := by
  unfold ldK
  rw [List.filter_eq_nil_iff]
  intro x _
  rw [hM]
  decide
end NX
