/-! trials, purely: rows do not matter for what happens; the sum of minutes -/
def eq6 (X Y : Nat → Nat → Int) : Prop := ∀ f, f ≤ 6 → ∀ k, X f k = Y f k
section EX
variable {T : Nat → Nat → Nat → Nat} {L : List Nat} {G X Y Z W : Nat → Nat → Int} {m n : Nat} {h h' : ea_H}
theorem mvX_e6 {l : Nat} {mn st pl : Int} (e : eq6 X Y) : eq6 (mvX X l mn st pl) (mvX Y l mn st pl) := fun f hf k => by
  have hc : f = 0 ∨ f = 1 ∨ f = 2 ∨ f = 3 ∨ f = 4 ∨ f = 5 ∨ f = 6 := by omega
  rcases hc with q | q | q | q | q | q | q <;> subst q
  · rw [mvX_0, mvX_0, e 0 (by decide)]
  · rw [mvX_1, mvX_1, e 1 (by decide)]
  · rw [mvX_2, mvX_2, e 2 (by decide)]
  · rw [mvX_3, mvX_3, e 3 (by decide)]
  · rw [mvX_4, mvX_4, e 4 (by decide)]
  · rw [mvX_5, mvX_5, e 5 (by decide)]
  · rw [mvX_6, mvX_6, e 6 (by decide)]
theorem upX_e6 {g j : Nat} {v v' : Int} (hv : v = v') (e : eq6 X Y) : eq6 (upX X g j v) (upX Y g j v') := fun f hf k => by
  show (if f = g ∧ k = j then v else X f k) = if f = g ∧ k = j then v' else Y f k
  rw [hv, e f hf]
theorem ite_e6 {p q : Prop} {A B C D : Nat → Nat → Int} (pq : p ↔ q) (a : eq6 A C) (b : eq6 B D) : eq6 (@ite _ p (Classical.propDecidable _) A B) (@ite _ q (Classical.propDecidable _) C D) := by
  by_cases c : p
  · rw [if_pos c, if_pos (pq.mp c)]
    exact a
  · rw [if_neg c, if_neg (fun z => c (pq.mpr z))]
    exact b
theorem brF_e6 {day : Nat} (e : eq6 X Y) : ∀ j, eq6 (brF G day X j) (brF G day Y j) := by
  intro j
  induction j with
  | zero => exact e
  | succ j ih =>
    refine ite_e6 ?_ ?_ ih
    · unfold brC
      rw [ih 0 (by decide), ih 5 (by decide)]
    · rw [ih 1 (by decide)]
      exact mvX_e6 ih
theorem brN_e6 : ∀ (k day : Nat) (X Y : Nat → Nat → Int), eq6 X Y → eq6 (brN G k day X) (brN G k day Y) := by
  intro k
  induction k with
  | zero => exact fun _ _ _ e => e
  | succ k ih => exact fun day X Y e => ih (day + 1) _ _ (brF_e6 e _)
theorem bdF_e6 {x : Nat} (e : eq6 X Y) : ∀ j, eq6 (bdF T L G x X j) (bdF T L G x Y j) := by
  intro j
  induction j with
  | zero => exact e
  | succ j ih =>
    refine ite_e6 ?_ (upX_e6 rfl (mvX_e6 ih)) ih
    unfold bdC
    rw [ih 0 (by decide), ih 1 (by decide)]
theorem cmF_e6 {x : Nat} (e : eq6 X Y) : ∀ j, eq6 (cmF T G x X j) (cmF T G x Y j) := by
  intro j
  induction j with
  | zero => exact e
  | succ j ih =>
    refine ite_e6 ?_ (upX_e6 rfl (mvX_e6 (ite_e6 ?_ (upX_e6 ?_ (upX_e6 ?_ ih)) ih))) ih
    · unfold cmC
      rw [ih 0 (by decide), ih 1 (by decide), ih 4 (by decide), ih 2 (by decide)]
    · rw [ih 4 (by decide)]
    · rw [ih 6 (by decide)]
    · rw [ih 3 (by decide)]
theorem soF_e6 {r town k : Nat} {Z W : (Nat → Nat → Int) × (Nat → Int)} (e : eq6 Z.1 W.1) (e2 : Z.2 = W.2) : ∀ j, eq6 (soF G r town k Z j).1 (soF G r town k W j).1 ∧ (soF G r town k Z j).2 = (soF G r town k W j).2 := by
  intro j
  induction j with
  | zero => exact ⟨e, e2⟩
  | succ j ih =>
    obtain ⟨i1, i2⟩ := ih
    show eq6 (soL G r town k (soF G r town k Z j) j).1 (soL G r town k (soF G r town k W j) j).1 ∧ (soL G r town k (soF G r town k Z j) j).2 = (soL G r town k (soF G r town k W j) j).2
    unfold soL
    have c : soC (soF G r town k Z j).1 r k j ↔ soC (soF G r town k W j).1 r k j := by
      unfold soC
      rw [i1 0 (by decide), i1 1 (by decide), i1 4 (by decide), i1 2 (by decide)]
    rw [i2]
    by_cases q : soC (soF G r town k Z j).1 r k j ∧ sFst (sOk G (soF G r town k W j).2 town) (G 7 1).toNat 0 < (G 7 1).toNat
    · rw [if_pos q, if_pos ⟨c.mp q.1, q.2⟩]
      exact ⟨upX_e6 rfl i1, rfl⟩
    · rw [if_neg q, if_neg (fun z => q ⟨c.mpr z.1, z.2⟩)]
      exact ⟨i1, i2⟩
theorem soK_e6 {r t : Nat} {Z W : (Nat → Nat → Int) × (Nat → Int)} (e : eq6 Z.1 W.1) (e2 : Z.2 = W.2) : ∀ k, eq6 (soK T G r t Z k).1 (soK T G r t W k).1 ∧ (soK T G r t Z k).2 = (soK T G r t W k).2 := by
  intro k
  induction k with
  | zero => exact ⟨e, e2⟩
  | succ k ih => exact soF_e6 ih.1 ih.2 _
theorem evX_e6 {x : Nat} (e : eq6 X Y) : eq6 (evX T L G x X) (evX T L G x Y) := by
  unfold evX
  split
  · unfold goX
    refine (soK_e6 (Z := (if G 3 (8 * kR x + kI x) = 0 then bdF T L G x X (G 7 0).toNat else X, sTm T G (kT x) (kI x))) (W := (if G 3 (8 * kR x + kI x) = 0 then bdF T L G x Y (G 7 0).toNat else Y, sTm T G (kT x) (kI x))) ?_ rfl 8).1
    dsimp only
    split
    · exact bdF_e6 e _
    · exact e
  · unfold coX
    split
    · exact cmF_e6 e _
    · exact e
theorem caX_e6 {up : Nat} : ∀ (S : List Nat) (cur : Nat) (X Y : Nat → Nat → Int), eq6 X Y → eq6 (caX T L G up S cur X) (caX T L G up S cur Y) := by
  intro S
  induction S with
  | nil => exact fun cur X Y e => brN_e6 _ _ X Y e
  | cons x S ih =>
    intro cur X Y e
    show eq6 (if kMin x ≤ up then caX T L G up S (kMin x) (evX T L G x (brN G (kMin x / 1440 - cur / 1440) (cur / 1440 + 1) X)) else brN G (up / 1440 - cur / 1440) (cur / 1440 + 1) X) (if kMin x ≤ up then caX T L G up S (kMin x) (evX T L G x (brN G (kMin x / 1440 - cur / 1440) (cur / 1440 + 1) Y)) else brN G (up / 1440 - cur / 1440) (cur / 1440 + 1) Y)
    by_cases c : kMin x ≤ up
    · rw [if_pos c, if_pos c]
      exact ih _ _ _ (evX_e6 (brN_e6 _ _ X Y e))
    · rw [if_neg c, if_neg c]
      exact brN_e6 _ _ X Y e
/-- the sum of minutes -/
def smX (X : Nat → Nat → Int) : Nat → Int
  | 0 => 0
  | j + 1 => smX X j + (if X 0 j = 2 then X 5 j else if X 0 j = 0 ∨ X 0 j = 1 then 10080 else 0)
theorem smX_e6 (e : eq6 X Y) : ∀ j, smX X j = smX Y j := by
  intro j
  induction j with
  | zero => rfl
  | succ j ih =>
    show smX X j + _ = smX Y j + _
    rw [ih, e 0 (by decide), e 5 (by decide)]
theorem smX_b {B : Nat → Int} (hX : XOk T m B X) : ∀ j, j ≤ m → 0 ≤ smX X j ∧ smX X j ≤ 10080 * (j : Int) := by
  intro j
  induction j with
  | zero => exact fun _ => ⟨Int.le_refl _, Int.le_refl _⟩
  | succ j ih =>
    intro hj
    have := ih (by omega)
    have x5 := (hX j (by omega)).2.2.2.1
    show 0 ≤ smX X j + (if X 0 j = 2 then X 5 j else if X 0 j = 0 ∨ X 0 j = 1 then 10080 else 0) ∧ smX X j + (if X 0 j = 2 then X 5 j else if X 0 j = 0 ∨ X 0 j = 1 then 10080 else 0) ≤ _
    by_cases c : X 0 j = 2
    · rw [if_pos c]
      omega
    · rw [if_neg c]
      by_cases d : X 0 j = 0 ∨ X 0 j = 1
      · rw [if_pos d]
        omega
      · rw [if_neg d]
        omega
theorem c_sum62 {B : Nat → Int} (hX : XOk T m B X) (rc : RC62 m X h) : sat (qX1_sumOfMinutes_at62 h) fun y => y.2 = h ∧ y.1.toInt = smX X m := by
  obtain ⟨⟨r0, r1⟩, r2, -⟩ := rc
  have H : ∀ (j e : Nat) (x1 x2 : Int32), e + j = m → x2.toInt = e → x1.toInt = smX X e → sat (qX1_sumOfMinutes_at62_4 x1 x2 h) fun y => y.2 = h ∧ y.1.toInt = smX X m := by
    intro j
    induction j with
    | zero =>
      intro e x1 x2 he e2 e1
      refine uqX1_sumOfMinutes_at62_4 ?_
      unfold BX1_sumOfMinutes_at62_4
      refine sat_pos (by rw [n_le, hI_eq, r0, e2]; omega) (sat_ret ⟨rfl, ?_⟩)
      rw [show m = e by omega]
      exact e1
    | succ j ih =>
      intro e x1 x2 he e2 e1
      obtain ⟨w0, -, -, -, w5⟩ := r2 e (by omega)
      have g := vp80 e2 (show e < 120 by omega)
      have ic : x2.toNatClampNeg = e := by
        rw [n_idx, e2]
        rfl
      have v63 : (ea_i h 63 e).toInt = X 0 e := w0
      have sb := smX_b hX e (by omega)
      have x5 := (hX e (by omega)).2.2.2.1
      refine uqX1_sumOfMinutes_at62_4 ?_
      unfold BX1_sumOfMinutes_at62_4
      rw [ic]
      refine sat_neg (by rw [n_le, hI_eq, r0, e2]; omega) (sat_gd g (sat_ite (fun c => ?_) fun c => ?_))
      · rw [n_eq, v63, l_2] at c
        have v69 : (ea_i h 69 e).toInt = X 5 e := w5 (Or.inl c)
        refine sat_gd g (sat_sub (ih (e + 1) _ (x2 + 1) (by omega) (n_inc e2 (by omega)) ?_))
        show _ = smX X e + _
        rw [n_add, e1, v69, if_pos c, n_bm (by omega) (by omega)]
      rw [n_eq, v63, l_2] at c
      refine sat_gd g (sat_ite (fun d => ?_) fun d => ?_)
      · rw [n_eq, v63, l_0] at d
        refine ih (e + 1) _ (x2 + 1) (by omega) (n_inc e2 (by omega)) ?_
        show _ = smX X e + _
        rw [n_add, e1, l_10080, if_neg c, if_pos (Or.inl d), n_bm (by omega) (by omega)]
      rw [n_eq, v63, l_0] at d
      refine sat_gd g (sat_ite (fun d2 => ?_) fun d2 => ?_)
      · rw [n_eq, v63, l_1] at d2
        refine ih (e + 1) _ (x2 + 1) (by omega) (n_inc e2 (by omega)) ?_
        show _ = smX X e + _
        rw [n_add, e1, l_10080, if_neg c, if_pos (Or.inr d2), n_bm (by omega) (by omega)]
      rw [n_eq, v63, l_1] at d2
      refine ih (e + 1) _ (x2 + 1) (by omega) (n_inc e2 (by omega)) ?_
      show _ = smX X e + _
      rw [e1, if_neg c, if_neg (by omega), Int.add_zero]
  unfold qX1_sumOfMinutes_at62
  refine uqX1_sumOfMinutes_at62_0 ?_
  unfold BX1_sumOfMinutes_at62_0
  exact H m 0 0 0 (by omega) rfl rfl
end EX
