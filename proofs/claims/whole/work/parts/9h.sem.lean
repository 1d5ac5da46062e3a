/-! a letter's rows as the class finds them again -/
section RW
variable {T : Nat → Nat → Nat → Nat} {L : List Nat} {G : Nat → Nat → Int} {m : Nat} {X : Nat → Nat → Int}
theorem mk_is {x : Int64} {y : Int32} {k : Nat} (hy : y.toInt = k) (hk : k < 64) : ((x >>> (y.toInt64 &&& 63)) &&& (1 : Int64)) = 1 ↔ x.toBitVec.getLsbD k = true := by
  have e : ((x >>> (y.toInt64 &&& 63)) &&& (1 : Int64)).toBitVec = BitVec.setWidth 64 (BitVec.ofBool (x.toBitVec.getLsbD k)) := by
    rw [Int64.toBitVec_and, Int64.toBitVec_shiftRight]
    show (BitVec.sshiftRight x.toBitVec ((y.toInt64 &&& 63).toBitVec.smod 64).toNat) &&& 1#64 = _
    rw [s_amtJ hy hk, BitVec.and_one_eq_setWidth_ofBool_getLsbD, BitVec.getLsbD_sshiftRight]
    simp [hk]
  rw [← Int64.toBitVec_inj, e]
  cases x.toBitVec.getLsbD k <;> decide
theorem c_isMarked {x1 x2 : Int32} {x l : Nat} (e1 : x1.toInt = x) (e2 : x2.toInt = l) (hl : l < 120) (hT : kT x < 10) (hD : kD x < 7) (h : ea_H) : ∃ v, qX4_isMarked x1 x2 h = some (v, h) ∧ ((v = 1 ∧ mkB h (kC x) l = true) ∨ (v = 0 ∧ ¬ mkB h (kC x) l = true)) := by
  obtain ⟨v, p, r⟩ := c_wordOf e1 e2 hl hT hD h
  have hS : kS x < 560 := kS_lt ⟨hT, hD⟩
  have hgl := kGo_lt x
  have hC : kC x < 1120 := by
    unfold kC
    omega
  have ic : v.toNatClampNeg = 2 * kC x + l / 64 := by
    rw [n_idx, r]
    rfl
  have g := vp80 r (show 2 * kC x + l / 64 < 2240 by omega)
  have hm : (x2 - x2 / (64 : Int32) * (64 : Int32)).toInt = ((l % 64 : Nat) : Int) := by
    rw [n_rem0 (m := 64) (by omega) l_64 (by decide), e2]
    omega
  have H : sat (qX4_isMarked x1 x2 h) fun y => y.2 = h ∧ ((y.1 = 1 ∧ mkB h (kC x) l = true) ∨ (y.1 = 0 ∧ ¬ mkB h (kC x) l = true)) := by
    unfold qX4_isMarked BX4_isMarked_0
    refine sat_call p (sat_gd g ?_)
    dsimp only
    rw [ic]
    have K := mk_is (x := ea_j h 51 (2 * kC x + l / 64)) hm (Nat.mod_lt _ (by decide))
    refine sat_ite (fun z => ?_) fun z => ?_
    · rw [lg_eq0] at z
      exact sat_ret ⟨rfl, Or.inl ⟨rfl, K.mp z⟩⟩
    · rw [lg_eq0] at z
      exact sat_ret ⟨rfl, Or.inr ⟨rfl, fun w => z (K.mpr w)⟩⟩
  obtain ⟨⟨v, h2⟩, q1, q2, q3⟩ := H
  have q2 : h2 = h := q2
  subst q2
  exact ⟨v, q1, q3⟩
def rwV (X : Nat → Nat → Int) (l r : Nat) : Int := X 8 (1000 * l + r) * 1024 + X 9 (1000 * l + r) * 128 + X 10 (1000 * l + r)
theorem c_rowBy (ok : tOk T) {h : ea_H} (g : gCx T L G h) (hG : G 7 0 = m) {x1 : Int32} {x l i : Nat} (e1 : x1.toInt = x) (hx : tKey T x) (hl : l < m) (hm : m ≤ 120) (hr : ldRow T G X l i x) : ∃ v, qX4_rowBy x1 (some (76 + 2 * l)) h = some (v, h) ∧ v.toInt = rwV X l (i + 1) := by
  obtain ⟨t1, t2, t3, t4, t5, t6, t7, t8⟩ := t_bounds ok hx
  obtain ⟨hs, hT, gc, -, -⟩ := g
  obtain ⟨-, k2⟩ := ltr_ref hs (show l < 120 by omega)
  obtain ⟨v1, p1, q1⟩ := c_trainIn e1 h
  obtain ⟨v2, p2, q2⟩ := c_isGoing e1 h
  obtain ⟨v3, p3, q3⟩ := c_stopIn e1 h
  obtain ⟨v4, p4, q4⟩ := c_minuteIn e1 h
  obtain ⟨v5, p5, q5⟩ := c_dayIn e1 h
  obtain ⟨r1, r2, r3⟩ := hr
  refine sat_ex ?_
  unfold qX4_rowBy BX4_rowBy_0
  refine sat_call p1 (sat_call p2 ?_)
  unfold rwV
  rw [show i + 1 = 1 + i by omega, r1, r2, r3]
  have hgo := kGo_lt x
  by_cases z : kGo x = 1
  · rw [if_pos z, if_pos z]
    refine sat_neg (by rw [n_eq, l_0]; dsimp only; omega) (sat_call p4 (sat_call p5 ?_))
    dsimp only
    have er : ((10 : Int32) * v5 + v1).toInt = (kR x : Int) := by
      rw [n_add, n_mul, q1, q5, l_10, n_bm (z := 10 * (kD x : Int)) (by omega) (by omega), n_bm (by omega) (by omega)]
      unfold kR
      omega
    obtain ⟨v, p, q⟩ := c_row q4 l_1 er (by omega) (by omega) (by decide) (by decide) (by omega) (by omega) h
    exact sat_call p (sat_ret ⟨rfl, q⟩)
  · rw [if_neg z, if_neg z]
    have e8 : ((8 : Int32) * v1 + v3).toInt = ((8 * kT x + kI x : Nat) : Int) := by
      rw [n_add, n_mul, q1, q3, l_8, n_bm (z := 8 * (kT x : Int)) (by omega) (by omega), n_bm (by omega) (by omega)]
      omega
    have ic : ((8 : Int32) * v1 + v3).toNatClampNeg = 8 * kT x + kI x := by
      rw [n_idx, e8]
      rfl
    have etw : (ea_i h 7 (8 * kT x + kI x)).toInt = (kA (tW T) x : Int) := (hT.2.2.1 (kT x) (kI x) t1 t3).1
    refine sat_pos (by rw [n_eq, l_0]; dsimp only; omega) (sat_call p3 ?_)
    dsimp only
    refine sat_gd (vp80 e8 (by omega)) (sat_let fun v6 hv6 => sat_call p4 (sat_gd rfl (sat_gd k2 ?_)))
    rw [ic] at hv6
    have e6 : v6.toInt = (kA (tW T) x : Int) := by rw [hv6, etw]
    obtain ⟨v7, p7, q7⟩ := c_stateIn e6 hs hG gc hl
    refine sat_call p7 ?_
    dsimp only
    have sc := stIn_c G l (kA (tW T) x)
    obtain ⟨v, p, q⟩ := c_row q4 q7 e6 (by omega) (by omega) (by omega) (by omega) (by omega) (by omega) h
    exact sat_call p (sat_ret ⟨rfl, q⟩)
theorem ldK_pre {M : Nat → Bool} {e q : Nat} (h : e ≤ q) : ∃ R, ldK L M q = ldK L M e ++ R := by
  unfold ldK
  refine ⟨((L.drop e).take (q - e)).filter fun x => M (kC x), ?_⟩
  rw [← List.filter_append, ← List.take_add, show e + (q - e) = q by omega]
theorem c_walk (ok : tOk T) (hL : tList T L) {h : ea_H} (g : gCx T L G h) (hG : G 7 0 = m) (hm : m ≤ 120) {l p q i : Nat} (hl : l < m) (hqp : q ≤ p) {t : Nat} (hq : fstB L t q) (hrow : ∀ i, i < (ldK L (fun c => mkB h c l) p).length → ldRow T G X l i ((ldK L (fun c => mkB h c l) p).getD i 0)) {x1 x2 x3 : Int32} (e1 : x1.toInt = l) (e2 : x2.toInt = i) (e3 : x3.toInt = t) : ∀ (j e : Nat) (x5 x6 x7 : Int32), e + j = L.length → e ≤ q → x7.toInt = e → x6.toInt = ((ldK L (fun c => mkB h c l) e).length : Int) → x5.toInt = rwV X l (ldK L (fun c => mkB h c l) e).length → (ldK L (fun c => mkB h c l) e).length ≤ i → sat (qX4_rowOf_77 x1 x2 x3 (some (76 + 2 * l)) x5 x6 x7 h) fun y => y.2 = h ∧ y.1.toInt = rwV X l (min i (ldK L (fun c => mkB h c l) q).length) := by
  have h9 := t_len2 ok hL
  have gk := g.2.2.2.1
  generalize hM : (fun c => mkB h c l) = M at *
  have hMc : ∀ c, M c = mkB h c l := fun c => by rw [← hM]
  intro j
  induction j with
  | zero =>
    intro e x5 x6 x7 he heq e7 e6 e5 hn
    have hq1 := hq.1
    obtain rfl : e = q := by omega
    refine uqX4_rowOf_77 ?_
    unfold BX4_rowOf_77
    refine sat_pos (by rw [n_le, hI_eq, gk.1, e7]; omega) (sat_ret ⟨rfl, ?_⟩)
    rw [Nat.min_eq_right hn]
    exact e5
  | succ j ih =>
    intro e x5 x6 x7 he heq e7 e6 e5 hn
    obtain ⟨R, hR⟩ := ldK_pre (L := L) (M := M) heq
    have hle : (ldK L M e).length ≤ (ldK L M q).length := by
      rw [hR, List.length_append]
      omega
    have hlen : (ldK L M e).length ≤ e := by
      unfold ldK
      exact Nat.le_trans (List.length_filter_le _ _) (by rw [List.length_take]; omega)
    refine uqX4_rowOf_77 ?_
    unfold BX4_rowOf_77
    refine sat_neg (by rw [n_le, hI_eq, gk.1, e7]; omega) (sat_ite (fun z => ?_) fun z => ?_)
    · rw [n_le, e2, e6] at z
      refine sat_ret ⟨rfl, ?_⟩
      rw [Nat.min_eq_left (by omega), show i = (ldK L M e).length by omega]
      exact e5
    · rw [n_le, e2, e6] at z
      obtain ⟨v, pv, qv⟩ := c_keyAt h9 e7 (show e < L.length by omega) gk
      obtain ⟨w, pw, qw⟩ := c_minuteIn qv h
      have hk := (hL.2 _).mp (getD_mem (show e < L.length by omega))
      obtain ⟨t1, t2, -⟩ := t_bounds ok hk
      refine sat_call pv (sat_call pw (sat_ite (fun c => ?_) fun c => ?_))
      · rw [n_le, qw, e3] at c
        have heq2 : e < q := (hq.2 e (by omega)).mpr (by omega)
        have hnx := ldK_next (M := M) (M' := M) ok hL (show e < L.length by omega) fun _ _ => rfl
        obtain ⟨u, pu, qu⟩ := c_isMarked qv e1 (show l < 120 by omega) t1 t2 h
        refine sat_call pu ?_
        rcases qu with ⟨u1, u2⟩ | ⟨u1, u2⟩
        · rw [if_pos ((hMc _).trans u2)] at hnx
          obtain ⟨R2, hR2⟩ := ldK_pre (L := L) (M := M) (show e + 1 ≤ p by omega)
          have hg : (ldK L M p).getD (ldK L M e).length 0 = L.getD e 0 := by
            rw [hR2, hnx, List.append_assoc, List.getD_eq_getElem?_getD, List.getElem?_append_right (Nat.le_refl _), Nat.sub_self]
            rfl
          have hlt : (ldK L M e).length < (ldK L M p).length := by
            rw [hR2, hnx, List.length_append, List.length_append]
            simp
            omega
          have hr := hrow _ hlt
          rw [hg] at hr
          obtain ⟨y, py, qy⟩ := c_rowBy ok g hG qv hk hl hm hr
          have hl1 : (ldK L M (e + 1)).length = (ldK L M e).length + 1 := by
            rw [hnx, List.length_append]
            rfl
          refine sat_neg (by rw [u1]; exact i1_ne_0) (sat_call py ?_)
          refine ih (e + 1) _ _ _ (by omega) (by omega) (n_inc e7 (by omega)) ?_ ?_ (by omega)
          · rw [hl1]
            exact n_inc e6 (by omega)
          · rw [hl1]
            exact qy
        · rw [if_neg (fun z => u2 ((hMc _).symm.trans z)), List.append_nil] at hnx
          refine sat_pos u1 ?_
          refine ih (e + 1) _ _ _ (by omega) (by omega) (n_inc e7 (by omega)) ?_ ?_ ?_
          · rw [hnx]
            exact e6
          · rw [hnx]
            exact e5
          · rw [hnx]
            exact hn
      · rw [n_le, qw, e3] at c
        have : ¬ e < q := fun w => c (by have := (hq.2 e (by omega)).mp w; omega)
        obtain rfl : e = q := by omega
        refine sat_ret ⟨rfl, ?_⟩
        rw [Nat.min_eq_right hn]
        exact e5
end RW
