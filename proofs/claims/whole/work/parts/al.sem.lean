/-! calls: whatIf -/
section WIF
variable {T : Nat → Nat → Nat → Nat} {L : List Nat} {G X Y : Nat → Nat → Int} {m n p t d k : Nat} {h h' : ea_H}
theorem tLat_D (t' d' : Nat) : tD (tLat T t d k) t' d' = if t' = t ∧ d' = d then k else tD T t' d' := by
  show (if 5 = 5 ∧ t' = t ∧ d' = d then k else T 5 t' d') = _
  by_cases q : t' = t ∧ d' = d
  · rw [if_pos q, if_pos ⟨rfl, q⟩]
  · rw [if_neg q, if_neg (fun z => q z.2)]
    rfl
theorem CTab.lat (s : keq [(6, 9)] [((5, 5), 0, 0)] h h') (ht : t < 10) (e : ∀ j, hI h' 11 j = if j = 10 * d + t then (k : Int) else hI h 11 j) (c : CTab h T) : CTab h' (tLat T t d k) := by
  obtain ⟨z1, z2, z3, z4⟩ := c
  refine ⟨(s.V 5 0 rfl).trans z1, fun t' ht' => (s.W 6 rfl _).trans (z2 t' ht'), fun t' i ht' hi => ?_, fun t' d' ht' hd' => ?_⟩
  · show hI h' 7 _ = _ ∧ hI h' 8 _ = _ ∧ hI h' 9 _ = _
    rw [s.W 7 rfl, s.W 8 rfl, s.W 9 rfl]
    exact z3 t' i ht' hi
  · rw [e, tLat_D]
    by_cases q : t' = t ∧ d' = d
    · rw [if_pos (by omega), if_pos q]
    · rw [if_neg (by omega), if_neg q]
      exact z4 t' d' ht' hd'
theorem MTab.lat (s : keq [(328, 331)] [((326, 326), 2, 2)] h h') (hd : d < 7) (e : ∀ j, hI h' 332 j = if j = 7 * t + d then (k : Int) else hI h 332 j) (c : MTab h T) : MTab h' (tLat T t d k) := by
  obtain ⟨z1, z2, z3, z4⟩ := c
  refine ⟨(s.V 326 2 rfl).trans z1, fun t' ht' => (s.W 328 rfl _).trans (z2 t' ht'), fun t' i ht' hi => ?_, fun t' d' ht' hd' => ?_⟩
  · show hI h' 329 _ = _ ∧ hI h' 330 _ = _ ∧ hI h' 331 _ = _
    rw [s.W 329 rfl, s.W 330 rfl, s.W 331 rfl]
    exact z3 t' i ht' hi
  · rw [e, tLat_D]
    by_cases q : t' = t ∧ d' = d
    · rw [if_pos (by omega), if_pos q]
    · rw [if_neg (by omega), if_neg q]
      exact z4 t' d' ht' hd'
theorem tb_rw (ok : tOk T) (hL : tList T L) (hG : G 7 0 = m) {now : Nat} (n1 : now ≤ 10079) (hp1 : p ≤ L.length) (hX : XOk T m (fun _ => 2 + (p : Int)) X) : ∀ l, l < m → rwE X (caX T L G 10079 (L.drop p) now X) l := fun l hl i hi => by
  have h980 := t_len2 ok hL
  have x7 := XOk_in (by omega) hX hl
  exact (caX_kp (up := 10079) ok hL hG (by omega) hl (L.drop p) now X (2 + (p : Int)) (fun x hx => List.mem_of_mem_drop hx) (by omega) (by rw [List.length_drop]; omega) hX).1 i hi (by omega)
def W_wi : List (Nat × Nat) := [(13, 17), (22, 22), (63, 71), (336, 346), (376, 377), (381, 390), (395, 395), (407, 415)]
def V_wi : List ((Nat × Nat) × Nat × Nat) := [((62, 62), 0, 0), ((62, 62), 10, 10), ((326, 326), 12, 13)]
theorem call_whatIf (hs : ShC h) (bs : SBas h n) (b : STb h T) (wc : SWyC h T) (wm : SWyM h T n) (sl : SLe h n T m X G) (o67 : ∀ k, hI h 67 k = 0 ∨ hI h 67 k = 1) (x1 x2 x3 : Int32) : tw (qX11_whatIf x1 x2 x3 h) (qX12_whatIf x1 x2 x3) fun h' => fq W_wi V_wi h h' ∧ SWyC h' T ∧ SWyM h' T n ∧ (∀ k, hI h' 67 k = 0 ∨ hI h' 67 k = 1) ∧ ∃ X', SLe h' n T m X' G ∧ ∀ f, f ≤ 7 → ∀ k, X' f k = X f k := by
  have sl0 := sl
  obtain ⟨b1, b2, b3, b4, b5, b6⟩ := bs
  obtain ⟨ok, cC, cM⟩ := b
  obtain ⟨now, e0⟩ : ∃ now : Nat, hI h 326 0 = now := ⟨(hI h 326 0).toNat, by omega⟩
  have n1 : now ≤ 10079 := by omega
  have idle : ∀ x : Int32, x = x ∧ fq W_wi V_wi h h ∧ SWyC h T ∧ SWyM h T n ∧ (∀ k, hI h 67 k = 0 ∨ hI h 67 k = 1) ∧ ∃ X', SLe h n T m X' G ∧ ∀ f, f ≤ 7 → ∀ k, X' f k = X f k := fun x => ⟨rfl, fq_rfl _ _ _, wc, wm, o67, X, sl0, fun _ _ _ => rfl⟩
  by_cases c : x1 = -1
  · obtain ⟨⟨hG, gc, gm, rc, rn, rm, df, L, p, hL, hp, hX, hld⟩, -⟩ := sl
    rw [e0] at hp df
    have hp : fstB L now p := hp
    have df : DFm m (fun _ => (now : Int) / 1440) X h := df
    unfold tw qX11_whatIf BX11_whatIf_0
    refine sat_pos c (sat_bind (c_outcome ok hs cC wc gc hG rc o67 hL (b1.trans e0) n1 hp hX) fun w13 hw => sat_ret ?_)
    obtain ⟨f1, k1, k2, k3⟩ := hw
    have hq : hiq h w13.2 := f1.hiq rfl
    show sat (qX12_whatIf x1 x2 x3 w13.2) _
    unfold qX12_whatIf BX12_whatIf_0
    refine sat_pos c (sat_bind (m_sums ok hL hG (MTab.hi hq cM) b6 ((hq 326 1 (by decide)).trans b5) (SWyM.hi b6 hq wm) (GM.hi hq gm) (RM0.hi hq rm) ((hq 326 0 (by decide)).trans e0) n1 (DFm.hi hq df) hp hX) fun w15 hw => sat_ret ?_)
    obtain ⟨f2, rm2, df2, wm2, v2⟩ := hw
    have F : fq W_wi V_wi h w15.2 := (f1.up rfl rfl).tr (f2.up rfl rfl)
    refine ⟨n_eq.mpr (k3.trans v2.symm), F, SWyC.kq (f2.kq rfl) k1, wm2, fun k => or01 (f2.C 67 rfl rfl k) (k2 k), _, SLe.tb (F.kq rfl) (tb_rw ok hL hG n1 hp.1 hX) rm2 (by rw [e0]; exact df2) sl0, fun f hf k => tb_lo hf⟩
  obtain ⟨v, q, r⟩ := c_may ok cC x1 x2 x3
  rw [b1] at r
  by_cases lc : ltC T (hI h 326 0) x1.toInt x2.toInt x3.toInt
  case neg =>
    rcases r with ⟨r1, r2⟩ | ⟨r1, r2⟩
    case inr => exact absurd r2 lc
    unfold tw qX11_whatIf BX11_whatIf_0
    refine sat_neg c (sat_call q (sat_pos r1 (sat_ret ?_)))
    show sat (qX12_whatIf x1 x2 x3 h) _
    obtain ⟨u, p, s⟩ := m_can ok cM x1 x2 x3
    rcases s with ⟨s1, s2⟩ | ⟨s1, s2⟩
    case inr => exact absurd s2 lc
    unfold qX12_whatIf BX12_whatIf_0
    exact sat_neg c (sat_call p (sat_pos s1 (sat_ret (idle (-1)))))
  rcases r with ⟨r1, r2⟩ | ⟨r1, -⟩
  · exact absurd lc r2
  have lc0 := lc
  obtain ⟨⟨l1, l2⟩, ⟨l3, l4⟩, ⟨l5, l6⟩, l7, l8⟩ := lc
  have ok1 := ok.1
  obtain ⟨t, e1⟩ : ∃ t : Nat, x1.toInt = t := ⟨x1.toInt.toNat, by omega⟩
  obtain ⟨d, e2⟩ : ∃ d : Nat, x2.toInt = d := ⟨x2.toInt.toNat, by omega⟩
  obtain ⟨k, e3⟩ : ∃ k : Nat, x3.toInt = k := ⟨x3.toInt.toNat, by omega⟩
  have ht : t < 10 := by omega
  have hd : d < 7 := by omega
  have hk : k ≤ 300 := by omega
  have lc1 := lc0
  rw [e1, e2, e3] at lc1
  have ok' : tOk (tLat T t d k) := tLat_ok ok hk
  have slT := tLat_le ok ok' b2 lc1 sl0
  obtain ⟨⟨hG, gc, gm, rc, rn, rm, df, L, p, hL, hp, hX, hld⟩, -⟩ := slT
  rw [e0] at hp df
  have hp : fstB L now p := hp
  have df : DFm m (fun _ => (now : Int) / 1440) X h := df
  have j1 : ((10 : Int32) * x2 + x1).toInt = ((10 * d + t : Nat) : Int) := by
    rw [n_add, n_mul, e1, e2, l_10, n_bm (z := 10 * (d : Int)) (by omega) (by omega), n_bm (by omega) (by omega)]
    omega
  have jc : ((10 : Int32) * x2 + x1).toNatClampNeg = 10 * d + t := by
    rw [n_idx, j1]
    rfl
  have k1 : ((7 : Int32) * x1 + x2).toInt = ((7 * t + d : Nat) : Int) := by
    rw [n_add, n_mul, e1, e2, l_7, n_bm (z := 7 * (t : Int)) (by omega) (by omega), n_bm (by omega) (by omega)]
    omega
  have kc : ((7 : Int32) * x1 + x2).toNatClampNeg = 7 * t + d := by
    rw [n_idx, k1]
    rfl
  have gj := vp80 j1 (show 10 * d + t < 70 by omega)
  have gk := vp80 k1 (show 7 * t + d < 70 by omega)
  unfold tw qX11_whatIf BX11_whatIf_0
  refine sat_neg c (sat_call q (sat_neg (by rw [r1]; exact i1_ne_0) (sat_sub ?_)))
  dsimp only
  rw [jc]
  refine sat_gd gj (sat_sub (sat_gd gj (sat_let fun H6 q6 => sat_let fun H7 q7 => ?_)))
  have f7 : fq [(11, 11)] [((13, 13), 0, 0)] h H7 := (q6 ▸ fq_wi rfl : fq [(11, 11)] [((13, 13), 0, 0)] h H6).tr (q7 ▸ fq_wf rfl)
  have t7 : ∀ j, hI H7 11 j = if j = 10 * d + t then (k : Int) else hI h 11 j := fun j => by rw [q7, hI_ne (by decide), q6, hI_row, e3]
  have z7 : hI H7 13 0 = 0 := by
    rw [q7, hI_at]
    rfl
  refine sat_bind (c_outcome ok' (ShC_core f7.1 hs) (CTab.lat (f7.kq rfl) ht t7 cC) (Or.inl z7) (gc.kq (f7.kq rfl)) hG (rc.kq (f7.kq rfl)) (fun k => or01 (f7.C 67 rfl rfl k) (o67 k)) hL ((f7.I 0 rfl 14 rfl).trans (b1.trans e0)) n1 hp hX) fun w8 hw => ?_
  obtain ⟨f8, k8, o8, v8⟩ := hw
  refine sat_gd gj (sat_let fun H10 q10 => sat_let fun H11 q11 => sat_ret ?_)
  show sat (qX12_whatIf x1 x2 x3 H11) _
  have F11a : fq [(11, 11), (13, 17), (22, 22), (63, 71)] [((62, 62), 0, 0), ((62, 62), 10, 10)] h H11 := (f7.up rfl rfl).tr ((f8.up rfl rfl).tr ((q10 ▸ fq_wi rfl : fq [(11, 11), (13, 17), (22, 22), (63, 71)] [((62, 62), 0, 0), ((62, 62), 10, 10)] w8.2 H10).tr (q11 ▸ fq_wi rfl)))
  have F11 : fq [(13, 17), (22, 22), (63, 71)] [((62, 62), 0, 0), ((62, 62), 10, 10)] h H11 := by
    refine fq_dr F11a (fun j => ?_) fun j => ?_
    · rw [q11, hI_ne (by decide), q10, hI_row]
      by_cases z : j = 10 * d + t
      · rw [if_pos z, z]
        rfl
      · rw [if_neg z, f8.C 11 rfl rfl, t7, if_neg z]
    · rw [q11, hJ_wi, q10, hJ_wi, f8.J 11 rfl, q7, hJ_wi, q6, hJ_wi]
  have z11 : hI H11 13 0 = 0 := by
    rw [q11, hI_at]
    rfl
  have hq : hiq h H11 := F11.hiq rfl
  obtain ⟨u, pm, s⟩ := m_can ok (MTab.hi hq cM) x1 x2 x3
  rw [hq 326 0 (by decide)] at s
  rcases s with ⟨s1, s2⟩ | ⟨s1, -⟩
  · exact absurd lc0 s2
  unfold qX12_whatIf BX12_whatIf_0 qX12_run BX12_run_0
  refine sat_neg c (sat_call pm (sat_neg (by rw [s1]; exact i1_ne_0) (sat_call rfl ?_)))
  dsimp only
  rw [kc]
  refine sat_gd gk (sat_sub (sat_call rfl ?_))
  dsimp only
  rw [kc]
  refine sat_gd gk (sat_let fun H17 q17 => sat_let fun H18 q18 => ?_)
  have g18 : fq [(332, 332)] [((326, 326), 12, 12)] H11 H18 := (q17 ▸ fq_wi rfl : fq [(332, 332)] [((326, 326), 12, 12)] H11 H17).tr (q18 ▸ fq_wf rfl)
  have t18 : ∀ j, hI H18 332 j = if j = 7 * t + d then (k : Int) else hI H11 332 j := fun j => by rw [q18, hI_ne (by decide), q17, hI_row, e3]
  have z18 : hI H18 326 12 = 0 := by
    rw [q18, hI_at]
    rfl
  refine sat_bind (m_sums ok' hL hG (MTab.lat (g18.kq rfl) hd t18 (MTab.hi hq cM)) b6 ((g18.I 326 rfl 1 rfl).trans ((hq 326 1 (by decide)).trans b5)) (Or.inl z18) ((GM.hi hq gm).kq (g18.kq rfl)) ((RM0.hi hq rm).kq (g18.kq rfl)) ((g18.I 326 rfl 0 rfl).trans ((hq 326 0 (by decide)).trans e0)) n1 (fun l hl hz => (g18.C 377 rfl rfl l).trans (DFm.hi hq df l hl hz)) hp hX) fun w9 hw => ?_
  obtain ⟨f9, rm9, df9, wm9, v9⟩ := hw
  refine sat_call rfl ?_
  dsimp only
  rw [kc]
  refine sat_gd gk (sat_let fun H22 q22 => sat_let fun H23 q23 => sat_ret ?_)
  have g23 : fq [(332, 332)] [((326, 326), 12, 12)] w9.2 H23 := (q22 ▸ fq_wi rfl : fq [(332, 332)] [((326, 326), 12, 12)] w9.2 H22).tr (q23 ▸ fq_wf rfl)
  have F23a : fq [(332, 332), (336, 346), (376, 377), (381, 390), (395, 395), (407, 415)] [((326, 326), 12, 13)] H11 H23 := (g18.up rfl rfl).tr ((f9.up rfl rfl).tr (g23.up rfl rfl))
  have F23 : fq W_su [((326, 326), 12, 13)] H11 H23 := by
    refine fq_dr F23a (fun j => ?_) fun j => ?_
    · rw [q23, hI_ne (by decide), q22, hI_row]
      by_cases z : j = 7 * t + d
      · rw [if_pos z, z]
        rfl
      · rw [if_neg z, f9.C 332 rfl rfl, t18, if_neg z]
    · rw [q23, hJ_wi, q22, hJ_wi, f9.J 332 rfl, q18, hJ_wi, q17, hJ_wi]
  have F : fq W_wi V_wi h H23 := (F11.up rfl rfl).tr (F23.up rfl rfl)
  have z23 : hI H23 326 12 = 0 := by
    rw [q23, hI_at]
    rfl
  refine ⟨n_eq.mpr (v8.trans v9.symm), F, Or.inl ((F23.C 13 rfl rfl 0).trans z11), Or.inl z23, fun k => ?_, _, SLe.tb (F.kq rfl) (tb_rw ok' hL hG n1 hp.1 hX) (rm9.kq (g23.kq rfl)) (fun l hl hz => ?_) sl0, fun f hf k => tb_lo hf⟩
  · refine or01 ((F23.C 67 rfl rfl k).trans ?_) (o8 k)
    rw [q11, hI_ne (by decide), q10, hI_ne (by decide)]
  · rw [e0]
    exact (g23.C 377 rfl rfl l).trans (df9 l hl hz)
end WIF
