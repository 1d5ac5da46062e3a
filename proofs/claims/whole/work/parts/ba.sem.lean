/-! an act as it is copied -/
section AT2
variable {h : ea_H} {c q s : Nat} {x3 : Int32}
theorem m_copy2 (e3 : x3.toInt = c) (hc : c < 6) (h45 : hI h 326 45 = s) (hs : s ≤ 600) : ∀ (d i : Nat) (x4 : Int32) (hh : ea_H), i + d = 2 * s → x4.toInt = i → fq [(358, 358)] [] h hh → (∀ j, j < i → hI hh 358 (1220 * c + j) = hI h 361 j) → (∀ j, j < 1220 * c → hI hh 358 j = hI h 358 j) → sat (qX12_act_351 x3 x4 hh) fun y => y.1 = x3 ∧ fq [(358, 358)] [] h y.2 ∧ (∀ j, j < 2 * s → hI y.2 358 (1220 * c + j) = hI h 361 j) ∧ ∀ j, j < 1220 * c → hI y.2 358 j = hI h 358 j := by
  have v2 : ∀ hh, fq [(358, 358)] [] h hh → ((2 : Int32) * ea_i hh 326 45).toInt = ((2 * s : Nat) : Int) := fun hh F => by
    have e : (ea_i hh 326 45).toInt = s := (F.I 326 rfl 45 rfl).trans h45
    rw [n_mul, e, l_2, n_bm (by omega) (by omega)]
    omega
  intro d
  induction d with
  | zero =>
    intro i x4 hh hi e4 F r1 r2
    refine uqX12_act_351 ?_
    unfold BX12_act_351
    exact sat_pos (by rw [n_le, v2 hh F, e4]; omega) (sat_ret ⟨rfl, F, fun j hj => r1 j (by omega), r2⟩)
  | succ d ih =>
    intro i x4 hh hi e4 F r1 r2
    have i4 : x4.toNatClampNeg = i := by
      rw [n_idx, e4]
      rfl
    have a0 : ((1220 : Int32) * x3).toInt = 1220 * (c : Int) := by rw [n_mul, e3, l_1220, n_bm (by omega) (by omega)]
    have a1 : ((1220 : Int32) * x3 + x4).toInt = ((1220 * c + i : Nat) : Int) := by
      rw [n_add, a0, e4, n_bm (by omega) (by omega)]
      omega
    have i1 : ((1220 : Int32) * x3 + x4).toNatClampNeg = 1220 * c + i := by
      rw [n_idx, a1]
      rfl
    refine uqX12_act_351 ?_
    unfold BX12_act_351
    rw [i4, i1]
    refine sat_neg (by rw [n_le, v2 hh F, e4]; omega) (sat_gd (vp80 e4 (by omega)) (sat_gd (vp80 a1 (by omega)) (sat_let fun H q => ?_)))
    refine ih (i + 1) (x4 + 1) H (by omega) (n_inc e4 (by omega)) (F.tr (q ▸ fq_wi rfl)) (fun j hj => ?_) fun j hj => ?_
    · by_cases z : j = i
      · rw [z, q, hI_at]
        show hI hh 361 i = _
        exact F.C 361 rfl rfl i
      · rw [q, hI_nk (by omega)]
        exact r1 j (by omega)
    · rw [q, hI_nk (by omega)]
      exact r2 j hj
theorem m_copy1 (e3 : x3.toInt = c) (hc : c < 6) (h44 : hI h 326 44 = q) (hq : q ≤ 24) (h45 : hI h 326 45 = s) (hs : s ≤ 600) : ∀ (d i : Nat) (x4 : Int32) (hh : ea_H), i + d = q → x4.toInt = i → fq [(356, 357)] [] h hh → (∀ j, j < i → hI hh 356 (25 * c + j) = hI h 359 j ∧ hI hh 357 (24 * c + j) = hI h 360 j) → (∀ j, j < 25 * c → hI hh 356 j = hI h 356 j) → (∀ j, j < 24 * c → hI hh 357 j = hI h 357 j) → sat (qX12_act_277 x3 x4 hh) fun y => y.1 = x3 ∧ fq [(356, 358)] [] h y.2 ∧ (∀ j, j < q → hI y.2 356 (25 * c + j) = hI h 359 j ∧ hI y.2 357 (24 * c + j) = hI h 360 j) ∧ hI y.2 356 (25 * c + q) = s ∧ (∀ j, j < 25 * c → hI y.2 356 j = hI h 356 j) ∧ (∀ j, j < 24 * c → hI y.2 357 j = hI h 357 j) ∧ (∀ j, j < 2 * s → hI y.2 358 (1220 * c + j) = hI h 361 j) ∧ ∀ j, j < 1220 * c → hI y.2 358 j = hI h 358 j := by
  have b0 : ((25 : Int32) * x3).toInt = 25 * (c : Int) := by rw [n_mul, e3, l_25, n_bm (by omega) (by omega)]
  have d0 : ((24 : Int32) * x3).toInt = 24 * (c : Int) := by rw [n_mul, e3, l_24, n_bm (by omega) (by omega)]
  have v44 : ∀ hh, fq [(356, 357)] [] h hh → (ea_i hh 326 44).toInt = q := fun hh F => (F.I 326 rfl 44 rfl).trans h44
  intro d
  induction d with
  | zero =>
    intro i x4 hh hi e4 F r1 r2 r3
    have a1 : ((25 : Int32) * x3 + ea_i hh 326 44).toInt = ((25 * c + q : Nat) : Int) := by
      rw [n_add, b0, v44 hh F, n_bm (by omega) (by omega)]
      omega
    have i1 : ((25 : Int32) * x3 + ea_i hh 326 44).toNatClampNeg = 25 * c + q := by
      rw [n_idx, a1]
      rfl
    refine uqX12_act_277 ?_
    unfold BX12_act_277
    rw [i1]
    refine sat_pos (by rw [n_le, v44 hh F, e4]; omega) (sat_gd (vp80 a1 (by omega)) (sat_let fun H53 q53 => ?_))
    have F53 : fq [(356, 357)] [] h H53 := F.tr (q53 ▸ fq_wi rfl)
    refine sat_mono (m_copy2 (h := H53) (s := s) e3 hc ((F53.I 326 rfl 45 rfl).trans h45) hs (2 * s) 0 0 H53 (by omega) rfl (fq_rfl _ _ _) (fun j hj => absurd hj (by omega)) fun j _ => rfl) fun y hy => ?_
    obtain ⟨y1, y2, y3, y4⟩ := hy
    refine ⟨y1, (F53.up rfl rfl).tr (y2.up rfl rfl), fun j hj => ?_, ?_, fun j hj => ?_, fun j hj => ?_, fun j hj => (y3 j hj).trans (F53.C 361 rfl rfl j), fun j hj => (y4 j hj).trans (F53.C 358 rfl rfl j)⟩
    · rw [y2.C 356 rfl rfl, y2.C 357 rfl rfl, q53, hI_nk (by omega), hI_ne (by decide)]
      exact r1 j (by omega)
    · rw [y2.C 356 rfl rfl, q53, hI_at]
      exact (F.I 326 rfl 45 rfl).trans h45
    · rw [y2.C 356 rfl rfl, q53, hI_nk (by omega)]
      exact r2 j hj
    · rw [y2.C 357 rfl rfl, q53, hI_ne (by decide)]
      exact r3 j hj
  | succ d ih =>
    intro i x4 hh hi e4 F r1 r2 r3
    have i4 : x4.toNatClampNeg = i := by
      rw [n_idx, e4]
      rfl
    have a1 : ((25 : Int32) * x3 + x4).toInt = ((25 * c + i : Nat) : Int) := by
      rw [n_add, b0, e4, n_bm (by omega) (by omega)]
      omega
    have i1 : ((25 : Int32) * x3 + x4).toNatClampNeg = 25 * c + i := by
      rw [n_idx, a1]
      rfl
    have a2 : ((24 : Int32) * x3 + x4).toInt = ((24 * c + i : Nat) : Int) := by
      rw [n_add, d0, e4, n_bm (by omega) (by omega)]
      omega
    have i2 : ((24 : Int32) * x3 + x4).toNatClampNeg = 24 * c + i := by
      rw [n_idx, a2]
      rfl
    refine uqX12_act_277 ?_
    unfold BX12_act_277
    rw [i4, i1, i2]
    refine sat_neg (by rw [n_le, v44 hh F, e4]; omega) (sat_gd (vp80 e4 (by omega)) (sat_gd (vp80 a1 (by omega)) (sat_let fun H56 q56 => sat_gd (vp80 e4 (by omega)) (sat_gd (vp80 a2 (by omega)) (sat_let fun H59 q59 => ?_)))))
    have F59 : fq [(356, 357)] [] h H59 := (F.tr (q56 ▸ fq_wi rfl : fq [(356, 357)] [] hh H56)).tr (q59 ▸ fq_wi rfl)
    refine ih (i + 1) (x4 + 1) H59 (by omega) (n_inc e4 (by omega)) F59 (fun j hj => ?_) (fun j hj => ?_) fun j hj => ?_
    · by_cases z : j = i
      · rw [z, q59, hI_ne (by decide), hI_at, q56, hI_at]
        refine ⟨F.C 359 rfl rfl i, ?_⟩
        rw [i_ne (by decide)]
        exact F.C 360 rfl rfl i
      · rw [q59, hI_ne (by decide), hI_nk (by omega), q56, hI_nk (by omega), hI_ne (by decide)]
        exact r1 j (by omega)
    · rw [q59, hI_ne (by decide), q56, hI_nk (by omega)]
      exact r2 j hj
    · rw [q59, hI_nk (by omega), q56, hI_ne (by decide)]
      exact r3 j hj
end AT2
section A137
variable {h : ea_H} {k q s : Nat} {d : Int32}
def Ac9 (d : Int32) (k : Nat) (h h' : ea_H) : Prop := hI h' 347 k = d.toInt ∧ hI h' 348 k = hI h 326 43 ∧ hI h' 349 k = hI h 326 46 ∧ hI h' 350 k = hI h 326 47 ∧ hI h' 351 k = hI h 326 48 ∧ hI h' 352 k = hI h 326 49 ∧ hI h' 353 k = hI h 326 50 ∧ hI h' 354 k = hI h 326 51 ∧ hI h' 355 k = hI h 326 44
theorem m_137 (h25 : hI h 326 25 = k) (hk : k < 6) (h44 : hI h 326 44 = q) (hq : q ≤ 24) (h45 : hI h 326 45 = s) (hs : s ≤ 600) (h57 : hI h 326 57 = 0) : sat (qX12_act_137 d 1 h) fun z => z.1.toInt = k ∧ fq [(347, 358)] [((326, 326), 25, 25), ((326, 326), 52, 52), ((326, 326), 59, 59), ((326, 326), 62, 62)] h z.2 ∧ (hI z.2 326 52 = 0 ∧ hI z.2 326 59 = 0 ∧ hI z.2 326 62 = -1 ∧ hI z.2 326 25 = ((k + 1 : Nat) : Int)) ∧ Ac9 d k h z.2 ∧ (∀ a, 347 ≤ a → a ≤ 355 → ∀ j, j ≠ k → hI z.2 a j = hI h a j) ∧ (∀ j, j < q → hI z.2 356 (25 * k + j) = hI h 359 j ∧ hI z.2 357 (24 * k + j) = hI h 360 j) ∧ hI z.2 356 (25 * k + q) = s ∧ (∀ j, j < 25 * k → hI z.2 356 j = hI h 356 j) ∧ (∀ j, j < 24 * k → hI z.2 357 j = hI h 357 j) ∧ (∀ j, j < 2 * s → hI z.2 358 (1220 * k + j) = hI h 361 j) ∧ ∀ j, j < 1220 * k → hI z.2 358 j = hI h 358 j := by
  refine uqX12_act_137 ?_
  unfold BX12_act_137
  refine sat_let fun H27 q27 => sat_let fun H28 q28 => sat_neg i1_ne_0 (uqX12_act_163 ?_)
  unfold BX12_act_163
  refine sat_let fun H30 q30 => sat_neg i1_ne_0 (sat_let fun v31 q31 => sat_let fun H32 q32 => ?_)
  have F30 : fq [(347, 355)] [((326, 326), 25, 25), ((326, 326), 52, 52), ((326, 326), 59, 59), ((326, 326), 62, 62)] h H30 := ((q27 ▸ fq_wf rfl : fq [(347, 355)] [((326, 326), 25, 25), ((326, 326), 52, 52), ((326, 326), 59, 59), ((326, 326), 62, 62)] h H27).tr (q28 ▸ fq_wf rfl : fq [(347, 355)] [((326, 326), 25, 25), ((326, 326), 52, 52), ((326, 326), 59, 59), ((326, 326), 62, 62)] H27 H28)).tr (q30 ▸ fq_wf rfl)
  have w25 : (ea_i H30 326 25).toInt = k := by
    show hI H30 326 25 = k
    rw [q30, hI_nk (by decide), q28, hI_nk (by decide), q27, hI_nk (by decide), h25]
  have e31 : v31.toInt = k := by rw [q31, w25]
  have i31 : v31.toNatClampNeg = k := by
    rw [n_idx, e31]
    rfl
  rw [i31]
  have g := vp80 e31 hk
  have F32 : fq [(347, 355)] [((326, 326), 25, 25), ((326, 326), 52, 52), ((326, 326), 59, 59), ((326, 326), 62, 62)] h H32 := F30.tr (q32 ▸ fq_wf rfl)
  refine sat_gd g (sat_let fun H34 q34 => ?_)
  have F34 : fq [(347, 355)] [((326, 326), 25, 25), ((326, 326), 52, 52), ((326, 326), 59, 59), ((326, 326), 62, 62)] h H34 := F32.tr (q34 ▸ fq_wi rfl)
  refine sat_gd g (sat_let fun H36 q36 => ?_)
  have F36 : fq [(347, 355)] [((326, 326), 25, 25), ((326, 326), 52, 52), ((326, 326), 59, 59), ((326, 326), 62, 62)] h H36 := F34.tr (q36 ▸ fq_wi rfl)
  refine sat_gd g (sat_let fun H38 q38 => ?_)
  have F38 : fq [(347, 355)] [((326, 326), 25, 25), ((326, 326), 52, 52), ((326, 326), 59, 59), ((326, 326), 62, 62)] h H38 := F36.tr (q38 ▸ fq_wi rfl)
  refine sat_gd g (sat_let fun H40 q40 => ?_)
  have F40 : fq [(347, 355)] [((326, 326), 25, 25), ((326, 326), 52, 52), ((326, 326), 59, 59), ((326, 326), 62, 62)] h H40 := F38.tr (q40 ▸ fq_wi rfl)
  refine sat_gd g (sat_let fun H42 q42 => ?_)
  have F42 : fq [(347, 355)] [((326, 326), 25, 25), ((326, 326), 52, 52), ((326, 326), 59, 59), ((326, 326), 62, 62)] h H42 := F40.tr (q42 ▸ fq_wi rfl)
  refine sat_gd g (sat_let fun H44 q44 => ?_)
  have F44 : fq [(347, 355)] [((326, 326), 25, 25), ((326, 326), 52, 52), ((326, 326), 59, 59), ((326, 326), 62, 62)] h H44 := F42.tr (q44 ▸ fq_wi rfl)
  refine sat_gd g (sat_let fun H46 q46 => ?_)
  have F46 : fq [(347, 355)] [((326, 326), 25, 25), ((326, 326), 52, 52), ((326, 326), 59, 59), ((326, 326), 62, 62)] h H46 := F44.tr (q46 ▸ fq_wi rfl)
  refine sat_gd g (sat_let fun H48 q48 => ?_)
  have F48 : fq [(347, 355)] [((326, 326), 25, 25), ((326, 326), 52, 52), ((326, 326), 59, 59), ((326, 326), 62, 62)] h H48 := F46.tr (q48 ▸ fq_wi rfl)
  refine sat_gd g (sat_let fun H50 q50 => ?_)
  have F50 : fq [(347, 355)] [((326, 326), 25, 25), ((326, 326), 52, 52), ((326, 326), 59, 59), ((326, 326), 62, 62)] h H50 := F48.tr (q50 ▸ fq_wi rfl)
  have Z : ∀ f, hI H50 326 f = hI H32 326 f := fun f => by
    rw [q50, hI_ne (by decide), q48, hI_ne (by decide), q46, hI_ne (by decide), q44, hI_ne (by decide), q42, hI_ne (by decide), q40, hI_ne (by decide), q38, hI_ne (by decide), q36, hI_ne (by decide), q34, hI_ne (by decide)]
  have X52 : hI H50 326 52 = 0 := by
    rw [Z, q32, hI_nk (by decide), q30, hI_nk (by decide), q28, hI_nk (by decide), q27, hI_at]
    rfl
  have X59 : hI H50 326 59 = 0 := by
    rw [Z, q32, hI_nk (by decide), q30, hI_nk (by decide), q28, hI_at]
    show hI H27 326 57 = 0
    rw [q27, hI_nk (by decide), h57]
  have X62 : hI H50 326 62 = -1 := by
    rw [Z, q32, hI_nk (by decide), q30, hI_at]
    rfl
  have X25 : hI H50 326 25 = ((k + 1 : Nat) : Int) := by rw [Z, q32, hI_at, n_inc w25 (by omega)]
  have Y347 : hI H50 347 k = d.toInt := by rw [q50, hI_ne (by decide), q48, hI_ne (by decide), q46, hI_ne (by decide), q44, hI_ne (by decide), q42, hI_ne (by decide), q40, hI_ne (by decide), q38, hI_ne (by decide), q36, hI_ne (by decide), q34, hI_at]
  have Y348 : hI H50 348 k = hI h 326 43 := by
    rw [q50, hI_ne (by decide), q48, hI_ne (by decide), q46, hI_ne (by decide), q44, hI_ne (by decide), q42, hI_ne (by decide), q40, hI_ne (by decide), q38, hI_ne (by decide), q36, hI_at]
    exact F34.I 326 rfl 43 rfl
  have Y349 : hI H50 349 k = hI h 326 46 := by
    rw [q50, hI_ne (by decide), q48, hI_ne (by decide), q46, hI_ne (by decide), q44, hI_ne (by decide), q42, hI_ne (by decide), q40, hI_ne (by decide), q38, hI_at]
    exact F36.I 326 rfl 46 rfl
  have Y350 : hI H50 350 k = hI h 326 47 := by
    rw [q50, hI_ne (by decide), q48, hI_ne (by decide), q46, hI_ne (by decide), q44, hI_ne (by decide), q42, hI_ne (by decide), q40, hI_at]
    exact F38.I 326 rfl 47 rfl
  have Y351 : hI H50 351 k = hI h 326 48 := by
    rw [q50, hI_ne (by decide), q48, hI_ne (by decide), q46, hI_ne (by decide), q44, hI_ne (by decide), q42, hI_at]
    exact F40.I 326 rfl 48 rfl
  have Y352 : hI H50 352 k = hI h 326 49 := by
    rw [q50, hI_ne (by decide), q48, hI_ne (by decide), q46, hI_ne (by decide), q44, hI_at]
    exact F42.I 326 rfl 49 rfl
  have Y353 : hI H50 353 k = hI h 326 50 := by
    rw [q50, hI_ne (by decide), q48, hI_ne (by decide), q46, hI_at]
    exact F44.I 326 rfl 50 rfl
  have Y354 : hI H50 354 k = hI h 326 51 := by
    rw [q50, hI_ne (by decide), q48, hI_at]
    exact F46.I 326 rfl 51 rfl
  have Y355 : hI H50 355 k = hI h 326 44 := by
    rw [q50, hI_at]
    exact F48.I 326 rfl 44 rfl
  have oth : ∀ a, 347 ≤ a → a ≤ 355 → ∀ j, j ≠ k → hI H50 a j = hI h a j := fun a a1 a2 j hj => by
    rw [q50, hI_wi, if_neg (fun z => hj z.2), q48, hI_wi, if_neg (fun z => hj z.2), q46, hI_wi, if_neg (fun z => hj z.2), q44, hI_wi, if_neg (fun z => hj z.2), q42, hI_wi, if_neg (fun z => hj z.2), q40, hI_wi, if_neg (fun z => hj z.2), q38, hI_wi, if_neg (fun z => hj z.2), q36, hI_wi, if_neg (fun z => hj z.2), q34, hI_wi, if_neg (fun z => hj z.2), q32, hI_ne (by omega), q30, hI_ne (by omega), q28, hI_ne (by omega), q27, hI_ne (by omega)]
  refine sat_mono (m_copy1 (h := H50) (c := k) (q := q) (s := s) e31 hk ((F50.I 326 rfl 44 rfl).trans h44) hq ((F50.I 326 rfl 45 rfl).trans h45) hs q 0 0 H50 (by omega) rfl (fq_rfl _ _ _) (fun j hj => absurd hj (by omega)) (fun j _ => rfl) fun j _ => rfl) fun z hz => ?_
  obtain ⟨z1, z2, z3, z4, z5, z6, z7, z8⟩ := hz
  have kp : ∀ a, 347 ≤ a → a ≤ 355 → ∀ j, hI z.2 a j = hI H50 a j := fun a a1 a2 j => (z2.kq rfl : keq [(347, 355)] [] _ _).W a (inB_at (r := (347, 355)) List.mem_cons_self a1 a2) j
  have k3 : ∀ f, hI z.2 326 f = hI H50 326 f := fun f => z2.C 326 rfl rfl f
  refine ⟨by rw [z1]; exact e31, (F50.up rfl rfl).tr (z2.up rfl rfl), ⟨(k3 52).trans X52, (k3 59).trans X59, (k3 62).trans X62, (k3 25).trans X25⟩, ⟨(kp 347 (by decide) (by decide) k).trans Y347, (kp 348 (by decide) (by decide) k).trans Y348, (kp 349 (by decide) (by decide) k).trans Y349, (kp 350 (by decide) (by decide) k).trans Y350, (kp 351 (by decide) (by decide) k).trans Y351, (kp 352 (by decide) (by decide) k).trans Y352, (kp 353 (by decide) (by decide) k).trans Y353, (kp 354 (by decide) (by decide) k).trans Y354, (kp 355 (by decide) (by decide) k).trans Y355⟩, fun a a1 a2 j hj => (kp a a1 a2 j).trans (oth a a1 a2 j hj), fun j hj => ⟨(z3 j hj).1.trans (F50.C 359 rfl rfl j), (z3 j hj).2.trans (F50.C 360 rfl rfl j)⟩, z4, fun j hj => (z5 j hj).trans (F50.C 356 rfl rfl j), fun j hj => (z6 j hj).trans (F50.C 357 rfl rfl j), fun j hj => (z7 j hj).trans (F50.C 361 rfl rfl j), fun j hj => (z8 j hj).trans (F50.C 358 rfl rfl j)⟩
theorem m_137n : sat (qX12_act_137 d 0 h) fun z => z.1 = -1 ∧ fq [] [((326, 326), 52, 52), ((326, 326), 59, 59), ((326, 326), 62, 62)] h z.2 ∧ hI z.2 326 52 = 0 ∧ hI z.2 326 59 = hI h 326 57 ∧ hI z.2 326 62 = hI h 326 58 := by
  refine uqX12_act_137 ?_
  unfold BX12_act_137
  refine sat_let fun H27 q27 => sat_let fun H28 q28 => sat_pos rfl (uqX12_act_163 ?_)
  unfold BX12_act_163
  refine sat_let fun H30 q30 => sat_pos rfl (sat_ret ⟨rfl, ((q27 ▸ fq_wf rfl : fq [] [((326, 326), 52, 52), ((326, 326), 59, 59), ((326, 326), 62, 62)] h H27).tr (q28 ▸ fq_wf rfl : fq [] [((326, 326), 52, 52), ((326, 326), 59, 59), ((326, 326), 62, 62)] H27 H28)).tr (q30 ▸ fq_wf rfl), ?_, ?_, ?_⟩)
  · show hI H30 326 52 = 0
    rw [q30, hI_nk (by decide), q28, hI_nk (by decide), q27, hI_at]
    rfl
  · show hI H30 326 59 = _
    rw [q30, hI_nk (by decide), q28, hI_at]
    show hI H27 326 57 = _
    rw [q27, hI_nk (by decide)]
  · show hI H30 326 62 = _
    rw [q30, hI_at]
    show hI H28 326 58 = _
    rw [q28, hI_nk (by decide), q27, hI_nk (by decide)]
end A137
