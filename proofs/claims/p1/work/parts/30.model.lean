/-! the reference, 0 -/
/-! the reference: its cells; methods without loops -/
def ShM_cl : List (Nat × Nat) := [(12, 0), (20, 144), (20, 10), (20, 80), (20, 80), (20, 80), (20, 70), (21, 80), (21, 560), (20, 12), (20, 1000), (20, 1000), (20, 1000), (20, 1000), (20, 70), (20, 12000), (20, 12000), (20, 12000), (20, 12000), (20, 1000), (20, 12), (20, 6), (20, 6), (20, 6), (20, 6), (20, 6), (20, 6), (20, 6), (20, 6), (20, 6), (20, 150), (20, 144), (20, 7320), (20, 25), (20, 24), (20, 1220), (20, 600), (20, 620), (20, 120), (20, 120), (20, 120), (20, 120), (20, 120), (20, 120), (20, 120), (20, 120), (20, 120), (20, 120), (20, 120), (20, 120), (20, 120), (20, 120), (21, 120), (21, 120), (21, 120), (20, 120), (20, 120), (20, 120), (20, 120), (20, 120), (20, 70), (21, 120), (20, 120000), (20, 120000), (20, 120000), (20, 8), (20, 8), (20, 8), (20, 8), (20, 8), (20, 120), (20, 480), (20, 480), (20, 20), (20, 20), (20, 20), (20, 20), (20, 2400), (20, 10), (20, 10), (20, 10), (20, 120), (20, 120), (20, 120), (20, 120), (20, 120), (20, 120), (20, 120), (20, 70), (21, 120)]
def ShM_rf : List (Nat × Nat × Nat) := [(0, 3, 1), (0, 4, 2), (0, 5, 3), (0, 6, 4), (0, 7, 5), (0, 8, 6), (0, 9, 7), (0, 10, 8), (0, 11, 9), (0, 14, 10), (0, 15, 11), (0, 16, 12), (0, 17, 13), (0, 18, 14), (0, 19, 15), (0, 20, 16), (0, 21, 17), (0, 22, 18), (0, 23, 19), (0, 24, 20), (0, 26, 21), (0, 27, 22), (0, 28, 23), (0, 29, 24), (0, 30, 25), (0, 31, 26), (0, 32, 27), (0, 33, 28), (0, 34, 29), (0, 35, 30), (0, 36, 31), (0, 37, 32), (0, 38, 33), (0, 39, 34), (0, 40, 35), (0, 41, 36), (0, 42, 37), (0, 64, 38), (0, 65, 39), (0, 66, 40), (0, 67, 41), (0, 68, 42), (0, 69, 43), (0, 70, 44), (0, 71, 45), (0, 72, 46), (0, 73, 47), (0, 74, 48), (0, 75, 49), (0, 76, 50), (0, 77, 51), (0, 78, 52), (0, 79, 53), (0, 80, 54), (0, 81, 55), (0, 82, 56), (0, 83, 57), (0, 84, 58), (0, 85, 59), (0, 86, 60), (0, 87, 61), (0, 88, 62), (0, 89, 63), (0, 90, 64), (0, 91, 65), (0, 93, 66), (0, 94, 67), (0, 95, 68), (0, 96, 69), (0, 97, 70), (0, 98, 71), (0, 99, 72), (0, 101, 73), (0, 102, 74), (0, 103, 75), (0, 104, 76), (0, 105, 77), (0, 106, 78), (0, 107, 79), (0, 108, 80), (0, 109, 81), (0, 110, 82), (0, 111, 83), (0, 112, 84), (0, 113, 85), (0, 114, 86), (0, 115, 87), (0, 116, 88), (0, 117, 89)]
def ShM_c (b : Nat) : Nat := (ShM_cl.getD b (0, 0)).1
def ShM_l (b : Nat) : Nat := (ShM_cl.getD b (0, 0)).2
def ShM_r (a k : Nat) : Option Nat := (ShM_rf.find? fun q => q.1 == a && q.2.1 == k).map fun q => q.2.2
/-- the cells that are made once, from number b0 on: their classes, their lengths, what they refer to -/
def ShM (b0 : Nat) (h : ea_H) : Prop := (∀ b, b < 90 → b0 + b < ea_n h ∧ ea_c h (b0 + b) = ShM_c b ∧ ea_l h (b0 + b) = ShM_l b) ∧ ∀ a k, (ShM_r a k).isSome → ea_r h (b0 + a) k = (ShM_r a k).map fun t => b0 + t
theorem ShM_wi {b0 : Nat} {h : ea_H} {a k : Nat} {x : Int32} (hs : ShM b0 h) : ShM b0 (ea_wi h a k x) := hs
theorem ShM_wa {b0 : Nat} {h : ea_H} {a : Nat} {f : Nat → Int32} (hs : ShM b0 h) : ShM b0 (ea_wa h a f) := hs
theorem ShM_wj {b0 : Nat} {h : ea_H} {a k : Nat} {x : Int64} (hs : ShM b0 h) : ShM b0 (ea_wj h a k x) := hs
theorem ShM_new {b0 : Nat} {h : ea_H} {c l s : Nat} (hs : ShM b0 h) : ShM b0 (ea_new h c l s) := by
  have h0 := (hs.1 0 (by decide)).1
  refine ⟨fun b hb => ?_, fun a k hk => ?_⟩
  · obtain ⟨h1, h2, h3⟩ := hs.1 b hb
    have hne : b0 + b ≠ ea_n h := by omega
    exact ⟨Nat.lt_succ_of_lt h1, by rw [← h2]; simp only [ea_c, ea_new, ea_u1, if_neg hne], by rw [← h3]; simp only [ea_l, ea_new, ea_u1, if_neg hne]⟩
  · have hlt : a < 90 := by
      have hm : ∀ q ∈ ShM_rf, q.1 < 90 := by decide
      unfold ShM_r at hk
      cases hf : ShM_rf.find? (fun q => q.1 == a && q.2.1 == k) with
      | none => rw [hf] at hk; cases hk
      | some q =>
        have h5 := List.find?_some hf
        have h6 := hm q (List.mem_of_find?_eq_some hf)
        simp only [Bool.and_eq_true, beq_iff_eq] at h5
        omega
    have h1 := (hs.1 a hlt).1
    have hne : b0 + a ≠ ea_n h := by omega
    rw [← hs.2 a k hk]
    simp only [ea_r, ea_new, ea_u1, if_neg hne]
theorem ShM_wr {b0 : Nat} {h : ea_H} {o k : Nat} {x : Option Nat} (hr : ShM_r o k = none) (hs : ShM b0 h) : ShM b0 (ea_wr h (b0 + o) k x) := by
  refine ⟨hs.1, fun a j hj => ?_⟩
  rw [← hs.2 a j hj]
  have hne : ¬ (b0 + a = b0 + o ∧ j = k) := by
    rintro ⟨e1, rfl⟩
    have : a = o := by omega
    subst this
    rw [hr] at hj
    cases hj
  simp only [ea_r, ea_wr, ea_u2, if_neg hne]
def ShM_far (b0 a : Nat) : Prop := ∀ b, b < 90 → a ≠ b0 + b
noncomputable def ShM_wd (b0 : Nat) (h : ea_H) (a k : Nat) (x : Option Nat) : ea_H := @ite _ (ShM_far b0 a) (Classical.propDecidable _) (ea_wr h a k x) h
theorem ShM_wdeq {b0 : Nat} {h : ea_H} {a k : Nat} {x : Option Nat} (hf : ShM_far b0 a) : ShM_wd b0 h a k x = ea_wr h a k x := by unfold ShM_wd; rw [if_pos hf]
theorem ShM_lt {a k : Nat} (hk : (ShM_r a k).isSome) : a < 90 := by
  have hm : ∀ q ∈ ShM_rf, q.1 < 90 := by decide
  unfold ShM_r at hk
  cases hf : ShM_rf.find? (fun q => q.1 == a && q.2.1 == k) with
  | none => rw [hf] at hk; cases hk
  | some q =>
    have h5 := List.find?_some hf
    have h6 := hm q (List.mem_of_find?_eq_some hf)
    simp only [Bool.and_eq_true, beq_iff_eq] at h5
    omega
theorem ShM_wd_sh {b0 : Nat} {h : ea_H} {a k : Nat} {x : Option Nat} (hs : ShM b0 h) : ShM b0 (ShM_wd b0 h a k x) := by
  unfold ShM_wd
  split
  · rename_i hf
    refine ⟨hs.1, fun b j hj => ?_⟩
    rw [← hs.2 b j hj]
    have hb := ShM_lt hj
    have hne : ¬ (b0 + b = a ∧ j = k) := fun h => hf b hb h.1.symm
    simp only [ea_r, ea_wr, ea_u2, if_neg hne]
  · exact hs
theorem ShM_it {b0 : Nat} {c : Prop} {_ : Decidable c} {A B : ea_H} (hA : ShM b0 A) (hB : ShM b0 B) : ShM b0 (if c then A else B) := by split <;> assumption
theorem ea_itB {c : Prop} {_ : Decidable c} {a b : Int32} (ha : a = 0 ∨ a = 1) (hb : b = 0 ∨ b = 1) : (if c then a else b) = 0 ∨ (if c then a else b) = 1 := by split <;> assumption
theorem ea_sw_0_3 {x : Int} (q0 : ¬ x = 0) (q1 : ¬ x = 1) (q2 : ¬ x = 2) (q3 : ¬ x = 3) : x < 0 ∨ 3 < x := by omega
theorem ea_sw_0_4 {x : Int} (q0 : ¬ x = 0) (q1 : ¬ x = 1) (q2 : ¬ x = 2) (q3 : ¬ x = 3) (q4 : ¬ x = 4) : x < 0 ∨ 4 < x := by omega
theorem ea_sw_0_5 {x : Int} (q0 : ¬ x = 0) (q1 : ¬ x = 1) (q2 : ¬ x = 2) (q3 : ¬ x = 3) (q4 : ¬ x = 4) (q5 : ¬ x = 5) : x < 0 ∨ 5 < x := by omega
theorem ea_sw_0_7 {x : Int} (q0 : ¬ x = 0) (q1 : ¬ x = 1) (q2 : ¬ x = 2) (q3 : ¬ x = 3) (q4 : ¬ x = 4) (q5 : ¬ x = 5) (q6 : ¬ x = 6) (q7 : ¬ x = 7) : x < 0 ∨ 7 < x := by omega
theorem ea_sw_0_12 {x : Int} (q0 : ¬ x = 0) (q1 : ¬ x = 1) (q2 : ¬ x = 2) (q3 : ¬ x = 3) (q4 : ¬ x = 4) (q5 : ¬ x = 5) (q6 : ¬ x = 6) (q7 : ¬ x = 7) (q8 : ¬ x = 8) (q9 : ¬ x = 9) (q10 : ¬ x = 10) (q11 : ¬ x = 11) (q12 : ¬ x = 12) : x < 0 ∨ 12 < x := by omega
theorem ea_sw_8_16 {x : Int} (q0 : ¬ x = 8) (q1 : ¬ x = 9) (q2 : ¬ x = 10) (q3 : ¬ x = 11) (q4 : ¬ x = 12) (q5 : ¬ x = 13) (q6 : ¬ x = 14) (q7 : ¬ x = 15) (q8 : ¬ x = 16) : x < 8 ∨ 16 < x := by omega
noncomputable def gd {α : Type} (P : Prop) (A : Option α) : Option α := @ite _ P (Classical.propDecidable P) A none
theorem gd_some {α : Type} {P : Prop} {A : Option α} {x : α} (h : gd P A = some x) : P ∧ A = some x := by
  unfold gd at h
  split at h
  · exact ⟨by assumption, h⟩
  · cases h
theorem gd_pos {α : Type} {P : Prop} {A : Option α} (h : P) : gd P A = A := by unfold gd; rw [if_pos h]
theorem ea_vpl {i : Int32} {l n : Nat} (e : l = n) (z : vp_in i n) : vp_in i l := by subst e; exact z
theorem ea_tops {M : ea_M} {d : Nat} {h0 hE h : ea_H} {rv : Option ea_V} {pc : Nat} {lv : List (Nat × ea_V)} {st : List ea_V} {v v2 : ea_V} (e : v = v2) (k : ea_W M d h0 rv hE pc lv (v2 :: st) h) : ea_W M d h0 rv hE pc lv (v :: st) h := by subst e; exact k
noncomputable def vX12_isIn (x0 : Int32) (x1 : Int32) (x2 : Int32) (h : ea_H) : Int32 := (if x0 < x1 then (0 : Int32) else (if x2 < x0 then (0 : Int32) else (1 : Int32)))
theorem bo_vX12_isIn (x0 : Int32) (x1 : Int32) (x2 : Int32) (h : ea_H) : vX12_isIn x0 x1 x2 h = 0 ∨ vX12_isIn x0 x1 x2 h = 1 := (ea_itB (Or.inl rfl) (ea_itB (Or.inl rfl) (Or.inr rfl)))
theorem sX12_isIn {d : Nat} {x0 : Int32} {x1 : Int32} {x2 : Int32} {h : ea_H} (hd : 1 ≤ d) : ea_Met mX12_isIn d [vI x0, vI x1, vI x2] h (some (vI (vX12_isIn x0 x1 x2 h))) h := by
  obtain ⟨X, EX⟩ : ∃ z, z = vX12_isIn x0 x1 x2 h := ⟨_, rfl⟩
  rw [← EX]
  unfold vX12_isIn at EX
  refine ea_enter rfl (Nat.le_of_ble_eq_true rfl) ?_
  refine ea_iload_n (pc := 0) dX12_isIn_0 rfl 0 rfl ?_
  refine ea_iload_n (pc := 1) dX12_isIn_1 rfl 1 rfl ?_
  refine ea_icmp_lt (pc := 2) (tgt := 14) dX12_isIn_2 rfl (fun c2 => ?_) (fun c2 => ?_)
  · have EX := EX.trans (if_pos c2)
    refine ea_iconst (pc := 14) dX12_isIn_14 (v := 0) rfl ?_
    exact ea_iretE (pc := 15) dX12_isIn_15 rfl (ea_bn (Or.inl rfl)) EX rfl
  · have EX := EX.trans (if_neg c2)
    refine ea_iload_n (pc := 5) dX12_isIn_5 rfl 0 rfl ?_
    refine ea_iload_n (pc := 6) dX12_isIn_6 rfl 2 rfl ?_
    refine ea_icmp_gt (pc := 7) (tgt := 14) dX12_isIn_7 rfl (fun c1 => ?_) (fun c1 => ?_)
    · have EX := EX.trans (if_pos c1)
      refine ea_iconst (pc := 14) dX12_isIn_14 (v := 0) rfl ?_
      exact ea_iretE (pc := 15) dX12_isIn_15 rfl (ea_bn (Or.inl rfl)) EX rfl
    · have EX := EX.trans (if_neg c1)
      refine ea_iconst (pc := 10) dX12_isIn_10 (v := 1) rfl ?_
      refine ea_goto (pc := 11) (tgt := 15) dX12_isIn_11 rfl ?_
      exact ea_iretE (pc := 15) dX12_isIn_15 rfl (ea_bn (Or.inr rfl)) EX rfl
noncomputable def vX12_isTown (b0 : Nat) (x1 : Int32) (h : ea_H) : Int32 := (vX12_isIn (x1 : Int32) (0 : Int32) (((ea_i h (b0 + 0) 1) - (1 : Int32)) : Int32) h)
theorem bo_vX12_isTown (b0 : Nat) (x1 : Int32) (h : ea_H) : vX12_isTown b0 x1 h = 0 ∨ vX12_isTown b0 x1 h = 1 := (bo_vX12_isIn _ _ _ _)
theorem sX12_isTown {d : Nat} {b0 : Nat} {x1 : Int32} {h : ea_H} (hd : 2 ≤ d) (hs : ShM b0 h) : ea_Met mX12_isTown d [vR (some (b0 + 0)), vI x1] h (some (vI (vX12_isTown b0 x1 h))) h := by
  obtain ⟨X, EX⟩ : ∃ z, z = vX12_isTown b0 x1 h := ⟨_, rfl⟩
  rw [← EX]
  unfold vX12_isTown at EX
  refine ea_enter rfl (Nat.le_of_ble_eq_true rfl) ?_
  refine ea_iload_n (pc := 0) dX12_isTown_0 rfl 1 rfl ?_
  refine ea_iconst (pc := 1) dX12_isTown_1 (v := 0) rfl ?_
  refine ea_aload_n (pc := 2) dX12_isTown_2 rfl 0 rfl ?_
  refine ea_getI (pc := 3) dX12_isTown_3 ec_12 (k := 1) (Nat.le_of_ble_eq_true rfl) rfl (Or.inl ew_1346) (hs.1 0 (by decide)).1 (hs.1 0 (by decide)).2.1 ?_
  refine ea_iconst (pc := 6) dX12_isTown_6 (v := 1) rfl ?_
  refine ea_isub (pc := 7) dX12_isTown_7 ?_
  refine ea_callS (pc := 8) (d' := d - 1) (As := [vI x1, vI 0, vI ((ea_i h (b0 + 0) 1) - (1 : Int32))]) (st := []) dX12_isTown_8 kX12_isIn (sX12_isIn (d := d - 1) (by omega)) (by omega) rfl (Nat.le_of_ble_eq_true rfl) ew_1712 ew_1713 ?_
  exact ea_iretE (pc := 11) dX12_isTown_11 rfl (ea_bn (bo_vX12_isIn ..)) EX rfl
noncomputable def vX12_isTrain (b0 : Nat) (x1 : Int32) (h : ea_H) : Int32 := (vX12_isIn (x1 : Int32) (0 : Int32) (((ea_i h (b0 + 0) 2) - (1 : Int32)) : Int32) h)
theorem bo_vX12_isTrain (b0 : Nat) (x1 : Int32) (h : ea_H) : vX12_isTrain b0 x1 h = 0 ∨ vX12_isTrain b0 x1 h = 1 := (bo_vX12_isIn _ _ _ _)
theorem sX12_isTrain {d : Nat} {b0 : Nat} {x1 : Int32} {h : ea_H} (hd : 2 ≤ d) (hs : ShM b0 h) : ea_Met mX12_isTrain d [vR (some (b0 + 0)), vI x1] h (some (vI (vX12_isTrain b0 x1 h))) h := by
  obtain ⟨X, EX⟩ : ∃ z, z = vX12_isTrain b0 x1 h := ⟨_, rfl⟩
  rw [← EX]
  unfold vX12_isTrain at EX
  refine ea_enter rfl (Nat.le_of_ble_eq_true rfl) ?_
  refine ea_iload_n (pc := 0) dX12_isTrain_0 rfl 1 rfl ?_
  refine ea_iconst (pc := 1) dX12_isTrain_1 (v := 0) rfl ?_
  refine ea_aload_n (pc := 2) dX12_isTrain_2 rfl 0 rfl ?_
  refine ea_getI (pc := 3) dX12_isTrain_3 ec_12 (k := 2) (Nat.le_of_ble_eq_true rfl) rfl (Or.inl ew_1347) (hs.1 0 (by decide)).1 (hs.1 0 (by decide)).2.1 ?_
  refine ea_iconst (pc := 6) dX12_isTrain_6 (v := 1) rfl ?_
  refine ea_isub (pc := 7) dX12_isTrain_7 ?_
  refine ea_callS (pc := 8) (d' := d - 1) (As := [vI x1, vI 0, vI ((ea_i h (b0 + 0) 2) - (1 : Int32))]) (st := []) dX12_isTrain_8 kX12_isIn (sX12_isIn (d := d - 1) (by omega)) (by omega) rfl (Nat.le_of_ble_eq_true rfl) ew_1712 ew_1713 ?_
  exact ea_iretE (pc := 11) dX12_isTrain_11 rfl (ea_bn (bo_vX12_isIn ..)) EX rfl
noncomputable def vX12_isDay (x0 : Int32) (h : ea_H) : Int32 := (vX12_isIn (x0 : Int32) (0 : Int32) (6 : Int32) h)
theorem bo_vX12_isDay (x0 : Int32) (h : ea_H) : vX12_isDay x0 h = 0 ∨ vX12_isDay x0 h = 1 := (bo_vX12_isIn _ _ _ _)
theorem sX12_isDay {d : Nat} {x0 : Int32} {h : ea_H} (hd : 2 ≤ d) : ea_Met mX12_isDay d [vI x0] h (some (vI (vX12_isDay x0 h))) h := by
  obtain ⟨X, EX⟩ : ∃ z, z = vX12_isDay x0 h := ⟨_, rfl⟩
  rw [← EX]
  unfold vX12_isDay at EX
  refine ea_enter rfl (Nat.le_of_ble_eq_true rfl) ?_
  refine ea_iload_n (pc := 0) dX12_isDay_0 rfl 0 rfl ?_
  refine ea_iconst (pc := 1) dX12_isDay_1 (v := 0) rfl ?_
  refine ea_bipush (pc := 2) dX12_isDay_2 (v := 6) rfl ?_
  refine ea_callS (pc := 4) (d' := d - 1) (As := [vI x0, vI 0, vI 6]) (st := []) dX12_isDay_4 kX12_isIn (sX12_isIn (d := d - 1) (by omega)) (by omega) rfl (Nat.le_of_ble_eq_true rfl) ew_1712 ew_1713 ?_
  exact ea_iretE (pc := 7) dX12_isDay_7 rfl (ea_bn (bo_vX12_isIn ..)) EX rfl
noncomputable def vX12_isMinute (x0 : Int32) (h : ea_H) : Int32 := (vX12_isIn (x0 : Int32) (0 : Int32) (10079 : Int32) h)
theorem bo_vX12_isMinute (x0 : Int32) (h : ea_H) : vX12_isMinute x0 h = 0 ∨ vX12_isMinute x0 h = 1 := (bo_vX12_isIn _ _ _ _)
theorem sX12_isMinute {d : Nat} {x0 : Int32} {h : ea_H} (hd : 2 ≤ d) : ea_Met mX12_isMinute d [vI x0] h (some (vI (vX12_isMinute x0 h))) h := by
  obtain ⟨X, EX⟩ : ∃ z, z = vX12_isMinute x0 h := ⟨_, rfl⟩
  rw [← EX]
  unfold vX12_isMinute at EX
  refine ea_enter rfl (Nat.le_of_ble_eq_true rfl) ?_
  refine ea_iload_n (pc := 0) dX12_isMinute_0 rfl 0 rfl ?_
  refine ea_iconst (pc := 1) dX12_isMinute_1 (v := 0) rfl ?_
  refine ea_sipush (pc := 2) dX12_isMinute_2 (v := 10079) rfl ?_
  refine ea_callS (pc := 5) (d' := d - 1) (As := [vI x0, vI 0, vI 10079]) (st := []) dX12_isMinute_5 kX12_isIn (sX12_isIn (d := d - 1) (by omega)) (by omega) rfl (Nat.le_of_ble_eq_true rfl) ew_1712 ew_1713 ?_
  exact ea_iretE (pc := 8) dX12_isMinute_8 rfl (ea_bn (bo_vX12_isIn ..)) EX rfl
noncomputable def vX12_town (b0 : Nat) (h : ea_H) : Int32 := (if (ea_i h (b0 + 0) 1) = (12 : Int32) then ((-1) : Int32) else ((ea_i (ea_wi (ea_wi h (b0 + 0) 1 ((ea_i h (b0 + 0) 1) + (1 : Int32))) (b0 + 0) 12 0) (b0 + 0) 1) - (1 : Int32)))
noncomputable def wX12_town (b0 : Nat) (h : ea_H) : ea_H := (if (ea_i h (b0 + 0) 1) = (12 : Int32) then h else (ea_wi (ea_wi h (b0 + 0) 1 ((ea_i h (b0 + 0) 1) + (1 : Int32))) (b0 + 0) 12 0))
theorem shX12_town {b0 : Nat} {h : ea_H} (hs : ShM b0 h) : ShM b0 (wX12_town b0 h) := (ShM_it hs (ShM_wi (ShM_wi hs)))
theorem sX12_town {d : Nat} {b0 : Nat} {h : ea_H} (hd : 1 ≤ d) (hs : ShM b0 h) : ea_Met mX12_town d [vR (some (b0 + 0))] h (some (vI (vX12_town b0 h))) (wX12_town b0 h) := by
  obtain ⟨X, EX⟩ : ∃ z, z = vX12_town b0 h := ⟨_, rfl⟩
  rw [← EX]
  unfold vX12_town at EX
  obtain ⟨Y, EY⟩ : ∃ z, z = wX12_town b0 h := ⟨_, rfl⟩
  rw [← EY]
  unfold wX12_town at EY
  refine ea_enter rfl (Nat.le_of_ble_eq_true rfl) ?_
  refine ea_aload_n (pc := 0) dX12_town_0 rfl 0 rfl ?_
  refine ea_getI (pc := 1) dX12_town_1 ec_12 (k := 1) (Nat.le_of_ble_eq_true rfl) rfl (Or.inl ew_1346) (hs.1 0 (by decide)).1 (hs.1 0 (by decide)).2.1 ?_
  refine ea_bipush (pc := 4) dX12_town_4 (v := 12) rfl ?_
  refine ea_icmp_ne (pc := 6) (tgt := 11) dX12_town_6 rfl (fun c3 => ?_) (fun c3 => ?_)
  · have EX := EX.trans (if_neg c3)
    have EY := EY.trans (if_neg c3)
    refine ea_aload_n (pc := 11) dX12_town_11 rfl 0 rfl ?_
    refine ea_dup (pc := 12) dX12_town_12 rfl ?_
    refine ea_getI (pc := 13) dX12_town_13 ec_12 (k := 1) (Nat.le_of_ble_eq_true rfl) rfl (Or.inl ew_1346) (hs.1 0 (by decide)).1 (hs.1 0 (by decide)).2.1 ?_
    refine ea_iconst (pc := 16) dX12_town_16 (v := 1) rfl ?_
    refine ea_iadd (pc := 17) dX12_town_17 ?_
    refine ea_putI (pc := 18) dX12_town_18 ec_12 (k := 1) (Nat.le_of_ble_eq_true rfl) rfl (Or.inl ⟨rfl, Or.inl ew_1346⟩) rfl rfl (hs.1 0 (by decide)).1 (hs.1 0 (by decide)).2.1 ?_
    have hs1 : ShM b0 (ea_wi h (b0 + 0) 1 ((ea_i h (b0 + 0) 1) + (1 : Int32))) := ShM_wi hs
    refine ea_aload_n (pc := 21) dX12_town_21 rfl 0 rfl ?_
    refine ea_iconst (pc := 22) dX12_town_22 (v := 0) rfl ?_
    refine ea_putI (pc := 23) dX12_town_23 ec_12 (k := 12) (Nat.le_of_ble_eq_true rfl) rfl (Or.inl ⟨rfl, Or.inl ew_1357⟩) (ea_bn (Or.inl rfl)) (ea_bf (Or.inl rfl)) (hs1.1 0 (by decide)).1 (hs1.1 0 (by decide)).2.1 ?_
    have hs2 : ShM b0 (ea_wi (ea_wi h (b0 + 0) 1 ((ea_i h (b0 + 0) 1) + (1 : Int32))) (b0 + 0) 12 0) := ShM_wi hs1
    refine ea_aload_n (pc := 26) dX12_town_26 rfl 0 rfl ?_
    refine ea_getI (pc := 27) dX12_town_27 ec_12 (k := 1) (Nat.le_of_ble_eq_true rfl) rfl (Or.inl ew_1346) (hs2.1 0 (by decide)).1 (hs2.1 0 (by decide)).2.1 ?_
    refine ea_iconst (pc := 30) dX12_town_30 (v := 1) rfl ?_
    refine ea_isub (pc := 31) dX12_town_31 ?_
    exact ea_iretE (pc := 32) dX12_town_32 rfl rfl EX EY
  · have EX := EX.trans (if_pos c3)
    have EY := EY.trans (if_pos c3)
    refine ea_iconst (pc := 9) dX12_town_9 (v := (-1)) rfl ?_
    exact ea_iretE (pc := 10) dX12_town_10 rfl rfl EX EY
noncomputable def vX12_road (b0 : Nat) (x1 : Int32) (x2 : Int32) (x3 : Int32) (h : ea_H) : Int32 := (if (vX12_isTown b0 (x1 : Int32) h) = (0 : Int32) then (0 : Int32) else (if (vX12_isTown b0 (x2 : Int32) h) = (0 : Int32) then (0 : Int32) else (if x1 = x2 then (0 : Int32) else (if (vX12_isIn (x3 : Int32) (1 : Int32) (999 : Int32) h) = (0 : Int32) then (0 : Int32) else (1 : Int32)))))
noncomputable def wX12_road (b0 : Nat) (x1 : Int32) (x2 : Int32) (x3 : Int32) (h : ea_H) : ea_H := (if (vX12_isTown b0 (x1 : Int32) h) = (0 : Int32) then h else (if (vX12_isTown b0 (x2 : Int32) h) = (0 : Int32) then h else (if x1 = x2 then h else (if (vX12_isIn (x3 : Int32) (1 : Int32) (999 : Int32) h) = (0 : Int32) then h else (ea_wi (ea_wi h (b0 + 1) (Int32.toNatClampNeg (((12 : Int32) * x1) + x2)) x3) (b0 + 1) (Int32.toNatClampNeg (((12 : Int32) * x2) + x1)) x3)))))
def okX12_road (b0 : Nat) (x1 : Int32) (x2 : Int32) (x3 : Int32) (h : ea_H) : Prop := ((vX12_isTown b0 (x1 : Int32) h) = (0 : Int32) → True) ∧ (¬ (vX12_isTown b0 (x1 : Int32) h) = (0 : Int32) → ((vX12_isTown b0 (x2 : Int32) h) = (0 : Int32) → True) ∧ (¬ (vX12_isTown b0 (x2 : Int32) h) = (0 : Int32) → (x1 = x2 → True) ∧ (¬ x1 = x2 → ((vX12_isIn (x3 : Int32) (1 : Int32) (999 : Int32) h) = (0 : Int32) → True) ∧ (¬ (vX12_isIn (x3 : Int32) (1 : Int32) (999 : Int32) h) = (0 : Int32) → vp_in (((12 : Int32) * x1) + x2) 144 ∧ (vp_in (((12 : Int32) * x2) + x1) 144)))))
theorem bo_vX12_road (b0 : Nat) (x1 : Int32) (x2 : Int32) (x3 : Int32) (h : ea_H) : vX12_road b0 x1 x2 x3 h = 0 ∨ vX12_road b0 x1 x2 x3 h = 1 := (ea_itB (Or.inl rfl) (ea_itB (Or.inl rfl) (ea_itB (Or.inl rfl) (ea_itB (Or.inl rfl) (Or.inr rfl)))))
theorem shX12_road {b0 : Nat} {x1 : Int32} {x2 : Int32} {x3 : Int32} {h : ea_H} (hs : ShM b0 h) : ShM b0 (wX12_road b0 x1 x2 x3 h) := (ShM_it hs (ShM_it hs (ShM_it hs (ShM_it hs (ShM_wi (ShM_wi hs))))))
theorem sX12_road {d : Nat} {b0 : Nat} {x1 : Int32} {x2 : Int32} {x3 : Int32} {h : ea_H} (hd : 3 ≤ d) (hs : ShM b0 h) (K : okX12_road b0 x1 x2 x3 h) : ea_Met mX12_road d [vR (some (b0 + 0)), vI x1, vI x2, vI x3] h (some (vI (vX12_road b0 x1 x2 x3 h))) (wX12_road b0 x1 x2 x3 h) := by
  obtain ⟨X, EX⟩ : ∃ z, z = vX12_road b0 x1 x2 x3 h := ⟨_, rfl⟩
  rw [← EX]
  unfold vX12_road at EX
  obtain ⟨Y, EY⟩ : ∃ z, z = wX12_road b0 x1 x2 x3 h := ⟨_, rfl⟩
  rw [← EY]
  unfold wX12_road at EY
  unfold okX12_road at K
  refine ea_enter rfl (Nat.le_of_ble_eq_true rfl) ?_
  refine ea_aload_n (pc := 0) dX12_road_0 rfl 0 rfl ?_
  refine ea_iload_n (pc := 1) dX12_road_1 rfl 1 rfl ?_
  refine ea_callV (pc := 2) (d' := d - 1) (As := [vI x1]) (st := []) dX12_road_2 kX12_isTown (sX12_isTown (d := d - 1) (by omega) hs) (by omega) rfl (Nat.le_of_ble_eq_true rfl) ew_1708 ew_1710 ew_47 (ci := 12) rfl (by decide) (hs.1 0 (by decide)).1 (hs.1 0 (by decide)).2.1 ?_
  refine ea_if_eq (pc := 5) (tgt := 32) dX12_road_5 rfl (fun c11 => ?_) (fun c11 => ?_)
  · have EX := EX.trans (if_pos c11)
    have EY := EY.trans (if_pos c11)
    refine ea_iconst (pc := 32) dX12_road_32 (v := 0) rfl ?_
    exact ea_iretE (pc := 33) dX12_road_33 rfl (ea_bn (Or.inl rfl)) EX EY
  · have EX := EX.trans (if_neg c11)
    have EY := EY.trans (if_neg c11)
    have K := K.2 c11
    refine ea_aload_n (pc := 8) dX12_road_8 rfl 0 rfl ?_
    refine ea_iload_n (pc := 9) dX12_road_9 rfl 2 rfl ?_
    refine ea_callV (pc := 10) (d' := d - 1) (As := [vI x2]) (st := []) dX12_road_10 kX12_isTown (sX12_isTown (d := d - 1) (by omega) hs) (by omega) rfl (Nat.le_of_ble_eq_true rfl) ew_1708 ew_1710 ew_47 (ci := 12) rfl (by decide) (hs.1 0 (by decide)).1 (hs.1 0 (by decide)).2.1 ?_
    refine ea_if_eq (pc := 13) (tgt := 32) dX12_road_13 rfl (fun c10 => ?_) (fun c10 => ?_)
    · have EX := EX.trans (if_pos c10)
      have EY := EY.trans (if_pos c10)
      refine ea_iconst (pc := 32) dX12_road_32 (v := 0) rfl ?_
      exact ea_iretE (pc := 33) dX12_road_33 rfl (ea_bn (Or.inl rfl)) EX EY
    · have EX := EX.trans (if_neg c10)
      have EY := EY.trans (if_neg c10)
      have K := K.2 c10
      refine ea_iload_n (pc := 16) dX12_road_16 rfl 1 rfl ?_
      refine ea_iload_n (pc := 17) dX12_road_17 rfl 2 rfl ?_
      refine ea_icmp_eq (pc := 18) (tgt := 32) dX12_road_18 rfl (fun c9 => ?_) (fun c9 => ?_)
      · have EX := EX.trans (if_pos c9)
        have EY := EY.trans (if_pos c9)
        refine ea_iconst (pc := 32) dX12_road_32 (v := 0) rfl ?_
        exact ea_iretE (pc := 33) dX12_road_33 rfl (ea_bn (Or.inl rfl)) EX EY
      · have EX := EX.trans (if_neg c9)
        have EY := EY.trans (if_neg c9)
        have K := K.2 c9
        refine ea_iload_n (pc := 21) dX12_road_21 rfl 3 rfl ?_
        refine ea_iconst (pc := 22) dX12_road_22 (v := 1) rfl ?_
        refine ea_sipush (pc := 23) dX12_road_23 (v := 999) rfl ?_
        refine ea_callS (pc := 26) (d' := d - 1) (As := [vI x3, vI 1, vI 999]) (st := []) dX12_road_26 kX12_isIn (sX12_isIn (d := d - 1) (by omega)) (by omega) rfl (Nat.le_of_ble_eq_true rfl) ew_1712 ew_1713 ?_
        refine ea_if_ne (pc := 29) (tgt := 34) dX12_road_29 rfl (fun c8 => ?_) (fun c8 => ?_)
        · have EX := EX.trans (if_neg c8)
          have EY := EY.trans (if_neg c8)
          have K := K.2 c8
          refine ea_aload_n (pc := 34) dX12_road_34 rfl 0 rfl ?_
          refine ea_getR (pc := 35) dX12_road_35 ec_12 (k := 3) (Nat.le_of_ble_eq_true rfl) rfl (Or.inl ew_1348) (hs.1 0 (by decide)).1 (hs.1 0 (by decide)).2.1 (hs.2 0 3 rfl) ?_
          refine ea_bipush (pc := 38) dX12_road_38 (v := 12) rfl ?_
          refine ea_iload_n (pc := 40) dX12_road_40 rfl 1 rfl ?_
          refine ea_imul (pc := 41) dX12_road_41 ?_
          refine ea_iload_n (pc := 42) dX12_road_42 rfl 2 rfl ?_
          refine ea_iadd (pc := 43) dX12_road_43 ?_
          refine ea_iload_n (pc := 44) dX12_road_44 rfl 3 rfl ?_
          obtain ⟨z4, K⟩ := K
          refine ea_iast (pc := 45) dX12_road_45 (hs.1 1 (by decide)).1 (hs.1 1 (by decide)).2.1 (ea_vpl (hs.1 1 (by decide)).2.2 z4) ?_
          have hs5 : ShM b0 (ea_wi h (b0 + 1) (Int32.toNatClampNeg (((12 : Int32) * x1) + x2)) x3) := ShM_wi hs
          refine ea_aload_n (pc := 46) dX12_road_46 rfl 0 rfl ?_
          refine ea_getR (pc := 47) dX12_road_47 ec_12 (k := 3) (Nat.le_of_ble_eq_true rfl) rfl (Or.inl ew_1348) (hs5.1 0 (by decide)).1 (hs5.1 0 (by decide)).2.1 (hs5.2 0 3 rfl) ?_
          refine ea_bipush (pc := 50) dX12_road_50 (v := 12) rfl ?_
          refine ea_iload_n (pc := 52) dX12_road_52 rfl 2 rfl ?_
          refine ea_imul (pc := 53) dX12_road_53 ?_
          refine ea_iload_n (pc := 54) dX12_road_54 rfl 1 rfl ?_
          refine ea_iadd (pc := 55) dX12_road_55 ?_
          refine ea_iload_n (pc := 56) dX12_road_56 rfl 3 rfl ?_
          have z6 := K
          refine ea_iast (pc := 57) dX12_road_57 (hs5.1 1 (by decide)).1 (hs5.1 1 (by decide)).2.1 (ea_vpl (hs5.1 1 (by decide)).2.2 z6) ?_
          have hs7 : ShM b0 (ea_wi (ea_wi h (b0 + 1) (Int32.toNatClampNeg (((12 : Int32) * x1) + x2)) x3) (b0 + 1) (Int32.toNatClampNeg (((12 : Int32) * x2) + x1)) x3) := ShM_wi hs5
          refine ea_iconst (pc := 58) dX12_road_58 (v := 1) rfl ?_
          exact ea_iretE (pc := 59) dX12_road_59 rfl (ea_bn (Or.inr rfl)) EX EY
        · have EX := EX.trans (if_pos c8)
          have EY := EY.trans (if_pos c8)
          refine ea_iconst (pc := 32) dX12_road_32 (v := 0) rfl ?_
          exact ea_iretE (pc := 33) dX12_road_33 rfl (ea_bn (Or.inl rfl)) EX EY
noncomputable def vX12_train (b0 : Nat) (h : ea_H) : Int32 := (if (ea_i h (b0 + 0) 2) = (10 : Int32) then ((-1) : Int32) else ((ea_i (ea_wi (ea_wi h (b0 + 0) 2 ((ea_i h (b0 + 0) 2) + (1 : Int32))) (b0 + 0) 12 0) (b0 + 0) 2) - (1 : Int32)))
noncomputable def wX12_train (b0 : Nat) (h : ea_H) : ea_H := (if (ea_i h (b0 + 0) 2) = (10 : Int32) then h else (ea_wi (ea_wi h (b0 + 0) 2 ((ea_i h (b0 + 0) 2) + (1 : Int32))) (b0 + 0) 12 0))
theorem shX12_train {b0 : Nat} {h : ea_H} (hs : ShM b0 h) : ShM b0 (wX12_train b0 h) := (ShM_it hs (ShM_wi (ShM_wi hs)))
theorem sX12_train {d : Nat} {b0 : Nat} {h : ea_H} (hd : 1 ≤ d) (hs : ShM b0 h) : ea_Met mX12_train d [vR (some (b0 + 0))] h (some (vI (vX12_train b0 h))) (wX12_train b0 h) := by
  obtain ⟨X, EX⟩ : ∃ z, z = vX12_train b0 h := ⟨_, rfl⟩
  rw [← EX]
  unfold vX12_train at EX
  obtain ⟨Y, EY⟩ : ∃ z, z = wX12_train b0 h := ⟨_, rfl⟩
  rw [← EY]
  unfold wX12_train at EY
  refine ea_enter rfl (Nat.le_of_ble_eq_true rfl) ?_
  refine ea_aload_n (pc := 0) dX12_train_0 rfl 0 rfl ?_
  refine ea_getI (pc := 1) dX12_train_1 ec_12 (k := 2) (Nat.le_of_ble_eq_true rfl) rfl (Or.inl ew_1347) (hs.1 0 (by decide)).1 (hs.1 0 (by decide)).2.1 ?_
  refine ea_bipush (pc := 4) dX12_train_4 (v := 10) rfl ?_
  refine ea_icmp_ne (pc := 6) (tgt := 11) dX12_train_6 rfl (fun c3 => ?_) (fun c3 => ?_)
  · have EX := EX.trans (if_neg c3)
    have EY := EY.trans (if_neg c3)
    refine ea_aload_n (pc := 11) dX12_train_11 rfl 0 rfl ?_
    refine ea_dup (pc := 12) dX12_train_12 rfl ?_
    refine ea_getI (pc := 13) dX12_train_13 ec_12 (k := 2) (Nat.le_of_ble_eq_true rfl) rfl (Or.inl ew_1347) (hs.1 0 (by decide)).1 (hs.1 0 (by decide)).2.1 ?_
    refine ea_iconst (pc := 16) dX12_train_16 (v := 1) rfl ?_
    refine ea_iadd (pc := 17) dX12_train_17 ?_
    refine ea_putI (pc := 18) dX12_train_18 ec_12 (k := 2) (Nat.le_of_ble_eq_true rfl) rfl (Or.inl ⟨rfl, Or.inl ew_1347⟩) rfl rfl (hs.1 0 (by decide)).1 (hs.1 0 (by decide)).2.1 ?_
    have hs1 : ShM b0 (ea_wi h (b0 + 0) 2 ((ea_i h (b0 + 0) 2) + (1 : Int32))) := ShM_wi hs
    refine ea_aload_n (pc := 21) dX12_train_21 rfl 0 rfl ?_
    refine ea_iconst (pc := 22) dX12_train_22 (v := 0) rfl ?_
    refine ea_putI (pc := 23) dX12_train_23 ec_12 (k := 12) (Nat.le_of_ble_eq_true rfl) rfl (Or.inl ⟨rfl, Or.inl ew_1357⟩) (ea_bn (Or.inl rfl)) (ea_bf (Or.inl rfl)) (hs1.1 0 (by decide)).1 (hs1.1 0 (by decide)).2.1 ?_
    have hs2 : ShM b0 (ea_wi (ea_wi h (b0 + 0) 2 ((ea_i h (b0 + 0) 2) + (1 : Int32))) (b0 + 0) 12 0) := ShM_wi hs1
    refine ea_aload_n (pc := 26) dX12_train_26 rfl 0 rfl ?_
    refine ea_getI (pc := 27) dX12_train_27 ec_12 (k := 2) (Nat.le_of_ble_eq_true rfl) rfl (Or.inl ew_1347) (hs2.1 0 (by decide)).1 (hs2.1 0 (by decide)).2.1 ?_
    refine ea_iconst (pc := 30) dX12_train_30 (v := 1) rfl ?_
    refine ea_isub (pc := 31) dX12_train_31 ?_
    exact ea_iretE (pc := 32) dX12_train_32 rfl rfl EX EY
  · have EX := EX.trans (if_pos c3)
    have EY := EY.trans (if_pos c3)
    refine ea_iconst (pc := 9) dX12_train_9 (v := (-1)) rfl ?_
    exact ea_iretE (pc := 10) dX12_train_10 rfl rfl EX EY
noncomputable def vX12_stop (b0 : Nat) (x1 : Int32) (x2 : Int32) (x3 : Int32) (x4 : Int32) (x5 : Int32) (h : ea_H) : Int32 := (if (vX12_isTrain b0 (x1 : Int32) h) = (0 : Int32) then ((-1) : Int32) else (if (0 : Int32) < (ea_i h (b0 + 0) 0) then ((-1) : Int32) else (if (vX12_isTown b0 (x2 : Int32) h) = (0 : Int32) then ((-1) : Int32) else (if (vX12_isIn (x3 : Int32) (0 : Int32) (2400 : Int32) h) = (0 : Int32) then ((-1) : Int32) else (if (vX12_isIn (x4 : Int32) (x3 : Int32) (2400 : Int32) h) = (0 : Int32) then ((-1) : Int32) else (if x5 = (0 : Int32) then (if (ea_i h (b0 + 2) (Int32.toNatClampNeg x1)) = (8 : Int32) then ((-1) : Int32) else (if (ea_i h (b0 + 2) (Int32.toNatClampNeg x1)) ≤ (0 : Int32) then ((ea_i (ea_wi (ea_wi (ea_wi (ea_wi (ea_wi (ea_wi h (b0 + 3) (Int32.toNatClampNeg (((8 : Int32) * x1) + (ea_i h (b0 + 2) (Int32.toNatClampNeg x1)))) x2) (b0 + 4) (Int32.toNatClampNeg (((8 : Int32) * x1) + (ea_i h (b0 + 2) (Int32.toNatClampNeg x1)))) x3) (b0 + 5) (Int32.toNatClampNeg (((8 : Int32) * x1) + (ea_i h (b0 + 2) (Int32.toNatClampNeg x1)))) x4) (b0 + 7) (Int32.toNatClampNeg (((8 : Int32) * x1) + (ea_i h (b0 + 2) (Int32.toNatClampNeg x1)))) x5) (b0 + 2) (Int32.toNatClampNeg x1) ((ea_i (ea_wi (ea_wi (ea_wi (ea_wi h (b0 + 3) (Int32.toNatClampNeg (((8 : Int32) * x1) + (ea_i h (b0 + 2) (Int32.toNatClampNeg x1)))) x2) (b0 + 4) (Int32.toNatClampNeg (((8 : Int32) * x1) + (ea_i h (b0 + 2) (Int32.toNatClampNeg x1)))) x3) (b0 + 5) (Int32.toNatClampNeg (((8 : Int32) * x1) + (ea_i h (b0 + 2) (Int32.toNatClampNeg x1)))) x4) (b0 + 7) (Int32.toNatClampNeg (((8 : Int32) * x1) + (ea_i h (b0 + 2) (Int32.toNatClampNeg x1)))) x5) (b0 + 2) (Int32.toNatClampNeg x1)) + (1 : Int32))) (b0 + 0) 12 0) (b0 + 2) (Int32.toNatClampNeg x1)) - (1 : Int32)) else (if (ea_i h (b0 + 3) (Int32.toNatClampNeg ((((8 : Int32) * x1) + (ea_i h (b0 + 2) (Int32.toNatClampNeg x1))) - (1 : Int32)))) = x2 then ((-1) : Int32) else (if (ea_i h (b0 + 5) (Int32.toNatClampNeg ((((8 : Int32) * x1) + (ea_i h (b0 + 2) (Int32.toNatClampNeg x1))) - (1 : Int32)))) < x3 then ((ea_i (ea_wi (ea_wi (ea_wi (ea_wi (ea_wi (ea_wi h (b0 + 3) (Int32.toNatClampNeg (((8 : Int32) * x1) + (ea_i h (b0 + 2) (Int32.toNatClampNeg x1)))) x2) (b0 + 4) (Int32.toNatClampNeg (((8 : Int32) * x1) + (ea_i h (b0 + 2) (Int32.toNatClampNeg x1)))) x3) (b0 + 5) (Int32.toNatClampNeg (((8 : Int32) * x1) + (ea_i h (b0 + 2) (Int32.toNatClampNeg x1)))) x4) (b0 + 7) (Int32.toNatClampNeg (((8 : Int32) * x1) + (ea_i h (b0 + 2) (Int32.toNatClampNeg x1)))) x5) (b0 + 2) (Int32.toNatClampNeg x1) ((ea_i (ea_wi (ea_wi (ea_wi (ea_wi h (b0 + 3) (Int32.toNatClampNeg (((8 : Int32) * x1) + (ea_i h (b0 + 2) (Int32.toNatClampNeg x1)))) x2) (b0 + 4) (Int32.toNatClampNeg (((8 : Int32) * x1) + (ea_i h (b0 + 2) (Int32.toNatClampNeg x1)))) x3) (b0 + 5) (Int32.toNatClampNeg (((8 : Int32) * x1) + (ea_i h (b0 + 2) (Int32.toNatClampNeg x1)))) x4) (b0 + 7) (Int32.toNatClampNeg (((8 : Int32) * x1) + (ea_i h (b0 + 2) (Int32.toNatClampNeg x1)))) x5) (b0 + 2) (Int32.toNatClampNeg x1)) + (1 : Int32))) (b0 + 0) 12 0) (b0 + 2) (Int32.toNatClampNeg x1)) - (1 : Int32)) else ((-1) : Int32))))) else (if x3 = x4 then (if (ea_i h (b0 + 2) (Int32.toNatClampNeg x1)) = (8 : Int32) then ((-1) : Int32) else (if (ea_i h (b0 + 2) (Int32.toNatClampNeg x1)) ≤ (0 : Int32) then ((ea_i (ea_wi (ea_wi (ea_wi (ea_wi (ea_wi (ea_wi h (b0 + 3) (Int32.toNatClampNeg (((8 : Int32) * x1) + (ea_i h (b0 + 2) (Int32.toNatClampNeg x1)))) x2) (b0 + 4) (Int32.toNatClampNeg (((8 : Int32) * x1) + (ea_i h (b0 + 2) (Int32.toNatClampNeg x1)))) x3) (b0 + 5) (Int32.toNatClampNeg (((8 : Int32) * x1) + (ea_i h (b0 + 2) (Int32.toNatClampNeg x1)))) x4) (b0 + 7) (Int32.toNatClampNeg (((8 : Int32) * x1) + (ea_i h (b0 + 2) (Int32.toNatClampNeg x1)))) x5) (b0 + 2) (Int32.toNatClampNeg x1) ((ea_i (ea_wi (ea_wi (ea_wi (ea_wi h (b0 + 3) (Int32.toNatClampNeg (((8 : Int32) * x1) + (ea_i h (b0 + 2) (Int32.toNatClampNeg x1)))) x2) (b0 + 4) (Int32.toNatClampNeg (((8 : Int32) * x1) + (ea_i h (b0 + 2) (Int32.toNatClampNeg x1)))) x3) (b0 + 5) (Int32.toNatClampNeg (((8 : Int32) * x1) + (ea_i h (b0 + 2) (Int32.toNatClampNeg x1)))) x4) (b0 + 7) (Int32.toNatClampNeg (((8 : Int32) * x1) + (ea_i h (b0 + 2) (Int32.toNatClampNeg x1)))) x5) (b0 + 2) (Int32.toNatClampNeg x1)) + (1 : Int32))) (b0 + 0) 12 0) (b0 + 2) (Int32.toNatClampNeg x1)) - (1 : Int32)) else (if (ea_i h (b0 + 3) (Int32.toNatClampNeg ((((8 : Int32) * x1) + (ea_i h (b0 + 2) (Int32.toNatClampNeg x1))) - (1 : Int32)))) = x2 then ((-1) : Int32) else (if (ea_i h (b0 + 5) (Int32.toNatClampNeg ((((8 : Int32) * x1) + (ea_i h (b0 + 2) (Int32.toNatClampNeg x1))) - (1 : Int32)))) < x3 then ((ea_i (ea_wi (ea_wi (ea_wi (ea_wi (ea_wi (ea_wi h (b0 + 3) (Int32.toNatClampNeg (((8 : Int32) * x1) + (ea_i h (b0 + 2) (Int32.toNatClampNeg x1)))) x2) (b0 + 4) (Int32.toNatClampNeg (((8 : Int32) * x1) + (ea_i h (b0 + 2) (Int32.toNatClampNeg x1)))) x3) (b0 + 5) (Int32.toNatClampNeg (((8 : Int32) * x1) + (ea_i h (b0 + 2) (Int32.toNatClampNeg x1)))) x4) (b0 + 7) (Int32.toNatClampNeg (((8 : Int32) * x1) + (ea_i h (b0 + 2) (Int32.toNatClampNeg x1)))) x5) (b0 + 2) (Int32.toNatClampNeg x1) ((ea_i (ea_wi (ea_wi (ea_wi (ea_wi h (b0 + 3) (Int32.toNatClampNeg (((8 : Int32) * x1) + (ea_i h (b0 + 2) (Int32.toNatClampNeg x1)))) x2) (b0 + 4) (Int32.toNatClampNeg (((8 : Int32) * x1) + (ea_i h (b0 + 2) (Int32.toNatClampNeg x1)))) x3) (b0 + 5) (Int32.toNatClampNeg (((8 : Int32) * x1) + (ea_i h (b0 + 2) (Int32.toNatClampNeg x1)))) x4) (b0 + 7) (Int32.toNatClampNeg (((8 : Int32) * x1) + (ea_i h (b0 + 2) (Int32.toNatClampNeg x1)))) x5) (b0 + 2) (Int32.toNatClampNeg x1)) + (1 : Int32))) (b0 + 0) 12 0) (b0 + 2) (Int32.toNatClampNeg x1)) - (1 : Int32)) else ((-1) : Int32))))) else ((-1) : Int32))))))))
noncomputable def wX12_stop (b0 : Nat) (x1 : Int32) (x2 : Int32) (x3 : Int32) (x4 : Int32) (x5 : Int32) (h : ea_H) : ea_H := (if (vX12_isTrain b0 (x1 : Int32) h) = (0 : Int32) then h else (if (0 : Int32) < (ea_i h (b0 + 0) 0) then h else (if (vX12_isTown b0 (x2 : Int32) h) = (0 : Int32) then h else (if (vX12_isIn (x3 : Int32) (0 : Int32) (2400 : Int32) h) = (0 : Int32) then h else (if (vX12_isIn (x4 : Int32) (x3 : Int32) (2400 : Int32) h) = (0 : Int32) then h else (if x5 = (0 : Int32) then (if (ea_i h (b0 + 2) (Int32.toNatClampNeg x1)) = (8 : Int32) then h else (if (ea_i h (b0 + 2) (Int32.toNatClampNeg x1)) ≤ (0 : Int32) then (ea_wi (ea_wi (ea_wi (ea_wi (ea_wi (ea_wi h (b0 + 3) (Int32.toNatClampNeg (((8 : Int32) * x1) + (ea_i h (b0 + 2) (Int32.toNatClampNeg x1)))) x2) (b0 + 4) (Int32.toNatClampNeg (((8 : Int32) * x1) + (ea_i h (b0 + 2) (Int32.toNatClampNeg x1)))) x3) (b0 + 5) (Int32.toNatClampNeg (((8 : Int32) * x1) + (ea_i h (b0 + 2) (Int32.toNatClampNeg x1)))) x4) (b0 + 7) (Int32.toNatClampNeg (((8 : Int32) * x1) + (ea_i h (b0 + 2) (Int32.toNatClampNeg x1)))) x5) (b0 + 2) (Int32.toNatClampNeg x1) ((ea_i (ea_wi (ea_wi (ea_wi (ea_wi h (b0 + 3) (Int32.toNatClampNeg (((8 : Int32) * x1) + (ea_i h (b0 + 2) (Int32.toNatClampNeg x1)))) x2) (b0 + 4) (Int32.toNatClampNeg (((8 : Int32) * x1) + (ea_i h (b0 + 2) (Int32.toNatClampNeg x1)))) x3) (b0 + 5) (Int32.toNatClampNeg (((8 : Int32) * x1) + (ea_i h (b0 + 2) (Int32.toNatClampNeg x1)))) x4) (b0 + 7) (Int32.toNatClampNeg (((8 : Int32) * x1) + (ea_i h (b0 + 2) (Int32.toNatClampNeg x1)))) x5) (b0 + 2) (Int32.toNatClampNeg x1)) + (1 : Int32))) (b0 + 0) 12 0) else (if (ea_i h (b0 + 3) (Int32.toNatClampNeg ((((8 : Int32) * x1) + (ea_i h (b0 + 2) (Int32.toNatClampNeg x1))) - (1 : Int32)))) = x2 then h else (if (ea_i h (b0 + 5) (Int32.toNatClampNeg ((((8 : Int32) * x1) + (ea_i h (b0 + 2) (Int32.toNatClampNeg x1))) - (1 : Int32)))) < x3 then (ea_wi (ea_wi (ea_wi (ea_wi (ea_wi (ea_wi h (b0 + 3) (Int32.toNatClampNeg (((8 : Int32) * x1) + (ea_i h (b0 + 2) (Int32.toNatClampNeg x1)))) x2) (b0 + 4) (Int32.toNatClampNeg (((8 : Int32) * x1) + (ea_i h (b0 + 2) (Int32.toNatClampNeg x1)))) x3) (b0 + 5) (Int32.toNatClampNeg (((8 : Int32) * x1) + (ea_i h (b0 + 2) (Int32.toNatClampNeg x1)))) x4) (b0 + 7) (Int32.toNatClampNeg (((8 : Int32) * x1) + (ea_i h (b0 + 2) (Int32.toNatClampNeg x1)))) x5) (b0 + 2) (Int32.toNatClampNeg x1) ((ea_i (ea_wi (ea_wi (ea_wi (ea_wi h (b0 + 3) (Int32.toNatClampNeg (((8 : Int32) * x1) + (ea_i h (b0 + 2) (Int32.toNatClampNeg x1)))) x2) (b0 + 4) (Int32.toNatClampNeg (((8 : Int32) * x1) + (ea_i h (b0 + 2) (Int32.toNatClampNeg x1)))) x3) (b0 + 5) (Int32.toNatClampNeg (((8 : Int32) * x1) + (ea_i h (b0 + 2) (Int32.toNatClampNeg x1)))) x4) (b0 + 7) (Int32.toNatClampNeg (((8 : Int32) * x1) + (ea_i h (b0 + 2) (Int32.toNatClampNeg x1)))) x5) (b0 + 2) (Int32.toNatClampNeg x1)) + (1 : Int32))) (b0 + 0) 12 0) else h)))) else (if x3 = x4 then (if (ea_i h (b0 + 2) (Int32.toNatClampNeg x1)) = (8 : Int32) then h else (if (ea_i h (b0 + 2) (Int32.toNatClampNeg x1)) ≤ (0 : Int32) then (ea_wi (ea_wi (ea_wi (ea_wi (ea_wi (ea_wi h (b0 + 3) (Int32.toNatClampNeg (((8 : Int32) * x1) + (ea_i h (b0 + 2) (Int32.toNatClampNeg x1)))) x2) (b0 + 4) (Int32.toNatClampNeg (((8 : Int32) * x1) + (ea_i h (b0 + 2) (Int32.toNatClampNeg x1)))) x3) (b0 + 5) (Int32.toNatClampNeg (((8 : Int32) * x1) + (ea_i h (b0 + 2) (Int32.toNatClampNeg x1)))) x4) (b0 + 7) (Int32.toNatClampNeg (((8 : Int32) * x1) + (ea_i h (b0 + 2) (Int32.toNatClampNeg x1)))) x5) (b0 + 2) (Int32.toNatClampNeg x1) ((ea_i (ea_wi (ea_wi (ea_wi (ea_wi h (b0 + 3) (Int32.toNatClampNeg (((8 : Int32) * x1) + (ea_i h (b0 + 2) (Int32.toNatClampNeg x1)))) x2) (b0 + 4) (Int32.toNatClampNeg (((8 : Int32) * x1) + (ea_i h (b0 + 2) (Int32.toNatClampNeg x1)))) x3) (b0 + 5) (Int32.toNatClampNeg (((8 : Int32) * x1) + (ea_i h (b0 + 2) (Int32.toNatClampNeg x1)))) x4) (b0 + 7) (Int32.toNatClampNeg (((8 : Int32) * x1) + (ea_i h (b0 + 2) (Int32.toNatClampNeg x1)))) x5) (b0 + 2) (Int32.toNatClampNeg x1)) + (1 : Int32))) (b0 + 0) 12 0) else (if (ea_i h (b0 + 3) (Int32.toNatClampNeg ((((8 : Int32) * x1) + (ea_i h (b0 + 2) (Int32.toNatClampNeg x1))) - (1 : Int32)))) = x2 then h else (if (ea_i h (b0 + 5) (Int32.toNatClampNeg ((((8 : Int32) * x1) + (ea_i h (b0 + 2) (Int32.toNatClampNeg x1))) - (1 : Int32)))) < x3 then (ea_wi (ea_wi (ea_wi (ea_wi (ea_wi (ea_wi h (b0 + 3) (Int32.toNatClampNeg (((8 : Int32) * x1) + (ea_i h (b0 + 2) (Int32.toNatClampNeg x1)))) x2) (b0 + 4) (Int32.toNatClampNeg (((8 : Int32) * x1) + (ea_i h (b0 + 2) (Int32.toNatClampNeg x1)))) x3) (b0 + 5) (Int32.toNatClampNeg (((8 : Int32) * x1) + (ea_i h (b0 + 2) (Int32.toNatClampNeg x1)))) x4) (b0 + 7) (Int32.toNatClampNeg (((8 : Int32) * x1) + (ea_i h (b0 + 2) (Int32.toNatClampNeg x1)))) x5) (b0 + 2) (Int32.toNatClampNeg x1) ((ea_i (ea_wi (ea_wi (ea_wi (ea_wi h (b0 + 3) (Int32.toNatClampNeg (((8 : Int32) * x1) + (ea_i h (b0 + 2) (Int32.toNatClampNeg x1)))) x2) (b0 + 4) (Int32.toNatClampNeg (((8 : Int32) * x1) + (ea_i h (b0 + 2) (Int32.toNatClampNeg x1)))) x3) (b0 + 5) (Int32.toNatClampNeg (((8 : Int32) * x1) + (ea_i h (b0 + 2) (Int32.toNatClampNeg x1)))) x4) (b0 + 7) (Int32.toNatClampNeg (((8 : Int32) * x1) + (ea_i h (b0 + 2) (Int32.toNatClampNeg x1)))) x5) (b0 + 2) (Int32.toNatClampNeg x1)) + (1 : Int32))) (b0 + 0) 12 0) else h)))) else h)))))))
def okX12_stop (b0 : Nat) (x1 : Int32) (x2 : Int32) (x3 : Int32) (x4 : Int32) (x5 : Int32) (h : ea_H) : Prop := ((vX12_isTrain b0 (x1 : Int32) h) = (0 : Int32) → True) ∧ (¬ (vX12_isTrain b0 (x1 : Int32) h) = (0 : Int32) → ((0 : Int32) < (ea_i h (b0 + 0) 0) → True) ∧ (¬ (0 : Int32) < (ea_i h (b0 + 0) 0) → ((vX12_isTown b0 (x2 : Int32) h) = (0 : Int32) → True) ∧ (¬ (vX12_isTown b0 (x2 : Int32) h) = (0 : Int32) → ((vX12_isIn (x3 : Int32) (0 : Int32) (2400 : Int32) h) = (0 : Int32) → True) ∧ (¬ (vX12_isIn (x3 : Int32) (0 : Int32) (2400 : Int32) h) = (0 : Int32) → ((vX12_isIn (x4 : Int32) (x3 : Int32) (2400 : Int32) h) = (0 : Int32) → True) ∧ (¬ (vX12_isIn (x4 : Int32) (x3 : Int32) (2400 : Int32) h) = (0 : Int32) → (x5 = (0 : Int32) → vp_in x1 10 ∧ (((ea_i h (b0 + 2) (Int32.toNatClampNeg x1)) = (8 : Int32) → True) ∧ (¬ (ea_i h (b0 + 2) (Int32.toNatClampNeg x1)) = (8 : Int32) → vp_in x1 10 ∧ (vp_in x1 10 ∧ (((ea_i h (b0 + 2) (Int32.toNatClampNeg x1)) ≤ (0 : Int32) → vp_in (((8 : Int32) * x1) + (ea_i h (b0 + 2) (Int32.toNatClampNeg x1))) 80 ∧ (vp_in (((8 : Int32) * x1) + (ea_i h (b0 + 2) (Int32.toNatClampNeg x1))) 80 ∧ (vp_in (((8 : Int32) * x1) + (ea_i h (b0 + 2) (Int32.toNatClampNeg x1))) 80 ∧ (vp_in (((8 : Int32) * x1) + (ea_i h (b0 + 2) (Int32.toNatClampNeg x1))) 80 ∧ ((x5 = 0 ∨ x5 = 1) ∧ (vp_in x1 10 ∧ (vp_in x1 10 ∧ (vp_in x1 10)))))))) ∧ (¬ (ea_i h (b0 + 2) (Int32.toNatClampNeg x1)) ≤ (0 : Int32) → vp_in ((((8 : Int32) * x1) + (ea_i h (b0 + 2) (Int32.toNatClampNeg x1))) - (1 : Int32)) 80 ∧ (((ea_i h (b0 + 3) (Int32.toNatClampNeg ((((8 : Int32) * x1) + (ea_i h (b0 + 2) (Int32.toNatClampNeg x1))) - (1 : Int32)))) = x2 → True) ∧ (¬ (ea_i h (b0 + 3) (Int32.toNatClampNeg ((((8 : Int32) * x1) + (ea_i h (b0 + 2) (Int32.toNatClampNeg x1))) - (1 : Int32)))) = x2 → vp_in ((((8 : Int32) * x1) + (ea_i h (b0 + 2) (Int32.toNatClampNeg x1))) - (1 : Int32)) 80 ∧ (((ea_i h (b0 + 5) (Int32.toNatClampNeg ((((8 : Int32) * x1) + (ea_i h (b0 + 2) (Int32.toNatClampNeg x1))) - (1 : Int32)))) < x3 → vp_in (((8 : Int32) * x1) + (ea_i h (b0 + 2) (Int32.toNatClampNeg x1))) 80 ∧ (vp_in (((8 : Int32) * x1) + (ea_i h (b0 + 2) (Int32.toNatClampNeg x1))) 80 ∧ (vp_in (((8 : Int32) * x1) + (ea_i h (b0 + 2) (Int32.toNatClampNeg x1))) 80 ∧ (vp_in (((8 : Int32) * x1) + (ea_i h (b0 + 2) (Int32.toNatClampNeg x1))) 80 ∧ ((x5 = 0 ∨ x5 = 1) ∧ (vp_in x1 10 ∧ (vp_in x1 10 ∧ (vp_in x1 10)))))))) ∧ (¬ (ea_i h (b0 + 5) (Int32.toNatClampNeg ((((8 : Int32) * x1) + (ea_i h (b0 + 2) (Int32.toNatClampNeg x1))) - (1 : Int32)))) < x3 → True)))))))))) ∧ (¬ x5 = (0 : Int32) → (x3 = x4 → vp_in x1 10 ∧ (((ea_i h (b0 + 2) (Int32.toNatClampNeg x1)) = (8 : Int32) → True) ∧ (¬ (ea_i h (b0 + 2) (Int32.toNatClampNeg x1)) = (8 : Int32) → vp_in x1 10 ∧ (vp_in x1 10 ∧ (((ea_i h (b0 + 2) (Int32.toNatClampNeg x1)) ≤ (0 : Int32) → vp_in (((8 : Int32) * x1) + (ea_i h (b0 + 2) (Int32.toNatClampNeg x1))) 80 ∧ (vp_in (((8 : Int32) * x1) + (ea_i h (b0 + 2) (Int32.toNatClampNeg x1))) 80 ∧ (vp_in (((8 : Int32) * x1) + (ea_i h (b0 + 2) (Int32.toNatClampNeg x1))) 80 ∧ (vp_in (((8 : Int32) * x1) + (ea_i h (b0 + 2) (Int32.toNatClampNeg x1))) 80 ∧ ((x5 = 0 ∨ x5 = 1) ∧ (vp_in x1 10 ∧ (vp_in x1 10 ∧ (vp_in x1 10)))))))) ∧ (¬ (ea_i h (b0 + 2) (Int32.toNatClampNeg x1)) ≤ (0 : Int32) → vp_in ((((8 : Int32) * x1) + (ea_i h (b0 + 2) (Int32.toNatClampNeg x1))) - (1 : Int32)) 80 ∧ (((ea_i h (b0 + 3) (Int32.toNatClampNeg ((((8 : Int32) * x1) + (ea_i h (b0 + 2) (Int32.toNatClampNeg x1))) - (1 : Int32)))) = x2 → True) ∧ (¬ (ea_i h (b0 + 3) (Int32.toNatClampNeg ((((8 : Int32) * x1) + (ea_i h (b0 + 2) (Int32.toNatClampNeg x1))) - (1 : Int32)))) = x2 → vp_in ((((8 : Int32) * x1) + (ea_i h (b0 + 2) (Int32.toNatClampNeg x1))) - (1 : Int32)) 80 ∧ (((ea_i h (b0 + 5) (Int32.toNatClampNeg ((((8 : Int32) * x1) + (ea_i h (b0 + 2) (Int32.toNatClampNeg x1))) - (1 : Int32)))) < x3 → vp_in (((8 : Int32) * x1) + (ea_i h (b0 + 2) (Int32.toNatClampNeg x1))) 80 ∧ (vp_in (((8 : Int32) * x1) + (ea_i h (b0 + 2) (Int32.toNatClampNeg x1))) 80 ∧ (vp_in (((8 : Int32) * x1) + (ea_i h (b0 + 2) (Int32.toNatClampNeg x1))) 80 ∧ (vp_in (((8 : Int32) * x1) + (ea_i h (b0 + 2) (Int32.toNatClampNeg x1))) 80 ∧ ((x5 = 0 ∨ x5 = 1) ∧ (vp_in x1 10 ∧ (vp_in x1 10 ∧ (vp_in x1 10)))))))) ∧ (¬ (ea_i h (b0 + 5) (Int32.toNatClampNeg ((((8 : Int32) * x1) + (ea_i h (b0 + 2) (Int32.toNatClampNeg x1))) - (1 : Int32)))) < x3 → True)))))))))) ∧ (¬ x3 = x4 → True)))))))
theorem shX12_stop {b0 : Nat} {x1 : Int32} {x2 : Int32} {x3 : Int32} {x4 : Int32} {x5 : Int32} {h : ea_H} (hs : ShM b0 h) : ShM b0 (wX12_stop b0 x1 x2 x3 x4 x5 h) := (ShM_it hs (ShM_it hs (ShM_it hs (ShM_it hs (ShM_it hs (ShM_it (ShM_it hs (ShM_it (ShM_wi (ShM_wi (ShM_wi (ShM_wi (ShM_wi (ShM_wi hs)))))) (ShM_it hs (ShM_it (ShM_wi (ShM_wi (ShM_wi (ShM_wi (ShM_wi (ShM_wi hs)))))) hs)))) (ShM_it (ShM_it hs (ShM_it (ShM_wi (ShM_wi (ShM_wi (ShM_wi (ShM_wi (ShM_wi hs)))))) (ShM_it hs (ShM_it (ShM_wi (ShM_wi (ShM_wi (ShM_wi (ShM_wi (ShM_wi hs)))))) hs)))) hs)))))))
theorem sX12_stop {d : Nat} {b0 : Nat} {x1 : Int32} {x2 : Int32} {x3 : Int32} {x4 : Int32} {x5 : Int32} {h : ea_H} (hd : 3 ≤ d) (hs : ShM b0 h) (K : okX12_stop b0 x1 x2 x3 x4 x5 h) : ea_Met mX12_stop d [vR (some (b0 + 0)), vI x1, vI x2, vI x3, vI x4, vI x5] h (some (vI (vX12_stop b0 x1 x2 x3 x4 x5 h))) (wX12_stop b0 x1 x2 x3 x4 x5 h) := by
  obtain ⟨X, EX⟩ : ∃ z, z = vX12_stop b0 x1 x2 x3 x4 x5 h := ⟨_, rfl⟩
  rw [← EX]
  unfold vX12_stop at EX
  obtain ⟨Y, EY⟩ : ∃ z, z = wX12_stop b0 x1 x2 x3 x4 x5 h := ⟨_, rfl⟩
  rw [← EY]
  unfold wX12_stop at EY
  unfold okX12_stop at K
  refine ea_enter rfl (Nat.le_of_ble_eq_true rfl) ?_
  refine ea_aload_n (pc := 0) dX12_stop_0 rfl 0 rfl ?_
  refine ea_iload_n (pc := 1) dX12_stop_1 rfl 1 rfl ?_
  refine ea_callV (pc := 2) (d' := d - 1) (As := [vI x1]) (st := []) dX12_stop_2 kX12_isTrain (sX12_isTrain (d := d - 1) (by omega) hs) (by omega) rfl (Nat.le_of_ble_eq_true rfl) ew_1736 ew_1738 ew_50 (ci := 12) rfl (by decide) (hs.1 0 (by decide)).1 (hs.1 0 (by decide)).2.1 ?_
  refine ea_if_eq (pc := 5) (tgt := 68) dX12_stop_5 rfl (fun c85 => ?_) (fun c85 => ?_)
  · have EX := EX.trans (if_pos c85)
    have EY := EY.trans (if_pos c85)
    refine ea_iconst (pc := 68) dX12_stop_68 (v := (-1)) rfl ?_
    exact ea_iretE (pc := 69) dX12_stop_69 rfl rfl EX EY
  · have EX := EX.trans (if_neg c85)
    have EY := EY.trans (if_neg c85)
    have K := K.2 c85
    refine ea_aload_n (pc := 8) dX12_stop_8 rfl 0 rfl ?_
    refine ea_getI (pc := 9) dX12_stop_9 ec_12 (k := 0) (Nat.le_of_ble_eq_true rfl) rfl (Or.inl ew_1345) (hs.1 0 (by decide)).1 (hs.1 0 (by decide)).2.1 ?_
    refine ea_if_gt (pc := 12) (tgt := 68) dX12_stop_12 rfl (fun c84 => ?_) (fun c84 => ?_)
    · have EX := EX.trans (if_pos c84)
      have EY := EY.trans (if_pos c84)
      refine ea_iconst (pc := 68) dX12_stop_68 (v := (-1)) rfl ?_
      exact ea_iretE (pc := 69) dX12_stop_69 rfl rfl EX EY
    · have EX := EX.trans (if_neg c84)
      have EY := EY.trans (if_neg c84)
      have K := K.2 c84
      refine ea_aload_n (pc := 15) dX12_stop_15 rfl 0 rfl ?_
      refine ea_iload_n (pc := 16) dX12_stop_16 rfl 2 rfl ?_
      refine ea_callV (pc := 17) (d' := d - 1) (As := [vI x2]) (st := []) dX12_stop_17 kX12_isTown (sX12_isTown (d := d - 1) (by omega) hs) (by omega) rfl (Nat.le_of_ble_eq_true rfl) ew_1708 ew_1710 ew_47 (ci := 12) rfl (by decide) (hs.1 0 (by decide)).1 (hs.1 0 (by decide)).2.1 ?_
      refine ea_if_eq (pc := 20) (tgt := 68) dX12_stop_20 rfl (fun c83 => ?_) (fun c83 => ?_)
      · have EX := EX.trans (if_pos c83)
        have EY := EY.trans (if_pos c83)
        refine ea_iconst (pc := 68) dX12_stop_68 (v := (-1)) rfl ?_
        exact ea_iretE (pc := 69) dX12_stop_69 rfl rfl EX EY
      · have EX := EX.trans (if_neg c83)
        have EY := EY.trans (if_neg c83)
        have K := K.2 c83
        refine ea_iload_n (pc := 23) dX12_stop_23 rfl 3 rfl ?_
        refine ea_iconst (pc := 24) dX12_stop_24 (v := 0) rfl ?_
        refine ea_sipush (pc := 25) dX12_stop_25 (v := 2400) rfl ?_
        refine ea_callS (pc := 28) (d' := d - 1) (As := [vI x3, vI 0, vI 2400]) (st := []) dX12_stop_28 kX12_isIn (sX12_isIn (d := d - 1) (by omega)) (by omega) rfl (Nat.le_of_ble_eq_true rfl) ew_1712 ew_1713 ?_
        refine ea_if_eq (pc := 31) (tgt := 68) dX12_stop_31 rfl (fun c82 => ?_) (fun c82 => ?_)
        · have EX := EX.trans (if_pos c82)
          have EY := EY.trans (if_pos c82)
          refine ea_iconst (pc := 68) dX12_stop_68 (v := (-1)) rfl ?_
          exact ea_iretE (pc := 69) dX12_stop_69 rfl rfl EX EY
        · have EX := EX.trans (if_neg c82)
          have EY := EY.trans (if_neg c82)
          have K := K.2 c82
          refine ea_iload (pc := 34) dX12_stop_34 4 rfl ?_
          refine ea_iload_n (pc := 36) dX12_stop_36 rfl 3 rfl ?_
          refine ea_sipush (pc := 37) dX12_stop_37 (v := 2400) rfl ?_
          refine ea_callS (pc := 40) (d' := d - 1) (As := [vI x4, vI x3, vI 2400]) (st := []) dX12_stop_40 kX12_isIn (sX12_isIn (d := d - 1) (by omega)) (by omega) rfl (Nat.le_of_ble_eq_true rfl) ew_1712 ew_1713 ?_
          refine ea_if_eq (pc := 43) (tgt := 68) dX12_stop_43 rfl (fun c81 => ?_) (fun c81 => ?_)
          · have EX := EX.trans (if_pos c81)
            have EY := EY.trans (if_pos c81)
            refine ea_iconst (pc := 68) dX12_stop_68 (v := (-1)) rfl ?_
            exact ea_iretE (pc := 69) dX12_stop_69 rfl rfl EX EY
          · have EX := EX.trans (if_neg c81)
            have EY := EY.trans (if_neg c81)
            have K := K.2 c81
            refine ea_iload (pc := 46) dX12_stop_46 5 rfl ?_
            refine ea_if_eq (pc := 48) (tgt := 57) dX12_stop_48 rfl (fun c80 => ?_) (fun c80 => ?_)
            · have EX := EX.trans (if_pos c80)
              have EY := EY.trans (if_pos c80)
              have K := K.1 c80
              refine ea_aload_n (pc := 57) dX12_stop_57 rfl 0 rfl ?_
              refine ea_getR (pc := 58) dX12_stop_58 ec_12 (k := 4) (Nat.le_of_ble_eq_true rfl) rfl (Or.inl ew_1349) (hs.1 0 (by decide)).1 (hs.1 0 (by decide)).2.1 (hs.2 0 4 rfl) ?_
              refine ea_iload_n (pc := 61) dX12_stop_61 rfl 1 rfl ?_
              obtain ⟨z5, K⟩ := K
              refine ea_iald (pc := 62) dX12_stop_62 (hs.1 2 (by decide)).1 (hs.1 2 (by decide)).2.1 (ea_vpl (hs.1 2 (by decide)).2.2 z5) ?_
              refine ea_bipush (pc := 63) dX12_stop_63 (v := 8) rfl ?_
              refine ea_icmp_ne (pc := 65) (tgt := 70) dX12_stop_65 rfl (fun c41 => ?_) (fun c41 => ?_)
              · have EX := EX.trans (if_neg c41)
                have EY := EY.trans (if_neg c41)
                have K := K.2 c41
                refine ea_bipush (pc := 70) dX12_stop_70 (v := 8) rfl ?_
                refine ea_iload_n (pc := 72) dX12_stop_72 rfl 1 rfl ?_
                refine ea_imul (pc := 73) dX12_stop_73 ?_
                refine ea_aload_n (pc := 74) dX12_stop_74 rfl 0 rfl ?_
                refine ea_getR (pc := 75) dX12_stop_75 ec_12 (k := 4) (Nat.le_of_ble_eq_true rfl) rfl (Or.inl ew_1349) (hs.1 0 (by decide)).1 (hs.1 0 (by decide)).2.1 (hs.2 0 4 rfl) ?_
                refine ea_iload_n (pc := 78) dX12_stop_78 rfl 1 rfl ?_
                obtain ⟨z6, K⟩ := K
                refine ea_iald (pc := 79) dX12_stop_79 (hs.1 2 (by decide)).1 (hs.1 2 (by decide)).2.1 (ea_vpl (hs.1 2 (by decide)).2.2 z6) ?_
                refine ea_iadd (pc := 80) dX12_stop_80 ?_
                refine ea_istore (pc := 81) (lv' := [(0, vR (some (b0 + 0))), (1, vI x1), (2, vI x2), (3, vI x3), (4, vI x4), (5, vI x5), (6, vI (((8 : Int32) * x1) + (ea_i h (b0 + 2) (Int32.toNatClampNeg x1))))]) dX12_stop_81 (Nat.le_of_ble_eq_true rfl) [1, 2, 3, 4, 5, 6, 0] rfl ?_
                refine ea_aload_n (pc := 83) dX12_stop_83 rfl 0 rfl ?_
                refine ea_getR (pc := 84) dX12_stop_84 ec_12 (k := 4) (Nat.le_of_ble_eq_true rfl) rfl (Or.inl ew_1349) (hs.1 0 (by decide)).1 (hs.1 0 (by decide)).2.1 (hs.2 0 4 rfl) ?_
                refine ea_iload_n (pc := 87) dX12_stop_87 rfl 1 rfl ?_
                obtain ⟨z7, K⟩ := K
                refine ea_iald (pc := 88) dX12_stop_88 (hs.1 2 (by decide)).1 (hs.1 2 (by decide)).2.1 (ea_vpl (hs.1 2 (by decide)).2.2 z7) ?_
                refine ea_if_le (pc := 89) (tgt := 120) dX12_stop_89 rfl (fun c40 => ?_) (fun c40 => ?_)
                · have EX := EX.trans (if_pos c40)
                  have EY := EY.trans (if_pos c40)
                  have K := K.1 c40
                  refine ea_aload_n (pc := 120) dX12_stop_120 rfl 0 rfl ?_
                  refine ea_getR (pc := 121) dX12_stop_121 ec_12 (k := 5) (Nat.le_of_ble_eq_true rfl) rfl (Or.inl ew_1350) (hs.1 0 (by decide)).1 (hs.1 0 (by decide)).2.1 (hs.2 0 5 rfl) ?_
                  refine ea_iload (pc := 124) dX12_stop_124 6 rfl ?_
                  refine ea_iload_n (pc := 126) dX12_stop_126 rfl 2 rfl ?_
                  obtain ⟨z8, K⟩ := K
                  refine ea_iast (pc := 127) dX12_stop_127 (hs.1 3 (by decide)).1 (hs.1 3 (by decide)).2.1 (ea_vpl (hs.1 3 (by decide)).2.2 z8) ?_
                  have hs9 : ShM b0 (ea_wi h (b0 + 3) (Int32.toNatClampNeg (((8 : Int32) * x1) + (ea_i h (b0 + 2) (Int32.toNatClampNeg x1)))) x2) := ShM_wi hs
                  refine ea_aload_n (pc := 128) dX12_stop_128 rfl 0 rfl ?_
                  refine ea_getR (pc := 129) dX12_stop_129 ec_12 (k := 6) (Nat.le_of_ble_eq_true rfl) rfl (Or.inl ew_1351) (hs9.1 0 (by decide)).1 (hs9.1 0 (by decide)).2.1 (hs9.2 0 6 rfl) ?_
                  refine ea_iload (pc := 132) dX12_stop_132 6 rfl ?_
                  refine ea_iload_n (pc := 134) dX12_stop_134 rfl 3 rfl ?_
                  obtain ⟨z10, K⟩ := K
                  refine ea_iast (pc := 135) dX12_stop_135 (hs9.1 4 (by decide)).1 (hs9.1 4 (by decide)).2.1 (ea_vpl (hs9.1 4 (by decide)).2.2 z10) ?_
                  have hs11 : ShM b0 (ea_wi (ea_wi h (b0 + 3) (Int32.toNatClampNeg (((8 : Int32) * x1) + (ea_i h (b0 + 2) (Int32.toNatClampNeg x1)))) x2) (b0 + 4) (Int32.toNatClampNeg (((8 : Int32) * x1) + (ea_i h (b0 + 2) (Int32.toNatClampNeg x1)))) x3) := ShM_wi hs9
                  refine ea_aload_n (pc := 136) dX12_stop_136 rfl 0 rfl ?_
                  refine ea_getR (pc := 137) dX12_stop_137 ec_12 (k := 7) (Nat.le_of_ble_eq_true rfl) rfl (Or.inl ew_1352) (hs11.1 0 (by decide)).1 (hs11.1 0 (by decide)).2.1 (hs11.2 0 7 rfl) ?_
                  refine ea_iload (pc := 140) dX12_stop_140 6 rfl ?_
                  refine ea_iload (pc := 142) dX12_stop_142 4 rfl ?_
                  obtain ⟨z12, K⟩ := K
                  refine ea_iast (pc := 144) dX12_stop_144 (hs11.1 5 (by decide)).1 (hs11.1 5 (by decide)).2.1 (ea_vpl (hs11.1 5 (by decide)).2.2 z12) ?_
                  have hs13 : ShM b0 (ea_wi (ea_wi (ea_wi h (b0 + 3) (Int32.toNatClampNeg (((8 : Int32) * x1) + (ea_i h (b0 + 2) (Int32.toNatClampNeg x1)))) x2) (b0 + 4) (Int32.toNatClampNeg (((8 : Int32) * x1) + (ea_i h (b0 + 2) (Int32.toNatClampNeg x1)))) x3) (b0 + 5) (Int32.toNatClampNeg (((8 : Int32) * x1) + (ea_i h (b0 + 2) (Int32.toNatClampNeg x1)))) x4) := ShM_wi hs11
                  refine ea_aload_n (pc := 145) dX12_stop_145 rfl 0 rfl ?_
                  refine ea_getR (pc := 146) dX12_stop_146 ec_12 (k := 9) (Nat.le_of_ble_eq_true rfl) rfl (Or.inl ew_1354) (hs13.1 0 (by decide)).1 (hs13.1 0 (by decide)).2.1 (hs13.2 0 9 rfl) ?_
                  refine ea_iload (pc := 149) dX12_stop_149 6 rfl ?_
                  refine ea_iload (pc := 151) dX12_stop_151 5 rfl ?_
                  obtain ⟨z14, z16, K⟩ := K
                  refine ea_zast (pc := 153) dX12_stop_153 (y := x5) (ea_bn z16) (hs13.1 7 (by decide)).1 (hs13.1 7 (by decide)).2.1 (ea_vpl (hs13.1 7 (by decide)).2.2 z14) ?_
                  have hs15 : ShM b0 (ea_wi (ea_wi (ea_wi (ea_wi h (b0 + 3) (Int32.toNatClampNeg (((8 : Int32) * x1) + (ea_i h (b0 + 2) (Int32.toNatClampNeg x1)))) x2) (b0 + 4) (Int32.toNatClampNeg (((8 : Int32) * x1) + (ea_i h (b0 + 2) (Int32.toNatClampNeg x1)))) x3) (b0 + 5) (Int32.toNatClampNeg (((8 : Int32) * x1) + (ea_i h (b0 + 2) (Int32.toNatClampNeg x1)))) x4) (b0 + 7) (Int32.toNatClampNeg (((8 : Int32) * x1) + (ea_i h (b0 + 2) (Int32.toNatClampNeg x1)))) x5) := ShM_wi hs13
                  refine ea_aload_n (pc := 154) dX12_stop_154 rfl 0 rfl ?_
                  refine ea_getR (pc := 155) dX12_stop_155 ec_12 (k := 4) (Nat.le_of_ble_eq_true rfl) rfl (Or.inl ew_1349) (hs15.1 0 (by decide)).1 (hs15.1 0 (by decide)).2.1 (hs15.2 0 4 rfl) ?_
                  refine ea_iload_n (pc := 158) dX12_stop_158 rfl 1 rfl ?_
                  refine ea_dup2 (pc := 159) dX12_stop_159 rfl rfl ?_
                  obtain ⟨z17, K⟩ := K
                  refine ea_iald (pc := 160) dX12_stop_160 (hs15.1 2 (by decide)).1 (hs15.1 2 (by decide)).2.1 (ea_vpl (hs15.1 2 (by decide)).2.2 z17) ?_
                  refine ea_iconst (pc := 161) dX12_stop_161 (v := 1) rfl ?_
                  refine ea_iadd (pc := 162) dX12_stop_162 ?_
                  obtain ⟨z18, K⟩ := K
                  refine ea_iast (pc := 163) dX12_stop_163 (hs15.1 2 (by decide)).1 (hs15.1 2 (by decide)).2.1 (ea_vpl (hs15.1 2 (by decide)).2.2 z18) ?_
                  have hs19 : ShM b0 (ea_wi (ea_wi (ea_wi (ea_wi (ea_wi h (b0 + 3) (Int32.toNatClampNeg (((8 : Int32) * x1) + (ea_i h (b0 + 2) (Int32.toNatClampNeg x1)))) x2) (b0 + 4) (Int32.toNatClampNeg (((8 : Int32) * x1) + (ea_i h (b0 + 2) (Int32.toNatClampNeg x1)))) x3) (b0 + 5) (Int32.toNatClampNeg (((8 : Int32) * x1) + (ea_i h (b0 + 2) (Int32.toNatClampNeg x1)))) x4) (b0 + 7) (Int32.toNatClampNeg (((8 : Int32) * x1) + (ea_i h (b0 + 2) (Int32.toNatClampNeg x1)))) x5) (b0 + 2) (Int32.toNatClampNeg x1) ((ea_i (ea_wi (ea_wi (ea_wi (ea_wi h (b0 + 3) (Int32.toNatClampNeg (((8 : Int32) * x1) + (ea_i h (b0 + 2) (Int32.toNatClampNeg x1)))) x2) (b0 + 4) (Int32.toNatClampNeg (((8 : Int32) * x1) + (ea_i h (b0 + 2) (Int32.toNatClampNeg x1)))) x3) (b0 + 5) (Int32.toNatClampNeg (((8 : Int32) * x1) + (ea_i h (b0 + 2) (Int32.toNatClampNeg x1)))) x4) (b0 + 7) (Int32.toNatClampNeg (((8 : Int32) * x1) + (ea_i h (b0 + 2) (Int32.toNatClampNeg x1)))) x5) (b0 + 2) (Int32.toNatClampNeg x1)) + (1 : Int32))) := ShM_wi hs15
                  refine ea_aload_n (pc := 164) dX12_stop_164 rfl 0 rfl ?_
                  refine ea_iconst (pc := 165) dX12_stop_165 (v := 0) rfl ?_
                  refine ea_putI (pc := 166) dX12_stop_166 ec_12 (k := 12) (Nat.le_of_ble_eq_true rfl) rfl (Or.inl ⟨rfl, Or.inl ew_1357⟩) (ea_bn (Or.inl rfl)) (ea_bf (Or.inl rfl)) (hs19.1 0 (by decide)).1 (hs19.1 0 (by decide)).2.1 ?_
                  have hs20 : ShM b0 (ea_wi (ea_wi (ea_wi (ea_wi (ea_wi (ea_wi h (b0 + 3) (Int32.toNatClampNeg (((8 : Int32) * x1) + (ea_i h (b0 + 2) (Int32.toNatClampNeg x1)))) x2) (b0 + 4) (Int32.toNatClampNeg (((8 : Int32) * x1) + (ea_i h (b0 + 2) (Int32.toNatClampNeg x1)))) x3) (b0 + 5) (Int32.toNatClampNeg (((8 : Int32) * x1) + (ea_i h (b0 + 2) (Int32.toNatClampNeg x1)))) x4) (b0 + 7) (Int32.toNatClampNeg (((8 : Int32) * x1) + (ea_i h (b0 + 2) (Int32.toNatClampNeg x1)))) x5) (b0 + 2) (Int32.toNatClampNeg x1) ((ea_i (ea_wi (ea_wi (ea_wi (ea_wi h (b0 + 3) (Int32.toNatClampNeg (((8 : Int32) * x1) + (ea_i h (b0 + 2) (Int32.toNatClampNeg x1)))) x2) (b0 + 4) (Int32.toNatClampNeg (((8 : Int32) * x1) + (ea_i h (b0 + 2) (Int32.toNatClampNeg x1)))) x3) (b0 + 5) (Int32.toNatClampNeg (((8 : Int32) * x1) + (ea_i h (b0 + 2) (Int32.toNatClampNeg x1)))) x4) (b0 + 7) (Int32.toNatClampNeg (((8 : Int32) * x1) + (ea_i h (b0 + 2) (Int32.toNatClampNeg x1)))) x5) (b0 + 2) (Int32.toNatClampNeg x1)) + (1 : Int32))) (b0 + 0) 12 0) := ShM_wi hs19
                  refine ea_aload_n (pc := 169) dX12_stop_169 rfl 0 rfl ?_
                  refine ea_getR (pc := 170) dX12_stop_170 ec_12 (k := 4) (Nat.le_of_ble_eq_true rfl) rfl (Or.inl ew_1349) (hs20.1 0 (by decide)).1 (hs20.1 0 (by decide)).2.1 (hs20.2 0 4 rfl) ?_
                  refine ea_iload_n (pc := 173) dX12_stop_173 rfl 1 rfl ?_
                  have z21 := K
                  refine ea_iald (pc := 174) dX12_stop_174 (hs20.1 2 (by decide)).1 (hs20.1 2 (by decide)).2.1 (ea_vpl (hs20.1 2 (by decide)).2.2 z21) ?_
                  refine ea_iconst (pc := 175) dX12_stop_175 (v := 1) rfl ?_
                  refine ea_isub (pc := 176) dX12_stop_176 ?_
                  exact ea_iretE (pc := 177) dX12_stop_177 rfl rfl EX EY
                · have EX := EX.trans (if_neg c40)
                  have EY := EY.trans (if_neg c40)
                  have K := K.2 c40
                  refine ea_aload_n (pc := 92) dX12_stop_92 rfl 0 rfl ?_
                  refine ea_getR (pc := 93) dX12_stop_93 ec_12 (k := 5) (Nat.le_of_ble_eq_true rfl) rfl (Or.inl ew_1350) (hs.1 0 (by decide)).1 (hs.1 0 (by decide)).2.1 (hs.2 0 5 rfl) ?_
                  refine ea_iload (pc := 96) dX12_stop_96 6 rfl ?_
                  refine ea_iconst (pc := 98) dX12_stop_98 (v := 1) rfl ?_
                  refine ea_isub (pc := 99) dX12_stop_99 ?_
                  obtain ⟨z22, K⟩ := K
                  refine ea_iald (pc := 100) dX12_stop_100 (hs.1 3 (by decide)).1 (hs.1 3 (by decide)).2.1 (ea_vpl (hs.1 3 (by decide)).2.2 z22) ?_
                  refine ea_iload_n (pc := 101) dX12_stop_101 rfl 2 rfl ?_
                  refine ea_icmp_eq (pc := 102) (tgt := 118) dX12_stop_102 rfl (fun c39 => ?_) (fun c39 => ?_)
                  · have EX := EX.trans (if_pos c39)
                    have EY := EY.trans (if_pos c39)
                    refine ea_iconst (pc := 118) dX12_stop_118 (v := (-1)) rfl ?_
                    exact ea_iretE (pc := 119) dX12_stop_119 rfl rfl EX EY
                  · have EX := EX.trans (if_neg c39)
                    have EY := EY.trans (if_neg c39)
                    have K := K.2 c39
                    refine ea_iload_n (pc := 105) dX12_stop_105 rfl 3 rfl ?_
                    refine ea_aload_n (pc := 106) dX12_stop_106 rfl 0 rfl ?_
                    refine ea_getR (pc := 107) dX12_stop_107 ec_12 (k := 7) (Nat.le_of_ble_eq_true rfl) rfl (Or.inl ew_1352) (hs.1 0 (by decide)).1 (hs.1 0 (by decide)).2.1 (hs.2 0 7 rfl) ?_
                    refine ea_iload (pc := 110) dX12_stop_110 6 rfl ?_
                    refine ea_iconst (pc := 112) dX12_stop_112 (v := 1) rfl ?_
                    refine ea_isub (pc := 113) dX12_stop_113 ?_
                    obtain ⟨z23, K⟩ := K
                    refine ea_iald (pc := 114) dX12_stop_114 (hs.1 5 (by decide)).1 (hs.1 5 (by decide)).2.1 (ea_vpl (hs.1 5 (by decide)).2.2 z23) ?_
                    refine ea_icmp_gt (pc := 115) (tgt := 120) dX12_stop_115 rfl (fun c38 => ?_) (fun c38 => ?_)
                    · have EX := EX.trans (if_pos c38)
                      have EY := EY.trans (if_pos c38)
                      have K := K.1 c38
                      refine ea_aload_n (pc := 120) dX12_stop_120 rfl 0 rfl ?_
                      refine ea_getR (pc := 121) dX12_stop_121 ec_12 (k := 5) (Nat.le_of_ble_eq_true rfl) rfl (Or.inl ew_1350) (hs.1 0 (by decide)).1 (hs.1 0 (by decide)).2.1 (hs.2 0 5 rfl) ?_
                      refine ea_iload (pc := 124) dX12_stop_124 6 rfl ?_
                      refine ea_iload_n (pc := 126) dX12_stop_126 rfl 2 rfl ?_
                      obtain ⟨z24, K⟩ := K
                      refine ea_iast (pc := 127) dX12_stop_127 (hs.1 3 (by decide)).1 (hs.1 3 (by decide)).2.1 (ea_vpl (hs.1 3 (by decide)).2.2 z24) ?_
                      have hs25 : ShM b0 (ea_wi h (b0 + 3) (Int32.toNatClampNeg (((8 : Int32) * x1) + (ea_i h (b0 + 2) (Int32.toNatClampNeg x1)))) x2) := ShM_wi hs
                      refine ea_aload_n (pc := 128) dX12_stop_128 rfl 0 rfl ?_
                      refine ea_getR (pc := 129) dX12_stop_129 ec_12 (k := 6) (Nat.le_of_ble_eq_true rfl) rfl (Or.inl ew_1351) (hs25.1 0 (by decide)).1 (hs25.1 0 (by decide)).2.1 (hs25.2 0 6 rfl) ?_
                      refine ea_iload (pc := 132) dX12_stop_132 6 rfl ?_
                      refine ea_iload_n (pc := 134) dX12_stop_134 rfl 3 rfl ?_
                      obtain ⟨z26, K⟩ := K
                      refine ea_iast (pc := 135) dX12_stop_135 (hs25.1 4 (by decide)).1 (hs25.1 4 (by decide)).2.1 (ea_vpl (hs25.1 4 (by decide)).2.2 z26) ?_
                      have hs27 : ShM b0 (ea_wi (ea_wi h (b0 + 3) (Int32.toNatClampNeg (((8 : Int32) * x1) + (ea_i h (b0 + 2) (Int32.toNatClampNeg x1)))) x2) (b0 + 4) (Int32.toNatClampNeg (((8 : Int32) * x1) + (ea_i h (b0 + 2) (Int32.toNatClampNeg x1)))) x3) := ShM_wi hs25
                      refine ea_aload_n (pc := 136) dX12_stop_136 rfl 0 rfl ?_
                      refine ea_getR (pc := 137) dX12_stop_137 ec_12 (k := 7) (Nat.le_of_ble_eq_true rfl) rfl (Or.inl ew_1352) (hs27.1 0 (by decide)).1 (hs27.1 0 (by decide)).2.1 (hs27.2 0 7 rfl) ?_
                      refine ea_iload (pc := 140) dX12_stop_140 6 rfl ?_
                      refine ea_iload (pc := 142) dX12_stop_142 4 rfl ?_
                      obtain ⟨z28, K⟩ := K
                      refine ea_iast (pc := 144) dX12_stop_144 (hs27.1 5 (by decide)).1 (hs27.1 5 (by decide)).2.1 (ea_vpl (hs27.1 5 (by decide)).2.2 z28) ?_
                      have hs29 : ShM b0 (ea_wi (ea_wi (ea_wi h (b0 + 3) (Int32.toNatClampNeg (((8 : Int32) * x1) + (ea_i h (b0 + 2) (Int32.toNatClampNeg x1)))) x2) (b0 + 4) (Int32.toNatClampNeg (((8 : Int32) * x1) + (ea_i h (b0 + 2) (Int32.toNatClampNeg x1)))) x3) (b0 + 5) (Int32.toNatClampNeg (((8 : Int32) * x1) + (ea_i h (b0 + 2) (Int32.toNatClampNeg x1)))) x4) := ShM_wi hs27
                      refine ea_aload_n (pc := 145) dX12_stop_145 rfl 0 rfl ?_
                      refine ea_getR (pc := 146) dX12_stop_146 ec_12 (k := 9) (Nat.le_of_ble_eq_true rfl) rfl (Or.inl ew_1354) (hs29.1 0 (by decide)).1 (hs29.1 0 (by decide)).2.1 (hs29.2 0 9 rfl) ?_
                      refine ea_iload (pc := 149) dX12_stop_149 6 rfl ?_
                      refine ea_iload (pc := 151) dX12_stop_151 5 rfl ?_
                      obtain ⟨z30, z32, K⟩ := K
                      refine ea_zast (pc := 153) dX12_stop_153 (y := x5) (ea_bn z32) (hs29.1 7 (by decide)).1 (hs29.1 7 (by decide)).2.1 (ea_vpl (hs29.1 7 (by decide)).2.2 z30) ?_
                      have hs31 : ShM b0 (ea_wi (ea_wi (ea_wi (ea_wi h (b0 + 3) (Int32.toNatClampNeg (((8 : Int32) * x1) + (ea_i h (b0 + 2) (Int32.toNatClampNeg x1)))) x2) (b0 + 4) (Int32.toNatClampNeg (((8 : Int32) * x1) + (ea_i h (b0 + 2) (Int32.toNatClampNeg x1)))) x3) (b0 + 5) (Int32.toNatClampNeg (((8 : Int32) * x1) + (ea_i h (b0 + 2) (Int32.toNatClampNeg x1)))) x4) (b0 + 7) (Int32.toNatClampNeg (((8 : Int32) * x1) + (ea_i h (b0 + 2) (Int32.toNatClampNeg x1)))) x5) := ShM_wi hs29
                      refine ea_aload_n (pc := 154) dX12_stop_154 rfl 0 rfl ?_
                      refine ea_getR (pc := 155) dX12_stop_155 ec_12 (k := 4) (Nat.le_of_ble_eq_true rfl) rfl (Or.inl ew_1349) (hs31.1 0 (by decide)).1 (hs31.1 0 (by decide)).2.1 (hs31.2 0 4 rfl) ?_
                      refine ea_iload_n (pc := 158) dX12_stop_158 rfl 1 rfl ?_
                      refine ea_dup2 (pc := 159) dX12_stop_159 rfl rfl ?_
                      obtain ⟨z33, K⟩ := K
                      refine ea_iald (pc := 160) dX12_stop_160 (hs31.1 2 (by decide)).1 (hs31.1 2 (by decide)).2.1 (ea_vpl (hs31.1 2 (by decide)).2.2 z33) ?_
                      refine ea_iconst (pc := 161) dX12_stop_161 (v := 1) rfl ?_
                      refine ea_iadd (pc := 162) dX12_stop_162 ?_
                      obtain ⟨z34, K⟩ := K
                      refine ea_iast (pc := 163) dX12_stop_163 (hs31.1 2 (by decide)).1 (hs31.1 2 (by decide)).2.1 (ea_vpl (hs31.1 2 (by decide)).2.2 z34) ?_
                      have hs35 : ShM b0 (ea_wi (ea_wi (ea_wi (ea_wi (ea_wi h (b0 + 3) (Int32.toNatClampNeg (((8 : Int32) * x1) + (ea_i h (b0 + 2) (Int32.toNatClampNeg x1)))) x2) (b0 + 4) (Int32.toNatClampNeg (((8 : Int32) * x1) + (ea_i h (b0 + 2) (Int32.toNatClampNeg x1)))) x3) (b0 + 5) (Int32.toNatClampNeg (((8 : Int32) * x1) + (ea_i h (b0 + 2) (Int32.toNatClampNeg x1)))) x4) (b0 + 7) (Int32.toNatClampNeg (((8 : Int32) * x1) + (ea_i h (b0 + 2) (Int32.toNatClampNeg x1)))) x5) (b0 + 2) (Int32.toNatClampNeg x1) ((ea_i (ea_wi (ea_wi (ea_wi (ea_wi h (b0 + 3) (Int32.toNatClampNeg (((8 : Int32) * x1) + (ea_i h (b0 + 2) (Int32.toNatClampNeg x1)))) x2) (b0 + 4) (Int32.toNatClampNeg (((8 : Int32) * x1) + (ea_i h (b0 + 2) (Int32.toNatClampNeg x1)))) x3) (b0 + 5) (Int32.toNatClampNeg (((8 : Int32) * x1) + (ea_i h (b0 + 2) (Int32.toNatClampNeg x1)))) x4) (b0 + 7) (Int32.toNatClampNeg (((8 : Int32) * x1) + (ea_i h (b0 + 2) (Int32.toNatClampNeg x1)))) x5) (b0 + 2) (Int32.toNatClampNeg x1)) + (1 : Int32))) := ShM_wi hs31
                      refine ea_aload_n (pc := 164) dX12_stop_164 rfl 0 rfl ?_
                      refine ea_iconst (pc := 165) dX12_stop_165 (v := 0) rfl ?_
                      refine ea_putI (pc := 166) dX12_stop_166 ec_12 (k := 12) (Nat.le_of_ble_eq_true rfl) rfl (Or.inl ⟨rfl, Or.inl ew_1357⟩) (ea_bn (Or.inl rfl)) (ea_bf (Or.inl rfl)) (hs35.1 0 (by decide)).1 (hs35.1 0 (by decide)).2.1 ?_
                      have hs36 : ShM b0 (ea_wi (ea_wi (ea_wi (ea_wi (ea_wi (ea_wi h (b0 + 3) (Int32.toNatClampNeg (((8 : Int32) * x1) + (ea_i h (b0 + 2) (Int32.toNatClampNeg x1)))) x2) (b0 + 4) (Int32.toNatClampNeg (((8 : Int32) * x1) + (ea_i h (b0 + 2) (Int32.toNatClampNeg x1)))) x3) (b0 + 5) (Int32.toNatClampNeg (((8 : Int32) * x1) + (ea_i h (b0 + 2) (Int32.toNatClampNeg x1)))) x4) (b0 + 7) (Int32.toNatClampNeg (((8 : Int32) * x1) + (ea_i h (b0 + 2) (Int32.toNatClampNeg x1)))) x5) (b0 + 2) (Int32.toNatClampNeg x1) ((ea_i (ea_wi (ea_wi (ea_wi (ea_wi h (b0 + 3) (Int32.toNatClampNeg (((8 : Int32) * x1) + (ea_i h (b0 + 2) (Int32.toNatClampNeg x1)))) x2) (b0 + 4) (Int32.toNatClampNeg (((8 : Int32) * x1) + (ea_i h (b0 + 2) (Int32.toNatClampNeg x1)))) x3) (b0 + 5) (Int32.toNatClampNeg (((8 : Int32) * x1) + (ea_i h (b0 + 2) (Int32.toNatClampNeg x1)))) x4) (b0 + 7) (Int32.toNatClampNeg (((8 : Int32) * x1) + (ea_i h (b0 + 2) (Int32.toNatClampNeg x1)))) x5) (b0 + 2) (Int32.toNatClampNeg x1)) + (1 : Int32))) (b0 + 0) 12 0) := ShM_wi hs35
                      refine ea_aload_n (pc := 169) dX12_stop_169 rfl 0 rfl ?_
                      refine ea_getR (pc := 170) dX12_stop_170 ec_12 (k := 4) (Nat.le_of_ble_eq_true rfl) rfl (Or.inl ew_1349) (hs36.1 0 (by decide)).1 (hs36.1 0 (by decide)).2.1 (hs36.2 0 4 rfl) ?_
                      refine ea_iload_n (pc := 173) dX12_stop_173 rfl 1 rfl ?_
                      have z37 := K
                      refine ea_iald (pc := 174) dX12_stop_174 (hs36.1 2 (by decide)).1 (hs36.1 2 (by decide)).2.1 (ea_vpl (hs36.1 2 (by decide)).2.2 z37) ?_
                      refine ea_iconst (pc := 175) dX12_stop_175 (v := 1) rfl ?_
                      refine ea_isub (pc := 176) dX12_stop_176 ?_
                      exact ea_iretE (pc := 177) dX12_stop_177 rfl rfl EX EY
                    · have EX := EX.trans (if_neg c38)
                      have EY := EY.trans (if_neg c38)
                      refine ea_iconst (pc := 118) dX12_stop_118 (v := (-1)) rfl ?_
                      exact ea_iretE (pc := 119) dX12_stop_119 rfl rfl EX EY
              · have EX := EX.trans (if_pos c41)
                have EY := EY.trans (if_pos c41)
                refine ea_iconst (pc := 68) dX12_stop_68 (v := (-1)) rfl ?_
                exact ea_iretE (pc := 69) dX12_stop_69 rfl rfl EX EY
            · have EX := EX.trans (if_neg c80)
              have EY := EY.trans (if_neg c80)
              have K := K.2 c80
              refine ea_iload_n (pc := 51) dX12_stop_51 rfl 3 rfl ?_
              refine ea_iload (pc := 52) dX12_stop_52 4 rfl ?_
              refine ea_icmp_ne (pc := 54) (tgt := 68) dX12_stop_54 rfl (fun c79 => ?_) (fun c79 => ?_)
              · have EX := EX.trans (if_neg c79)
                have EY := EY.trans (if_neg c79)
                refine ea_iconst (pc := 68) dX12_stop_68 (v := (-1)) rfl ?_
                exact ea_iretE (pc := 69) dX12_stop_69 rfl rfl EX EY
              · have EX := EX.trans (if_pos c79)
                have EY := EY.trans (if_pos c79)
                have K := K.1 c79
                refine ea_aload_n (pc := 57) dX12_stop_57 rfl 0 rfl ?_
                refine ea_getR (pc := 58) dX12_stop_58 ec_12 (k := 4) (Nat.le_of_ble_eq_true rfl) rfl (Or.inl ew_1349) (hs.1 0 (by decide)).1 (hs.1 0 (by decide)).2.1 (hs.2 0 4 rfl) ?_
                refine ea_iload_n (pc := 61) dX12_stop_61 rfl 1 rfl ?_
                obtain ⟨z42, K⟩ := K
                refine ea_iald (pc := 62) dX12_stop_62 (hs.1 2 (by decide)).1 (hs.1 2 (by decide)).2.1 (ea_vpl (hs.1 2 (by decide)).2.2 z42) ?_
                refine ea_bipush (pc := 63) dX12_stop_63 (v := 8) rfl ?_
                refine ea_icmp_ne (pc := 65) (tgt := 70) dX12_stop_65 rfl (fun c78 => ?_) (fun c78 => ?_)
                · have EX := EX.trans (if_neg c78)
                  have EY := EY.trans (if_neg c78)
                  have K := K.2 c78
                  refine ea_bipush (pc := 70) dX12_stop_70 (v := 8) rfl ?_
                  refine ea_iload_n (pc := 72) dX12_stop_72 rfl 1 rfl ?_
                  refine ea_imul (pc := 73) dX12_stop_73 ?_
                  refine ea_aload_n (pc := 74) dX12_stop_74 rfl 0 rfl ?_
                  refine ea_getR (pc := 75) dX12_stop_75 ec_12 (k := 4) (Nat.le_of_ble_eq_true rfl) rfl (Or.inl ew_1349) (hs.1 0 (by decide)).1 (hs.1 0 (by decide)).2.1 (hs.2 0 4 rfl) ?_
                  refine ea_iload_n (pc := 78) dX12_stop_78 rfl 1 rfl ?_
                  obtain ⟨z43, K⟩ := K
                  refine ea_iald (pc := 79) dX12_stop_79 (hs.1 2 (by decide)).1 (hs.1 2 (by decide)).2.1 (ea_vpl (hs.1 2 (by decide)).2.2 z43) ?_
                  refine ea_iadd (pc := 80) dX12_stop_80 ?_
                  refine ea_istore (pc := 81) (lv' := [(0, vR (some (b0 + 0))), (1, vI x1), (2, vI x2), (3, vI x3), (4, vI x4), (5, vI x5), (6, vI (((8 : Int32) * x1) + (ea_i h (b0 + 2) (Int32.toNatClampNeg x1))))]) dX12_stop_81 (Nat.le_of_ble_eq_true rfl) [1, 2, 3, 4, 5, 6, 0] rfl ?_
                  refine ea_aload_n (pc := 83) dX12_stop_83 rfl 0 rfl ?_
                  refine ea_getR (pc := 84) dX12_stop_84 ec_12 (k := 4) (Nat.le_of_ble_eq_true rfl) rfl (Or.inl ew_1349) (hs.1 0 (by decide)).1 (hs.1 0 (by decide)).2.1 (hs.2 0 4 rfl) ?_
                  refine ea_iload_n (pc := 87) dX12_stop_87 rfl 1 rfl ?_
                  obtain ⟨z44, K⟩ := K
                  refine ea_iald (pc := 88) dX12_stop_88 (hs.1 2 (by decide)).1 (hs.1 2 (by decide)).2.1 (ea_vpl (hs.1 2 (by decide)).2.2 z44) ?_
                  refine ea_if_le (pc := 89) (tgt := 120) dX12_stop_89 rfl (fun c77 => ?_) (fun c77 => ?_)
                  · have EX := EX.trans (if_pos c77)
                    have EY := EY.trans (if_pos c77)
                    have K := K.1 c77
                    refine ea_aload_n (pc := 120) dX12_stop_120 rfl 0 rfl ?_
                    refine ea_getR (pc := 121) dX12_stop_121 ec_12 (k := 5) (Nat.le_of_ble_eq_true rfl) rfl (Or.inl ew_1350) (hs.1 0 (by decide)).1 (hs.1 0 (by decide)).2.1 (hs.2 0 5 rfl) ?_
                    refine ea_iload (pc := 124) dX12_stop_124 6 rfl ?_
                    refine ea_iload_n (pc := 126) dX12_stop_126 rfl 2 rfl ?_
                    obtain ⟨z45, K⟩ := K
                    refine ea_iast (pc := 127) dX12_stop_127 (hs.1 3 (by decide)).1 (hs.1 3 (by decide)).2.1 (ea_vpl (hs.1 3 (by decide)).2.2 z45) ?_
                    have hs46 : ShM b0 (ea_wi h (b0 + 3) (Int32.toNatClampNeg (((8 : Int32) * x1) + (ea_i h (b0 + 2) (Int32.toNatClampNeg x1)))) x2) := ShM_wi hs
                    refine ea_aload_n (pc := 128) dX12_stop_128 rfl 0 rfl ?_
                    refine ea_getR (pc := 129) dX12_stop_129 ec_12 (k := 6) (Nat.le_of_ble_eq_true rfl) rfl (Or.inl ew_1351) (hs46.1 0 (by decide)).1 (hs46.1 0 (by decide)).2.1 (hs46.2 0 6 rfl) ?_
                    refine ea_iload (pc := 132) dX12_stop_132 6 rfl ?_
                    refine ea_iload_n (pc := 134) dX12_stop_134 rfl 3 rfl ?_
                    obtain ⟨z47, K⟩ := K
                    refine ea_iast (pc := 135) dX12_stop_135 (hs46.1 4 (by decide)).1 (hs46.1 4 (by decide)).2.1 (ea_vpl (hs46.1 4 (by decide)).2.2 z47) ?_
                    have hs48 : ShM b0 (ea_wi (ea_wi h (b0 + 3) (Int32.toNatClampNeg (((8 : Int32) * x1) + (ea_i h (b0 + 2) (Int32.toNatClampNeg x1)))) x2) (b0 + 4) (Int32.toNatClampNeg (((8 : Int32) * x1) + (ea_i h (b0 + 2) (Int32.toNatClampNeg x1)))) x3) := ShM_wi hs46
                    refine ea_aload_n (pc := 136) dX12_stop_136 rfl 0 rfl ?_
                    refine ea_getR (pc := 137) dX12_stop_137 ec_12 (k := 7) (Nat.le_of_ble_eq_true rfl) rfl (Or.inl ew_1352) (hs48.1 0 (by decide)).1 (hs48.1 0 (by decide)).2.1 (hs48.2 0 7 rfl) ?_
                    refine ea_iload (pc := 140) dX12_stop_140 6 rfl ?_
                    refine ea_iload (pc := 142) dX12_stop_142 4 rfl ?_
                    obtain ⟨z49, K⟩ := K
                    refine ea_iast (pc := 144) dX12_stop_144 (hs48.1 5 (by decide)).1 (hs48.1 5 (by decide)).2.1 (ea_vpl (hs48.1 5 (by decide)).2.2 z49) ?_
                    have hs50 : ShM b0 (ea_wi (ea_wi (ea_wi h (b0 + 3) (Int32.toNatClampNeg (((8 : Int32) * x1) + (ea_i h (b0 + 2) (Int32.toNatClampNeg x1)))) x2) (b0 + 4) (Int32.toNatClampNeg (((8 : Int32) * x1) + (ea_i h (b0 + 2) (Int32.toNatClampNeg x1)))) x3) (b0 + 5) (Int32.toNatClampNeg (((8 : Int32) * x1) + (ea_i h (b0 + 2) (Int32.toNatClampNeg x1)))) x4) := ShM_wi hs48
                    refine ea_aload_n (pc := 145) dX12_stop_145 rfl 0 rfl ?_
                    refine ea_getR (pc := 146) dX12_stop_146 ec_12 (k := 9) (Nat.le_of_ble_eq_true rfl) rfl (Or.inl ew_1354) (hs50.1 0 (by decide)).1 (hs50.1 0 (by decide)).2.1 (hs50.2 0 9 rfl) ?_
                    refine ea_iload (pc := 149) dX12_stop_149 6 rfl ?_
                    refine ea_iload (pc := 151) dX12_stop_151 5 rfl ?_
                    obtain ⟨z51, z53, K⟩ := K
                    refine ea_zast (pc := 153) dX12_stop_153 (y := x5) (ea_bn z53) (hs50.1 7 (by decide)).1 (hs50.1 7 (by decide)).2.1 (ea_vpl (hs50.1 7 (by decide)).2.2 z51) ?_
                    have hs52 : ShM b0 (ea_wi (ea_wi (ea_wi (ea_wi h (b0 + 3) (Int32.toNatClampNeg (((8 : Int32) * x1) + (ea_i h (b0 + 2) (Int32.toNatClampNeg x1)))) x2) (b0 + 4) (Int32.toNatClampNeg (((8 : Int32) * x1) + (ea_i h (b0 + 2) (Int32.toNatClampNeg x1)))) x3) (b0 + 5) (Int32.toNatClampNeg (((8 : Int32) * x1) + (ea_i h (b0 + 2) (Int32.toNatClampNeg x1)))) x4) (b0 + 7) (Int32.toNatClampNeg (((8 : Int32) * x1) + (ea_i h (b0 + 2) (Int32.toNatClampNeg x1)))) x5) := ShM_wi hs50
                    refine ea_aload_n (pc := 154) dX12_stop_154 rfl 0 rfl ?_
                    refine ea_getR (pc := 155) dX12_stop_155 ec_12 (k := 4) (Nat.le_of_ble_eq_true rfl) rfl (Or.inl ew_1349) (hs52.1 0 (by decide)).1 (hs52.1 0 (by decide)).2.1 (hs52.2 0 4 rfl) ?_
                    refine ea_iload_n (pc := 158) dX12_stop_158 rfl 1 rfl ?_
                    refine ea_dup2 (pc := 159) dX12_stop_159 rfl rfl ?_
                    obtain ⟨z54, K⟩ := K
                    refine ea_iald (pc := 160) dX12_stop_160 (hs52.1 2 (by decide)).1 (hs52.1 2 (by decide)).2.1 (ea_vpl (hs52.1 2 (by decide)).2.2 z54) ?_
                    refine ea_iconst (pc := 161) dX12_stop_161 (v := 1) rfl ?_
                    refine ea_iadd (pc := 162) dX12_stop_162 ?_
                    obtain ⟨z55, K⟩ := K
                    refine ea_iast (pc := 163) dX12_stop_163 (hs52.1 2 (by decide)).1 (hs52.1 2 (by decide)).2.1 (ea_vpl (hs52.1 2 (by decide)).2.2 z55) ?_
                    have hs56 : ShM b0 (ea_wi (ea_wi (ea_wi (ea_wi (ea_wi h (b0 + 3) (Int32.toNatClampNeg (((8 : Int32) * x1) + (ea_i h (b0 + 2) (Int32.toNatClampNeg x1)))) x2) (b0 + 4) (Int32.toNatClampNeg (((8 : Int32) * x1) + (ea_i h (b0 + 2) (Int32.toNatClampNeg x1)))) x3) (b0 + 5) (Int32.toNatClampNeg (((8 : Int32) * x1) + (ea_i h (b0 + 2) (Int32.toNatClampNeg x1)))) x4) (b0 + 7) (Int32.toNatClampNeg (((8 : Int32) * x1) + (ea_i h (b0 + 2) (Int32.toNatClampNeg x1)))) x5) (b0 + 2) (Int32.toNatClampNeg x1) ((ea_i (ea_wi (ea_wi (ea_wi (ea_wi h (b0 + 3) (Int32.toNatClampNeg (((8 : Int32) * x1) + (ea_i h (b0 + 2) (Int32.toNatClampNeg x1)))) x2) (b0 + 4) (Int32.toNatClampNeg (((8 : Int32) * x1) + (ea_i h (b0 + 2) (Int32.toNatClampNeg x1)))) x3) (b0 + 5) (Int32.toNatClampNeg (((8 : Int32) * x1) + (ea_i h (b0 + 2) (Int32.toNatClampNeg x1)))) x4) (b0 + 7) (Int32.toNatClampNeg (((8 : Int32) * x1) + (ea_i h (b0 + 2) (Int32.toNatClampNeg x1)))) x5) (b0 + 2) (Int32.toNatClampNeg x1)) + (1 : Int32))) := ShM_wi hs52
                    refine ea_aload_n (pc := 164) dX12_stop_164 rfl 0 rfl ?_
                    refine ea_iconst (pc := 165) dX12_stop_165 (v := 0) rfl ?_
                    refine ea_putI (pc := 166) dX12_stop_166 ec_12 (k := 12) (Nat.le_of_ble_eq_true rfl) rfl (Or.inl ⟨rfl, Or.inl ew_1357⟩) (ea_bn (Or.inl rfl)) (ea_bf (Or.inl rfl)) (hs56.1 0 (by decide)).1 (hs56.1 0 (by decide)).2.1 ?_
                    have hs57 : ShM b0 (ea_wi (ea_wi (ea_wi (ea_wi (ea_wi (ea_wi h (b0 + 3) (Int32.toNatClampNeg (((8 : Int32) * x1) + (ea_i h (b0 + 2) (Int32.toNatClampNeg x1)))) x2) (b0 + 4) (Int32.toNatClampNeg (((8 : Int32) * x1) + (ea_i h (b0 + 2) (Int32.toNatClampNeg x1)))) x3) (b0 + 5) (Int32.toNatClampNeg (((8 : Int32) * x1) + (ea_i h (b0 + 2) (Int32.toNatClampNeg x1)))) x4) (b0 + 7) (Int32.toNatClampNeg (((8 : Int32) * x1) + (ea_i h (b0 + 2) (Int32.toNatClampNeg x1)))) x5) (b0 + 2) (Int32.toNatClampNeg x1) ((ea_i (ea_wi (ea_wi (ea_wi (ea_wi h (b0 + 3) (Int32.toNatClampNeg (((8 : Int32) * x1) + (ea_i h (b0 + 2) (Int32.toNatClampNeg x1)))) x2) (b0 + 4) (Int32.toNatClampNeg (((8 : Int32) * x1) + (ea_i h (b0 + 2) (Int32.toNatClampNeg x1)))) x3) (b0 + 5) (Int32.toNatClampNeg (((8 : Int32) * x1) + (ea_i h (b0 + 2) (Int32.toNatClampNeg x1)))) x4) (b0 + 7) (Int32.toNatClampNeg (((8 : Int32) * x1) + (ea_i h (b0 + 2) (Int32.toNatClampNeg x1)))) x5) (b0 + 2) (Int32.toNatClampNeg x1)) + (1 : Int32))) (b0 + 0) 12 0) := ShM_wi hs56
                    refine ea_aload_n (pc := 169) dX12_stop_169 rfl 0 rfl ?_
                    refine ea_getR (pc := 170) dX12_stop_170 ec_12 (k := 4) (Nat.le_of_ble_eq_true rfl) rfl (Or.inl ew_1349) (hs57.1 0 (by decide)).1 (hs57.1 0 (by decide)).2.1 (hs57.2 0 4 rfl) ?_
                    refine ea_iload_n (pc := 173) dX12_stop_173 rfl 1 rfl ?_
                    have z58 := K
                    refine ea_iald (pc := 174) dX12_stop_174 (hs57.1 2 (by decide)).1 (hs57.1 2 (by decide)).2.1 (ea_vpl (hs57.1 2 (by decide)).2.2 z58) ?_
                    refine ea_iconst (pc := 175) dX12_stop_175 (v := 1) rfl ?_
                    refine ea_isub (pc := 176) dX12_stop_176 ?_
                    exact ea_iretE (pc := 177) dX12_stop_177 rfl rfl EX EY
                  · have EX := EX.trans (if_neg c77)
                    have EY := EY.trans (if_neg c77)
                    have K := K.2 c77
                    refine ea_aload_n (pc := 92) dX12_stop_92 rfl 0 rfl ?_
                    refine ea_getR (pc := 93) dX12_stop_93 ec_12 (k := 5) (Nat.le_of_ble_eq_true rfl) rfl (Or.inl ew_1350) (hs.1 0 (by decide)).1 (hs.1 0 (by decide)).2.1 (hs.2 0 5 rfl) ?_
                    refine ea_iload (pc := 96) dX12_stop_96 6 rfl ?_
                    refine ea_iconst (pc := 98) dX12_stop_98 (v := 1) rfl ?_
                    refine ea_isub (pc := 99) dX12_stop_99 ?_
                    obtain ⟨z59, K⟩ := K
                    refine ea_iald (pc := 100) dX12_stop_100 (hs.1 3 (by decide)).1 (hs.1 3 (by decide)).2.1 (ea_vpl (hs.1 3 (by decide)).2.2 z59) ?_
                    refine ea_iload_n (pc := 101) dX12_stop_101 rfl 2 rfl ?_
                    refine ea_icmp_eq (pc := 102) (tgt := 118) dX12_stop_102 rfl (fun c76 => ?_) (fun c76 => ?_)
                    · have EX := EX.trans (if_pos c76)
                      have EY := EY.trans (if_pos c76)
                      refine ea_iconst (pc := 118) dX12_stop_118 (v := (-1)) rfl ?_
                      exact ea_iretE (pc := 119) dX12_stop_119 rfl rfl EX EY
                    · have EX := EX.trans (if_neg c76)
                      have EY := EY.trans (if_neg c76)
                      have K := K.2 c76
                      refine ea_iload_n (pc := 105) dX12_stop_105 rfl 3 rfl ?_
                      refine ea_aload_n (pc := 106) dX12_stop_106 rfl 0 rfl ?_
                      refine ea_getR (pc := 107) dX12_stop_107 ec_12 (k := 7) (Nat.le_of_ble_eq_true rfl) rfl (Or.inl ew_1352) (hs.1 0 (by decide)).1 (hs.1 0 (by decide)).2.1 (hs.2 0 7 rfl) ?_
                      refine ea_iload (pc := 110) dX12_stop_110 6 rfl ?_
                      refine ea_iconst (pc := 112) dX12_stop_112 (v := 1) rfl ?_
                      refine ea_isub (pc := 113) dX12_stop_113 ?_
                      obtain ⟨z60, K⟩ := K
                      refine ea_iald (pc := 114) dX12_stop_114 (hs.1 5 (by decide)).1 (hs.1 5 (by decide)).2.1 (ea_vpl (hs.1 5 (by decide)).2.2 z60) ?_
                      refine ea_icmp_gt (pc := 115) (tgt := 120) dX12_stop_115 rfl (fun c75 => ?_) (fun c75 => ?_)
                      · have EX := EX.trans (if_pos c75)
                        have EY := EY.trans (if_pos c75)
                        have K := K.1 c75
                        refine ea_aload_n (pc := 120) dX12_stop_120 rfl 0 rfl ?_
                        refine ea_getR (pc := 121) dX12_stop_121 ec_12 (k := 5) (Nat.le_of_ble_eq_true rfl) rfl (Or.inl ew_1350) (hs.1 0 (by decide)).1 (hs.1 0 (by decide)).2.1 (hs.2 0 5 rfl) ?_
                        refine ea_iload (pc := 124) dX12_stop_124 6 rfl ?_
                        refine ea_iload_n (pc := 126) dX12_stop_126 rfl 2 rfl ?_
                        obtain ⟨z61, K⟩ := K
                        refine ea_iast (pc := 127) dX12_stop_127 (hs.1 3 (by decide)).1 (hs.1 3 (by decide)).2.1 (ea_vpl (hs.1 3 (by decide)).2.2 z61) ?_
                        have hs62 : ShM b0 (ea_wi h (b0 + 3) (Int32.toNatClampNeg (((8 : Int32) * x1) + (ea_i h (b0 + 2) (Int32.toNatClampNeg x1)))) x2) := ShM_wi hs
                        refine ea_aload_n (pc := 128) dX12_stop_128 rfl 0 rfl ?_
                        refine ea_getR (pc := 129) dX12_stop_129 ec_12 (k := 6) (Nat.le_of_ble_eq_true rfl) rfl (Or.inl ew_1351) (hs62.1 0 (by decide)).1 (hs62.1 0 (by decide)).2.1 (hs62.2 0 6 rfl) ?_
                        refine ea_iload (pc := 132) dX12_stop_132 6 rfl ?_
                        refine ea_iload_n (pc := 134) dX12_stop_134 rfl 3 rfl ?_
                        obtain ⟨z63, K⟩ := K
                        refine ea_iast (pc := 135) dX12_stop_135 (hs62.1 4 (by decide)).1 (hs62.1 4 (by decide)).2.1 (ea_vpl (hs62.1 4 (by decide)).2.2 z63) ?_
                        have hs64 : ShM b0 (ea_wi (ea_wi h (b0 + 3) (Int32.toNatClampNeg (((8 : Int32) * x1) + (ea_i h (b0 + 2) (Int32.toNatClampNeg x1)))) x2) (b0 + 4) (Int32.toNatClampNeg (((8 : Int32) * x1) + (ea_i h (b0 + 2) (Int32.toNatClampNeg x1)))) x3) := ShM_wi hs62
                        refine ea_aload_n (pc := 136) dX12_stop_136 rfl 0 rfl ?_
                        refine ea_getR (pc := 137) dX12_stop_137 ec_12 (k := 7) (Nat.le_of_ble_eq_true rfl) rfl (Or.inl ew_1352) (hs64.1 0 (by decide)).1 (hs64.1 0 (by decide)).2.1 (hs64.2 0 7 rfl) ?_
                        refine ea_iload (pc := 140) dX12_stop_140 6 rfl ?_
                        refine ea_iload (pc := 142) dX12_stop_142 4 rfl ?_
                        obtain ⟨z65, K⟩ := K
                        refine ea_iast (pc := 144) dX12_stop_144 (hs64.1 5 (by decide)).1 (hs64.1 5 (by decide)).2.1 (ea_vpl (hs64.1 5 (by decide)).2.2 z65) ?_
                        have hs66 : ShM b0 (ea_wi (ea_wi (ea_wi h (b0 + 3) (Int32.toNatClampNeg (((8 : Int32) * x1) + (ea_i h (b0 + 2) (Int32.toNatClampNeg x1)))) x2) (b0 + 4) (Int32.toNatClampNeg (((8 : Int32) * x1) + (ea_i h (b0 + 2) (Int32.toNatClampNeg x1)))) x3) (b0 + 5) (Int32.toNatClampNeg (((8 : Int32) * x1) + (ea_i h (b0 + 2) (Int32.toNatClampNeg x1)))) x4) := ShM_wi hs64
                        refine ea_aload_n (pc := 145) dX12_stop_145 rfl 0 rfl ?_
                        refine ea_getR (pc := 146) dX12_stop_146 ec_12 (k := 9) (Nat.le_of_ble_eq_true rfl) rfl (Or.inl ew_1354) (hs66.1 0 (by decide)).1 (hs66.1 0 (by decide)).2.1 (hs66.2 0 9 rfl) ?_
                        refine ea_iload (pc := 149) dX12_stop_149 6 rfl ?_
                        refine ea_iload (pc := 151) dX12_stop_151 5 rfl ?_
                        obtain ⟨z67, z69, K⟩ := K
                        refine ea_zast (pc := 153) dX12_stop_153 (y := x5) (ea_bn z69) (hs66.1 7 (by decide)).1 (hs66.1 7 (by decide)).2.1 (ea_vpl (hs66.1 7 (by decide)).2.2 z67) ?_
                        have hs68 : ShM b0 (ea_wi (ea_wi (ea_wi (ea_wi h (b0 + 3) (Int32.toNatClampNeg (((8 : Int32) * x1) + (ea_i h (b0 + 2) (Int32.toNatClampNeg x1)))) x2) (b0 + 4) (Int32.toNatClampNeg (((8 : Int32) * x1) + (ea_i h (b0 + 2) (Int32.toNatClampNeg x1)))) x3) (b0 + 5) (Int32.toNatClampNeg (((8 : Int32) * x1) + (ea_i h (b0 + 2) (Int32.toNatClampNeg x1)))) x4) (b0 + 7) (Int32.toNatClampNeg (((8 : Int32) * x1) + (ea_i h (b0 + 2) (Int32.toNatClampNeg x1)))) x5) := ShM_wi hs66
                        refine ea_aload_n (pc := 154) dX12_stop_154 rfl 0 rfl ?_
                        refine ea_getR (pc := 155) dX12_stop_155 ec_12 (k := 4) (Nat.le_of_ble_eq_true rfl) rfl (Or.inl ew_1349) (hs68.1 0 (by decide)).1 (hs68.1 0 (by decide)).2.1 (hs68.2 0 4 rfl) ?_
                        refine ea_iload_n (pc := 158) dX12_stop_158 rfl 1 rfl ?_
                        refine ea_dup2 (pc := 159) dX12_stop_159 rfl rfl ?_
                        obtain ⟨z70, K⟩ := K
                        refine ea_iald (pc := 160) dX12_stop_160 (hs68.1 2 (by decide)).1 (hs68.1 2 (by decide)).2.1 (ea_vpl (hs68.1 2 (by decide)).2.2 z70) ?_
                        refine ea_iconst (pc := 161) dX12_stop_161 (v := 1) rfl ?_
                        refine ea_iadd (pc := 162) dX12_stop_162 ?_
                        obtain ⟨z71, K⟩ := K
                        refine ea_iast (pc := 163) dX12_stop_163 (hs68.1 2 (by decide)).1 (hs68.1 2 (by decide)).2.1 (ea_vpl (hs68.1 2 (by decide)).2.2 z71) ?_
                        have hs72 : ShM b0 (ea_wi (ea_wi (ea_wi (ea_wi (ea_wi h (b0 + 3) (Int32.toNatClampNeg (((8 : Int32) * x1) + (ea_i h (b0 + 2) (Int32.toNatClampNeg x1)))) x2) (b0 + 4) (Int32.toNatClampNeg (((8 : Int32) * x1) + (ea_i h (b0 + 2) (Int32.toNatClampNeg x1)))) x3) (b0 + 5) (Int32.toNatClampNeg (((8 : Int32) * x1) + (ea_i h (b0 + 2) (Int32.toNatClampNeg x1)))) x4) (b0 + 7) (Int32.toNatClampNeg (((8 : Int32) * x1) + (ea_i h (b0 + 2) (Int32.toNatClampNeg x1)))) x5) (b0 + 2) (Int32.toNatClampNeg x1) ((ea_i (ea_wi (ea_wi (ea_wi (ea_wi h (b0 + 3) (Int32.toNatClampNeg (((8 : Int32) * x1) + (ea_i h (b0 + 2) (Int32.toNatClampNeg x1)))) x2) (b0 + 4) (Int32.toNatClampNeg (((8 : Int32) * x1) + (ea_i h (b0 + 2) (Int32.toNatClampNeg x1)))) x3) (b0 + 5) (Int32.toNatClampNeg (((8 : Int32) * x1) + (ea_i h (b0 + 2) (Int32.toNatClampNeg x1)))) x4) (b0 + 7) (Int32.toNatClampNeg (((8 : Int32) * x1) + (ea_i h (b0 + 2) (Int32.toNatClampNeg x1)))) x5) (b0 + 2) (Int32.toNatClampNeg x1)) + (1 : Int32))) := ShM_wi hs68
                        refine ea_aload_n (pc := 164) dX12_stop_164 rfl 0 rfl ?_
                        refine ea_iconst (pc := 165) dX12_stop_165 (v := 0) rfl ?_
                        refine ea_putI (pc := 166) dX12_stop_166 ec_12 (k := 12) (Nat.le_of_ble_eq_true rfl) rfl (Or.inl ⟨rfl, Or.inl ew_1357⟩) (ea_bn (Or.inl rfl)) (ea_bf (Or.inl rfl)) (hs72.1 0 (by decide)).1 (hs72.1 0 (by decide)).2.1 ?_
                        have hs73 : ShM b0 (ea_wi (ea_wi (ea_wi (ea_wi (ea_wi (ea_wi h (b0 + 3) (Int32.toNatClampNeg (((8 : Int32) * x1) + (ea_i h (b0 + 2) (Int32.toNatClampNeg x1)))) x2) (b0 + 4) (Int32.toNatClampNeg (((8 : Int32) * x1) + (ea_i h (b0 + 2) (Int32.toNatClampNeg x1)))) x3) (b0 + 5) (Int32.toNatClampNeg (((8 : Int32) * x1) + (ea_i h (b0 + 2) (Int32.toNatClampNeg x1)))) x4) (b0 + 7) (Int32.toNatClampNeg (((8 : Int32) * x1) + (ea_i h (b0 + 2) (Int32.toNatClampNeg x1)))) x5) (b0 + 2) (Int32.toNatClampNeg x1) ((ea_i (ea_wi (ea_wi (ea_wi (ea_wi h (b0 + 3) (Int32.toNatClampNeg (((8 : Int32) * x1) + (ea_i h (b0 + 2) (Int32.toNatClampNeg x1)))) x2) (b0 + 4) (Int32.toNatClampNeg (((8 : Int32) * x1) + (ea_i h (b0 + 2) (Int32.toNatClampNeg x1)))) x3) (b0 + 5) (Int32.toNatClampNeg (((8 : Int32) * x1) + (ea_i h (b0 + 2) (Int32.toNatClampNeg x1)))) x4) (b0 + 7) (Int32.toNatClampNeg (((8 : Int32) * x1) + (ea_i h (b0 + 2) (Int32.toNatClampNeg x1)))) x5) (b0 + 2) (Int32.toNatClampNeg x1)) + (1 : Int32))) (b0 + 0) 12 0) := ShM_wi hs72
                        refine ea_aload_n (pc := 169) dX12_stop_169 rfl 0 rfl ?_
                        refine ea_getR (pc := 170) dX12_stop_170 ec_12 (k := 4) (Nat.le_of_ble_eq_true rfl) rfl (Or.inl ew_1349) (hs73.1 0 (by decide)).1 (hs73.1 0 (by decide)).2.1 (hs73.2 0 4 rfl) ?_
                        refine ea_iload_n (pc := 173) dX12_stop_173 rfl 1 rfl ?_
                        have z74 := K
                        refine ea_iald (pc := 174) dX12_stop_174 (hs73.1 2 (by decide)).1 (hs73.1 2 (by decide)).2.1 (ea_vpl (hs73.1 2 (by decide)).2.2 z74) ?_
                        refine ea_iconst (pc := 175) dX12_stop_175 (v := 1) rfl ?_
                        refine ea_isub (pc := 176) dX12_stop_176 ?_
                        exact ea_iretE (pc := 177) dX12_stop_177 rfl rfl EX EY
                      · have EX := EX.trans (if_neg c75)
                        have EY := EY.trans (if_neg c75)
                        refine ea_iconst (pc := 118) dX12_stop_118 (v := (-1)) rfl ?_
                        exact ea_iretE (pc := 119) dX12_stop_119 rfl rfl EX EY
                · have EX := EX.trans (if_pos c78)
                  have EY := EY.trans (if_pos c78)
                  refine ea_iconst (pc := 68) dX12_stop_68 (v := (-1)) rfl ?_
                  exact ea_iretE (pc := 69) dX12_stop_69 rfl rfl EX EY
noncomputable def vX12_stopOf (b0 : Nat) (x1 : Int32) (x2 : Int32) (x3 : Int32) (h : ea_H) : Int32 := (if (vX12_isTrain b0 (x1 : Int32) h) = (0 : Int32) then ((-1) : Int32) else (if x2 = ((-1) : Int32) then (if x3 = (0 : Int32) then (ea_i h (b0 + 2) (Int32.toNatClampNeg x1)) else ((-1) : Int32)) else (if (vX12_isIn (x2 : Int32) (0 : Int32) (((ea_i h (b0 + 2) (Int32.toNatClampNeg x1)) - (1 : Int32)) : Int32) h) = (0 : Int32) then ((-1) : Int32) else (if x3 = (0 : Int32) then (ea_i h (b0 + 3) (Int32.toNatClampNeg (((8 : Int32) * x1) + x2))) else (if x3 = (1 : Int32) then (ea_i h (b0 + 4) (Int32.toNatClampNeg (((8 : Int32) * x1) + x2))) else (if x3 = (2 : Int32) then (ea_i h (b0 + 5) (Int32.toNatClampNeg (((8 : Int32) * x1) + x2))) else (if x3 = (3 : Int32) then (if (ea_i h (b0 + 7) (Int32.toNatClampNeg (((8 : Int32) * x1) + x2))) = (0 : Int32) then (0 : Int32) else (1 : Int32)) else ((-1) : Int32))))))))
def okX12_stopOf (b0 : Nat) (x1 : Int32) (x2 : Int32) (x3 : Int32) (h : ea_H) : Prop := ((vX12_isTrain b0 (x1 : Int32) h) = (0 : Int32) → True) ∧ (¬ (vX12_isTrain b0 (x1 : Int32) h) = (0 : Int32) → (x2 = ((-1) : Int32) → (x3 = (0 : Int32) → vp_in x1 10) ∧ (¬ x3 = (0 : Int32) → True)) ∧ (¬ x2 = ((-1) : Int32) → vp_in x1 10 ∧ (((vX12_isIn (x2 : Int32) (0 : Int32) (((ea_i h (b0 + 2) (Int32.toNatClampNeg x1)) - (1 : Int32)) : Int32) h) = (0 : Int32) → True) ∧ (¬ (vX12_isIn (x2 : Int32) (0 : Int32) (((ea_i h (b0 + 2) (Int32.toNatClampNeg x1)) - (1 : Int32)) : Int32) h) = (0 : Int32) → (x3 = (0 : Int32) → vp_in (((8 : Int32) * x1) + x2) 80) ∧ (¬ x3 = (0 : Int32) → (x3 = (1 : Int32) → vp_in (((8 : Int32) * x1) + x2) 80) ∧ (¬ x3 = (1 : Int32) → (x3 = (2 : Int32) → vp_in (((8 : Int32) * x1) + x2) 80) ∧ (¬ x3 = (2 : Int32) → (x3 = (3 : Int32) → vp_in (((8 : Int32) * x1) + x2) 80) ∧ (¬ x3 = (3 : Int32) → True))))))))
theorem sX12_stopOf {d : Nat} {b0 : Nat} {x1 : Int32} {x2 : Int32} {x3 : Int32} {h : ea_H} (hd : 3 ≤ d) (hs : ShM b0 h) (K : okX12_stopOf b0 x1 x2 x3 h) : ea_Met mX12_stopOf d [vR (some (b0 + 0)), vI x1, vI x2, vI x3] h (some (vI (vX12_stopOf b0 x1 x2 x3 h))) h := by
  obtain ⟨X, EX⟩ : ∃ z, z = vX12_stopOf b0 x1 x2 x3 h := ⟨_, rfl⟩
  rw [← EX]
  unfold vX12_stopOf at EX
  unfold okX12_stopOf at K
  refine ea_enter rfl (Nat.le_of_ble_eq_true rfl) ?_
  refine ea_aload_n (pc := 0) dX12_stopOf_0 rfl 0 rfl ?_
  refine ea_iload_n (pc := 1) dX12_stopOf_1 rfl 1 rfl ?_
  refine ea_callV (pc := 2) (d' := d - 1) (As := [vI x1]) (st := []) dX12_stopOf_2 kX12_isTrain (sX12_isTrain (d := d - 1) (by omega) hs) (by omega) rfl (Nat.le_of_ble_eq_true rfl) ew_1736 ew_1738 ew_50 (ci := 12) rfl (by decide) (hs.1 0 (by decide)).1 (hs.1 0 (by decide)).2.1 ?_
  refine ea_if_ne (pc := 5) (tgt := 10) dX12_stopOf_5 rfl (fun c17 => ?_) (fun c17 => ?_)
  · have EX := EX.trans (if_neg c17)
    have K := K.2 c17
    refine ea_iload_n (pc := 10) dX12_stopOf_10 rfl 2 rfl ?_
    refine ea_iconst (pc := 11) dX12_stopOf_11 (v := (-1)) rfl ?_
    refine ea_icmp_ne (pc := 12) (tgt := 30) dX12_stopOf_12 rfl (fun c16 => ?_) (fun c16 => ?_)
    · have EX := EX.trans (if_neg c16)
      have K := K.2 c16
      refine ea_iload_n (pc := 30) dX12_stopOf_30 rfl 2 rfl ?_
      refine ea_iconst (pc := 31) dX12_stopOf_31 (v := 0) rfl ?_
      refine ea_aload_n (pc := 32) dX12_stopOf_32 rfl 0 rfl ?_
      refine ea_getR (pc := 33) dX12_stopOf_33 ec_12 (k := 4) (Nat.le_of_ble_eq_true rfl) rfl (Or.inl ew_1349) (hs.1 0 (by decide)).1 (hs.1 0 (by decide)).2.1 (hs.2 0 4 rfl) ?_
      refine ea_iload_n (pc := 36) dX12_stopOf_36 rfl 1 rfl ?_
      obtain ⟨z2, K⟩ := K
      refine ea_iald (pc := 37) dX12_stopOf_37 (hs.1 2 (by decide)).1 (hs.1 2 (by decide)).2.1 (ea_vpl (hs.1 2 (by decide)).2.2 z2) ?_
      refine ea_iconst (pc := 38) dX12_stopOf_38 (v := 1) rfl ?_
      refine ea_isub (pc := 39) dX12_stopOf_39 ?_
      refine ea_callS (pc := 40) (d' := d - 1) (As := [vI x2, vI 0, vI ((ea_i h (b0 + 2) (Int32.toNatClampNeg x1)) - (1 : Int32))]) (st := []) dX12_stopOf_40 kX12_isIn (sX12_isIn (d := d - 1) (by omega)) (by omega) rfl (Nat.le_of_ble_eq_true rfl) ew_1712 ew_1713 ?_
      refine ea_if_ne (pc := 43) (tgt := 48) dX12_stopOf_43 rfl (fun c13 => ?_) (fun c13 => ?_)
      · have EX := EX.trans (if_neg c13)
        have K := K.2 c13
        refine ea_bipush (pc := 48) dX12_stopOf_48 (v := 8) rfl ?_
        refine ea_iload_n (pc := 50) dX12_stopOf_50 rfl 1 rfl ?_
        refine ea_imul (pc := 51) dX12_stopOf_51 ?_
        refine ea_iload_n (pc := 52) dX12_stopOf_52 rfl 2 rfl ?_
        refine ea_iadd (pc := 53) dX12_stopOf_53 ?_
        refine ea_istore (pc := 54) (lv' := [(0, vR (some (b0 + 0))), (3, vI x3), (4, vI (((8 : Int32) * x1) + x2))]) dX12_stopOf_54 (Nat.le_of_ble_eq_true rfl) [1, 4, 0] rfl ?_
        refine ea_iload_n (pc := 56) dX12_stopOf_56 rfl 1 rfl ?_
        refine ea_if_ne (pc := 57) (tgt := 70) dX12_stopOf_57 rfl (fun c12 => ?_) (fun c12 => ?_)
        · have EX := EX.trans (if_neg c12)
          have K := K.2 c12
          refine ea_iload_n (pc := 70) dX12_stopOf_70 rfl 1 rfl ?_
          refine ea_iconst (pc := 71) dX12_stopOf_71 (v := 1) rfl ?_
          refine ea_icmp_ne (pc := 72) (tgt := 85) dX12_stopOf_72 rfl (fun c10 => ?_) (fun c10 => ?_)
          · have EX := EX.trans (if_neg c10)
            have K := K.2 c10
            refine ea_iload_n (pc := 85) dX12_stopOf_85 rfl 1 rfl ?_
            refine ea_iconst (pc := 86) dX12_stopOf_86 (v := 2) rfl ?_
            refine ea_icmp_ne (pc := 87) (tgt := 100) dX12_stopOf_87 rfl (fun c8 => ?_) (fun c8 => ?_)
            · have EX := EX.trans (if_neg c8)
              have K := K.2 c8
              refine ea_iload_n (pc := 100) dX12_stopOf_100 rfl 1 rfl ?_
              refine ea_iconst (pc := 101) dX12_stopOf_101 (v := 3) rfl ?_
              refine ea_icmp_ne (pc := 102) (tgt := 123) dX12_stopOf_102 rfl (fun c6 => ?_) (fun c6 => ?_)
              · have EX := EX.trans (if_neg c6)
                refine ea_iconst (pc := 123) dX12_stopOf_123 (v := (-1)) rfl ?_
                exact ea_iretE (pc := 124) dX12_stopOf_124 rfl rfl EX rfl
              · have EX := EX.trans (if_pos c6)
                have K := K.1 c6
                refine ea_aload_n (pc := 105) dX12_stopOf_105 rfl 0 rfl ?_
                refine ea_getR (pc := 106) dX12_stopOf_106 ec_12 (k := 9) (Nat.le_of_ble_eq_true rfl) rfl (Or.inl ew_1354) (hs.1 0 (by decide)).1 (hs.1 0 (by decide)).2.1 (hs.2 0 9 rfl) ?_
                refine ea_iload (pc := 109) dX12_stopOf_109 2 rfl ?_
                have z4 := K
                refine ea_zald (pc := 111) dX12_stopOf_111 (hs.1 7 (by decide)).1 (hs.1 7 (by decide)).2.1 (ea_vpl (hs.1 7 (by decide)).2.2 z4) ?_
                refine ea_if_eq (pc := 112) (tgt := 119) dX12_stopOf_112 rfl (fun c5 => ?_) (fun c5 => ?_)
                · have EX := EX.trans (if_pos c5)
                  refine ea_iconst (pc := 119) dX12_stopOf_119 (v := 0) rfl ?_
                  refine ea_goto (pc := 120) (tgt := 124) dX12_stopOf_120 rfl ?_
                  exact ea_iretE (pc := 124) dX12_stopOf_124 rfl rfl EX rfl
                · have EX := EX.trans (if_neg c5)
                  refine ea_iconst (pc := 115) dX12_stopOf_115 (v := 1) rfl ?_
                  refine ea_goto (pc := 116) (tgt := 124) dX12_stopOf_116 rfl ?_
                  exact ea_iretE (pc := 124) dX12_stopOf_124 rfl rfl EX rfl
            · have EX := EX.trans (if_pos c8)
              have K := K.1 c8
              refine ea_aload_n (pc := 90) dX12_stopOf_90 rfl 0 rfl ?_
              refine ea_getR (pc := 91) dX12_stopOf_91 ec_12 (k := 7) (Nat.le_of_ble_eq_true rfl) rfl (Or.inl ew_1352) (hs.1 0 (by decide)).1 (hs.1 0 (by decide)).2.1 (hs.2 0 7 rfl) ?_
              refine ea_iload (pc := 94) dX12_stopOf_94 2 rfl ?_
              have z7 := K
              refine ea_iald (pc := 96) dX12_stopOf_96 (hs.1 5 (by decide)).1 (hs.1 5 (by decide)).2.1 (ea_vpl (hs.1 5 (by decide)).2.2 z7) ?_
              refine ea_goto (pc := 97) (tgt := 124) dX12_stopOf_97 rfl ?_
              exact ea_iretE (pc := 124) dX12_stopOf_124 rfl rfl EX rfl
          · have EX := EX.trans (if_pos c10)
            have K := K.1 c10
            refine ea_aload_n (pc := 75) dX12_stopOf_75 rfl 0 rfl ?_
            refine ea_getR (pc := 76) dX12_stopOf_76 ec_12 (k := 6) (Nat.le_of_ble_eq_true rfl) rfl (Or.inl ew_1351) (hs.1 0 (by decide)).1 (hs.1 0 (by decide)).2.1 (hs.2 0 6 rfl) ?_
            refine ea_iload (pc := 79) dX12_stopOf_79 2 rfl ?_
            have z9 := K
            refine ea_iald (pc := 81) dX12_stopOf_81 (hs.1 4 (by decide)).1 (hs.1 4 (by decide)).2.1 (ea_vpl (hs.1 4 (by decide)).2.2 z9) ?_
            refine ea_goto (pc := 82) (tgt := 124) dX12_stopOf_82 rfl ?_
            exact ea_iretE (pc := 124) dX12_stopOf_124 rfl rfl EX rfl
        · have EX := EX.trans (if_pos c12)
          have K := K.1 c12
          refine ea_aload_n (pc := 60) dX12_stopOf_60 rfl 0 rfl ?_
          refine ea_getR (pc := 61) dX12_stopOf_61 ec_12 (k := 5) (Nat.le_of_ble_eq_true rfl) rfl (Or.inl ew_1350) (hs.1 0 (by decide)).1 (hs.1 0 (by decide)).2.1 (hs.2 0 5 rfl) ?_
          refine ea_iload (pc := 64) dX12_stopOf_64 2 rfl ?_
          have z11 := K
          refine ea_iald (pc := 66) dX12_stopOf_66 (hs.1 3 (by decide)).1 (hs.1 3 (by decide)).2.1 (ea_vpl (hs.1 3 (by decide)).2.2 z11) ?_
          refine ea_goto (pc := 67) (tgt := 124) dX12_stopOf_67 rfl ?_
          exact ea_iretE (pc := 124) dX12_stopOf_124 rfl rfl EX rfl
      · have EX := EX.trans (if_pos c13)
        refine ea_iconst (pc := 46) dX12_stopOf_46 (v := (-1)) rfl ?_
        exact ea_iretE (pc := 47) dX12_stopOf_47 rfl rfl EX rfl
    · have EX := EX.trans (if_pos c16)
      have K := K.1 c16
      refine ea_iload_n (pc := 15) dX12_stopOf_15 rfl 3 rfl ?_
      refine ea_if_ne (pc := 16) (tgt := 28) dX12_stopOf_16 rfl (fun c15 => ?_) (fun c15 => ?_)
      · have EX := EX.trans (if_neg c15)
        refine ea_iconst (pc := 28) dX12_stopOf_28 (v := (-1)) rfl ?_
        exact ea_iretE (pc := 29) dX12_stopOf_29 rfl rfl EX rfl
      · have EX := EX.trans (if_pos c15)
        have K := K.1 c15
        refine ea_aload_n (pc := 19) dX12_stopOf_19 rfl 0 rfl ?_
        refine ea_getR (pc := 20) dX12_stopOf_20 ec_12 (k := 4) (Nat.le_of_ble_eq_true rfl) rfl (Or.inl ew_1349) (hs.1 0 (by decide)).1 (hs.1 0 (by decide)).2.1 (hs.2 0 4 rfl) ?_
        refine ea_iload_n (pc := 23) dX12_stopOf_23 rfl 1 rfl ?_
        have z14 := K
        refine ea_iald (pc := 24) dX12_stopOf_24 (hs.1 2 (by decide)).1 (hs.1 2 (by decide)).2.1 (ea_vpl (hs.1 2 (by decide)).2.2 z14) ?_
        refine ea_goto (pc := 25) (tgt := 29) dX12_stopOf_25 rfl ?_
        exact ea_iretE (pc := 29) dX12_stopOf_29 rfl rfl EX rfl
  · have EX := EX.trans (if_pos c17)
    refine ea_iconst (pc := 8) dX12_stopOf_8 (v := (-1)) rfl ?_
    exact ea_iretE (pc := 9) dX12_stopOf_9 rfl rfl EX rfl
noncomputable def vX12_run (x0 : Int32) (x1 : Int32) (h : ea_H) : Int32 := (((7 : Int32) * x0) + x1)
theorem sX12_run {d : Nat} {x0 : Int32} {x1 : Int32} {h : ea_H} (hd : 1 ≤ d) : ea_Met mX12_run d [vI x0, vI x1] h (some (vI (vX12_run x0 x1 h))) h := by
  obtain ⟨X, EX⟩ : ∃ z, z = vX12_run x0 x1 h := ⟨_, rfl⟩
  rw [← EX]
  unfold vX12_run at EX
  refine ea_enter rfl (Nat.le_of_ble_eq_true rfl) ?_
  refine ea_bipush (pc := 0) dX12_run_0 (v := 7) rfl ?_
  refine ea_iload_n (pc := 2) dX12_run_2 rfl 0 rfl ?_
  refine ea_imul (pc := 3) dX12_run_3 ?_
  refine ea_iload_n (pc := 4) dX12_run_4 rfl 1 rfl ?_
  refine ea_iadd (pc := 5) dX12_run_5 ?_
  exact ea_iretE (pc := 6) dX12_run_6 rfl rfl EX rfl
noncomputable def vX12_comesAt (b0 : Nat) (x1 : Int32) (x2 : Int32) (h : ea_H) : Int32 := ((((1440 : Int32) * (x1 - x1 / (7 : Int32) * (7 : Int32))) + (ea_i h (b0 + 4) (Int32.toNatClampNeg (((8 : Int32) * (x1 / (7 : Int32))) + x2)))) + (ea_i h (b0 + 6) (Int32.toNatClampNeg x1)))
def okX12_comesAt (b0 : Nat) (x1 : Int32) (x2 : Int32) (h : ea_H) : Prop := vp_in (((8 : Int32) * (x1 / (7 : Int32))) + x2) 80 ∧ (vp_in x1 70)
theorem sX12_comesAt {d : Nat} {b0 : Nat} {x1 : Int32} {x2 : Int32} {h : ea_H} (hd : 1 ≤ d) (hs : ShM b0 h) (K : okX12_comesAt b0 x1 x2 h) : ea_Met mX12_comesAt d [vR (some (b0 + 0)), vI x1, vI x2] h (some (vI (vX12_comesAt b0 x1 x2 h))) h := by
  obtain ⟨X, EX⟩ : ∃ z, z = vX12_comesAt b0 x1 x2 h := ⟨_, rfl⟩
  rw [← EX]
  unfold vX12_comesAt at EX
  unfold okX12_comesAt at K
  refine ea_enter rfl (Nat.le_of_ble_eq_true rfl) ?_
  refine ea_sipush (pc := 0) dX12_comesAt_0 (v := 1440) rfl ?_
  refine ea_iload_n (pc := 3) dX12_comesAt_3 rfl 1 rfl ?_
  refine ea_bipush (pc := 4) dX12_comesAt_4 (v := 7) rfl ?_
  refine ea_irem (pc := 6) dX12_comesAt_6 (by decide) ?_
  refine ea_imul (pc := 7) dX12_comesAt_7 ?_
  refine ea_aload_n (pc := 8) dX12_comesAt_8 rfl 0 rfl ?_
  refine ea_getR (pc := 9) dX12_comesAt_9 ec_12 (k := 6) (Nat.le_of_ble_eq_true rfl) rfl (Or.inl ew_1351) (hs.1 0 (by decide)).1 (hs.1 0 (by decide)).2.1 (hs.2 0 6 rfl) ?_
  refine ea_bipush (pc := 12) dX12_comesAt_12 (v := 8) rfl ?_
  refine ea_iload_n (pc := 14) dX12_comesAt_14 rfl 1 rfl ?_
  refine ea_bipush (pc := 15) dX12_comesAt_15 (v := 7) rfl ?_
  refine ea_idiv (pc := 17) dX12_comesAt_17 (by decide) ?_
  refine ea_imul (pc := 18) dX12_comesAt_18 ?_
  refine ea_iload_n (pc := 19) dX12_comesAt_19 rfl 2 rfl ?_
  refine ea_iadd (pc := 20) dX12_comesAt_20 ?_
  obtain ⟨z1, K⟩ := K
  refine ea_iald (pc := 21) dX12_comesAt_21 (hs.1 4 (by decide)).1 (hs.1 4 (by decide)).2.1 (ea_vpl (hs.1 4 (by decide)).2.2 z1) ?_
  refine ea_iadd (pc := 22) dX12_comesAt_22 ?_
  refine ea_aload_n (pc := 23) dX12_comesAt_23 rfl 0 rfl ?_
  refine ea_getR (pc := 24) dX12_comesAt_24 ec_12 (k := 8) (Nat.le_of_ble_eq_true rfl) rfl (Or.inl ew_1353) (hs.1 0 (by decide)).1 (hs.1 0 (by decide)).2.1 (hs.2 0 8 rfl) ?_
  refine ea_iload_n (pc := 27) dX12_comesAt_27 rfl 1 rfl ?_
  have z2 := K
  refine ea_iald (pc := 28) dX12_comesAt_28 (hs.1 6 (by decide)).1 (hs.1 6 (by decide)).2.1 (ea_vpl (hs.1 6 (by decide)).2.2 z2) ?_
  refine ea_iadd (pc := 29) dX12_comesAt_29 ?_
  exact ea_iretE (pc := 30) dX12_comesAt_30 rfl rfl EX rfl
noncomputable def vX12_goesAt (b0 : Nat) (x1 : Int32) (x2 : Int32) (h : ea_H) : Int32 := ((((1440 : Int32) * (x1 - x1 / (7 : Int32) * (7 : Int32))) + (ea_i h (b0 + 5) (Int32.toNatClampNeg (((8 : Int32) * (x1 / (7 : Int32))) + x2)))) + (ea_i h (b0 + 6) (Int32.toNatClampNeg x1)))
def okX12_goesAt (b0 : Nat) (x1 : Int32) (x2 : Int32) (h : ea_H) : Prop := vp_in (((8 : Int32) * (x1 / (7 : Int32))) + x2) 80 ∧ (vp_in x1 70)
theorem sX12_goesAt {d : Nat} {b0 : Nat} {x1 : Int32} {x2 : Int32} {h : ea_H} (hd : 1 ≤ d) (hs : ShM b0 h) (K : okX12_goesAt b0 x1 x2 h) : ea_Met mX12_goesAt d [vR (some (b0 + 0)), vI x1, vI x2] h (some (vI (vX12_goesAt b0 x1 x2 h))) h := by
  obtain ⟨X, EX⟩ : ∃ z, z = vX12_goesAt b0 x1 x2 h := ⟨_, rfl⟩
  rw [← EX]
  unfold vX12_goesAt at EX
  unfold okX12_goesAt at K
  refine ea_enter rfl (Nat.le_of_ble_eq_true rfl) ?_
  refine ea_sipush (pc := 0) dX12_goesAt_0 (v := 1440) rfl ?_
  refine ea_iload_n (pc := 3) dX12_goesAt_3 rfl 1 rfl ?_
  refine ea_bipush (pc := 4) dX12_goesAt_4 (v := 7) rfl ?_
  refine ea_irem (pc := 6) dX12_goesAt_6 (by decide) ?_
  refine ea_imul (pc := 7) dX12_goesAt_7 ?_
  refine ea_aload_n (pc := 8) dX12_goesAt_8 rfl 0 rfl ?_
  refine ea_getR (pc := 9) dX12_goesAt_9 ec_12 (k := 7) (Nat.le_of_ble_eq_true rfl) rfl (Or.inl ew_1352) (hs.1 0 (by decide)).1 (hs.1 0 (by decide)).2.1 (hs.2 0 7 rfl) ?_
  refine ea_bipush (pc := 12) dX12_goesAt_12 (v := 8) rfl ?_
  refine ea_iload_n (pc := 14) dX12_goesAt_14 rfl 1 rfl ?_
  refine ea_bipush (pc := 15) dX12_goesAt_15 (v := 7) rfl ?_
  refine ea_idiv (pc := 17) dX12_goesAt_17 (by decide) ?_
  refine ea_imul (pc := 18) dX12_goesAt_18 ?_
  refine ea_iload_n (pc := 19) dX12_goesAt_19 rfl 2 rfl ?_
  refine ea_iadd (pc := 20) dX12_goesAt_20 ?_
  obtain ⟨z1, K⟩ := K
  refine ea_iald (pc := 21) dX12_goesAt_21 (hs.1 5 (by decide)).1 (hs.1 5 (by decide)).2.1 (ea_vpl (hs.1 5 (by decide)).2.2 z1) ?_
  refine ea_iadd (pc := 22) dX12_goesAt_22 ?_
  refine ea_aload_n (pc := 23) dX12_goesAt_23 rfl 0 rfl ?_
  refine ea_getR (pc := 24) dX12_goesAt_24 ec_12 (k := 8) (Nat.le_of_ble_eq_true rfl) rfl (Or.inl ew_1353) (hs.1 0 (by decide)).1 (hs.1 0 (by decide)).2.1 (hs.2 0 8 rfl) ?_
  refine ea_iload_n (pc := 27) dX12_goesAt_27 rfl 1 rfl ?_
  have z2 := K
  refine ea_iald (pc := 28) dX12_goesAt_28 (hs.1 6 (by decide)).1 (hs.1 6 (by decide)).2.1 (ea_vpl (hs.1 6 (by decide)).2.2 z2) ?_
  refine ea_iadd (pc := 29) dX12_goesAt_29 ?_
  exact ea_iretE (pc := 30) dX12_goesAt_30 rfl rfl EX rfl
noncomputable def vX12_canBeLate (b0 : Nat) (x1 : Int32) (x2 : Int32) (x3 : Int32) (h : ea_H) : Int32 := (if (vX12_isTrain b0 (x1 : Int32) h) = (0 : Int32) then (0 : Int32) else (if (vX12_isDay (x2 : Int32) h) = (0 : Int32) then (0 : Int32) else (if (vX12_isIn (x3 : Int32) (0 : Int32) (300 : Int32) h) = (0 : Int32) then (0 : Int32) else (if (ea_i h (b0 + 2) (Int32.toNatClampNeg x1)) ≤ (0 : Int32) then (0 : Int32) else (if (((1440 : Int32) * x2) + (ea_i h (b0 + 5) (Int32.toNatClampNeg ((8 : Int32) * x1)))) ≤ (ea_i h (b0 + 0) 0) then (0 : Int32) else (1 : Int32))))))
def okX12_canBeLate (b0 : Nat) (x1 : Int32) (x2 : Int32) (x3 : Int32) (h : ea_H) : Prop := ((vX12_isTrain b0 (x1 : Int32) h) = (0 : Int32) → True) ∧ (¬ (vX12_isTrain b0 (x1 : Int32) h) = (0 : Int32) → ((vX12_isDay (x2 : Int32) h) = (0 : Int32) → True) ∧ (¬ (vX12_isDay (x2 : Int32) h) = (0 : Int32) → ((vX12_isIn (x3 : Int32) (0 : Int32) (300 : Int32) h) = (0 : Int32) → True) ∧ (¬ (vX12_isIn (x3 : Int32) (0 : Int32) (300 : Int32) h) = (0 : Int32) → vp_in x1 10 ∧ (((ea_i h (b0 + 2) (Int32.toNatClampNeg x1)) ≤ (0 : Int32) → True) ∧ (¬ (ea_i h (b0 + 2) (Int32.toNatClampNeg x1)) ≤ (0 : Int32) → vp_in ((8 : Int32) * x1) 80)))))
theorem bo_vX12_canBeLate (b0 : Nat) (x1 : Int32) (x2 : Int32) (x3 : Int32) (h : ea_H) : vX12_canBeLate b0 x1 x2 x3 h = 0 ∨ vX12_canBeLate b0 x1 x2 x3 h = 1 := (ea_itB (Or.inl rfl) (ea_itB (Or.inl rfl) (ea_itB (Or.inl rfl) (ea_itB (Or.inl rfl) (ea_itB (Or.inl rfl) (Or.inr rfl))))))
theorem sX12_canBeLate {d : Nat} {b0 : Nat} {x1 : Int32} {x2 : Int32} {x3 : Int32} {h : ea_H} (hd : 3 ≤ d) (hs : ShM b0 h) (K : okX12_canBeLate b0 x1 x2 x3 h) : ea_Met mX12_canBeLate d [vR (some (b0 + 0)), vI x1, vI x2, vI x3] h (some (vI (vX12_canBeLate b0 x1 x2 x3 h))) h := by
  obtain ⟨X, EX⟩ : ∃ z, z = vX12_canBeLate b0 x1 x2 x3 h := ⟨_, rfl⟩
  rw [← EX]
  unfold vX12_canBeLate at EX
  unfold okX12_canBeLate at K
  refine ea_enter rfl (Nat.le_of_ble_eq_true rfl) ?_
  refine ea_aload_n (pc := 0) dX12_canBeLate_0 rfl 0 rfl ?_
  refine ea_iload_n (pc := 1) dX12_canBeLate_1 rfl 1 rfl ?_
  refine ea_callV (pc := 2) (d' := d - 1) (As := [vI x1]) (st := []) dX12_canBeLate_2 kX12_isTrain (sX12_isTrain (d := d - 1) (by omega) hs) (by omega) rfl (Nat.le_of_ble_eq_true rfl) ew_1736 ew_1738 ew_50 (ci := 12) rfl (by decide) (hs.1 0 (by decide)).1 (hs.1 0 (by decide)).2.1 ?_
  refine ea_if_eq (pc := 5) (tgt := 61) dX12_canBeLate_5 rfl (fun c10 => ?_) (fun c10 => ?_)
  · have EX := EX.trans (if_pos c10)
    refine ea_iconst (pc := 61) dX12_canBeLate_61 (v := 0) rfl ?_
    exact ea_iretE (pc := 62) dX12_canBeLate_62 rfl (ea_bn (Or.inl rfl)) EX rfl
  · have EX := EX.trans (if_neg c10)
    have K := K.2 c10
    refine ea_iload_n (pc := 8) dX12_canBeLate_8 rfl 2 rfl ?_
    refine ea_callS (pc := 9) (d' := d - 1) (As := [vI x2]) (st := []) dX12_canBeLate_9 kX12_isDay (sX12_isDay (d := d - 1) (by omega)) (by omega) rfl (Nat.le_of_ble_eq_true rfl) ew_1752 ew_1753 ?_
    refine ea_if_eq (pc := 12) (tgt := 61) dX12_canBeLate_12 rfl (fun c9 => ?_) (fun c9 => ?_)
    · have EX := EX.trans (if_pos c9)
      refine ea_iconst (pc := 61) dX12_canBeLate_61 (v := 0) rfl ?_
      exact ea_iretE (pc := 62) dX12_canBeLate_62 rfl (ea_bn (Or.inl rfl)) EX rfl
    · have EX := EX.trans (if_neg c9)
      have K := K.2 c9
      refine ea_iload_n (pc := 15) dX12_canBeLate_15 rfl 3 rfl ?_
      refine ea_iconst (pc := 16) dX12_canBeLate_16 (v := 0) rfl ?_
      refine ea_sipush (pc := 17) dX12_canBeLate_17 (v := 300) rfl ?_
      refine ea_callS (pc := 20) (d' := d - 1) (As := [vI x3, vI 0, vI 300]) (st := []) dX12_canBeLate_20 kX12_isIn (sX12_isIn (d := d - 1) (by omega)) (by omega) rfl (Nat.le_of_ble_eq_true rfl) ew_1712 ew_1713 ?_
      refine ea_if_eq (pc := 23) (tgt := 61) dX12_canBeLate_23 rfl (fun c8 => ?_) (fun c8 => ?_)
      · have EX := EX.trans (if_pos c8)
        refine ea_iconst (pc := 61) dX12_canBeLate_61 (v := 0) rfl ?_
        exact ea_iretE (pc := 62) dX12_canBeLate_62 rfl (ea_bn (Or.inl rfl)) EX rfl
      · have EX := EX.trans (if_neg c8)
        have K := K.2 c8
        refine ea_aload_n (pc := 26) dX12_canBeLate_26 rfl 0 rfl ?_
        refine ea_getR (pc := 27) dX12_canBeLate_27 ec_12 (k := 4) (Nat.le_of_ble_eq_true rfl) rfl (Or.inl ew_1349) (hs.1 0 (by decide)).1 (hs.1 0 (by decide)).2.1 (hs.2 0 4 rfl) ?_
        refine ea_iload_n (pc := 30) dX12_canBeLate_30 rfl 1 rfl ?_
        obtain ⟨z4, K⟩ := K
        refine ea_iald (pc := 31) dX12_canBeLate_31 (hs.1 2 (by decide)).1 (hs.1 2 (by decide)).2.1 (ea_vpl (hs.1 2 (by decide)).2.2 z4) ?_
        refine ea_if_le (pc := 32) (tgt := 61) dX12_canBeLate_32 rfl (fun c7 => ?_) (fun c7 => ?_)
        · have EX := EX.trans (if_pos c7)
          refine ea_iconst (pc := 61) dX12_canBeLate_61 (v := 0) rfl ?_
          exact ea_iretE (pc := 62) dX12_canBeLate_62 rfl (ea_bn (Or.inl rfl)) EX rfl
        · have EX := EX.trans (if_neg c7)
          have K := K.2 c7
          refine ea_sipush (pc := 35) dX12_canBeLate_35 (v := 1440) rfl ?_
          refine ea_iload_n (pc := 38) dX12_canBeLate_38 rfl 2 rfl ?_
          refine ea_imul (pc := 39) dX12_canBeLate_39 ?_
          refine ea_aload_n (pc := 40) dX12_canBeLate_40 rfl 0 rfl ?_
          refine ea_getR (pc := 41) dX12_canBeLate_41 ec_12 (k := 7) (Nat.le_of_ble_eq_true rfl) rfl (Or.inl ew_1352) (hs.1 0 (by decide)).1 (hs.1 0 (by decide)).2.1 (hs.2 0 7 rfl) ?_
          refine ea_bipush (pc := 44) dX12_canBeLate_44 (v := 8) rfl ?_
          refine ea_iload_n (pc := 46) dX12_canBeLate_46 rfl 1 rfl ?_
          refine ea_imul (pc := 47) dX12_canBeLate_47 ?_
          have z5 := K
          refine ea_iald (pc := 48) dX12_canBeLate_48 (hs.1 5 (by decide)).1 (hs.1 5 (by decide)).2.1 (ea_vpl (hs.1 5 (by decide)).2.2 z5) ?_
          refine ea_iadd (pc := 49) dX12_canBeLate_49 ?_
          refine ea_aload_n (pc := 50) dX12_canBeLate_50 rfl 0 rfl ?_
          refine ea_getI (pc := 51) dX12_canBeLate_51 ec_12 (k := 0) (Nat.le_of_ble_eq_true rfl) rfl (Or.inl ew_1345) (hs.1 0 (by decide)).1 (hs.1 0 (by decide)).2.1 ?_
          refine ea_icmp_le (pc := 54) (tgt := 61) dX12_canBeLate_54 rfl (fun c6 => ?_) (fun c6 => ?_)
          · have EX := EX.trans (if_pos c6)
            refine ea_iconst (pc := 61) dX12_canBeLate_61 (v := 0) rfl ?_
            exact ea_iretE (pc := 62) dX12_canBeLate_62 rfl (ea_bn (Or.inl rfl)) EX rfl
          · have EX := EX.trans (if_neg c6)
            refine ea_iconst (pc := 57) dX12_canBeLate_57 (v := 1) rfl ?_
            refine ea_goto (pc := 58) (tgt := 62) dX12_canBeLate_58 rfl ?_
            exact ea_iretE (pc := 62) dX12_canBeLate_62 rfl (ea_bn (Or.inr rfl)) EX rfl
noncomputable def vX12_late (b0 : Nat) (x1 : Int32) (x2 : Int32) (x3 : Int32) (h : ea_H) : Int32 := (if (vX12_canBeLate b0 (x1 : Int32) (x2 : Int32) (x3 : Int32) h) = (0 : Int32) then (0 : Int32) else (1 : Int32))
noncomputable def wX12_late (b0 : Nat) (x1 : Int32) (x2 : Int32) (x3 : Int32) (h : ea_H) : ea_H := (if (vX12_canBeLate b0 (x1 : Int32) (x2 : Int32) (x3 : Int32) h) = (0 : Int32) then h else (ea_wi (ea_wi h (b0 + 6) (Int32.toNatClampNeg (vX12_run (x1 : Int32) (x2 : Int32) h)) x3) (b0 + 0) 12 0))
def okX12_late (b0 : Nat) (x1 : Int32) (x2 : Int32) (x3 : Int32) (h : ea_H) : Prop := (okX12_canBeLate b0 (x1 : Int32) (x2 : Int32) (x3 : Int32) h) ∧ (((vX12_canBeLate b0 (x1 : Int32) (x2 : Int32) (x3 : Int32) h) = (0 : Int32) → True) ∧ (¬ (vX12_canBeLate b0 (x1 : Int32) (x2 : Int32) (x3 : Int32) h) = (0 : Int32) → vp_in (vX12_run (x1 : Int32) (x2 : Int32) h) 70))
theorem bo_vX12_late (b0 : Nat) (x1 : Int32) (x2 : Int32) (x3 : Int32) (h : ea_H) : vX12_late b0 x1 x2 x3 h = 0 ∨ vX12_late b0 x1 x2 x3 h = 1 := (ea_itB (Or.inl rfl) (Or.inr rfl))
theorem shX12_late {b0 : Nat} {x1 : Int32} {x2 : Int32} {x3 : Int32} {h : ea_H} (hs : ShM b0 h) : ShM b0 (wX12_late b0 x1 x2 x3 h) := (ShM_it hs (ShM_wi (ShM_wi hs)))
theorem sX12_late {d : Nat} {b0 : Nat} {x1 : Int32} {x2 : Int32} {x3 : Int32} {h : ea_H} (hd : 4 ≤ d) (hs : ShM b0 h) (K : okX12_late b0 x1 x2 x3 h) : ea_Met mX12_late d [vR (some (b0 + 0)), vI x1, vI x2, vI x3] h (some (vI (vX12_late b0 x1 x2 x3 h))) (wX12_late b0 x1 x2 x3 h) := by
  obtain ⟨X, EX⟩ : ∃ z, z = vX12_late b0 x1 x2 x3 h := ⟨_, rfl⟩
  rw [← EX]
  unfold vX12_late at EX
  obtain ⟨Y, EY⟩ : ∃ z, z = wX12_late b0 x1 x2 x3 h := ⟨_, rfl⟩
  rw [← EY]
  unfold wX12_late at EY
  unfold okX12_late at K
  refine ea_enter rfl (Nat.le_of_ble_eq_true rfl) ?_
  refine ea_aload_n (pc := 0) dX12_late_0 rfl 0 rfl ?_
  refine ea_iload_n (pc := 1) dX12_late_1 rfl 1 rfl ?_
  refine ea_iload_n (pc := 2) dX12_late_2 rfl 2 rfl ?_
  refine ea_iload_n (pc := 3) dX12_late_3 rfl 3 rfl ?_
  obtain ⟨z1, K⟩ := K
  refine ea_callV (pc := 4) (d' := d - 1) (As := [vI x1, vI x2, vI x3]) (st := []) dX12_late_4 kX12_canBeLate (sX12_canBeLate (d := d - 1) (by omega) hs z1) (by omega) rfl (Nat.le_of_ble_eq_true rfl) ew_1748 ew_1750 ew_51 (ci := 12) rfl (by decide) (hs.1 0 (by decide)).1 (hs.1 0 (by decide)).2.1 ?_
  refine ea_if_ne (pc := 7) (tgt := 12) dX12_late_7 rfl (fun c6 => ?_) (fun c6 => ?_)
  · have EX := EX.trans (if_neg c6)
    have EY := EY.trans (if_neg c6)
    have K := K.2 c6
    refine ea_aload_n (pc := 12) dX12_late_12 rfl 0 rfl ?_
    refine ea_getR (pc := 13) dX12_late_13 ec_12 (k := 8) (Nat.le_of_ble_eq_true rfl) rfl (Or.inl ew_1353) (hs.1 0 (by decide)).1 (hs.1 0 (by decide)).2.1 (hs.2 0 8 rfl) ?_
    refine ea_iload_n (pc := 16) dX12_late_16 rfl 1 rfl ?_
    refine ea_iload_n (pc := 17) dX12_late_17 rfl 2 rfl ?_
    refine ea_callS (pc := 18) (d' := d - 1) (As := [vI x1, vI x2]) (st := [vR (some (b0 + 6))]) dX12_late_18 kX12_run (sX12_run (d := d - 1) (by omega)) (by omega) rfl (Nat.le_of_ble_eq_true rfl) ew_1755 ew_1756 ?_
    refine ea_iload_n (pc := 21) dX12_late_21 rfl 3 rfl ?_
    have z3 := K
    refine ea_iast (pc := 22) dX12_late_22 (hs.1 6 (by decide)).1 (hs.1 6 (by decide)).2.1 (ea_vpl (hs.1 6 (by decide)).2.2 z3) ?_
    have hs4 : ShM b0 (ea_wi h (b0 + 6) (Int32.toNatClampNeg (vX12_run (x1 : Int32) (x2 : Int32) h)) x3) := ShM_wi hs
    refine ea_aload_n (pc := 23) dX12_late_23 rfl 0 rfl ?_
    refine ea_iconst (pc := 24) dX12_late_24 (v := 0) rfl ?_
    refine ea_putI (pc := 25) dX12_late_25 ec_12 (k := 12) (Nat.le_of_ble_eq_true rfl) rfl (Or.inl ⟨rfl, Or.inl ew_1357⟩) (ea_bn (Or.inl rfl)) (ea_bf (Or.inl rfl)) (hs4.1 0 (by decide)).1 (hs4.1 0 (by decide)).2.1 ?_
    have hs5 : ShM b0 (ea_wi (ea_wi h (b0 + 6) (Int32.toNatClampNeg (vX12_run (x1 : Int32) (x2 : Int32) h)) x3) (b0 + 0) 12 0) := ShM_wi hs4
    refine ea_iconst (pc := 28) dX12_late_28 (v := 1) rfl ?_
    exact ea_iretE (pc := 29) dX12_late_29 rfl (ea_bn (Or.inr rfl)) EX EY
  · have EX := EX.trans (if_pos c6)
    have EY := EY.trans (if_pos c6)
    refine ea_iconst (pc := 10) dX12_late_10 (v := 0) rfl ?_
    exact ea_iretE (pc := 11) dX12_late_11 rfl (ea_bn (Or.inl rfl)) EX EY
noncomputable def vX12_miss (b0 : Nat) (x1 : Int32) (x2 : Int32) (x3 : Int32) (h : ea_H) : Int32 := (if (vX12_isTrain b0 (x1 : Int32) h) = (0 : Int32) then (0 : Int32) else (if (vX12_isDay (x2 : Int32) h) = (0 : Int32) then (0 : Int32) else (if (vX12_isIn (x3 : Int32) (0 : Int32) (((ea_i h (b0 + 2) (Int32.toNatClampNeg x1)) - (2 : Int32)) : Int32) h) = (0 : Int32) then (0 : Int32) else (if (ea_i h (b0 + 7) (Int32.toNatClampNeg (((8 : Int32) * x1) + x3))) = (0 : Int32) then (0 : Int32) else (if (ea_i h (b0 + 8) (Int32.toNatClampNeg (((8 : Int32) * (vX12_run (x1 : Int32) (x2 : Int32) h)) + x3))) = (0 : Int32) then (if (ea_i h (b0 + 0) 0) < (vX12_comesAt b0 ((vX12_run (x1 : Int32) (x2 : Int32) h) : Int32) (x3 : Int32) h) then (1 : Int32) else (0 : Int32)) else (0 : Int32))))))
noncomputable def wX12_miss (b0 : Nat) (x1 : Int32) (x2 : Int32) (x3 : Int32) (h : ea_H) : ea_H := (if (vX12_isTrain b0 (x1 : Int32) h) = (0 : Int32) then h else (if (vX12_isDay (x2 : Int32) h) = (0 : Int32) then h else (if (vX12_isIn (x3 : Int32) (0 : Int32) (((ea_i h (b0 + 2) (Int32.toNatClampNeg x1)) - (2 : Int32)) : Int32) h) = (0 : Int32) then h else (if (ea_i h (b0 + 7) (Int32.toNatClampNeg (((8 : Int32) * x1) + x3))) = (0 : Int32) then h else (if (ea_i h (b0 + 8) (Int32.toNatClampNeg (((8 : Int32) * (vX12_run (x1 : Int32) (x2 : Int32) h)) + x3))) = (0 : Int32) then (if (ea_i h (b0 + 0) 0) < (vX12_comesAt b0 ((vX12_run (x1 : Int32) (x2 : Int32) h) : Int32) (x3 : Int32) h) then (ea_wi h (b0 + 8) (Int32.toNatClampNeg (((8 : Int32) * (vX12_run (x1 : Int32) (x2 : Int32) h)) + x3)) 1) else h) else h)))))
def okX12_miss (b0 : Nat) (x1 : Int32) (x2 : Int32) (x3 : Int32) (h : ea_H) : Prop := ((vX12_isTrain b0 (x1 : Int32) h) = (0 : Int32) → True) ∧ (¬ (vX12_isTrain b0 (x1 : Int32) h) = (0 : Int32) → ((vX12_isDay (x2 : Int32) h) = (0 : Int32) → True) ∧ (¬ (vX12_isDay (x2 : Int32) h) = (0 : Int32) → vp_in x1 10 ∧ (((vX12_isIn (x3 : Int32) (0 : Int32) (((ea_i h (b0 + 2) (Int32.toNatClampNeg x1)) - (2 : Int32)) : Int32) h) = (0 : Int32) → True) ∧ (¬ (vX12_isIn (x3 : Int32) (0 : Int32) (((ea_i h (b0 + 2) (Int32.toNatClampNeg x1)) - (2 : Int32)) : Int32) h) = (0 : Int32) → vp_in (((8 : Int32) * x1) + x3) 80 ∧ (((ea_i h (b0 + 7) (Int32.toNatClampNeg (((8 : Int32) * x1) + x3))) = (0 : Int32) → True) ∧ (¬ (ea_i h (b0 + 7) (Int32.toNatClampNeg (((8 : Int32) * x1) + x3))) = (0 : Int32) → vp_in (((8 : Int32) * (vX12_run (x1 : Int32) (x2 : Int32) h)) + x3) 560 ∧ (((ea_i h (b0 + 8) (Int32.toNatClampNeg (((8 : Int32) * (vX12_run (x1 : Int32) (x2 : Int32) h)) + x3))) = (0 : Int32) → (okX12_comesAt b0 ((vX12_run (x1 : Int32) (x2 : Int32) h) : Int32) (x3 : Int32) h) ∧ (((ea_i h (b0 + 0) 0) < (vX12_comesAt b0 ((vX12_run (x1 : Int32) (x2 : Int32) h) : Int32) (x3 : Int32) h) → vp_in (((8 : Int32) * (vX12_run (x1 : Int32) (x2 : Int32) h)) + x3) 560) ∧ (¬ (ea_i h (b0 + 0) 0) < (vX12_comesAt b0 ((vX12_run (x1 : Int32) (x2 : Int32) h) : Int32) (x3 : Int32) h) → True))) ∧ (¬ (ea_i h (b0 + 8) (Int32.toNatClampNeg (((8 : Int32) * (vX12_run (x1 : Int32) (x2 : Int32) h)) + x3))) = (0 : Int32) → True))))))))
theorem bo_vX12_miss (b0 : Nat) (x1 : Int32) (x2 : Int32) (x3 : Int32) (h : ea_H) : vX12_miss b0 x1 x2 x3 h = 0 ∨ vX12_miss b0 x1 x2 x3 h = 1 := (ea_itB (Or.inl rfl) (ea_itB (Or.inl rfl) (ea_itB (Or.inl rfl) (ea_itB (Or.inl rfl) (ea_itB (ea_itB (Or.inr rfl) (Or.inl rfl)) (Or.inl rfl))))))
theorem shX12_miss {b0 : Nat} {x1 : Int32} {x2 : Int32} {x3 : Int32} {h : ea_H} (hs : ShM b0 h) : ShM b0 (wX12_miss b0 x1 x2 x3 h) := (ShM_it hs (ShM_it hs (ShM_it hs (ShM_it hs (ShM_it (ShM_it (ShM_wi hs) hs) hs)))))
theorem sX12_miss {d : Nat} {b0 : Nat} {x1 : Int32} {x2 : Int32} {x3 : Int32} {h : ea_H} (hd : 3 ≤ d) (hs : ShM b0 h) (K : okX12_miss b0 x1 x2 x3 h) : ea_Met mX12_miss d [vR (some (b0 + 0)), vI x1, vI x2, vI x3] h (some (vI (vX12_miss b0 x1 x2 x3 h))) (wX12_miss b0 x1 x2 x3 h) := by
  obtain ⟨X, EX⟩ : ∃ z, z = vX12_miss b0 x1 x2 x3 h := ⟨_, rfl⟩
  rw [← EX]
  unfold vX12_miss at EX
  obtain ⟨Y, EY⟩ : ∃ z, z = wX12_miss b0 x1 x2 x3 h := ⟨_, rfl⟩
  rw [← EY]
  unfold wX12_miss at EY
  unfold okX12_miss at K
  refine ea_enter rfl (Nat.le_of_ble_eq_true rfl) ?_
  refine ea_aload_n (pc := 0) dX12_miss_0 rfl 0 rfl ?_
  refine ea_iload_n (pc := 1) dX12_miss_1 rfl 1 rfl ?_
  refine ea_callV (pc := 2) (d' := d - 1) (As := [vI x1]) (st := []) dX12_miss_2 kX12_isTrain (sX12_isTrain (d := d - 1) (by omega) hs) (by omega) rfl (Nat.le_of_ble_eq_true rfl) ew_1736 ew_1738 ew_50 (ci := 12) rfl (by decide) (hs.1 0 (by decide)).1 (hs.1 0 (by decide)).2.1 ?_
  refine ea_if_eq (pc := 5) (tgt := 80) dX12_miss_5 rfl (fun c18 => ?_) (fun c18 => ?_)
  · have EX := EX.trans (if_pos c18)
    have EY := EY.trans (if_pos c18)
    refine ea_iconst (pc := 80) dX12_miss_80 (v := 0) rfl ?_
    exact ea_iretE (pc := 81) dX12_miss_81 rfl (ea_bn (Or.inl rfl)) EX EY
  · have EX := EX.trans (if_neg c18)
    have EY := EY.trans (if_neg c18)
    have K := K.2 c18
    refine ea_iload_n (pc := 8) dX12_miss_8 rfl 2 rfl ?_
    refine ea_callS (pc := 9) (d' := d - 1) (As := [vI x2]) (st := []) dX12_miss_9 kX12_isDay (sX12_isDay (d := d - 1) (by omega)) (by omega) rfl (Nat.le_of_ble_eq_true rfl) ew_1752 ew_1753 ?_
    refine ea_if_eq (pc := 12) (tgt := 80) dX12_miss_12 rfl (fun c17 => ?_) (fun c17 => ?_)
    · have EX := EX.trans (if_pos c17)
      have EY := EY.trans (if_pos c17)
      refine ea_iconst (pc := 80) dX12_miss_80 (v := 0) rfl ?_
      exact ea_iretE (pc := 81) dX12_miss_81 rfl (ea_bn (Or.inl rfl)) EX EY
    · have EX := EX.trans (if_neg c17)
      have EY := EY.trans (if_neg c17)
      have K := K.2 c17
      refine ea_iload_n (pc := 15) dX12_miss_15 rfl 3 rfl ?_
      refine ea_iconst (pc := 16) dX12_miss_16 (v := 0) rfl ?_
      refine ea_aload_n (pc := 17) dX12_miss_17 rfl 0 rfl ?_
      refine ea_getR (pc := 18) dX12_miss_18 ec_12 (k := 4) (Nat.le_of_ble_eq_true rfl) rfl (Or.inl ew_1349) (hs.1 0 (by decide)).1 (hs.1 0 (by decide)).2.1 (hs.2 0 4 rfl) ?_
      refine ea_iload_n (pc := 21) dX12_miss_21 rfl 1 rfl ?_
      obtain ⟨z3, K⟩ := K
      refine ea_iald (pc := 22) dX12_miss_22 (hs.1 2 (by decide)).1 (hs.1 2 (by decide)).2.1 (ea_vpl (hs.1 2 (by decide)).2.2 z3) ?_
      refine ea_iconst (pc := 23) dX12_miss_23 (v := 2) rfl ?_
      refine ea_isub (pc := 24) dX12_miss_24 ?_
      refine ea_callS (pc := 25) (d' := d - 1) (As := [vI x3, vI 0, vI ((ea_i h (b0 + 2) (Int32.toNatClampNeg x1)) - (2 : Int32))]) (st := []) dX12_miss_25 kX12_isIn (sX12_isIn (d := d - 1) (by omega)) (by omega) rfl (Nat.le_of_ble_eq_true rfl) ew_1712 ew_1713 ?_
      refine ea_if_eq (pc := 28) (tgt := 80) dX12_miss_28 rfl (fun c16 => ?_) (fun c16 => ?_)
      · have EX := EX.trans (if_pos c16)
        have EY := EY.trans (if_pos c16)
        refine ea_iconst (pc := 80) dX12_miss_80 (v := 0) rfl ?_
        exact ea_iretE (pc := 81) dX12_miss_81 rfl (ea_bn (Or.inl rfl)) EX EY
      · have EX := EX.trans (if_neg c16)
        have EY := EY.trans (if_neg c16)
        have K := K.2 c16
        refine ea_aload_n (pc := 31) dX12_miss_31 rfl 0 rfl ?_
        refine ea_getR (pc := 32) dX12_miss_32 ec_12 (k := 9) (Nat.le_of_ble_eq_true rfl) rfl (Or.inl ew_1354) (hs.1 0 (by decide)).1 (hs.1 0 (by decide)).2.1 (hs.2 0 9 rfl) ?_
        refine ea_bipush (pc := 35) dX12_miss_35 (v := 8) rfl ?_
        refine ea_iload_n (pc := 37) dX12_miss_37 rfl 1 rfl ?_
        refine ea_imul (pc := 38) dX12_miss_38 ?_
        refine ea_iload_n (pc := 39) dX12_miss_39 rfl 3 rfl ?_
        refine ea_iadd (pc := 40) dX12_miss_40 ?_
        obtain ⟨z5, K⟩ := K
        refine ea_zald (pc := 41) dX12_miss_41 (hs.1 7 (by decide)).1 (hs.1 7 (by decide)).2.1 (ea_vpl (hs.1 7 (by decide)).2.2 z5) ?_
        refine ea_if_eq (pc := 42) (tgt := 80) dX12_miss_42 rfl (fun c15 => ?_) (fun c15 => ?_)
        · have EX := EX.trans (if_pos c15)
          have EY := EY.trans (if_pos c15)
          refine ea_iconst (pc := 80) dX12_miss_80 (v := 0) rfl ?_
          exact ea_iretE (pc := 81) dX12_miss_81 rfl (ea_bn (Or.inl rfl)) EX EY
        · have EX := EX.trans (if_neg c15)
          have EY := EY.trans (if_neg c15)
          have K := K.2 c15
          refine ea_aload_n (pc := 45) dX12_miss_45 rfl 0 rfl ?_
          refine ea_getR (pc := 46) dX12_miss_46 ec_12 (k := 10) (Nat.le_of_ble_eq_true rfl) rfl (Or.inl ew_1355) (hs.1 0 (by decide)).1 (hs.1 0 (by decide)).2.1 (hs.2 0 10 rfl) ?_
          refine ea_bipush (pc := 49) dX12_miss_49 (v := 8) rfl ?_
          refine ea_iload_n (pc := 51) dX12_miss_51 rfl 1 rfl ?_
          refine ea_iload_n (pc := 52) dX12_miss_52 rfl 2 rfl ?_
          refine ea_callS (pc := 53) (d' := d - 1) (As := [vI x1, vI x2]) (st := [vI 8, vR (some (b0 + 8))]) dX12_miss_53 kX12_run (sX12_run (d := d - 1) (by omega)) (by omega) rfl (Nat.le_of_ble_eq_true rfl) ew_1755 ew_1756 ?_
          refine ea_imul (pc := 56) dX12_miss_56 ?_
          refine ea_iload_n (pc := 57) dX12_miss_57 rfl 3 rfl ?_
          refine ea_iadd (pc := 58) dX12_miss_58 ?_
          obtain ⟨z7, K⟩ := K
          refine ea_zald (pc := 59) dX12_miss_59 (hs.1 8 (by decide)).1 (hs.1 8 (by decide)).2.1 (ea_vpl (hs.1 8 (by decide)).2.2 z7) ?_
          refine ea_if_ne (pc := 60) (tgt := 80) dX12_miss_60 rfl (fun c14 => ?_) (fun c14 => ?_)
          · have EX := EX.trans (if_neg c14)
            have EY := EY.trans (if_neg c14)
            refine ea_iconst (pc := 80) dX12_miss_80 (v := 0) rfl ?_
            exact ea_iretE (pc := 81) dX12_miss_81 rfl (ea_bn (Or.inl rfl)) EX EY
          · have EX := EX.trans (if_pos c14)
            have EY := EY.trans (if_pos c14)
            have K := K.1 c14
            refine ea_aload_n (pc := 63) dX12_miss_63 rfl 0 rfl ?_
            refine ea_iload_n (pc := 64) dX12_miss_64 rfl 1 rfl ?_
            refine ea_iload_n (pc := 65) dX12_miss_65 rfl 2 rfl ?_
            refine ea_callS (pc := 66) (d' := d - 1) (As := [vI x1, vI x2]) (st := [vR (some (b0 + 0))]) dX12_miss_66 kX12_run (sX12_run (d := d - 1) (by omega)) (by omega) rfl (Nat.le_of_ble_eq_true rfl) ew_1755 ew_1756 ?_
            refine ea_iload_n (pc := 69) dX12_miss_69 rfl 3 rfl ?_
            obtain ⟨z9, K⟩ := K
            refine ea_callV (pc := 70) (d' := d - 1) (As := [vI (vX12_run (x1 : Int32) (x2 : Int32) h), vI x3]) (st := []) dX12_miss_70 kX12_comesAt (sX12_comesAt (d := d - 1) (by omega) hs z9) (by omega) rfl (Nat.le_of_ble_eq_true rfl) ew_1762 ew_1764 ew_52 (ci := 12) rfl (by decide) (hs.1 0 (by decide)).1 (hs.1 0 (by decide)).2.1 ?_
            refine ea_aload_n (pc := 73) dX12_miss_73 rfl 0 rfl ?_
            refine ea_getI (pc := 74) dX12_miss_74 ec_12 (k := 0) (Nat.le_of_ble_eq_true rfl) rfl (Or.inl ew_1345) (hs.1 0 (by decide)).1 (hs.1 0 (by decide)).2.1 ?_
            refine ea_icmp_gt (pc := 77) (tgt := 82) dX12_miss_77 rfl (fun c13 => ?_) (fun c13 => ?_)
            · have EX := EX.trans (if_pos c13)
              have EY := EY.trans (if_pos c13)
              have K := K.1 c13
              refine ea_aload_n (pc := 82) dX12_miss_82 rfl 0 rfl ?_
              refine ea_getR (pc := 83) dX12_miss_83 ec_12 (k := 10) (Nat.le_of_ble_eq_true rfl) rfl (Or.inl ew_1355) (hs.1 0 (by decide)).1 (hs.1 0 (by decide)).2.1 (hs.2 0 10 rfl) ?_
              refine ea_bipush (pc := 86) dX12_miss_86 (v := 8) rfl ?_
              refine ea_iload_n (pc := 88) dX12_miss_88 rfl 1 rfl ?_
              refine ea_iload_n (pc := 89) dX12_miss_89 rfl 2 rfl ?_
              refine ea_callS (pc := 90) (d' := d - 1) (As := [vI x1, vI x2]) (st := [vI 8, vR (some (b0 + 8))]) dX12_miss_90 kX12_run (sX12_run (d := d - 1) (by omega)) (by omega) rfl (Nat.le_of_ble_eq_true rfl) ew_1755 ew_1756 ?_
              refine ea_imul (pc := 93) dX12_miss_93 ?_
              refine ea_iload_n (pc := 94) dX12_miss_94 rfl 3 rfl ?_
              refine ea_iadd (pc := 95) dX12_miss_95 ?_
              refine ea_iconst (pc := 96) dX12_miss_96 (v := 1) rfl ?_
              have z11 := K
              refine ea_zast (pc := 97) dX12_miss_97 (y := 1) (ea_bn (Or.inr rfl)) (hs.1 8 (by decide)).1 (hs.1 8 (by decide)).2.1 (ea_vpl (hs.1 8 (by decide)).2.2 z11) ?_
              have hs12 : ShM b0 (ea_wi h (b0 + 8) (Int32.toNatClampNeg (((8 : Int32) * (vX12_run (x1 : Int32) (x2 : Int32) h)) + x3)) 1) := ShM_wi hs
              refine ea_iconst (pc := 98) dX12_miss_98 (v := 1) rfl ?_
              exact ea_iretE (pc := 99) dX12_miss_99 rfl (ea_bn (Or.inr rfl)) EX EY
            · have EX := EX.trans (if_neg c13)
              have EY := EY.trans (if_neg c13)
              refine ea_iconst (pc := 80) dX12_miss_80 (v := 0) rfl ?_
              exact ea_iretE (pc := 81) dX12_miss_81 rfl (ea_bn (Or.inl rfl)) EX EY
noncomputable def vX12_minuteOf (b0 : Nat) (x1 : Int32) (x2 : Int32) (h : ea_H) : Int32 := (if (x2 - x2 / (2 : Int32) * (2 : Int32)) = (0 : Int32) then (vX12_goesAt b0 (x1 : Int32) ((x2 / (2 : Int32)) : Int32) h) else (vX12_comesAt b0 (x1 : Int32) (((x2 / (2 : Int32)) + (1 : Int32)) : Int32) h))
def okX12_minuteOf (b0 : Nat) (x1 : Int32) (x2 : Int32) (h : ea_H) : Prop := ((x2 - x2 / (2 : Int32) * (2 : Int32)) = (0 : Int32) → (okX12_goesAt b0 (x1 : Int32) ((x2 / (2 : Int32)) : Int32) h)) ∧ (¬ (x2 - x2 / (2 : Int32) * (2 : Int32)) = (0 : Int32) → (okX12_comesAt b0 (x1 : Int32) (((x2 / (2 : Int32)) + (1 : Int32)) : Int32) h))
theorem sX12_minuteOf {d : Nat} {b0 : Nat} {x1 : Int32} {x2 : Int32} {h : ea_H} (hd : 2 ≤ d) (hs : ShM b0 h) (K : okX12_minuteOf b0 x1 x2 h) : ea_Met mX12_minuteOf d [vR (some (b0 + 0)), vI x1, vI x2] h (some (vI (vX12_minuteOf b0 x1 x2 h))) h := by
  obtain ⟨X, EX⟩ : ∃ z, z = vX12_minuteOf b0 x1 x2 h := ⟨_, rfl⟩
  rw [← EX]
  unfold vX12_minuteOf at EX
  unfold okX12_minuteOf at K
  refine ea_enter rfl (Nat.le_of_ble_eq_true rfl) ?_
  refine ea_iload_n (pc := 0) dX12_minuteOf_0 rfl 2 rfl ?_
  refine ea_iconst (pc := 1) dX12_minuteOf_1 (v := 2) rfl ?_
  refine ea_irem (pc := 2) dX12_minuteOf_2 (by decide) ?_
  refine ea_if_ne (pc := 3) (tgt := 17) dX12_minuteOf_3 rfl (fun c3 => ?_) (fun c3 => ?_)
  · have EX := EX.trans (if_neg c3)
    have K := K.2 c3
    refine ea_aload_n (pc := 17) dX12_minuteOf_17 rfl 0 rfl ?_
    refine ea_iload_n (pc := 18) dX12_minuteOf_18 rfl 1 rfl ?_
    refine ea_iload_n (pc := 19) dX12_minuteOf_19 rfl 2 rfl ?_
    refine ea_iconst (pc := 20) dX12_minuteOf_20 (v := 2) rfl ?_
    refine ea_idiv (pc := 21) dX12_minuteOf_21 (by decide) ?_
    refine ea_iconst (pc := 22) dX12_minuteOf_22 (v := 1) rfl ?_
    refine ea_iadd (pc := 23) dX12_minuteOf_23 ?_
    have z1 := K
    refine ea_callV (pc := 24) (d' := d - 1) (As := [vI x1, vI ((x2 / (2 : Int32)) + (1 : Int32))]) (st := []) dX12_minuteOf_24 kX12_comesAt (sX12_comesAt (d := d - 1) (by omega) hs z1) (by omega) rfl (Nat.le_of_ble_eq_true rfl) ew_1762 ew_1764 ew_52 (ci := 12) rfl (by decide) (hs.1 0 (by decide)).1 (hs.1 0 (by decide)).2.1 ?_
    exact ea_iretE (pc := 27) dX12_minuteOf_27 rfl rfl EX rfl
  · have EX := EX.trans (if_pos c3)
    have K := K.1 c3
    refine ea_aload_n (pc := 6) dX12_minuteOf_6 rfl 0 rfl ?_
    refine ea_iload_n (pc := 7) dX12_minuteOf_7 rfl 1 rfl ?_
    refine ea_iload_n (pc := 8) dX12_minuteOf_8 rfl 2 rfl ?_
    refine ea_iconst (pc := 9) dX12_minuteOf_9 (v := 2) rfl ?_
    refine ea_idiv (pc := 10) dX12_minuteOf_10 (by decide) ?_
    have z2 := K
    refine ea_callV (pc := 11) (d' := d - 1) (As := [vI x1, vI (x2 / (2 : Int32))]) (st := []) dX12_minuteOf_11 kX12_goesAt (sX12_goesAt (d := d - 1) (by omega) hs z2) (by omega) rfl (Nat.le_of_ble_eq_true rfl) ew_1786 ew_1788 ew_57 (ci := 12) rfl (by decide) (hs.1 0 (by decide)).1 (hs.1 0 (by decide)).2.1 ?_
    refine ea_goto (pc := 14) (tgt := 27) dX12_minuteOf_14 rfl ?_
    exact ea_iretE (pc := 27) dX12_minuteOf_27 rfl rfl EX rfl
noncomputable def vX12_isAheadOf (b0 : Nat) (x1 : Int32) (x2 : Int32) (h : ea_H) : Int32 := (if ((ea_i h (b0 + 14) (Int32.toNatClampNeg x1)) - (ea_i h (b0 + 14) (Int32.toNatClampNeg x1)) / (2 : Int32) * (2 : Int32)) = (0 : Int32) then (if ((ea_i h (b0 + 14) (Int32.toNatClampNeg x2)) - (ea_i h (b0 + 14) (Int32.toNatClampNeg x2)) / (2 : Int32) * (2 : Int32)) = (0 : Int32) then (if (((2 : Int32) * (vX12_minuteOf b0 (x1 : Int32) ((ea_i h (b0 + 14) (Int32.toNatClampNeg x1)) : Int32) h)) + (1 : Int32)) < (((2 : Int32) * (vX12_minuteOf b0 (x2 : Int32) ((ea_i h (b0 + 14) (Int32.toNatClampNeg x2)) : Int32) h)) + (1 : Int32)) then (1 : Int32) else (if (((2 : Int32) * (vX12_minuteOf b0 (x1 : Int32) ((ea_i h (b0 + 14) (Int32.toNatClampNeg x1)) : Int32) h)) + (1 : Int32)) = (((2 : Int32) * (vX12_minuteOf b0 (x2 : Int32) ((ea_i h (b0 + 14) (Int32.toNatClampNeg x2)) : Int32) h)) + (1 : Int32)) then (if x2 ≤ x1 then (0 : Int32) else (1 : Int32)) else (0 : Int32))) else (if (((2 : Int32) * (vX12_minuteOf b0 (x1 : Int32) ((ea_i h (b0 + 14) (Int32.toNatClampNeg x1)) : Int32) h)) + (1 : Int32)) < (((2 : Int32) * (vX12_minuteOf b0 (x2 : Int32) ((ea_i h (b0 + 14) (Int32.toNatClampNeg x2)) : Int32) h)) + (0 : Int32)) then (1 : Int32) else (if (((2 : Int32) * (vX12_minuteOf b0 (x1 : Int32) ((ea_i h (b0 + 14) (Int32.toNatClampNeg x1)) : Int32) h)) + (1 : Int32)) = (((2 : Int32) * (vX12_minuteOf b0 (x2 : Int32) ((ea_i h (b0 + 14) (Int32.toNatClampNeg x2)) : Int32) h)) + (0 : Int32)) then (if x2 ≤ x1 then (0 : Int32) else (1 : Int32)) else (0 : Int32)))) else (if ((ea_i h (b0 + 14) (Int32.toNatClampNeg x2)) - (ea_i h (b0 + 14) (Int32.toNatClampNeg x2)) / (2 : Int32) * (2 : Int32)) = (0 : Int32) then (if (((2 : Int32) * (vX12_minuteOf b0 (x1 : Int32) ((ea_i h (b0 + 14) (Int32.toNatClampNeg x1)) : Int32) h)) + (0 : Int32)) < (((2 : Int32) * (vX12_minuteOf b0 (x2 : Int32) ((ea_i h (b0 + 14) (Int32.toNatClampNeg x2)) : Int32) h)) + (1 : Int32)) then (1 : Int32) else (if (((2 : Int32) * (vX12_minuteOf b0 (x1 : Int32) ((ea_i h (b0 + 14) (Int32.toNatClampNeg x1)) : Int32) h)) + (0 : Int32)) = (((2 : Int32) * (vX12_minuteOf b0 (x2 : Int32) ((ea_i h (b0 + 14) (Int32.toNatClampNeg x2)) : Int32) h)) + (1 : Int32)) then (if x2 ≤ x1 then (0 : Int32) else (1 : Int32)) else (0 : Int32))) else (if (((2 : Int32) * (vX12_minuteOf b0 (x1 : Int32) ((ea_i h (b0 + 14) (Int32.toNatClampNeg x1)) : Int32) h)) + (0 : Int32)) < (((2 : Int32) * (vX12_minuteOf b0 (x2 : Int32) ((ea_i h (b0 + 14) (Int32.toNatClampNeg x2)) : Int32) h)) + (0 : Int32)) then (1 : Int32) else (if (((2 : Int32) * (vX12_minuteOf b0 (x1 : Int32) ((ea_i h (b0 + 14) (Int32.toNatClampNeg x1)) : Int32) h)) + (0 : Int32)) = (((2 : Int32) * (vX12_minuteOf b0 (x2 : Int32) ((ea_i h (b0 + 14) (Int32.toNatClampNeg x2)) : Int32) h)) + (0 : Int32)) then (if x2 ≤ x1 then (0 : Int32) else (1 : Int32)) else (0 : Int32)))))
def okX12_isAheadOf (b0 : Nat) (x1 : Int32) (x2 : Int32) (h : ea_H) : Prop := vp_in x1 70 ∧ ((okX12_minuteOf b0 (x1 : Int32) ((ea_i h (b0 + 14) (Int32.toNatClampNeg x1)) : Int32) h) ∧ (vp_in x1 70 ∧ ((((ea_i h (b0 + 14) (Int32.toNatClampNeg x1)) - (ea_i h (b0 + 14) (Int32.toNatClampNeg x1)) / (2 : Int32) * (2 : Int32)) = (0 : Int32) → vp_in x2 70 ∧ ((okX12_minuteOf b0 (x2 : Int32) ((ea_i h (b0 + 14) (Int32.toNatClampNeg x2)) : Int32) h) ∧ (vp_in x2 70))) ∧ (¬ ((ea_i h (b0 + 14) (Int32.toNatClampNeg x1)) - (ea_i h (b0 + 14) (Int32.toNatClampNeg x1)) / (2 : Int32) * (2 : Int32)) = (0 : Int32) → vp_in x2 70 ∧ ((okX12_minuteOf b0 (x2 : Int32) ((ea_i h (b0 + 14) (Int32.toNatClampNeg x2)) : Int32) h) ∧ (vp_in x2 70))))))
theorem bo_vX12_isAheadOf (b0 : Nat) (x1 : Int32) (x2 : Int32) (h : ea_H) : vX12_isAheadOf b0 x1 x2 h = 0 ∨ vX12_isAheadOf b0 x1 x2 h = 1 := (ea_itB (ea_itB (ea_itB (Or.inr rfl) (ea_itB (ea_itB (Or.inl rfl) (Or.inr rfl)) (Or.inl rfl))) (ea_itB (Or.inr rfl) (ea_itB (ea_itB (Or.inl rfl) (Or.inr rfl)) (Or.inl rfl)))) (ea_itB (ea_itB (Or.inr rfl) (ea_itB (ea_itB (Or.inl rfl) (Or.inr rfl)) (Or.inl rfl))) (ea_itB (Or.inr rfl) (ea_itB (ea_itB (Or.inl rfl) (Or.inr rfl)) (Or.inl rfl)))))
theorem sX12_isAheadOf {d : Nat} {b0 : Nat} {x1 : Int32} {x2 : Int32} {h : ea_H} (hd : 3 ≤ d) (hs : ShM b0 h) (K : okX12_isAheadOf b0 x1 x2 h) : ea_Met mX12_isAheadOf d [vR (some (b0 + 0)), vI x1, vI x2] h (some (vI (vX12_isAheadOf b0 x1 x2 h))) h := by
  obtain ⟨X, EX⟩ : ∃ z, z = vX12_isAheadOf b0 x1 x2 h := ⟨_, rfl⟩
  rw [← EX]
  unfold vX12_isAheadOf at EX
  unfold okX12_isAheadOf at K
  refine ea_enter rfl (Nat.le_of_ble_eq_true rfl) ?_
  refine ea_iconst (pc := 0) dX12_isAheadOf_0 (v := 2) rfl ?_
  refine ea_aload_n (pc := 1) dX12_isAheadOf_1 rfl 0 rfl ?_
  refine ea_iload_n (pc := 2) dX12_isAheadOf_2 rfl 1 rfl ?_
  refine ea_aload_n (pc := 3) dX12_isAheadOf_3 rfl 0 rfl ?_
  refine ea_getR (pc := 4) dX12_isAheadOf_4 ec_12 (k := 18) (Nat.le_of_ble_eq_true rfl) rfl (Or.inl ew_1363) (hs.1 0 (by decide)).1 (hs.1 0 (by decide)).2.1 (hs.2 0 18 rfl) ?_
  refine ea_iload_n (pc := 7) dX12_isAheadOf_7 rfl 1 rfl ?_
  obtain ⟨z1, K⟩ := K
  refine ea_iald (pc := 8) dX12_isAheadOf_8 (hs.1 14 (by decide)).1 (hs.1 14 (by decide)).2.1 (ea_vpl (hs.1 14 (by decide)).2.2 z1) ?_
  obtain ⟨z2, K⟩ := K
  refine ea_callV (pc := 9) (d' := d - 1) (As := [vI x1, vI (ea_i h (b0 + 14) (Int32.toNatClampNeg x1))]) (st := [vI 2]) dX12_isAheadOf_9 kX12_minuteOf (sX12_minuteOf (d := d - 1) (by omega) hs z2) (by omega) rfl (Nat.le_of_ble_eq_true rfl) ew_1782 ew_1784 ew_56 (ci := 12) rfl (by decide) (hs.1 0 (by decide)).1 (hs.1 0 (by decide)).2.1 ?_
  refine ea_imul (pc := 12) dX12_isAheadOf_12 ?_
  refine ea_aload_n (pc := 13) dX12_isAheadOf_13 rfl 0 rfl ?_
  refine ea_getR (pc := 14) dX12_isAheadOf_14 ec_12 (k := 18) (Nat.le_of_ble_eq_true rfl) rfl (Or.inl ew_1363) (hs.1 0 (by decide)).1 (hs.1 0 (by decide)).2.1 (hs.2 0 18 rfl) ?_
  refine ea_iload_n (pc := 17) dX12_isAheadOf_17 rfl 1 rfl ?_
  obtain ⟨z3, K⟩ := K
  refine ea_iald (pc := 18) dX12_isAheadOf_18 (hs.1 14 (by decide)).1 (hs.1 14 (by decide)).2.1 (ea_vpl (hs.1 14 (by decide)).2.2 z3) ?_
  refine ea_iconst (pc := 19) dX12_isAheadOf_19 (v := 2) rfl ?_
  refine ea_irem (pc := 20) dX12_isAheadOf_20 (by decide) ?_
  refine ea_if_ne (pc := 21) (tgt := 28) dX12_isAheadOf_21 rfl (fun c24 => ?_) (fun c24 => ?_)
  · have EX := EX.trans (if_neg c24)
    have K := K.2 c24
    refine ea_iconst (pc := 28) dX12_isAheadOf_28 (v := 0) rfl ?_
    refine ea_iadd (pc := 29) dX12_isAheadOf_29 ?_
    refine ea_istore_n (pc := 30) (lv' := [(0, vR (some (b0 + 0))), (1, vI x1), (2, vI x2), (3, vI (((2 : Int32) * (vX12_minuteOf b0 (x1 : Int32) ((ea_i h (b0 + 14) (Int32.toNatClampNeg x1)) : Int32) h)) + (0 : Int32)))]) dX12_isAheadOf_30 rfl (Nat.le_of_ble_eq_true rfl) [1, 2, 3, 0] rfl ?_
    refine ea_iconst (pc := 31) dX12_isAheadOf_31 (v := 2) rfl ?_
    refine ea_aload_n (pc := 32) dX12_isAheadOf_32 rfl 0 rfl ?_
    refine ea_iload_n (pc := 33) dX12_isAheadOf_33 rfl 2 rfl ?_
    refine ea_aload_n (pc := 34) dX12_isAheadOf_34 rfl 0 rfl ?_
    refine ea_getR (pc := 35) dX12_isAheadOf_35 ec_12 (k := 18) (Nat.le_of_ble_eq_true rfl) rfl (Or.inl ew_1363) (hs.1 0 (by decide)).1 (hs.1 0 (by decide)).2.1 (hs.2 0 18 rfl) ?_
    refine ea_iload_n (pc := 38) dX12_isAheadOf_38 rfl 2 rfl ?_
    obtain ⟨z4, K⟩ := K
    refine ea_iald (pc := 39) dX12_isAheadOf_39 (hs.1 14 (by decide)).1 (hs.1 14 (by decide)).2.1 (ea_vpl (hs.1 14 (by decide)).2.2 z4) ?_
    obtain ⟨z5, K⟩ := K
    refine ea_callV (pc := 40) (d' := d - 1) (As := [vI x2, vI (ea_i h (b0 + 14) (Int32.toNatClampNeg x2))]) (st := [vI 2]) dX12_isAheadOf_40 kX12_minuteOf (sX12_minuteOf (d := d - 1) (by omega) hs z5) (by omega) rfl (Nat.le_of_ble_eq_true rfl) ew_1782 ew_1784 ew_56 (ci := 12) rfl (by decide) (hs.1 0 (by decide)).1 (hs.1 0 (by decide)).2.1 ?_
    refine ea_imul (pc := 43) dX12_isAheadOf_43 ?_
    refine ea_aload_n (pc := 44) dX12_isAheadOf_44 rfl 0 rfl ?_
    refine ea_getR (pc := 45) dX12_isAheadOf_45 ec_12 (k := 18) (Nat.le_of_ble_eq_true rfl) rfl (Or.inl ew_1363) (hs.1 0 (by decide)).1 (hs.1 0 (by decide)).2.1 (hs.2 0 18 rfl) ?_
    refine ea_iload_n (pc := 48) dX12_isAheadOf_48 rfl 2 rfl ?_
    have z6 := K
    refine ea_iald (pc := 49) dX12_isAheadOf_49 (hs.1 14 (by decide)).1 (hs.1 14 (by decide)).2.1 (ea_vpl (hs.1 14 (by decide)).2.2 z6) ?_
    refine ea_iconst (pc := 50) dX12_isAheadOf_50 (v := 2) rfl ?_
    refine ea_irem (pc := 51) dX12_isAheadOf_51 (by decide) ?_
    refine ea_if_ne (pc := 52) (tgt := 59) dX12_isAheadOf_52 rfl (fun c13 => ?_) (fun c13 => ?_)
    · have EX := EX.trans (if_neg c13)
      refine ea_iconst (pc := 59) dX12_isAheadOf_59 (v := 0) rfl ?_
      refine ea_iadd (pc := 60) dX12_isAheadOf_60 ?_
      refine ea_istore (pc := 61) (lv' := [(1, vI x1), (2, vI x2), (3, vI (((2 : Int32) * (vX12_minuteOf b0 (x1 : Int32) ((ea_i h (b0 + 14) (Int32.toNatClampNeg x1)) : Int32) h)) + (0 : Int32))), (4, vI (((2 : Int32) * (vX12_minuteOf b0 (x2 : Int32) ((ea_i h (b0 + 14) (Int32.toNatClampNeg x2)) : Int32) h)) + (0 : Int32)))]) dX12_isAheadOf_61 (Nat.le_of_ble_eq_true rfl) [2, 3, 4, 0] rfl ?_
      refine ea_iload_n (pc := 63) dX12_isAheadOf_63 rfl 2 rfl ?_
      refine ea_iload (pc := 64) dX12_isAheadOf_64 3 rfl ?_
      refine ea_icmp_lt (pc := 66) (tgt := 80) dX12_isAheadOf_66 rfl (fun c9 => ?_) (fun c9 => ?_)
      · have EX := EX.trans (if_pos c9)
        refine ea_iconst (pc := 80) dX12_isAheadOf_80 (v := 1) rfl ?_
        refine ea_goto (pc := 81) (tgt := 85) dX12_isAheadOf_81 rfl ?_
        exact ea_iretE (pc := 85) dX12_isAheadOf_85 rfl (ea_bn (Or.inr rfl)) EX rfl
      · have EX := EX.trans (if_neg c9)
        refine ea_iload_n (pc := 69) dX12_isAheadOf_69 rfl 2 rfl ?_
        refine ea_iload (pc := 70) dX12_isAheadOf_70 3 rfl ?_
        refine ea_icmp_ne (pc := 72) (tgt := 84) dX12_isAheadOf_72 rfl (fun c8 => ?_) (fun c8 => ?_)
        · have EX := EX.trans (if_neg c8)
          refine ea_iconst (pc := 84) dX12_isAheadOf_84 (v := 0) rfl ?_
          exact ea_iretE (pc := 85) dX12_isAheadOf_85 rfl (ea_bn (Or.inl rfl)) EX rfl
        · have EX := EX.trans (if_pos c8)
          refine ea_iload_n (pc := 75) dX12_isAheadOf_75 rfl 0 rfl ?_
          refine ea_iload_n (pc := 76) dX12_isAheadOf_76 rfl 1 rfl ?_
          refine ea_icmp_ge (pc := 77) (tgt := 84) dX12_isAheadOf_77 rfl (fun c7 => ?_) (fun c7 => ?_)
          · have EX := EX.trans (if_pos c7)
            refine ea_iconst (pc := 84) dX12_isAheadOf_84 (v := 0) rfl ?_
            exact ea_iretE (pc := 85) dX12_isAheadOf_85 rfl (ea_bn (Or.inl rfl)) EX rfl
          · have EX := EX.trans (if_neg c7)
            refine ea_iconst (pc := 80) dX12_isAheadOf_80 (v := 1) rfl ?_
            refine ea_goto (pc := 81) (tgt := 85) dX12_isAheadOf_81 rfl ?_
            exact ea_iretE (pc := 85) dX12_isAheadOf_85 rfl (ea_bn (Or.inr rfl)) EX rfl
    · have EX := EX.trans (if_pos c13)
      refine ea_iconst (pc := 55) dX12_isAheadOf_55 (v := 1) rfl ?_
      refine ea_goto (pc := 56) (tgt := 60) dX12_isAheadOf_56 rfl ?_
      refine ea_iadd (pc := 60) dX12_isAheadOf_60 ?_
      refine ea_istore (pc := 61) (lv' := [(1, vI x1), (2, vI x2), (3, vI (((2 : Int32) * (vX12_minuteOf b0 (x1 : Int32) ((ea_i h (b0 + 14) (Int32.toNatClampNeg x1)) : Int32) h)) + (0 : Int32))), (4, vI (((2 : Int32) * (vX12_minuteOf b0 (x2 : Int32) ((ea_i h (b0 + 14) (Int32.toNatClampNeg x2)) : Int32) h)) + (1 : Int32)))]) dX12_isAheadOf_61 (Nat.le_of_ble_eq_true rfl) [2, 3, 4, 0] rfl ?_
      refine ea_iload_n (pc := 63) dX12_isAheadOf_63 rfl 2 rfl ?_
      refine ea_iload (pc := 64) dX12_isAheadOf_64 3 rfl ?_
      refine ea_icmp_lt (pc := 66) (tgt := 80) dX12_isAheadOf_66 rfl (fun c12 => ?_) (fun c12 => ?_)
      · have EX := EX.trans (if_pos c12)
        refine ea_iconst (pc := 80) dX12_isAheadOf_80 (v := 1) rfl ?_
        refine ea_goto (pc := 81) (tgt := 85) dX12_isAheadOf_81 rfl ?_
        exact ea_iretE (pc := 85) dX12_isAheadOf_85 rfl (ea_bn (Or.inr rfl)) EX rfl
      · have EX := EX.trans (if_neg c12)
        refine ea_iload_n (pc := 69) dX12_isAheadOf_69 rfl 2 rfl ?_
        refine ea_iload (pc := 70) dX12_isAheadOf_70 3 rfl ?_
        refine ea_icmp_ne (pc := 72) (tgt := 84) dX12_isAheadOf_72 rfl (fun c11 => ?_) (fun c11 => ?_)
        · have EX := EX.trans (if_neg c11)
          refine ea_iconst (pc := 84) dX12_isAheadOf_84 (v := 0) rfl ?_
          exact ea_iretE (pc := 85) dX12_isAheadOf_85 rfl (ea_bn (Or.inl rfl)) EX rfl
        · have EX := EX.trans (if_pos c11)
          refine ea_iload_n (pc := 75) dX12_isAheadOf_75 rfl 0 rfl ?_
          refine ea_iload_n (pc := 76) dX12_isAheadOf_76 rfl 1 rfl ?_
          refine ea_icmp_ge (pc := 77) (tgt := 84) dX12_isAheadOf_77 rfl (fun c10 => ?_) (fun c10 => ?_)
          · have EX := EX.trans (if_pos c10)
            refine ea_iconst (pc := 84) dX12_isAheadOf_84 (v := 0) rfl ?_
            exact ea_iretE (pc := 85) dX12_isAheadOf_85 rfl (ea_bn (Or.inl rfl)) EX rfl
          · have EX := EX.trans (if_neg c10)
            refine ea_iconst (pc := 80) dX12_isAheadOf_80 (v := 1) rfl ?_
            refine ea_goto (pc := 81) (tgt := 85) dX12_isAheadOf_81 rfl ?_
            exact ea_iretE (pc := 85) dX12_isAheadOf_85 rfl (ea_bn (Or.inr rfl)) EX rfl
  · have EX := EX.trans (if_pos c24)
    have K := K.1 c24
    refine ea_iconst (pc := 24) dX12_isAheadOf_24 (v := 1) rfl ?_
    refine ea_goto (pc := 25) (tgt := 29) dX12_isAheadOf_25 rfl ?_
    refine ea_iadd (pc := 29) dX12_isAheadOf_29 ?_
    refine ea_istore_n (pc := 30) (lv' := [(0, vR (some (b0 + 0))), (1, vI x1), (2, vI x2), (3, vI (((2 : Int32) * (vX12_minuteOf b0 (x1 : Int32) ((ea_i h (b0 + 14) (Int32.toNatClampNeg x1)) : Int32) h)) + (1 : Int32)))]) dX12_isAheadOf_30 rfl (Nat.le_of_ble_eq_true rfl) [1, 2, 3, 0] rfl ?_
    refine ea_iconst (pc := 31) dX12_isAheadOf_31 (v := 2) rfl ?_
    refine ea_aload_n (pc := 32) dX12_isAheadOf_32 rfl 0 rfl ?_
    refine ea_iload_n (pc := 33) dX12_isAheadOf_33 rfl 2 rfl ?_
    refine ea_aload_n (pc := 34) dX12_isAheadOf_34 rfl 0 rfl ?_
    refine ea_getR (pc := 35) dX12_isAheadOf_35 ec_12 (k := 18) (Nat.le_of_ble_eq_true rfl) rfl (Or.inl ew_1363) (hs.1 0 (by decide)).1 (hs.1 0 (by decide)).2.1 (hs.2 0 18 rfl) ?_
    refine ea_iload_n (pc := 38) dX12_isAheadOf_38 rfl 2 rfl ?_
    obtain ⟨z14, K⟩ := K
    refine ea_iald (pc := 39) dX12_isAheadOf_39 (hs.1 14 (by decide)).1 (hs.1 14 (by decide)).2.1 (ea_vpl (hs.1 14 (by decide)).2.2 z14) ?_
    obtain ⟨z15, K⟩ := K
    refine ea_callV (pc := 40) (d' := d - 1) (As := [vI x2, vI (ea_i h (b0 + 14) (Int32.toNatClampNeg x2))]) (st := [vI 2]) dX12_isAheadOf_40 kX12_minuteOf (sX12_minuteOf (d := d - 1) (by omega) hs z15) (by omega) rfl (Nat.le_of_ble_eq_true rfl) ew_1782 ew_1784 ew_56 (ci := 12) rfl (by decide) (hs.1 0 (by decide)).1 (hs.1 0 (by decide)).2.1 ?_
    refine ea_imul (pc := 43) dX12_isAheadOf_43 ?_
    refine ea_aload_n (pc := 44) dX12_isAheadOf_44 rfl 0 rfl ?_
    refine ea_getR (pc := 45) dX12_isAheadOf_45 ec_12 (k := 18) (Nat.le_of_ble_eq_true rfl) rfl (Or.inl ew_1363) (hs.1 0 (by decide)).1 (hs.1 0 (by decide)).2.1 (hs.2 0 18 rfl) ?_
    refine ea_iload_n (pc := 48) dX12_isAheadOf_48 rfl 2 rfl ?_
    have z16 := K
    refine ea_iald (pc := 49) dX12_isAheadOf_49 (hs.1 14 (by decide)).1 (hs.1 14 (by decide)).2.1 (ea_vpl (hs.1 14 (by decide)).2.2 z16) ?_
    refine ea_iconst (pc := 50) dX12_isAheadOf_50 (v := 2) rfl ?_
    refine ea_irem (pc := 51) dX12_isAheadOf_51 (by decide) ?_
    refine ea_if_ne (pc := 52) (tgt := 59) dX12_isAheadOf_52 rfl (fun c23 => ?_) (fun c23 => ?_)
    · have EX := EX.trans (if_neg c23)
      refine ea_iconst (pc := 59) dX12_isAheadOf_59 (v := 0) rfl ?_
      refine ea_iadd (pc := 60) dX12_isAheadOf_60 ?_
      refine ea_istore (pc := 61) (lv' := [(1, vI x1), (2, vI x2), (3, vI (((2 : Int32) * (vX12_minuteOf b0 (x1 : Int32) ((ea_i h (b0 + 14) (Int32.toNatClampNeg x1)) : Int32) h)) + (1 : Int32))), (4, vI (((2 : Int32) * (vX12_minuteOf b0 (x2 : Int32) ((ea_i h (b0 + 14) (Int32.toNatClampNeg x2)) : Int32) h)) + (0 : Int32)))]) dX12_isAheadOf_61 (Nat.le_of_ble_eq_true rfl) [2, 3, 4, 0] rfl ?_
      refine ea_iload_n (pc := 63) dX12_isAheadOf_63 rfl 2 rfl ?_
      refine ea_iload (pc := 64) dX12_isAheadOf_64 3 rfl ?_
      refine ea_icmp_lt (pc := 66) (tgt := 80) dX12_isAheadOf_66 rfl (fun c19 => ?_) (fun c19 => ?_)
      · have EX := EX.trans (if_pos c19)
        refine ea_iconst (pc := 80) dX12_isAheadOf_80 (v := 1) rfl ?_
        refine ea_goto (pc := 81) (tgt := 85) dX12_isAheadOf_81 rfl ?_
        exact ea_iretE (pc := 85) dX12_isAheadOf_85 rfl (ea_bn (Or.inr rfl)) EX rfl
      · have EX := EX.trans (if_neg c19)
        refine ea_iload_n (pc := 69) dX12_isAheadOf_69 rfl 2 rfl ?_
        refine ea_iload (pc := 70) dX12_isAheadOf_70 3 rfl ?_
        refine ea_icmp_ne (pc := 72) (tgt := 84) dX12_isAheadOf_72 rfl (fun c18 => ?_) (fun c18 => ?_)
        · have EX := EX.trans (if_neg c18)
          refine ea_iconst (pc := 84) dX12_isAheadOf_84 (v := 0) rfl ?_
          exact ea_iretE (pc := 85) dX12_isAheadOf_85 rfl (ea_bn (Or.inl rfl)) EX rfl
        · have EX := EX.trans (if_pos c18)
          refine ea_iload_n (pc := 75) dX12_isAheadOf_75 rfl 0 rfl ?_
          refine ea_iload_n (pc := 76) dX12_isAheadOf_76 rfl 1 rfl ?_
          refine ea_icmp_ge (pc := 77) (tgt := 84) dX12_isAheadOf_77 rfl (fun c17 => ?_) (fun c17 => ?_)
          · have EX := EX.trans (if_pos c17)
            refine ea_iconst (pc := 84) dX12_isAheadOf_84 (v := 0) rfl ?_
            exact ea_iretE (pc := 85) dX12_isAheadOf_85 rfl (ea_bn (Or.inl rfl)) EX rfl
          · have EX := EX.trans (if_neg c17)
            refine ea_iconst (pc := 80) dX12_isAheadOf_80 (v := 1) rfl ?_
            refine ea_goto (pc := 81) (tgt := 85) dX12_isAheadOf_81 rfl ?_
            exact ea_iretE (pc := 85) dX12_isAheadOf_85 rfl (ea_bn (Or.inr rfl)) EX rfl
    · have EX := EX.trans (if_pos c23)
      refine ea_iconst (pc := 55) dX12_isAheadOf_55 (v := 1) rfl ?_
      refine ea_goto (pc := 56) (tgt := 60) dX12_isAheadOf_56 rfl ?_
      refine ea_iadd (pc := 60) dX12_isAheadOf_60 ?_
      refine ea_istore (pc := 61) (lv' := [(1, vI x1), (2, vI x2), (3, vI (((2 : Int32) * (vX12_minuteOf b0 (x1 : Int32) ((ea_i h (b0 + 14) (Int32.toNatClampNeg x1)) : Int32) h)) + (1 : Int32))), (4, vI (((2 : Int32) * (vX12_minuteOf b0 (x2 : Int32) ((ea_i h (b0 + 14) (Int32.toNatClampNeg x2)) : Int32) h)) + (1 : Int32)))]) dX12_isAheadOf_61 (Nat.le_of_ble_eq_true rfl) [2, 3, 4, 0] rfl ?_
      refine ea_iload_n (pc := 63) dX12_isAheadOf_63 rfl 2 rfl ?_
      refine ea_iload (pc := 64) dX12_isAheadOf_64 3 rfl ?_
      refine ea_icmp_lt (pc := 66) (tgt := 80) dX12_isAheadOf_66 rfl (fun c22 => ?_) (fun c22 => ?_)
      · have EX := EX.trans (if_pos c22)
        refine ea_iconst (pc := 80) dX12_isAheadOf_80 (v := 1) rfl ?_
        refine ea_goto (pc := 81) (tgt := 85) dX12_isAheadOf_81 rfl ?_
        exact ea_iretE (pc := 85) dX12_isAheadOf_85 rfl (ea_bn (Or.inr rfl)) EX rfl
      · have EX := EX.trans (if_neg c22)
        refine ea_iload_n (pc := 69) dX12_isAheadOf_69 rfl 2 rfl ?_
        refine ea_iload (pc := 70) dX12_isAheadOf_70 3 rfl ?_
        refine ea_icmp_ne (pc := 72) (tgt := 84) dX12_isAheadOf_72 rfl (fun c21 => ?_) (fun c21 => ?_)
        · have EX := EX.trans (if_neg c21)
          refine ea_iconst (pc := 84) dX12_isAheadOf_84 (v := 0) rfl ?_
          exact ea_iretE (pc := 85) dX12_isAheadOf_85 rfl (ea_bn (Or.inl rfl)) EX rfl
        · have EX := EX.trans (if_pos c21)
          refine ea_iload_n (pc := 75) dX12_isAheadOf_75 rfl 0 rfl ?_
          refine ea_iload_n (pc := 76) dX12_isAheadOf_76 rfl 1 rfl ?_
          refine ea_icmp_ge (pc := 77) (tgt := 84) dX12_isAheadOf_77 rfl (fun c20 => ?_) (fun c20 => ?_)
          · have EX := EX.trans (if_pos c20)
            refine ea_iconst (pc := 84) dX12_isAheadOf_84 (v := 0) rfl ?_
            exact ea_iretE (pc := 85) dX12_isAheadOf_85 rfl (ea_bn (Or.inl rfl)) EX rfl
          · have EX := EX.trans (if_neg c20)
            refine ea_iconst (pc := 80) dX12_isAheadOf_80 (v := 1) rfl ?_
            refine ea_goto (pc := 81) (tgt := 85) dX12_isAheadOf_81 rfl ?_
            exact ea_iretE (pc := 85) dX12_isAheadOf_85 rfl (ea_bn (Or.inr rfl)) EX rfl
noncomputable def vX12_isMore (b0 : Nat) (x1 : Int32) (h : ea_H) : Int32 := (if ((2 : Int32) * ((ea_i h (b0 + 2) (Int32.toNatClampNeg (x1 / (7 : Int32)))) - (1 : Int32))) ≤ (ea_i h (b0 + 14) (Int32.toNatClampNeg x1)) then (0 : Int32) else (if (10079 : Int32) < (vX12_minuteOf b0 (x1 : Int32) ((ea_i h (b0 + 14) (Int32.toNatClampNeg x1)) : Int32) h) then (0 : Int32) else (1 : Int32)))
def okX12_isMore (b0 : Nat) (x1 : Int32) (h : ea_H) : Prop := vp_in x1 70 ∧ (vp_in (x1 / (7 : Int32)) 10 ∧ ((((2 : Int32) * ((ea_i h (b0 + 2) (Int32.toNatClampNeg (x1 / (7 : Int32)))) - (1 : Int32))) ≤ (ea_i h (b0 + 14) (Int32.toNatClampNeg x1)) → True) ∧ (¬ ((2 : Int32) * ((ea_i h (b0 + 2) (Int32.toNatClampNeg (x1 / (7 : Int32)))) - (1 : Int32))) ≤ (ea_i h (b0 + 14) (Int32.toNatClampNeg x1)) → vp_in x1 70 ∧ ((okX12_minuteOf b0 (x1 : Int32) ((ea_i h (b0 + 14) (Int32.toNatClampNeg x1)) : Int32) h)))))
theorem bo_vX12_isMore (b0 : Nat) (x1 : Int32) (h : ea_H) : vX12_isMore b0 x1 h = 0 ∨ vX12_isMore b0 x1 h = 1 := (ea_itB (Or.inl rfl) (ea_itB (Or.inl rfl) (Or.inr rfl)))
theorem sX12_isMore {d : Nat} {b0 : Nat} {x1 : Int32} {h : ea_H} (hd : 3 ≤ d) (hs : ShM b0 h) (K : okX12_isMore b0 x1 h) : ea_Met mX12_isMore d [vR (some (b0 + 0)), vI x1] h (some (vI (vX12_isMore b0 x1 h))) h := by
  obtain ⟨X, EX⟩ : ∃ z, z = vX12_isMore b0 x1 h := ⟨_, rfl⟩
  rw [← EX]
  unfold vX12_isMore at EX
  unfold okX12_isMore at K
  refine ea_enter rfl (Nat.le_of_ble_eq_true rfl) ?_
  refine ea_aload_n (pc := 0) dX12_isMore_0 rfl 0 rfl ?_
  refine ea_getR (pc := 1) dX12_isMore_1 ec_12 (k := 18) (Nat.le_of_ble_eq_true rfl) rfl (Or.inl ew_1363) (hs.1 0 (by decide)).1 (hs.1 0 (by decide)).2.1 (hs.2 0 18 rfl) ?_
  refine ea_iload_n (pc := 4) dX12_isMore_4 rfl 1 rfl ?_
  obtain ⟨z1, K⟩ := K
  refine ea_iald (pc := 5) dX12_isMore_5 (hs.1 14 (by decide)).1 (hs.1 14 (by decide)).2.1 (ea_vpl (hs.1 14 (by decide)).2.2 z1) ?_
  refine ea_iconst (pc := 6) dX12_isMore_6 (v := 2) rfl ?_
  refine ea_aload_n (pc := 7) dX12_isMore_7 rfl 0 rfl ?_
  refine ea_getR (pc := 8) dX12_isMore_8 ec_12 (k := 4) (Nat.le_of_ble_eq_true rfl) rfl (Or.inl ew_1349) (hs.1 0 (by decide)).1 (hs.1 0 (by decide)).2.1 (hs.2 0 4 rfl) ?_
  refine ea_iload_n (pc := 11) dX12_isMore_11 rfl 1 rfl ?_
  refine ea_bipush (pc := 12) dX12_isMore_12 (v := 7) rfl ?_
  refine ea_idiv (pc := 14) dX12_isMore_14 (by decide) ?_
  obtain ⟨z2, K⟩ := K
  refine ea_iald (pc := 15) dX12_isMore_15 (hs.1 2 (by decide)).1 (hs.1 2 (by decide)).2.1 (ea_vpl (hs.1 2 (by decide)).2.2 z2) ?_
  refine ea_iconst (pc := 16) dX12_isMore_16 (v := 1) rfl ?_
  refine ea_isub (pc := 17) dX12_isMore_17 ?_
  refine ea_imul (pc := 18) dX12_isMore_18 ?_
  refine ea_icmp_ge (pc := 19) (tgt := 43) dX12_isMore_19 rfl (fun c6 => ?_) (fun c6 => ?_)
  · have EX := EX.trans (if_pos c6)
    refine ea_iconst (pc := 43) dX12_isMore_43 (v := 0) rfl ?_
    exact ea_iretE (pc := 44) dX12_isMore_44 rfl (ea_bn (Or.inl rfl)) EX rfl
  · have EX := EX.trans (if_neg c6)
    have K := K.2 c6
    refine ea_aload_n (pc := 22) dX12_isMore_22 rfl 0 rfl ?_
    refine ea_iload_n (pc := 23) dX12_isMore_23 rfl 1 rfl ?_
    refine ea_aload_n (pc := 24) dX12_isMore_24 rfl 0 rfl ?_
    refine ea_getR (pc := 25) dX12_isMore_25 ec_12 (k := 18) (Nat.le_of_ble_eq_true rfl) rfl (Or.inl ew_1363) (hs.1 0 (by decide)).1 (hs.1 0 (by decide)).2.1 (hs.2 0 18 rfl) ?_
    refine ea_iload_n (pc := 28) dX12_isMore_28 rfl 1 rfl ?_
    obtain ⟨z3, K⟩ := K
    refine ea_iald (pc := 29) dX12_isMore_29 (hs.1 14 (by decide)).1 (hs.1 14 (by decide)).2.1 (ea_vpl (hs.1 14 (by decide)).2.2 z3) ?_
    have z4 := K
    refine ea_callV (pc := 30) (d' := d - 1) (As := [vI x1, vI (ea_i h (b0 + 14) (Int32.toNatClampNeg x1))]) (st := []) dX12_isMore_30 kX12_minuteOf (sX12_minuteOf (d := d - 1) (by omega) hs z4) (by omega) rfl (Nat.le_of_ble_eq_true rfl) ew_1782 ew_1784 ew_56 (ci := 12) rfl (by decide) (hs.1 0 (by decide)).1 (hs.1 0 (by decide)).2.1 ?_
    refine ea_sipush (pc := 33) dX12_isMore_33 (v := 10079) rfl ?_
    refine ea_icmp_gt (pc := 36) (tgt := 43) dX12_isMore_36 rfl (fun c5 => ?_) (fun c5 => ?_)
    · have EX := EX.trans (if_pos c5)
      refine ea_iconst (pc := 43) dX12_isMore_43 (v := 0) rfl ?_
      exact ea_iretE (pc := 44) dX12_isMore_44 rfl (ea_bn (Or.inl rfl)) EX rfl
    · have EX := EX.trans (if_neg c5)
      refine ea_iconst (pc := 39) dX12_isMore_39 (v := 1) rfl ?_
      refine ea_goto (pc := 40) (tgt := 44) dX12_isMore_40 rfl ?_
      exact ea_iretE (pc := 44) dX12_isMore_44 rfl (ea_bn (Or.inr rfl)) EX rfl
noncomputable def vX12_townOf (b0 : Nat) (x1 : Int32) (x2 : Int32) (h : ea_H) : Int32 := (ea_i h (b0 + 3) (Int32.toNatClampNeg (((8 : Int32) * (x1 / (7 : Int32))) + x2)))
def okX12_townOf (b0 : Nat) (x1 : Int32) (x2 : Int32) (h : ea_H) : Prop := vp_in (((8 : Int32) * (x1 / (7 : Int32))) + x2) 80
theorem sX12_townOf {d : Nat} {b0 : Nat} {x1 : Int32} {x2 : Int32} {h : ea_H} (hd : 1 ≤ d) (hs : ShM b0 h) (K : okX12_townOf b0 x1 x2 h) : ea_Met mX12_townOf d [vR (some (b0 + 0)), vI x1, vI x2] h (some (vI (vX12_townOf b0 x1 x2 h))) h := by
  obtain ⟨X, EX⟩ : ∃ z, z = vX12_townOf b0 x1 x2 h := ⟨_, rfl⟩
  rw [← EX]
  unfold vX12_townOf at EX
  unfold okX12_townOf at K
  refine ea_enter rfl (Nat.le_of_ble_eq_true rfl) ?_
  refine ea_aload_n (pc := 0) dX12_townOf_0 rfl 0 rfl ?_
  refine ea_getR (pc := 1) dX12_townOf_1 ec_12 (k := 5) (Nat.le_of_ble_eq_true rfl) rfl (Or.inl ew_1350) (hs.1 0 (by decide)).1 (hs.1 0 (by decide)).2.1 (hs.2 0 5 rfl) ?_
  refine ea_bipush (pc := 4) dX12_townOf_4 (v := 8) rfl ?_
  refine ea_iload_n (pc := 6) dX12_townOf_6 rfl 1 rfl ?_
  refine ea_bipush (pc := 7) dX12_townOf_7 (v := 7) rfl ?_
  refine ea_idiv (pc := 9) dX12_townOf_9 (by decide) ?_
  refine ea_imul (pc := 10) dX12_townOf_10 ?_
  refine ea_iload_n (pc := 11) dX12_townOf_11 rfl 2 rfl ?_
  refine ea_iadd (pc := 12) dX12_townOf_12 ?_
  have z1 := K
  refine ea_iald (pc := 13) dX12_townOf_13 (hs.1 3 (by decide)).1 (hs.1 3 (by decide)).2.1 (ea_vpl (hs.1 3 (by decide)).2.2 z1) ?_
  exact ea_iretE (pc := 14) dX12_townOf_14 rfl rfl EX rfl
noncomputable def vX12_isBetter (b0 : Nat) (x1 : Int32) (x2 : Int32) (x3 : Int32) (h : ea_H) : Int32 := (if (ea_i h (b0 + 15) (Int32.toNatClampNeg (((12 : Int32) * x1) + x3))) = (ea_i h (b0 + 15) (Int32.toNatClampNeg (((12 : Int32) * x2) + x3))) then (if (ea_i h (b0 + 16) (Int32.toNatClampNeg (((12 : Int32) * x1) + x3))) = (ea_i h (b0 + 16) (Int32.toNatClampNeg (((12 : Int32) * x2) + x3))) then (if (ea_i h (b0 + 12) (Int32.toNatClampNeg x1)) = (ea_i h (b0 + 12) (Int32.toNatClampNeg x2)) then (if (ea_i h (b0 + 13) (Int32.toNatClampNeg x2)) ≤ (ea_i h (b0 + 13) (Int32.toNatClampNeg x1)) then (0 : Int32) else (1 : Int32)) else (if (ea_i h (b0 + 12) (Int32.toNatClampNeg x2)) ≤ (ea_i h (b0 + 12) (Int32.toNatClampNeg x1)) then (0 : Int32) else (1 : Int32))) else (if (ea_i h (b0 + 16) (Int32.toNatClampNeg (((12 : Int32) * x2) + x3))) ≤ (ea_i h (b0 + 16) (Int32.toNatClampNeg (((12 : Int32) * x1) + x3))) then (0 : Int32) else (1 : Int32))) else (if (ea_i h (b0 + 15) (Int32.toNatClampNeg (((12 : Int32) * x2) + x3))) ≤ (ea_i h (b0 + 15) (Int32.toNatClampNeg (((12 : Int32) * x1) + x3))) then (0 : Int32) else (1 : Int32)))
def okX12_isBetter (b0 : Nat) (x1 : Int32) (x2 : Int32) (x3 : Int32) (h : ea_H) : Prop := vp_in (((12 : Int32) * x1) + x3) 12000 ∧ (vp_in (((12 : Int32) * x2) + x3) 12000 ∧ (((ea_i h (b0 + 15) (Int32.toNatClampNeg (((12 : Int32) * x1) + x3))) = (ea_i h (b0 + 15) (Int32.toNatClampNeg (((12 : Int32) * x2) + x3))) → vp_in (((12 : Int32) * x1) + x3) 12000 ∧ (vp_in (((12 : Int32) * x2) + x3) 12000 ∧ (((ea_i h (b0 + 16) (Int32.toNatClampNeg (((12 : Int32) * x1) + x3))) = (ea_i h (b0 + 16) (Int32.toNatClampNeg (((12 : Int32) * x2) + x3))) → vp_in x1 1000 ∧ (vp_in x2 1000 ∧ (((ea_i h (b0 + 12) (Int32.toNatClampNeg x1)) = (ea_i h (b0 + 12) (Int32.toNatClampNeg x2)) → vp_in x1 1000 ∧ (vp_in x2 1000)) ∧ (¬ (ea_i h (b0 + 12) (Int32.toNatClampNeg x1)) = (ea_i h (b0 + 12) (Int32.toNatClampNeg x2)) → vp_in x1 1000 ∧ (vp_in x2 1000))))) ∧ (¬ (ea_i h (b0 + 16) (Int32.toNatClampNeg (((12 : Int32) * x1) + x3))) = (ea_i h (b0 + 16) (Int32.toNatClampNeg (((12 : Int32) * x2) + x3))) → vp_in (((12 : Int32) * x1) + x3) 12000 ∧ (vp_in (((12 : Int32) * x2) + x3) 12000))))) ∧ (¬ (ea_i h (b0 + 15) (Int32.toNatClampNeg (((12 : Int32) * x1) + x3))) = (ea_i h (b0 + 15) (Int32.toNatClampNeg (((12 : Int32) * x2) + x3))) → vp_in (((12 : Int32) * x1) + x3) 12000 ∧ (vp_in (((12 : Int32) * x2) + x3) 12000))))
theorem bo_vX12_isBetter (b0 : Nat) (x1 : Int32) (x2 : Int32) (x3 : Int32) (h : ea_H) : vX12_isBetter b0 x1 x2 x3 h = 0 ∨ vX12_isBetter b0 x1 x2 x3 h = 1 := (ea_itB (ea_itB (ea_itB (ea_itB (Or.inl rfl) (Or.inr rfl)) (ea_itB (Or.inl rfl) (Or.inr rfl))) (ea_itB (Or.inl rfl) (Or.inr rfl))) (ea_itB (Or.inl rfl) (Or.inr rfl)))
theorem sX12_isBetter {d : Nat} {b0 : Nat} {x1 : Int32} {x2 : Int32} {x3 : Int32} {h : ea_H} (hd : 1 ≤ d) (hs : ShM b0 h) (K : okX12_isBetter b0 x1 x2 x3 h) : ea_Met mX12_isBetter d [vR (some (b0 + 0)), vI x1, vI x2, vI x3] h (some (vI (vX12_isBetter b0 x1 x2 x3 h))) h := by
  obtain ⟨X, EX⟩ : ∃ z, z = vX12_isBetter b0 x1 x2 x3 h := ⟨_, rfl⟩
  rw [← EX]
  unfold vX12_isBetter at EX
  unfold okX12_isBetter at K
  refine ea_enter rfl (Nat.le_of_ble_eq_true rfl) ?_
  refine ea_bipush (pc := 0) dX12_isBetter_0 (v := 12) rfl ?_
  refine ea_iload_n (pc := 2) dX12_isBetter_2 rfl 1 rfl ?_
  refine ea_imul (pc := 3) dX12_isBetter_3 ?_
  refine ea_iload_n (pc := 4) dX12_isBetter_4 rfl 3 rfl ?_
  refine ea_iadd (pc := 5) dX12_isBetter_5 ?_
  refine ea_istore (pc := 6) (lv' := [(0, vR (some (b0 + 0))), (1, vI x1), (2, vI x2), (3, vI x3), (4, vI (((12 : Int32) * x1) + x3))]) dX12_isBetter_6 (Nat.le_of_ble_eq_true rfl) [1, 2, 3, 4, 0] rfl ?_
  refine ea_bipush (pc := 8) dX12_isBetter_8 (v := 12) rfl ?_
  refine ea_iload_n (pc := 10) dX12_isBetter_10 rfl 2 rfl ?_
  refine ea_imul (pc := 11) dX12_isBetter_11 ?_
  refine ea_iload_n (pc := 12) dX12_isBetter_12 rfl 3 rfl ?_
  refine ea_iadd (pc := 13) dX12_isBetter_13 ?_
  refine ea_istore (pc := 14) (lv' := [(0, vR (some (b0 + 0))), (1, vI x1), (2, vI x2), (4, vI (((12 : Int32) * x1) + x3)), (5, vI (((12 : Int32) * x2) + x3))]) dX12_isBetter_14 (Nat.le_of_ble_eq_true rfl) [1, 2, 3, 5, 0] rfl ?_
  refine ea_aload_n (pc := 16) dX12_isBetter_16 rfl 0 rfl ?_
  refine ea_getR (pc := 17) dX12_isBetter_17 ec_12 (k := 19) (Nat.le_of_ble_eq_true rfl) rfl (Or.inl ew_1364) (hs.1 0 (by decide)).1 (hs.1 0 (by decide)).2.1 (hs.2 0 19 rfl) ?_
  refine ea_iload (pc := 20) dX12_isBetter_20 3 rfl ?_
  obtain ⟨z1, K⟩ := K
  refine ea_iald (pc := 22) dX12_isBetter_22 (hs.1 15 (by decide)).1 (hs.1 15 (by decide)).2.1 (ea_vpl (hs.1 15 (by decide)).2.2 z1) ?_
  refine ea_aload_n (pc := 23) dX12_isBetter_23 rfl 0 rfl ?_
  refine ea_getR (pc := 24) dX12_isBetter_24 ec_12 (k := 19) (Nat.le_of_ble_eq_true rfl) rfl (Or.inl ew_1364) (hs.1 0 (by decide)).1 (hs.1 0 (by decide)).2.1 (hs.2 0 19 rfl) ?_
  refine ea_iload (pc := 27) dX12_isBetter_27 4 rfl ?_
  obtain ⟨z2, K⟩ := K
  refine ea_iald (pc := 29) dX12_isBetter_29 (hs.1 15 (by decide)).1 (hs.1 15 (by decide)).2.1 (ea_vpl (hs.1 15 (by decide)).2.2 z2) ?_
  refine ea_icmp_eq (pc := 30) (tgt := 56) dX12_isBetter_30 rfl (fun c21 => ?_) (fun c21 => ?_)
  · have EX := EX.trans (if_pos c21)
    have K := K.1 c21
    refine ea_aload_n (pc := 56) dX12_isBetter_56 rfl 0 rfl ?_
    refine ea_getR (pc := 57) dX12_isBetter_57 ec_12 (k := 20) (Nat.le_of_ble_eq_true rfl) rfl (Or.inl ew_1365) (hs.1 0 (by decide)).1 (hs.1 0 (by decide)).2.1 (hs.2 0 20 rfl) ?_
    refine ea_iload (pc := 60) dX12_isBetter_60 3 rfl ?_
    obtain ⟨z3, K⟩ := K
    refine ea_iald (pc := 62) dX12_isBetter_62 (hs.1 16 (by decide)).1 (hs.1 16 (by decide)).2.1 (ea_vpl (hs.1 16 (by decide)).2.2 z3) ?_
    refine ea_aload_n (pc := 63) dX12_isBetter_63 rfl 0 rfl ?_
    refine ea_getR (pc := 64) dX12_isBetter_64 ec_12 (k := 20) (Nat.le_of_ble_eq_true rfl) rfl (Or.inl ew_1365) (hs.1 0 (by decide)).1 (hs.1 0 (by decide)).2.1 (hs.2 0 20 rfl) ?_
    refine ea_iload (pc := 67) dX12_isBetter_67 4 rfl ?_
    obtain ⟨z4, K⟩ := K
    refine ea_iald (pc := 69) dX12_isBetter_69 (hs.1 16 (by decide)).1 (hs.1 16 (by decide)).2.1 (ea_vpl (hs.1 16 (by decide)).2.2 z4) ?_
    refine ea_icmp_eq (pc := 70) (tgt := 96) dX12_isBetter_70 rfl (fun c17 => ?_) (fun c17 => ?_)
    · have EX := EX.trans (if_pos c17)
      have K := K.1 c17
      refine ea_aload_n (pc := 96) dX12_isBetter_96 rfl 0 rfl ?_
      refine ea_getR (pc := 97) dX12_isBetter_97 ec_12 (k := 16) (Nat.le_of_ble_eq_true rfl) rfl (Or.inl ew_1361) (hs.1 0 (by decide)).1 (hs.1 0 (by decide)).2.1 (hs.2 0 16 rfl) ?_
      refine ea_iload_n (pc := 100) dX12_isBetter_100 rfl 1 rfl ?_
      obtain ⟨z5, K⟩ := K
      refine ea_iald (pc := 101) dX12_isBetter_101 (hs.1 12 (by decide)).1 (hs.1 12 (by decide)).2.1 (ea_vpl (hs.1 12 (by decide)).2.2 z5) ?_
      refine ea_aload_n (pc := 102) dX12_isBetter_102 rfl 0 rfl ?_
      refine ea_getR (pc := 103) dX12_isBetter_103 ec_12 (k := 16) (Nat.le_of_ble_eq_true rfl) rfl (Or.inl ew_1361) (hs.1 0 (by decide)).1 (hs.1 0 (by decide)).2.1 (hs.2 0 16 rfl) ?_
      refine ea_iload_n (pc := 106) dX12_isBetter_106 rfl 2 rfl ?_
      obtain ⟨z6, K⟩ := K
      refine ea_iald (pc := 107) dX12_isBetter_107 (hs.1 12 (by decide)).1 (hs.1 12 (by decide)).2.1 (ea_vpl (hs.1 12 (by decide)).2.2 z6) ?_
      refine ea_icmp_eq (pc := 108) (tgt := 132) dX12_isBetter_108 rfl (fun c13 => ?_) (fun c13 => ?_)
      · have EX := EX.trans (if_pos c13)
        have K := K.1 c13
        refine ea_aload_n (pc := 132) dX12_isBetter_132 rfl 0 rfl ?_
        refine ea_getR (pc := 133) dX12_isBetter_133 ec_12 (k := 17) (Nat.le_of_ble_eq_true rfl) rfl (Or.inl ew_1362) (hs.1 0 (by decide)).1 (hs.1 0 (by decide)).2.1 (hs.2 0 17 rfl) ?_
        refine ea_iload_n (pc := 136) dX12_isBetter_136 rfl 1 rfl ?_
        obtain ⟨z7, K⟩ := K
        refine ea_iald (pc := 137) dX12_isBetter_137 (hs.1 13 (by decide)).1 (hs.1 13 (by decide)).2.1 (ea_vpl (hs.1 13 (by decide)).2.2 z7) ?_
        refine ea_aload_n (pc := 138) dX12_isBetter_138 rfl 0 rfl ?_
        refine ea_getR (pc := 139) dX12_isBetter_139 ec_12 (k := 17) (Nat.le_of_ble_eq_true rfl) rfl (Or.inl ew_1362) (hs.1 0 (by decide)).1 (hs.1 0 (by decide)).2.1 (hs.2 0 17 rfl) ?_
        refine ea_iload_n (pc := 142) dX12_isBetter_142 rfl 2 rfl ?_
        have z8 := K
        refine ea_iald (pc := 143) dX12_isBetter_143 (hs.1 13 (by decide)).1 (hs.1 13 (by decide)).2.1 (ea_vpl (hs.1 13 (by decide)).2.2 z8) ?_
        refine ea_icmp_ge (pc := 144) (tgt := 151) dX12_isBetter_144 rfl (fun c9 => ?_) (fun c9 => ?_)
        · have EX := EX.trans (if_pos c9)
          refine ea_iconst (pc := 151) dX12_isBetter_151 (v := 0) rfl ?_
          exact ea_iretE (pc := 152) dX12_isBetter_152 rfl (ea_bn (Or.inl rfl)) EX rfl
        · have EX := EX.trans (if_neg c9)
          refine ea_iconst (pc := 147) dX12_isBetter_147 (v := 1) rfl ?_
          refine ea_goto (pc := 148) (tgt := 152) dX12_isBetter_148 rfl ?_
          exact ea_iretE (pc := 152) dX12_isBetter_152 rfl (ea_bn (Or.inr rfl)) EX rfl
      · have EX := EX.trans (if_neg c13)
        have K := K.2 c13
        refine ea_aload_n (pc := 111) dX12_isBetter_111 rfl 0 rfl ?_
        refine ea_getR (pc := 112) dX12_isBetter_112 ec_12 (k := 16) (Nat.le_of_ble_eq_true rfl) rfl (Or.inl ew_1361) (hs.1 0 (by decide)).1 (hs.1 0 (by decide)).2.1 (hs.2 0 16 rfl) ?_
        refine ea_iload_n (pc := 115) dX12_isBetter_115 rfl 1 rfl ?_
        obtain ⟨z10, K⟩ := K
        refine ea_iald (pc := 116) dX12_isBetter_116 (hs.1 12 (by decide)).1 (hs.1 12 (by decide)).2.1 (ea_vpl (hs.1 12 (by decide)).2.2 z10) ?_
        refine ea_aload_n (pc := 117) dX12_isBetter_117 rfl 0 rfl ?_
        refine ea_getR (pc := 118) dX12_isBetter_118 ec_12 (k := 16) (Nat.le_of_ble_eq_true rfl) rfl (Or.inl ew_1361) (hs.1 0 (by decide)).1 (hs.1 0 (by decide)).2.1 (hs.2 0 16 rfl) ?_
        refine ea_iload_n (pc := 121) dX12_isBetter_121 rfl 2 rfl ?_
        have z11 := K
        refine ea_iald (pc := 122) dX12_isBetter_122 (hs.1 12 (by decide)).1 (hs.1 12 (by decide)).2.1 (ea_vpl (hs.1 12 (by decide)).2.2 z11) ?_
        refine ea_icmp_ge (pc := 123) (tgt := 130) dX12_isBetter_123 rfl (fun c12 => ?_) (fun c12 => ?_)
        · have EX := EX.trans (if_pos c12)
          refine ea_iconst (pc := 130) dX12_isBetter_130 (v := 0) rfl ?_
          exact ea_iretE (pc := 131) dX12_isBetter_131 rfl (ea_bn (Or.inl rfl)) EX rfl
        · have EX := EX.trans (if_neg c12)
          refine ea_iconst (pc := 126) dX12_isBetter_126 (v := 1) rfl ?_
          refine ea_goto (pc := 127) (tgt := 131) dX12_isBetter_127 rfl ?_
          exact ea_iretE (pc := 131) dX12_isBetter_131 rfl (ea_bn (Or.inr rfl)) EX rfl
    · have EX := EX.trans (if_neg c17)
      have K := K.2 c17
      refine ea_aload_n (pc := 73) dX12_isBetter_73 rfl 0 rfl ?_
      refine ea_getR (pc := 74) dX12_isBetter_74 ec_12 (k := 20) (Nat.le_of_ble_eq_true rfl) rfl (Or.inl ew_1365) (hs.1 0 (by decide)).1 (hs.1 0 (by decide)).2.1 (hs.2 0 20 rfl) ?_
      refine ea_iload (pc := 77) dX12_isBetter_77 3 rfl ?_
      obtain ⟨z14, K⟩ := K
      refine ea_iald (pc := 79) dX12_isBetter_79 (hs.1 16 (by decide)).1 (hs.1 16 (by decide)).2.1 (ea_vpl (hs.1 16 (by decide)).2.2 z14) ?_
      refine ea_aload_n (pc := 80) dX12_isBetter_80 rfl 0 rfl ?_
      refine ea_getR (pc := 81) dX12_isBetter_81 ec_12 (k := 20) (Nat.le_of_ble_eq_true rfl) rfl (Or.inl ew_1365) (hs.1 0 (by decide)).1 (hs.1 0 (by decide)).2.1 (hs.2 0 20 rfl) ?_
      refine ea_iload (pc := 84) dX12_isBetter_84 4 rfl ?_
      have z15 := K
      refine ea_iald (pc := 86) dX12_isBetter_86 (hs.1 16 (by decide)).1 (hs.1 16 (by decide)).2.1 (ea_vpl (hs.1 16 (by decide)).2.2 z15) ?_
      refine ea_icmp_ge (pc := 87) (tgt := 94) dX12_isBetter_87 rfl (fun c16 => ?_) (fun c16 => ?_)
      · have EX := EX.trans (if_pos c16)
        refine ea_iconst (pc := 94) dX12_isBetter_94 (v := 0) rfl ?_
        exact ea_iretE (pc := 95) dX12_isBetter_95 rfl (ea_bn (Or.inl rfl)) EX rfl
      · have EX := EX.trans (if_neg c16)
        refine ea_iconst (pc := 90) dX12_isBetter_90 (v := 1) rfl ?_
        refine ea_goto (pc := 91) (tgt := 95) dX12_isBetter_91 rfl ?_
        exact ea_iretE (pc := 95) dX12_isBetter_95 rfl (ea_bn (Or.inr rfl)) EX rfl
  · have EX := EX.trans (if_neg c21)
    have K := K.2 c21
    refine ea_aload_n (pc := 33) dX12_isBetter_33 rfl 0 rfl ?_
    refine ea_getR (pc := 34) dX12_isBetter_34 ec_12 (k := 19) (Nat.le_of_ble_eq_true rfl) rfl (Or.inl ew_1364) (hs.1 0 (by decide)).1 (hs.1 0 (by decide)).2.1 (hs.2 0 19 rfl) ?_
    refine ea_iload (pc := 37) dX12_isBetter_37 3 rfl ?_
    obtain ⟨z18, K⟩ := K
    refine ea_iald (pc := 39) dX12_isBetter_39 (hs.1 15 (by decide)).1 (hs.1 15 (by decide)).2.1 (ea_vpl (hs.1 15 (by decide)).2.2 z18) ?_
    refine ea_aload_n (pc := 40) dX12_isBetter_40 rfl 0 rfl ?_
    refine ea_getR (pc := 41) dX12_isBetter_41 ec_12 (k := 19) (Nat.le_of_ble_eq_true rfl) rfl (Or.inl ew_1364) (hs.1 0 (by decide)).1 (hs.1 0 (by decide)).2.1 (hs.2 0 19 rfl) ?_
    refine ea_iload (pc := 44) dX12_isBetter_44 4 rfl ?_
    have z19 := K
    refine ea_iald (pc := 46) dX12_isBetter_46 (hs.1 15 (by decide)).1 (hs.1 15 (by decide)).2.1 (ea_vpl (hs.1 15 (by decide)).2.2 z19) ?_
    refine ea_icmp_ge (pc := 47) (tgt := 54) dX12_isBetter_47 rfl (fun c20 => ?_) (fun c20 => ?_)
    · have EX := EX.trans (if_pos c20)
      refine ea_iconst (pc := 54) dX12_isBetter_54 (v := 0) rfl ?_
      exact ea_iretE (pc := 55) dX12_isBetter_55 rfl (ea_bn (Or.inl rfl)) EX rfl
    · have EX := EX.trans (if_neg c20)
      refine ea_iconst (pc := 50) dX12_isBetter_50 (v := 1) rfl ?_
      refine ea_goto (pc := 51) (tgt := 55) dX12_isBetter_51 rfl ?_
      exact ea_iretE (pc := 55) dX12_isBetter_55 rfl (ea_bn (Or.inr rfl)) EX rfl
noncomputable def vX12_end (b0 : Nat) (x1 : Int32) (h : ea_H) : Int32 := (if (vX12_isIn (x1 : Int32) (0 : Int32) ((ea_i h (b0 + 0) 52) : Int32) h) = (0 : Int32) then (0 : Int32) else (1 : Int32))
noncomputable def wX12_end (b0 : Nat) (x1 : Int32) (h : ea_H) : ea_H := (if (vX12_isIn (x1 : Int32) (0 : Int32) ((ea_i h (b0 + 0) 52) : Int32) h) = (0 : Int32) then h else (ea_wi h (b0 + 0) 52 x1))
theorem bo_vX12_end (b0 : Nat) (x1 : Int32) (h : ea_H) : vX12_end b0 x1 h = 0 ∨ vX12_end b0 x1 h = 1 := (ea_itB (Or.inl rfl) (Or.inr rfl))
theorem shX12_end {b0 : Nat} {x1 : Int32} {h : ea_H} (hs : ShM b0 h) : ShM b0 (wX12_end b0 x1 h) := (ShM_it hs (ShM_wi hs))
theorem sX12_end {d : Nat} {b0 : Nat} {x1 : Int32} {h : ea_H} (hd : 2 ≤ d) (hs : ShM b0 h) : ea_Met mX12_end d [vR (some (b0 + 0)), vI x1] h (some (vI (vX12_end b0 x1 h))) (wX12_end b0 x1 h) := by
  obtain ⟨X, EX⟩ : ∃ z, z = vX12_end b0 x1 h := ⟨_, rfl⟩
  rw [← EX]
  unfold vX12_end at EX
  obtain ⟨Y, EY⟩ : ∃ z, z = wX12_end b0 x1 h := ⟨_, rfl⟩
  rw [← EY]
  unfold wX12_end at EY
  refine ea_enter rfl (Nat.le_of_ble_eq_true rfl) ?_
  refine ea_iload_n (pc := 0) dX12_end_0 rfl 1 rfl ?_
  refine ea_iconst (pc := 1) dX12_end_1 (v := 0) rfl ?_
  refine ea_aload_n (pc := 2) dX12_end_2 rfl 0 rfl ?_
  refine ea_getI (pc := 3) dX12_end_3 ec_12 (k := 52) (Nat.le_of_ble_eq_true rfl) rfl (Or.inl ew_1397) (hs.1 0 (by decide)).1 (hs.1 0 (by decide)).2.1 ?_
  refine ea_callS (pc := 6) (d' := d - 1) (As := [vI x1, vI 0, vI (ea_i h (b0 + 0) 52)]) (st := []) dX12_end_6 kX12_isIn (sX12_isIn (d := d - 1) (by omega)) (by omega) rfl (Nat.le_of_ble_eq_true rfl) ew_1712 ew_1713 ?_
  refine ea_if_ne (pc := 9) (tgt := 14) dX12_end_9 rfl (fun c3 => ?_) (fun c3 => ?_)
  · have EX := EX.trans (if_neg c3)
    have EY := EY.trans (if_neg c3)
    refine ea_aload_n (pc := 14) dX12_end_14 rfl 0 rfl ?_
    refine ea_iload_n (pc := 15) dX12_end_15 rfl 1 rfl ?_
    refine ea_putI (pc := 16) dX12_end_16 ec_12 (k := 52) (Nat.le_of_ble_eq_true rfl) rfl (Or.inl ⟨rfl, Or.inl ew_1397⟩) rfl rfl (hs.1 0 (by decide)).1 (hs.1 0 (by decide)).2.1 ?_
    have hs2 : ShM b0 (ea_wi h (b0 + 0) 52 x1) := ShM_wi hs
    refine ea_iconst (pc := 19) dX12_end_19 (v := 1) rfl ?_
    exact ea_iretE (pc := 20) dX12_end_20 rfl (ea_bn (Or.inr rfl)) EX EY
  · have EX := EX.trans (if_pos c3)
    have EY := EY.trans (if_pos c3)
    refine ea_iconst (pc := 12) dX12_end_12 (v := 0) rfl ?_
    exact ea_iretE (pc := 13) dX12_end_13 rfl (ea_bn (Or.inl rfl)) EX EY
noncomputable def vX12_see (b0 : Nat) (x1 : Int32) (h : ea_H) : Int32 := (if (ea_i h (b0 + 0) 52) ≤ x1 then ((-1) : Int32) else (ea_i h (b0 + 36) (Int32.toNatClampNeg x1)))
def okX12_see (b0 : Nat) (x1 : Int32) (h : ea_H) : Prop := ((ea_i h (b0 + 0) 52) ≤ x1 → True) ∧ (¬ (ea_i h (b0 + 0) 52) ≤ x1 → vp_in x1 600)
theorem sX12_see {d : Nat} {b0 : Nat} {x1 : Int32} {h : ea_H} (hd : 1 ≤ d) (hs : ShM b0 h) (K : okX12_see b0 x1 h) : ea_Met mX12_see d [vR (some (b0 + 0)), vI x1] h (some (vI (vX12_see b0 x1 h))) h := by
  obtain ⟨X, EX⟩ : ∃ z, z = vX12_see b0 x1 h := ⟨_, rfl⟩
  rw [← EX]
  unfold vX12_see at EX
  unfold okX12_see at K
  refine ea_enter rfl (Nat.le_of_ble_eq_true rfl) ?_
  refine ea_iload_n (pc := 0) dX12_see_0 rfl 1 rfl ?_
  refine ea_aload_n (pc := 1) dX12_see_1 rfl 0 rfl ?_
  refine ea_getI (pc := 2) dX12_see_2 ec_12 (k := 52) (Nat.le_of_ble_eq_true rfl) rfl (Or.inl ew_1397) (hs.1 0 (by decide)).1 (hs.1 0 (by decide)).2.1 ?_
  refine ea_icmp_ge (pc := 5) (tgt := 17) dX12_see_5 rfl (fun c2 => ?_) (fun c2 => ?_)
  · have EX := EX.trans (if_pos c2)
    refine ea_iconst (pc := 17) dX12_see_17 (v := (-1)) rfl ?_
    exact ea_iretE (pc := 18) dX12_see_18 rfl rfl EX rfl
  · have EX := EX.trans (if_neg c2)
    have K := K.2 c2
    refine ea_aload_n (pc := 8) dX12_see_8 rfl 0 rfl ?_
    refine ea_getR (pc := 9) dX12_see_9 ec_12 (k := 41) (Nat.le_of_ble_eq_true rfl) rfl (Or.inl ew_1386) (hs.1 0 (by decide)).1 (hs.1 0 (by decide)).2.1 (hs.2 0 41 rfl) ?_
    refine ea_iload_n (pc := 12) dX12_see_12 rfl 1 rfl ?_
    have z1 := K
    refine ea_iald (pc := 13) dX12_see_13 (hs.1 36 (by decide)).1 (hs.1 36 (by decide)).2.1 (ea_vpl (hs.1 36 (by decide)).2.2 z1) ?_
    refine ea_goto (pc := 14) (tgt := 18) dX12_see_14 rfl ?_
    exact ea_iretE (pc := 18) dX12_see_18 rfl rfl EX rfl
noncomputable def vX12_isLetter (x0 : Int32) (h : ea_H) : Int32 := (if (vX12_isIn (x0 : Int32) (97 : Int32) (122 : Int32) h) = (0 : Int32) then (if (vX12_isIn (x0 : Int32) (65 : Int32) (90 : Int32) h) = (0 : Int32) then (0 : Int32) else (1 : Int32)) else (1 : Int32))
theorem bo_vX12_isLetter (x0 : Int32) (h : ea_H) : vX12_isLetter x0 h = 0 ∨ vX12_isLetter x0 h = 1 := (ea_itB (ea_itB (Or.inl rfl) (Or.inr rfl)) (Or.inr rfl))
theorem sX12_isLetter {d : Nat} {x0 : Int32} {h : ea_H} (hd : 2 ≤ d) : ea_Met mX12_isLetter d [vI x0] h (some (vI (vX12_isLetter x0 h))) h := by
  obtain ⟨X, EX⟩ : ∃ z, z = vX12_isLetter x0 h := ⟨_, rfl⟩
  rw [← EX]
  unfold vX12_isLetter at EX
  refine ea_enter rfl (Nat.le_of_ble_eq_true rfl) ?_
  refine ea_iload_n (pc := 0) dX12_isLetter_0 rfl 0 rfl ?_
  refine ea_bipush (pc := 1) dX12_isLetter_1 (v := 97) rfl ?_
  refine ea_bipush (pc := 3) dX12_isLetter_3 (v := 122) rfl ?_
  refine ea_callS (pc := 5) (d' := d - 1) (As := [vI x0, vI 97, vI 122]) (st := []) dX12_isLetter_5 kX12_isIn (sX12_isIn (d := d - 1) (by omega)) (by omega) rfl (Nat.le_of_ble_eq_true rfl) ew_1712 ew_1713 ?_
  refine ea_if_ne (pc := 8) (tgt := 22) dX12_isLetter_8 rfl (fun c4 => ?_) (fun c4 => ?_)
  · have EX := EX.trans (if_neg c4)
    refine ea_iconst (pc := 22) dX12_isLetter_22 (v := 1) rfl ?_
    refine ea_goto (pc := 23) (tgt := 27) dX12_isLetter_23 rfl ?_
    exact ea_iretE (pc := 27) dX12_isLetter_27 rfl (ea_bn (Or.inr rfl)) EX rfl
  · have EX := EX.trans (if_pos c4)
    refine ea_iload_n (pc := 11) dX12_isLetter_11 rfl 0 rfl ?_
    refine ea_bipush (pc := 12) dX12_isLetter_12 (v := 65) rfl ?_
    refine ea_bipush (pc := 14) dX12_isLetter_14 (v := 90) rfl ?_
    refine ea_callS (pc := 16) (d' := d - 1) (As := [vI x0, vI 65, vI 90]) (st := []) dX12_isLetter_16 kX12_isIn (sX12_isIn (d := d - 1) (by omega)) (by omega) rfl (Nat.le_of_ble_eq_true rfl) ew_1712 ew_1713 ?_
    refine ea_if_eq (pc := 19) (tgt := 26) dX12_isLetter_19 rfl (fun c3 => ?_) (fun c3 => ?_)
    · have EX := EX.trans (if_pos c3)
      refine ea_iconst (pc := 26) dX12_isLetter_26 (v := 0) rfl ?_
      exact ea_iretE (pc := 27) dX12_isLetter_27 rfl (ea_bn (Or.inl rfl)) EX rfl
    · have EX := EX.trans (if_neg c3)
      refine ea_iconst (pc := 22) dX12_isLetter_22 (v := 1) rfl ?_
      refine ea_goto (pc := 23) (tgt := 27) dX12_isLetter_23 rfl ?_
      exact ea_iretE (pc := 27) dX12_isLetter_27 rfl (ea_bn (Or.inr rfl)) EX rfl
noncomputable def vX12_isDigit (x0 : Int32) (h : ea_H) : Int32 := (vX12_isIn (x0 : Int32) (48 : Int32) (57 : Int32) h)
theorem bo_vX12_isDigit (x0 : Int32) (h : ea_H) : vX12_isDigit x0 h = 0 ∨ vX12_isDigit x0 h = 1 := (bo_vX12_isIn _ _ _ _)
theorem sX12_isDigit {d : Nat} {x0 : Int32} {h : ea_H} (hd : 2 ≤ d) : ea_Met mX12_isDigit d [vI x0] h (some (vI (vX12_isDigit x0 h))) h := by
  obtain ⟨X, EX⟩ : ∃ z, z = vX12_isDigit x0 h := ⟨_, rfl⟩
  rw [← EX]
  unfold vX12_isDigit at EX
  refine ea_enter rfl (Nat.le_of_ble_eq_true rfl) ?_
  refine ea_iload_n (pc := 0) dX12_isDigit_0 rfl 0 rfl ?_
  refine ea_bipush (pc := 1) dX12_isDigit_1 (v := 48) rfl ?_
  refine ea_bipush (pc := 3) dX12_isDigit_3 (v := 57) rfl ?_
  refine ea_callS (pc := 5) (d' := d - 1) (As := [vI x0, vI 48, vI 57]) (st := []) dX12_isDigit_5 kX12_isIn (sX12_isIn (d := d - 1) (by omega)) (by omega) rfl (Nat.le_of_ble_eq_true rfl) ew_1712 ew_1713 ?_
  exact ea_iretE (pc := 8) dX12_isDigit_8 rfl (ea_bn (bo_vX12_isIn ..)) EX rfl
noncomputable def vX12_bad (b0 : Nat) (x1 : Int32) (h : ea_H) : Int32 := (0 : Int32)
noncomputable def wX12_bad (b0 : Nat) (x1 : Int32) (h : ea_H) : ea_H := (ea_wi (ea_wi h (b0 + 0) 57 x1) (b0 + 0) 58 (ea_i (ea_wi h (b0 + 0) 57 x1) (b0 + 0) 55))
theorem bo_vX12_bad (b0 : Nat) (x1 : Int32) (h : ea_H) : vX12_bad b0 x1 h = 0 ∨ vX12_bad b0 x1 h = 1 := (Or.inl rfl)
theorem shX12_bad {b0 : Nat} {x1 : Int32} {h : ea_H} (hs : ShM b0 h) : ShM b0 (wX12_bad b0 x1 h) := (ShM_wi (ShM_wi hs))
theorem sX12_bad {d : Nat} {b0 : Nat} {x1 : Int32} {h : ea_H} (hd : 1 ≤ d) (hs : ShM b0 h) : ea_Met mX12_bad d [vR (some (b0 + 0)), vI x1] h (some (vI (vX12_bad b0 x1 h))) (wX12_bad b0 x1 h) := by
  obtain ⟨X, EX⟩ : ∃ z, z = vX12_bad b0 x1 h := ⟨_, rfl⟩
  rw [← EX]
  unfold vX12_bad at EX
  obtain ⟨Y, EY⟩ : ∃ z, z = wX12_bad b0 x1 h := ⟨_, rfl⟩
  rw [← EY]
  unfold wX12_bad at EY
  refine ea_enter rfl (Nat.le_of_ble_eq_true rfl) ?_
  refine ea_aload_n (pc := 0) dX12_bad_0 rfl 0 rfl ?_
  refine ea_iload_n (pc := 1) dX12_bad_1 rfl 1 rfl ?_
  refine ea_putI (pc := 2) dX12_bad_2 ec_12 (k := 57) (Nat.le_of_ble_eq_true rfl) rfl (Or.inl ⟨rfl, Or.inl ew_1402⟩) rfl rfl (hs.1 0 (by decide)).1 (hs.1 0 (by decide)).2.1 ?_
  have hs1 : ShM b0 (ea_wi h (b0 + 0) 57 x1) := ShM_wi hs
  refine ea_aload_n (pc := 5) dX12_bad_5 rfl 0 rfl ?_
  refine ea_aload_n (pc := 6) dX12_bad_6 rfl 0 rfl ?_
  refine ea_getI (pc := 7) dX12_bad_7 ec_12 (k := 55) (Nat.le_of_ble_eq_true rfl) rfl (Or.inl ew_1400) (hs1.1 0 (by decide)).1 (hs1.1 0 (by decide)).2.1 ?_
  refine ea_putI (pc := 10) dX12_bad_10 ec_12 (k := 58) (Nat.le_of_ble_eq_true rfl) rfl (Or.inl ⟨rfl, Or.inl ew_1403⟩) rfl rfl (hs1.1 0 (by decide)).1 (hs1.1 0 (by decide)).2.1 ?_
  have hs2 : ShM b0 (ea_wi (ea_wi h (b0 + 0) 57 x1) (b0 + 0) 58 (ea_i (ea_wi h (b0 + 0) 57 x1) (b0 + 0) 55)) := ShM_wi hs1
  refine ea_iconst (pc := 13) dX12_bad_13 (v := 0) rfl ?_
  exact ea_iretE (pc := 14) dX12_bad_14 rfl (ea_bn (Or.inl rfl)) EX EY
noncomputable def wX12_lay (b0 : Nat) (x1 : Int32) (x2 : Int32) (h : ea_H) : ea_H := (ea_wi (ea_wi (ea_wi h (b0 + 35) (Int32.toNatClampNeg ((2 : Int32) * (ea_i h (b0 + 0) 45))) x1) (b0 + 35) (Int32.toNatClampNeg (((2 : Int32) * (ea_i (ea_wi h (b0 + 35) (Int32.toNatClampNeg ((2 : Int32) * (ea_i h (b0 + 0) 45))) x1) (b0 + 0) 45)) + (1 : Int32))) x2) (b0 + 0) 45 ((ea_i (ea_wi (ea_wi h (b0 + 35) (Int32.toNatClampNeg ((2 : Int32) * (ea_i h (b0 + 0) 45))) x1) (b0 + 35) (Int32.toNatClampNeg (((2 : Int32) * (ea_i (ea_wi h (b0 + 35) (Int32.toNatClampNeg ((2 : Int32) * (ea_i h (b0 + 0) 45))) x1) (b0 + 0) 45)) + (1 : Int32))) x2) (b0 + 0) 45) + (1 : Int32)))
def okX12_lay (b0 : Nat) (x1 : Int32) (x2 : Int32) (h : ea_H) : Prop := vp_in ((2 : Int32) * (ea_i h (b0 + 0) 45)) 1220 ∧ (vp_in (((2 : Int32) * (ea_i (ea_wi h (b0 + 35) (Int32.toNatClampNeg ((2 : Int32) * (ea_i h (b0 + 0) 45))) x1) (b0 + 0) 45)) + (1 : Int32)) 1220)
theorem shX12_lay {b0 : Nat} {x1 : Int32} {x2 : Int32} {h : ea_H} (hs : ShM b0 h) : ShM b0 (wX12_lay b0 x1 x2 h) := (ShM_wi (ShM_wi (ShM_wi hs)))
theorem sX12_lay {d : Nat} {b0 : Nat} {x1 : Int32} {x2 : Int32} {h : ea_H} (hd : 1 ≤ d) (hs : ShM b0 h) (K : okX12_lay b0 x1 x2 h) : ea_Met mX12_lay d [vR (some (b0 + 0)), vI x1, vI x2] h none (wX12_lay b0 x1 x2 h) := by
  obtain ⟨Y, EY⟩ : ∃ z, z = wX12_lay b0 x1 x2 h := ⟨_, rfl⟩
  rw [← EY]
  unfold wX12_lay at EY
  unfold okX12_lay at K
  refine ea_enter rfl (Nat.le_of_ble_eq_true rfl) ?_
  refine ea_aload_n (pc := 0) dX12_lay_0 rfl 0 rfl ?_
  refine ea_getR (pc := 1) dX12_lay_1 ec_12 (k := 40) (Nat.le_of_ble_eq_true rfl) rfl (Or.inl ew_1385) (hs.1 0 (by decide)).1 (hs.1 0 (by decide)).2.1 (hs.2 0 40 rfl) ?_
  refine ea_iconst (pc := 4) dX12_lay_4 (v := 2) rfl ?_
  refine ea_aload_n (pc := 5) dX12_lay_5 rfl 0 rfl ?_
  refine ea_getI (pc := 6) dX12_lay_6 ec_12 (k := 45) (Nat.le_of_ble_eq_true rfl) rfl (Or.inl ew_1390) (hs.1 0 (by decide)).1 (hs.1 0 (by decide)).2.1 ?_
  refine ea_imul (pc := 9) dX12_lay_9 ?_
  refine ea_iload_n (pc := 10) dX12_lay_10 rfl 1 rfl ?_
  obtain ⟨z1, K⟩ := K
  refine ea_iast (pc := 11) dX12_lay_11 (hs.1 35 (by decide)).1 (hs.1 35 (by decide)).2.1 (ea_vpl (hs.1 35 (by decide)).2.2 z1) ?_
  have hs2 : ShM b0 (ea_wi h (b0 + 35) (Int32.toNatClampNeg ((2 : Int32) * (ea_i h (b0 + 0) 45))) x1) := ShM_wi hs
  refine ea_aload_n (pc := 12) dX12_lay_12 rfl 0 rfl ?_
  refine ea_getR (pc := 13) dX12_lay_13 ec_12 (k := 40) (Nat.le_of_ble_eq_true rfl) rfl (Or.inl ew_1385) (hs2.1 0 (by decide)).1 (hs2.1 0 (by decide)).2.1 (hs2.2 0 40 rfl) ?_
  refine ea_iconst (pc := 16) dX12_lay_16 (v := 2) rfl ?_
  refine ea_aload_n (pc := 17) dX12_lay_17 rfl 0 rfl ?_
  refine ea_getI (pc := 18) dX12_lay_18 ec_12 (k := 45) (Nat.le_of_ble_eq_true rfl) rfl (Or.inl ew_1390) (hs2.1 0 (by decide)).1 (hs2.1 0 (by decide)).2.1 ?_
  refine ea_imul (pc := 21) dX12_lay_21 ?_
  refine ea_iconst (pc := 22) dX12_lay_22 (v := 1) rfl ?_
  refine ea_iadd (pc := 23) dX12_lay_23 ?_
  refine ea_iload_n (pc := 24) dX12_lay_24 rfl 2 rfl ?_
  have z3 := K
  refine ea_iast (pc := 25) dX12_lay_25 (hs2.1 35 (by decide)).1 (hs2.1 35 (by decide)).2.1 (ea_vpl (hs2.1 35 (by decide)).2.2 z3) ?_
  have hs4 : ShM b0 (ea_wi (ea_wi h (b0 + 35) (Int32.toNatClampNeg ((2 : Int32) * (ea_i h (b0 + 0) 45))) x1) (b0 + 35) (Int32.toNatClampNeg (((2 : Int32) * (ea_i (ea_wi h (b0 + 35) (Int32.toNatClampNeg ((2 : Int32) * (ea_i h (b0 + 0) 45))) x1) (b0 + 0) 45)) + (1 : Int32))) x2) := ShM_wi hs2
  refine ea_aload_n (pc := 26) dX12_lay_26 rfl 0 rfl ?_
  refine ea_dup (pc := 27) dX12_lay_27 rfl ?_
  refine ea_getI (pc := 28) dX12_lay_28 ec_12 (k := 45) (Nat.le_of_ble_eq_true rfl) rfl (Or.inl ew_1390) (hs4.1 0 (by decide)).1 (hs4.1 0 (by decide)).2.1 ?_
  refine ea_iconst (pc := 31) dX12_lay_31 (v := 1) rfl ?_
  refine ea_iadd (pc := 32) dX12_lay_32 ?_
  refine ea_putI (pc := 33) dX12_lay_33 ec_12 (k := 45) (Nat.le_of_ble_eq_true rfl) rfl (Or.inl ⟨rfl, Or.inl ew_1390⟩) rfl rfl (hs4.1 0 (by decide)).1 (hs4.1 0 (by decide)).2.1 ?_
  have hs5 : ShM b0 (ea_wi (ea_wi (ea_wi h (b0 + 35) (Int32.toNatClampNeg ((2 : Int32) * (ea_i h (b0 + 0) 45))) x1) (b0 + 35) (Int32.toNatClampNeg (((2 : Int32) * (ea_i (ea_wi h (b0 + 35) (Int32.toNatClampNeg ((2 : Int32) * (ea_i h (b0 + 0) 45))) x1) (b0 + 0) 45)) + (1 : Int32))) x2) (b0 + 0) 45 ((ea_i (ea_wi (ea_wi h (b0 + 35) (Int32.toNatClampNeg ((2 : Int32) * (ea_i h (b0 + 0) 45))) x1) (b0 + 35) (Int32.toNatClampNeg (((2 : Int32) * (ea_i (ea_wi h (b0 + 35) (Int32.toNatClampNeg ((2 : Int32) * (ea_i h (b0 + 0) 45))) x1) (b0 + 0) 45)) + (1 : Int32))) x2) (b0 + 0) 45) + (1 : Int32))) := ShM_wi hs4
  exact ea_vretE (pc := 36) dX12_lay_36 rfl EY
noncomputable def vX12_fault (b0 : Nat) (x1 : Int32) (h : ea_H) : Int32 := (if x1 = (0 : Int32) then (ea_i h (b0 + 0) 59) else (if x1 = (1 : Int32) then (ea_i h (b0 + 0) 62) else ((-1) : Int32)))
theorem sX12_fault {d : Nat} {b0 : Nat} {x1 : Int32} {h : ea_H} (hd : 1 ≤ d) (hs : ShM b0 h) : ea_Met mX12_fault d [vR (some (b0 + 0)), vI x1] h (some (vI (vX12_fault b0 x1 h))) h := by
  obtain ⟨X, EX⟩ : ∃ z, z = vX12_fault b0 x1 h := ⟨_, rfl⟩
  rw [← EX]
  unfold vX12_fault at EX
  refine ea_enter rfl (Nat.le_of_ble_eq_true rfl) ?_
  refine ea_iload_n (pc := 0) dX12_fault_0 rfl 1 rfl ?_
  refine ea_if_ne (pc := 1) (tgt := 11) dX12_fault_1 rfl (fun c2 => ?_) (fun c2 => ?_)
  · have EX := EX.trans (if_neg c2)
    refine ea_iload_n (pc := 11) dX12_fault_11 rfl 1 rfl ?_
    refine ea_iconst (pc := 12) dX12_fault_12 (v := 1) rfl ?_
    refine ea_icmp_ne (pc := 13) (tgt := 23) dX12_fault_13 rfl (fun c1 => ?_) (fun c1 => ?_)
    · have EX := EX.trans (if_neg c1)
      refine ea_iconst (pc := 23) dX12_fault_23 (v := (-1)) rfl ?_
      exact ea_iretE (pc := 24) dX12_fault_24 rfl rfl EX rfl
    · have EX := EX.trans (if_pos c1)
      refine ea_aload_n (pc := 16) dX12_fault_16 rfl 0 rfl ?_
      refine ea_getI (pc := 17) dX12_fault_17 ec_12 (k := 62) (Nat.le_of_ble_eq_true rfl) rfl (Or.inl ew_1407) (hs.1 0 (by decide)).1 (hs.1 0 (by decide)).2.1 ?_
      refine ea_goto (pc := 20) (tgt := 24) dX12_fault_20 rfl ?_
      exact ea_iretE (pc := 24) dX12_fault_24 rfl rfl EX rfl
  · have EX := EX.trans (if_pos c2)
    refine ea_aload_n (pc := 4) dX12_fault_4 rfl 0 rfl ?_
    refine ea_getI (pc := 5) dX12_fault_5 ec_12 (k := 59) (Nat.le_of_ble_eq_true rfl) rfl (Or.inl ew_1404) (hs.1 0 (by decide)).1 (hs.1 0 (by decide)).2.1 ?_
    refine ea_goto (pc := 8) (tgt := 24) dX12_fault_8 rfl ?_
    exact ea_iretE (pc := 24) dX12_fault_24 rfl rfl EX rfl
noncomputable def vX12_isLetterOf (b0 : Nat) (x1 : Int32) (h : ea_H) : Int32 := (vX12_isIn (x1 : Int32) (0 : Int32) (((ea_i h (b0 + 0) 63) - (1 : Int32)) : Int32) h)
theorem bo_vX12_isLetterOf (b0 : Nat) (x1 : Int32) (h : ea_H) : vX12_isLetterOf b0 x1 h = 0 ∨ vX12_isLetterOf b0 x1 h = 1 := (bo_vX12_isIn _ _ _ _)
theorem sX12_isLetterOf {d : Nat} {b0 : Nat} {x1 : Int32} {h : ea_H} (hd : 2 ≤ d) (hs : ShM b0 h) : ea_Met mX12_isLetterOf d [vR (some (b0 + 0)), vI x1] h (some (vI (vX12_isLetterOf b0 x1 h))) h := by
  obtain ⟨X, EX⟩ : ∃ z, z = vX12_isLetterOf b0 x1 h := ⟨_, rfl⟩
  rw [← EX]
  unfold vX12_isLetterOf at EX
  refine ea_enter rfl (Nat.le_of_ble_eq_true rfl) ?_
  refine ea_iload_n (pc := 0) dX12_isLetterOf_0 rfl 1 rfl ?_
  refine ea_iconst (pc := 1) dX12_isLetterOf_1 (v := 0) rfl ?_
  refine ea_aload_n (pc := 2) dX12_isLetterOf_2 rfl 0 rfl ?_
  refine ea_getI (pc := 3) dX12_isLetterOf_3 ec_12 (k := 63) (Nat.le_of_ble_eq_true rfl) rfl (Or.inl ew_1408) (hs.1 0 (by decide)).1 (hs.1 0 (by decide)).2.1 ?_
  refine ea_iconst (pc := 6) dX12_isLetterOf_6 (v := 1) rfl ?_
  refine ea_isub (pc := 7) dX12_isLetterOf_7 ?_
  refine ea_callS (pc := 8) (d' := d - 1) (As := [vI x1, vI 0, vI ((ea_i h (b0 + 0) 63) - (1 : Int32))]) (st := []) dX12_isLetterOf_8 kX12_isIn (sX12_isIn (d := d - 1) (by omega)) (by omega) rfl (Nat.le_of_ble_eq_true rfl) ew_1712 ew_1713 ?_
  exact ea_iretE (pc := 11) dX12_isLetterOf_11 rfl (ea_bn (bo_vX12_isIn ..)) EX rfl
noncomputable def wX12_turns (b0 : Nat) (x1 : Int32) (x2 : Int32) (x3 : Int32) (x4 : Int32) (h : ea_H) : ea_H := (ea_wi (ea_wi (ea_wi (ea_wi (ea_wi (ea_wi (ea_wi h (b0 + 55) (Int32.toNatClampNeg x1) x3) (b0 + 56) (Int32.toNatClampNeg x1) x4) (b0 + 59) (Int32.toNatClampNeg x1) x2) (b0 + 62) (Int32.toNatClampNeg (((1000 : Int32) * x1) + (ea_i (ea_wi (ea_wi (ea_wi h (b0 + 55) (Int32.toNatClampNeg x1) x3) (b0 + 56) (Int32.toNatClampNeg x1) x4) (b0 + 59) (Int32.toNatClampNeg x1) x2) (b0 + 50) (Int32.toNatClampNeg x1)))) x2) (b0 + 63) (Int32.toNatClampNeg (((1000 : Int32) * x1) + (ea_i (ea_wi (ea_wi (ea_wi h (b0 + 55) (Int32.toNatClampNeg x1) x3) (b0 + 56) (Int32.toNatClampNeg x1) x4) (b0 + 59) (Int32.toNatClampNeg x1) x2) (b0 + 50) (Int32.toNatClampNeg x1)))) x3) (b0 + 64) (Int32.toNatClampNeg (((1000 : Int32) * x1) + (ea_i (ea_wi (ea_wi (ea_wi h (b0 + 55) (Int32.toNatClampNeg x1) x3) (b0 + 56) (Int32.toNatClampNeg x1) x4) (b0 + 59) (Int32.toNatClampNeg x1) x2) (b0 + 50) (Int32.toNatClampNeg x1)))) x4) (b0 + 50) (Int32.toNatClampNeg x1) ((ea_i (ea_wi (ea_wi (ea_wi (ea_wi (ea_wi (ea_wi h (b0 + 55) (Int32.toNatClampNeg x1) x3) (b0 + 56) (Int32.toNatClampNeg x1) x4) (b0 + 59) (Int32.toNatClampNeg x1) x2) (b0 + 62) (Int32.toNatClampNeg (((1000 : Int32) * x1) + (ea_i (ea_wi (ea_wi (ea_wi h (b0 + 55) (Int32.toNatClampNeg x1) x3) (b0 + 56) (Int32.toNatClampNeg x1) x4) (b0 + 59) (Int32.toNatClampNeg x1) x2) (b0 + 50) (Int32.toNatClampNeg x1)))) x2) (b0 + 63) (Int32.toNatClampNeg (((1000 : Int32) * x1) + (ea_i (ea_wi (ea_wi (ea_wi h (b0 + 55) (Int32.toNatClampNeg x1) x3) (b0 + 56) (Int32.toNatClampNeg x1) x4) (b0 + 59) (Int32.toNatClampNeg x1) x2) (b0 + 50) (Int32.toNatClampNeg x1)))) x3) (b0 + 64) (Int32.toNatClampNeg (((1000 : Int32) * x1) + (ea_i (ea_wi (ea_wi (ea_wi h (b0 + 55) (Int32.toNatClampNeg x1) x3) (b0 + 56) (Int32.toNatClampNeg x1) x4) (b0 + 59) (Int32.toNatClampNeg x1) x2) (b0 + 50) (Int32.toNatClampNeg x1)))) x4) (b0 + 50) (Int32.toNatClampNeg x1)) + (1 : Int32)))
def okX12_turns (b0 : Nat) (x1 : Int32) (x2 : Int32) (x3 : Int32) (x4 : Int32) (h : ea_H) : Prop := vp_in x1 120 ∧ (vp_in x1 120 ∧ (vp_in x1 120 ∧ (vp_in x1 120 ∧ (vp_in (((1000 : Int32) * x1) + (ea_i (ea_wi (ea_wi (ea_wi h (b0 + 55) (Int32.toNatClampNeg x1) x3) (b0 + 56) (Int32.toNatClampNeg x1) x4) (b0 + 59) (Int32.toNatClampNeg x1) x2) (b0 + 50) (Int32.toNatClampNeg x1))) 120000 ∧ (vp_in (((1000 : Int32) * x1) + (ea_i (ea_wi (ea_wi (ea_wi h (b0 + 55) (Int32.toNatClampNeg x1) x3) (b0 + 56) (Int32.toNatClampNeg x1) x4) (b0 + 59) (Int32.toNatClampNeg x1) x2) (b0 + 50) (Int32.toNatClampNeg x1))) 120000 ∧ (vp_in (((1000 : Int32) * x1) + (ea_i (ea_wi (ea_wi (ea_wi h (b0 + 55) (Int32.toNatClampNeg x1) x3) (b0 + 56) (Int32.toNatClampNeg x1) x4) (b0 + 59) (Int32.toNatClampNeg x1) x2) (b0 + 50) (Int32.toNatClampNeg x1))) 120000 ∧ (vp_in x1 120 ∧ (vp_in x1 120))))))))
theorem shX12_turns {b0 : Nat} {x1 : Int32} {x2 : Int32} {x3 : Int32} {x4 : Int32} {h : ea_H} (hs : ShM b0 h) : ShM b0 (wX12_turns b0 x1 x2 x3 x4 h) := (ShM_wi (ShM_wi (ShM_wi (ShM_wi (ShM_wi (ShM_wi (ShM_wi hs)))))))
theorem sX12_turns {d : Nat} {b0 : Nat} {x1 : Int32} {x2 : Int32} {x3 : Int32} {x4 : Int32} {h : ea_H} (hd : 1 ≤ d) (hs : ShM b0 h) (K : okX12_turns b0 x1 x2 x3 x4 h) : ea_Met mX12_turns d [vR (some (b0 + 0)), vI x1, vI x2, vI x3, vI x4] h none (wX12_turns b0 x1 x2 x3 x4 h) := by
  obtain ⟨Y, EY⟩ : ∃ z, z = wX12_turns b0 x1 x2 x3 x4 h := ⟨_, rfl⟩
  rw [← EY]
  unfold wX12_turns at EY
  unfold okX12_turns at K
  refine ea_enter rfl (Nat.le_of_ble_eq_true rfl) ?_
  refine ea_aload_n (pc := 0) dX12_turns_0 rfl 0 rfl ?_
  refine ea_getR (pc := 1) dX12_turns_1 ec_12 (k := 81) (Nat.le_of_ble_eq_true rfl) rfl (Or.inl ew_1426) (hs.1 0 (by decide)).1 (hs.1 0 (by decide)).2.1 (hs.2 0 81 rfl) ?_
  refine ea_iload_n (pc := 4) dX12_turns_4 rfl 1 rfl ?_
  refine ea_iload_n (pc := 5) dX12_turns_5 rfl 3 rfl ?_
  obtain ⟨z1, K⟩ := K
  refine ea_iast (pc := 6) dX12_turns_6 (hs.1 55 (by decide)).1 (hs.1 55 (by decide)).2.1 (ea_vpl (hs.1 55 (by decide)).2.2 z1) ?_
  have hs2 : ShM b0 (ea_wi h (b0 + 55) (Int32.toNatClampNeg x1) x3) := ShM_wi hs
  refine ea_aload_n (pc := 7) dX12_turns_7 rfl 0 rfl ?_
  refine ea_getR (pc := 8) dX12_turns_8 ec_12 (k := 82) (Nat.le_of_ble_eq_true rfl) rfl (Or.inl ew_1427) (hs2.1 0 (by decide)).1 (hs2.1 0 (by decide)).2.1 (hs2.2 0 82 rfl) ?_
  refine ea_iload_n (pc := 11) dX12_turns_11 rfl 1 rfl ?_
  refine ea_iload (pc := 12) dX12_turns_12 4 rfl ?_
  obtain ⟨z3, K⟩ := K
  refine ea_iast (pc := 14) dX12_turns_14 (hs2.1 56 (by decide)).1 (hs2.1 56 (by decide)).2.1 (ea_vpl (hs2.1 56 (by decide)).2.2 z3) ?_
  have hs4 : ShM b0 (ea_wi (ea_wi h (b0 + 55) (Int32.toNatClampNeg x1) x3) (b0 + 56) (Int32.toNatClampNeg x1) x4) := ShM_wi hs2
  refine ea_aload_n (pc := 15) dX12_turns_15 rfl 0 rfl ?_
  refine ea_getR (pc := 16) dX12_turns_16 ec_12 (k := 85) (Nat.le_of_ble_eq_true rfl) rfl (Or.inl ew_1430) (hs4.1 0 (by decide)).1 (hs4.1 0 (by decide)).2.1 (hs4.2 0 85 rfl) ?_
  refine ea_iload_n (pc := 19) dX12_turns_19 rfl 1 rfl ?_
  refine ea_iload_n (pc := 20) dX12_turns_20 rfl 2 rfl ?_
  obtain ⟨z5, K⟩ := K
  refine ea_iast (pc := 21) dX12_turns_21 (hs4.1 59 (by decide)).1 (hs4.1 59 (by decide)).2.1 (ea_vpl (hs4.1 59 (by decide)).2.2 z5) ?_
  have hs6 : ShM b0 (ea_wi (ea_wi (ea_wi h (b0 + 55) (Int32.toNatClampNeg x1) x3) (b0 + 56) (Int32.toNatClampNeg x1) x4) (b0 + 59) (Int32.toNatClampNeg x1) x2) := ShM_wi hs4
  refine ea_sipush (pc := 22) dX12_turns_22 (v := 1000) rfl ?_
  refine ea_iload_n (pc := 25) dX12_turns_25 rfl 1 rfl ?_
  refine ea_imul (pc := 26) dX12_turns_26 ?_
  refine ea_aload_n (pc := 27) dX12_turns_27 rfl 0 rfl ?_
  refine ea_getR (pc := 28) dX12_turns_28 ec_12 (k := 76) (Nat.le_of_ble_eq_true rfl) rfl (Or.inl ew_1421) (hs6.1 0 (by decide)).1 (hs6.1 0 (by decide)).2.1 (hs6.2 0 76 rfl) ?_
  refine ea_iload_n (pc := 31) dX12_turns_31 rfl 1 rfl ?_
  obtain ⟨z7, K⟩ := K
  refine ea_iald (pc := 32) dX12_turns_32 (hs6.1 50 (by decide)).1 (hs6.1 50 (by decide)).2.1 (ea_vpl (hs6.1 50 (by decide)).2.2 z7) ?_
  refine ea_iadd (pc := 33) dX12_turns_33 ?_
  refine ea_istore (pc := 34) (lv' := [(0, vR (some (b0 + 0))), (1, vI x1), (2, vI x2), (3, vI x3), (4, vI x4), (5, vI (((1000 : Int32) * x1) + (ea_i (ea_wi (ea_wi (ea_wi h (b0 + 55) (Int32.toNatClampNeg x1) x3) (b0 + 56) (Int32.toNatClampNeg x1) x4) (b0 + 59) (Int32.toNatClampNeg x1) x2) (b0 + 50) (Int32.toNatClampNeg x1))))]) dX12_turns_34 (Nat.le_of_ble_eq_true rfl) [1, 2, 3, 4, 5, 0] rfl ?_
  refine ea_aload_n (pc := 36) dX12_turns_36 rfl 0 rfl ?_
  refine ea_getR (pc := 37) dX12_turns_37 ec_12 (k := 88) (Nat.le_of_ble_eq_true rfl) rfl (Or.inl ew_1433) (hs6.1 0 (by decide)).1 (hs6.1 0 (by decide)).2.1 (hs6.2 0 88 rfl) ?_
  refine ea_iload (pc := 40) dX12_turns_40 5 rfl ?_
  refine ea_iload_n (pc := 42) dX12_turns_42 rfl 2 rfl ?_
  obtain ⟨z8, K⟩ := K
  refine ea_iast (pc := 43) dX12_turns_43 (hs6.1 62 (by decide)).1 (hs6.1 62 (by decide)).2.1 (ea_vpl (hs6.1 62 (by decide)).2.2 z8) ?_
  have hs9 : ShM b0 (ea_wi (ea_wi (ea_wi (ea_wi h (b0 + 55) (Int32.toNatClampNeg x1) x3) (b0 + 56) (Int32.toNatClampNeg x1) x4) (b0 + 59) (Int32.toNatClampNeg x1) x2) (b0 + 62) (Int32.toNatClampNeg (((1000 : Int32) * x1) + (ea_i (ea_wi (ea_wi (ea_wi h (b0 + 55) (Int32.toNatClampNeg x1) x3) (b0 + 56) (Int32.toNatClampNeg x1) x4) (b0 + 59) (Int32.toNatClampNeg x1) x2) (b0 + 50) (Int32.toNatClampNeg x1)))) x2) := ShM_wi hs6
  refine ea_aload_n (pc := 44) dX12_turns_44 rfl 0 rfl ?_
  refine ea_getR (pc := 45) dX12_turns_45 ec_12 (k := 89) (Nat.le_of_ble_eq_true rfl) rfl (Or.inl ew_1434) (hs9.1 0 (by decide)).1 (hs9.1 0 (by decide)).2.1 (hs9.2 0 89 rfl) ?_
  refine ea_iload (pc := 48) dX12_turns_48 5 rfl ?_
  refine ea_iload_n (pc := 50) dX12_turns_50 rfl 3 rfl ?_
  obtain ⟨z10, K⟩ := K
  refine ea_iast (pc := 51) dX12_turns_51 (hs9.1 63 (by decide)).1 (hs9.1 63 (by decide)).2.1 (ea_vpl (hs9.1 63 (by decide)).2.2 z10) ?_
  have hs11 : ShM b0 (ea_wi (ea_wi (ea_wi (ea_wi (ea_wi h (b0 + 55) (Int32.toNatClampNeg x1) x3) (b0 + 56) (Int32.toNatClampNeg x1) x4) (b0 + 59) (Int32.toNatClampNeg x1) x2) (b0 + 62) (Int32.toNatClampNeg (((1000 : Int32) * x1) + (ea_i (ea_wi (ea_wi (ea_wi h (b0 + 55) (Int32.toNatClampNeg x1) x3) (b0 + 56) (Int32.toNatClampNeg x1) x4) (b0 + 59) (Int32.toNatClampNeg x1) x2) (b0 + 50) (Int32.toNatClampNeg x1)))) x2) (b0 + 63) (Int32.toNatClampNeg (((1000 : Int32) * x1) + (ea_i (ea_wi (ea_wi (ea_wi h (b0 + 55) (Int32.toNatClampNeg x1) x3) (b0 + 56) (Int32.toNatClampNeg x1) x4) (b0 + 59) (Int32.toNatClampNeg x1) x2) (b0 + 50) (Int32.toNatClampNeg x1)))) x3) := ShM_wi hs9
  refine ea_aload_n (pc := 52) dX12_turns_52 rfl 0 rfl ?_
  refine ea_getR (pc := 53) dX12_turns_53 ec_12 (k := 90) (Nat.le_of_ble_eq_true rfl) rfl (Or.inl ew_1435) (hs11.1 0 (by decide)).1 (hs11.1 0 (by decide)).2.1 (hs11.2 0 90 rfl) ?_
  refine ea_iload (pc := 56) dX12_turns_56 5 rfl ?_
  refine ea_iload (pc := 58) dX12_turns_58 4 rfl ?_
  obtain ⟨z12, K⟩ := K
  refine ea_iast (pc := 60) dX12_turns_60 (hs11.1 64 (by decide)).1 (hs11.1 64 (by decide)).2.1 (ea_vpl (hs11.1 64 (by decide)).2.2 z12) ?_
  have hs13 : ShM b0 (ea_wi (ea_wi (ea_wi (ea_wi (ea_wi (ea_wi h (b0 + 55) (Int32.toNatClampNeg x1) x3) (b0 + 56) (Int32.toNatClampNeg x1) x4) (b0 + 59) (Int32.toNatClampNeg x1) x2) (b0 + 62) (Int32.toNatClampNeg (((1000 : Int32) * x1) + (ea_i (ea_wi (ea_wi (ea_wi h (b0 + 55) (Int32.toNatClampNeg x1) x3) (b0 + 56) (Int32.toNatClampNeg x1) x4) (b0 + 59) (Int32.toNatClampNeg x1) x2) (b0 + 50) (Int32.toNatClampNeg x1)))) x2) (b0 + 63) (Int32.toNatClampNeg (((1000 : Int32) * x1) + (ea_i (ea_wi (ea_wi (ea_wi h (b0 + 55) (Int32.toNatClampNeg x1) x3) (b0 + 56) (Int32.toNatClampNeg x1) x4) (b0 + 59) (Int32.toNatClampNeg x1) x2) (b0 + 50) (Int32.toNatClampNeg x1)))) x3) (b0 + 64) (Int32.toNatClampNeg (((1000 : Int32) * x1) + (ea_i (ea_wi (ea_wi (ea_wi h (b0 + 55) (Int32.toNatClampNeg x1) x3) (b0 + 56) (Int32.toNatClampNeg x1) x4) (b0 + 59) (Int32.toNatClampNeg x1) x2) (b0 + 50) (Int32.toNatClampNeg x1)))) x4) := ShM_wi hs11
  refine ea_aload_n (pc := 61) dX12_turns_61 rfl 0 rfl ?_
  refine ea_getR (pc := 62) dX12_turns_62 ec_12 (k := 76) (Nat.le_of_ble_eq_true rfl) rfl (Or.inl ew_1421) (hs13.1 0 (by decide)).1 (hs13.1 0 (by decide)).2.1 (hs13.2 0 76 rfl) ?_
  refine ea_iload_n (pc := 65) dX12_turns_65 rfl 1 rfl ?_
  refine ea_dup2 (pc := 66) dX12_turns_66 rfl rfl ?_
  obtain ⟨z14, K⟩ := K
  refine ea_iald (pc := 67) dX12_turns_67 (hs13.1 50 (by decide)).1 (hs13.1 50 (by decide)).2.1 (ea_vpl (hs13.1 50 (by decide)).2.2 z14) ?_
  refine ea_iconst (pc := 68) dX12_turns_68 (v := 1) rfl ?_
  refine ea_iadd (pc := 69) dX12_turns_69 ?_
  have z15 := K
  refine ea_iast (pc := 70) dX12_turns_70 (hs13.1 50 (by decide)).1 (hs13.1 50 (by decide)).2.1 (ea_vpl (hs13.1 50 (by decide)).2.2 z15) ?_
  have hs16 : ShM b0 (ea_wi (ea_wi (ea_wi (ea_wi (ea_wi (ea_wi (ea_wi h (b0 + 55) (Int32.toNatClampNeg x1) x3) (b0 + 56) (Int32.toNatClampNeg x1) x4) (b0 + 59) (Int32.toNatClampNeg x1) x2) (b0 + 62) (Int32.toNatClampNeg (((1000 : Int32) * x1) + (ea_i (ea_wi (ea_wi (ea_wi h (b0 + 55) (Int32.toNatClampNeg x1) x3) (b0 + 56) (Int32.toNatClampNeg x1) x4) (b0 + 59) (Int32.toNatClampNeg x1) x2) (b0 + 50) (Int32.toNatClampNeg x1)))) x2) (b0 + 63) (Int32.toNatClampNeg (((1000 : Int32) * x1) + (ea_i (ea_wi (ea_wi (ea_wi h (b0 + 55) (Int32.toNatClampNeg x1) x3) (b0 + 56) (Int32.toNatClampNeg x1) x4) (b0 + 59) (Int32.toNatClampNeg x1) x2) (b0 + 50) (Int32.toNatClampNeg x1)))) x3) (b0 + 64) (Int32.toNatClampNeg (((1000 : Int32) * x1) + (ea_i (ea_wi (ea_wi (ea_wi h (b0 + 55) (Int32.toNatClampNeg x1) x3) (b0 + 56) (Int32.toNatClampNeg x1) x4) (b0 + 59) (Int32.toNatClampNeg x1) x2) (b0 + 50) (Int32.toNatClampNeg x1)))) x4) (b0 + 50) (Int32.toNatClampNeg x1) ((ea_i (ea_wi (ea_wi (ea_wi (ea_wi (ea_wi (ea_wi h (b0 + 55) (Int32.toNatClampNeg x1) x3) (b0 + 56) (Int32.toNatClampNeg x1) x4) (b0 + 59) (Int32.toNatClampNeg x1) x2) (b0 + 62) (Int32.toNatClampNeg (((1000 : Int32) * x1) + (ea_i (ea_wi (ea_wi (ea_wi h (b0 + 55) (Int32.toNatClampNeg x1) x3) (b0 + 56) (Int32.toNatClampNeg x1) x4) (b0 + 59) (Int32.toNatClampNeg x1) x2) (b0 + 50) (Int32.toNatClampNeg x1)))) x2) (b0 + 63) (Int32.toNatClampNeg (((1000 : Int32) * x1) + (ea_i (ea_wi (ea_wi (ea_wi h (b0 + 55) (Int32.toNatClampNeg x1) x3) (b0 + 56) (Int32.toNatClampNeg x1) x4) (b0 + 59) (Int32.toNatClampNeg x1) x2) (b0 + 50) (Int32.toNatClampNeg x1)))) x3) (b0 + 64) (Int32.toNatClampNeg (((1000 : Int32) * x1) + (ea_i (ea_wi (ea_wi (ea_wi h (b0 + 55) (Int32.toNatClampNeg x1) x3) (b0 + 56) (Int32.toNatClampNeg x1) x4) (b0 + 59) (Int32.toNatClampNeg x1) x2) (b0 + 50) (Int32.toNatClampNeg x1)))) x4) (b0 + 50) (Int32.toNatClampNeg x1)) + (1 : Int32))) := ShM_wi hs13
  exact ea_vretE (pc := 71) dX12_turns_71 rfl EY
noncomputable def wX12_gathers (b0 : Nat) (x1 : Int32) (h : ea_H) : ea_H := (if (ea_i h (b0 + 45) (Int32.toNatClampNeg x1)) = (1000000 : Int32) then (if (ea_i (ea_wi (ea_wi (ea_wi (ea_wi (ea_wi (ea_wi h (b0 + 65) (Int32.toNatClampNeg 1) 0) (b0 + 65) (Int32.toNatClampNeg 2) (ea_i (ea_wi h (b0 + 65) (Int32.toNatClampNeg 1) 0) (b0 + 41) (Int32.toNatClampNeg x1))) (b0 + 65) (Int32.toNatClampNeg 3) (ea_i (ea_wi (ea_wi h (b0 + 65) (Int32.toNatClampNeg 1) 0) (b0 + 65) (Int32.toNatClampNeg 2) (ea_i (ea_wi h (b0 + 65) (Int32.toNatClampNeg 1) 0) (b0 + 41) (Int32.toNatClampNeg x1))) (b0 + 42) (Int32.toNatClampNeg x1))) (b0 + 65) (Int32.toNatClampNeg 4) (((ea_i (ea_wi (ea_wi (ea_wi h (b0 + 65) (Int32.toNatClampNeg 1) 0) (b0 + 65) (Int32.toNatClampNeg 2) (ea_i (ea_wi h (b0 + 65) (Int32.toNatClampNeg 1) 0) (b0 + 41) (Int32.toNatClampNeg x1))) (b0 + 65) (Int32.toNatClampNeg 3) (ea_i (ea_wi (ea_wi h (b0 + 65) (Int32.toNatClampNeg 1) 0) (b0 + 65) (Int32.toNatClampNeg 2) (ea_i (ea_wi h (b0 + 65) (Int32.toNatClampNeg 1) 0) (b0 + 41) (Int32.toNatClampNeg x1))) (b0 + 42) (Int32.toNatClampNeg x1))) (b0 + 44) (Int32.toNatClampNeg x1)) - (ea_i (ea_wi (ea_wi (ea_wi h (b0 + 65) (Int32.toNatClampNeg 1) 0) (b0 + 65) (Int32.toNatClampNeg 2) (ea_i (ea_wi h (b0 + 65) (Int32.toNatClampNeg 1) 0) (b0 + 41) (Int32.toNatClampNeg x1))) (b0 + 65) (Int32.toNatClampNeg 3) (ea_i (ea_wi (ea_wi h (b0 + 65) (Int32.toNatClampNeg 1) 0) (b0 + 65) (Int32.toNatClampNeg 2) (ea_i (ea_wi h (b0 + 65) (Int32.toNatClampNeg 1) 0) (b0 + 41) (Int32.toNatClampNeg x1))) (b0 + 42) (Int32.toNatClampNeg x1))) (b0 + 44) (Int32.toNatClampNeg x1)) / (1440 : Int32) * (1440 : Int32)) / (60 : Int32))) (b0 + 65) (Int32.toNatClampNeg 5) ((ea_i (ea_wi (ea_wi (ea_wi (ea_wi h (b0 + 65) (Int32.toNatClampNeg 1) 0) (b0 + 65) (Int32.toNatClampNeg 2) (ea_i (ea_wi h (b0 + 65) (Int32.toNatClampNeg 1) 0) (b0 + 41) (Int32.toNatClampNeg x1))) (b0 + 65) (Int32.toNatClampNeg 3) (ea_i (ea_wi (ea_wi h (b0 + 65) (Int32.toNatClampNeg 1) 0) (b0 + 65) (Int32.toNatClampNeg 2) (ea_i (ea_wi h (b0 + 65) (Int32.toNatClampNeg 1) 0) (b0 + 41) (Int32.toNatClampNeg x1))) (b0 + 42) (Int32.toNatClampNeg x1))) (b0 + 65) (Int32.toNatClampNeg 4) (((ea_i (ea_wi (ea_wi (ea_wi h (b0 + 65) (Int32.toNatClampNeg 1) 0) (b0 + 65) (Int32.toNatClampNeg 2) (ea_i (ea_wi h (b0 + 65) (Int32.toNatClampNeg 1) 0) (b0 + 41) (Int32.toNatClampNeg x1))) (b0 + 65) (Int32.toNatClampNeg 3) (ea_i (ea_wi (ea_wi h (b0 + 65) (Int32.toNatClampNeg 1) 0) (b0 + 65) (Int32.toNatClampNeg 2) (ea_i (ea_wi h (b0 + 65) (Int32.toNatClampNeg 1) 0) (b0 + 41) (Int32.toNatClampNeg x1))) (b0 + 42) (Int32.toNatClampNeg x1))) (b0 + 44) (Int32.toNatClampNeg x1)) - (ea_i (ea_wi (ea_wi (ea_wi h (b0 + 65) (Int32.toNatClampNeg 1) 0) (b0 + 65) (Int32.toNatClampNeg 2) (ea_i (ea_wi h (b0 + 65) (Int32.toNatClampNeg 1) 0) (b0 + 41) (Int32.toNatClampNeg x1))) (b0 + 65) (Int32.toNatClampNeg 3) (ea_i (ea_wi (ea_wi h (b0 + 65) (Int32.toNatClampNeg 1) 0) (b0 + 65) (Int32.toNatClampNeg 2) (ea_i (ea_wi h (b0 + 65) (Int32.toNatClampNeg 1) 0) (b0 + 41) (Int32.toNatClampNeg x1))) (b0 + 42) (Int32.toNatClampNeg x1))) (b0 + 44) (Int32.toNatClampNeg x1)) / (1440 : Int32) * (1440 : Int32)) / (60 : Int32))) (b0 + 44) (Int32.toNatClampNeg x1)) / (1440 : Int32))) (b0 + 65) (Int32.toNatClampNeg 6) (ea_i (ea_wi (ea_wi (ea_wi (ea_wi (ea_wi h (b0 + 65) (Int32.toNatClampNeg 1) 0) (b0 + 65) (Int32.toNatClampNeg 2) (ea_i (ea_wi h (b0 + 65) (Int32.toNatClampNeg 1) 0) (b0 + 41) (Int32.toNatClampNeg x1))) (b0 + 65) (Int32.toNatClampNeg 3) (ea_i (ea_wi (ea_wi h (b0 + 65) (Int32.toNatClampNeg 1) 0) (b0 + 65) (Int32.toNatClampNeg 2) (ea_i (ea_wi h (b0 + 65) (Int32.toNatClampNeg 1) 0) (b0 + 41) (Int32.toNatClampNeg x1))) (b0 + 42) (Int32.toNatClampNeg x1))) (b0 + 65) (Int32.toNatClampNeg 4) (((ea_i (ea_wi (ea_wi (ea_wi h (b0 + 65) (Int32.toNatClampNeg 1) 0) (b0 + 65) (Int32.toNatClampNeg 2) (ea_i (ea_wi h (b0 + 65) (Int32.toNatClampNeg 1) 0) (b0 + 41) (Int32.toNatClampNeg x1))) (b0 + 65) (Int32.toNatClampNeg 3) (ea_i (ea_wi (ea_wi h (b0 + 65) (Int32.toNatClampNeg 1) 0) (b0 + 65) (Int32.toNatClampNeg 2) (ea_i (ea_wi h (b0 + 65) (Int32.toNatClampNeg 1) 0) (b0 + 41) (Int32.toNatClampNeg x1))) (b0 + 42) (Int32.toNatClampNeg x1))) (b0 + 44) (Int32.toNatClampNeg x1)) - (ea_i (ea_wi (ea_wi (ea_wi h (b0 + 65) (Int32.toNatClampNeg 1) 0) (b0 + 65) (Int32.toNatClampNeg 2) (ea_i (ea_wi h (b0 + 65) (Int32.toNatClampNeg 1) 0) (b0 + 41) (Int32.toNatClampNeg x1))) (b0 + 65) (Int32.toNatClampNeg 3) (ea_i (ea_wi (ea_wi h (b0 + 65) (Int32.toNatClampNeg 1) 0) (b0 + 65) (Int32.toNatClampNeg 2) (ea_i (ea_wi h (b0 + 65) (Int32.toNatClampNeg 1) 0) (b0 + 41) (Int32.toNatClampNeg x1))) (b0 + 42) (Int32.toNatClampNeg x1))) (b0 + 44) (Int32.toNatClampNeg x1)) / (1440 : Int32) * (1440 : Int32)) / (60 : Int32))) (b0 + 65) (Int32.toNatClampNeg 5) ((ea_i (ea_wi (ea_wi (ea_wi (ea_wi h (b0 + 65) (Int32.toNatClampNeg 1) 0) (b0 + 65) (Int32.toNatClampNeg 2) (ea_i (ea_wi h (b0 + 65) (Int32.toNatClampNeg 1) 0) (b0 + 41) (Int32.toNatClampNeg x1))) (b0 + 65) (Int32.toNatClampNeg 3) (ea_i (ea_wi (ea_wi h (b0 + 65) (Int32.toNatClampNeg 1) 0) (b0 + 65) (Int32.toNatClampNeg 2) (ea_i (ea_wi h (b0 + 65) (Int32.toNatClampNeg 1) 0) (b0 + 41) (Int32.toNatClampNeg x1))) (b0 + 42) (Int32.toNatClampNeg x1))) (b0 + 65) (Int32.toNatClampNeg 4) (((ea_i (ea_wi (ea_wi (ea_wi h (b0 + 65) (Int32.toNatClampNeg 1) 0) (b0 + 65) (Int32.toNatClampNeg 2) (ea_i (ea_wi h (b0 + 65) (Int32.toNatClampNeg 1) 0) (b0 + 41) (Int32.toNatClampNeg x1))) (b0 + 65) (Int32.toNatClampNeg 3) (ea_i (ea_wi (ea_wi h (b0 + 65) (Int32.toNatClampNeg 1) 0) (b0 + 65) (Int32.toNatClampNeg 2) (ea_i (ea_wi h (b0 + 65) (Int32.toNatClampNeg 1) 0) (b0 + 41) (Int32.toNatClampNeg x1))) (b0 + 42) (Int32.toNatClampNeg x1))) (b0 + 44) (Int32.toNatClampNeg x1)) - (ea_i (ea_wi (ea_wi (ea_wi h (b0 + 65) (Int32.toNatClampNeg 1) 0) (b0 + 65) (Int32.toNatClampNeg 2) (ea_i (ea_wi h (b0 + 65) (Int32.toNatClampNeg 1) 0) (b0 + 41) (Int32.toNatClampNeg x1))) (b0 + 65) (Int32.toNatClampNeg 3) (ea_i (ea_wi (ea_wi h (b0 + 65) (Int32.toNatClampNeg 1) 0) (b0 + 65) (Int32.toNatClampNeg 2) (ea_i (ea_wi h (b0 + 65) (Int32.toNatClampNeg 1) 0) (b0 + 41) (Int32.toNatClampNeg x1))) (b0 + 42) (Int32.toNatClampNeg x1))) (b0 + 44) (Int32.toNatClampNeg x1)) / (1440 : Int32) * (1440 : Int32)) / (60 : Int32))) (b0 + 44) (Int32.toNatClampNeg x1)) / (1440 : Int32))) (b0 + 38) (Int32.toNatClampNeg x1))) (b0 + 52) (Int32.toNatClampNeg x1)) = (0 : Int32) then (ea_wi (ea_wi (ea_wi (ea_wi (ea_wi (ea_wi (ea_wi h (b0 + 65) (Int32.toNatClampNeg 1) 0) (b0 + 65) (Int32.toNatClampNeg 2) (ea_i (ea_wi h (b0 + 65) (Int32.toNatClampNeg 1) 0) (b0 + 41) (Int32.toNatClampNeg x1))) (b0 + 65) (Int32.toNatClampNeg 3) (ea_i (ea_wi (ea_wi h (b0 + 65) (Int32.toNatClampNeg 1) 0) (b0 + 65) (Int32.toNatClampNeg 2) (ea_i (ea_wi h (b0 + 65) (Int32.toNatClampNeg 1) 0) (b0 + 41) (Int32.toNatClampNeg x1))) (b0 + 42) (Int32.toNatClampNeg x1))) (b0 + 65) (Int32.toNatClampNeg 4) (((ea_i (ea_wi (ea_wi (ea_wi h (b0 + 65) (Int32.toNatClampNeg 1) 0) (b0 + 65) (Int32.toNatClampNeg 2) (ea_i (ea_wi h (b0 + 65) (Int32.toNatClampNeg 1) 0) (b0 + 41) (Int32.toNatClampNeg x1))) (b0 + 65) (Int32.toNatClampNeg 3) (ea_i (ea_wi (ea_wi h (b0 + 65) (Int32.toNatClampNeg 1) 0) (b0 + 65) (Int32.toNatClampNeg 2) (ea_i (ea_wi h (b0 + 65) (Int32.toNatClampNeg 1) 0) (b0 + 41) (Int32.toNatClampNeg x1))) (b0 + 42) (Int32.toNatClampNeg x1))) (b0 + 44) (Int32.toNatClampNeg x1)) - (ea_i (ea_wi (ea_wi (ea_wi h (b0 + 65) (Int32.toNatClampNeg 1) 0) (b0 + 65) (Int32.toNatClampNeg 2) (ea_i (ea_wi h (b0 + 65) (Int32.toNatClampNeg 1) 0) (b0 + 41) (Int32.toNatClampNeg x1))) (b0 + 65) (Int32.toNatClampNeg 3) (ea_i (ea_wi (ea_wi h (b0 + 65) (Int32.toNatClampNeg 1) 0) (b0 + 65) (Int32.toNatClampNeg 2) (ea_i (ea_wi h (b0 + 65) (Int32.toNatClampNeg 1) 0) (b0 + 41) (Int32.toNatClampNeg x1))) (b0 + 42) (Int32.toNatClampNeg x1))) (b0 + 44) (Int32.toNatClampNeg x1)) / (1440 : Int32) * (1440 : Int32)) / (60 : Int32))) (b0 + 65) (Int32.toNatClampNeg 5) ((ea_i (ea_wi (ea_wi (ea_wi (ea_wi h (b0 + 65) (Int32.toNatClampNeg 1) 0) (b0 + 65) (Int32.toNatClampNeg 2) (ea_i (ea_wi h (b0 + 65) (Int32.toNatClampNeg 1) 0) (b0 + 41) (Int32.toNatClampNeg x1))) (b0 + 65) (Int32.toNatClampNeg 3) (ea_i (ea_wi (ea_wi h (b0 + 65) (Int32.toNatClampNeg 1) 0) (b0 + 65) (Int32.toNatClampNeg 2) (ea_i (ea_wi h (b0 + 65) (Int32.toNatClampNeg 1) 0) (b0 + 41) (Int32.toNatClampNeg x1))) (b0 + 42) (Int32.toNatClampNeg x1))) (b0 + 65) (Int32.toNatClampNeg 4) (((ea_i (ea_wi (ea_wi (ea_wi h (b0 + 65) (Int32.toNatClampNeg 1) 0) (b0 + 65) (Int32.toNatClampNeg 2) (ea_i (ea_wi h (b0 + 65) (Int32.toNatClampNeg 1) 0) (b0 + 41) (Int32.toNatClampNeg x1))) (b0 + 65) (Int32.toNatClampNeg 3) (ea_i (ea_wi (ea_wi h (b0 + 65) (Int32.toNatClampNeg 1) 0) (b0 + 65) (Int32.toNatClampNeg 2) (ea_i (ea_wi h (b0 + 65) (Int32.toNatClampNeg 1) 0) (b0 + 41) (Int32.toNatClampNeg x1))) (b0 + 42) (Int32.toNatClampNeg x1))) (b0 + 44) (Int32.toNatClampNeg x1)) - (ea_i (ea_wi (ea_wi (ea_wi h (b0 + 65) (Int32.toNatClampNeg 1) 0) (b0 + 65) (Int32.toNatClampNeg 2) (ea_i (ea_wi h (b0 + 65) (Int32.toNatClampNeg 1) 0) (b0 + 41) (Int32.toNatClampNeg x1))) (b0 + 65) (Int32.toNatClampNeg 3) (ea_i (ea_wi (ea_wi h (b0 + 65) (Int32.toNatClampNeg 1) 0) (b0 + 65) (Int32.toNatClampNeg 2) (ea_i (ea_wi h (b0 + 65) (Int32.toNatClampNeg 1) 0) (b0 + 41) (Int32.toNatClampNeg x1))) (b0 + 42) (Int32.toNatClampNeg x1))) (b0 + 44) (Int32.toNatClampNeg x1)) / (1440 : Int32) * (1440 : Int32)) / (60 : Int32))) (b0 + 44) (Int32.toNatClampNeg x1)) / (1440 : Int32))) (b0 + 65) (Int32.toNatClampNeg 6) (ea_i (ea_wi (ea_wi (ea_wi (ea_wi (ea_wi h (b0 + 65) (Int32.toNatClampNeg 1) 0) (b0 + 65) (Int32.toNatClampNeg 2) (ea_i (ea_wi h (b0 + 65) (Int32.toNatClampNeg 1) 0) (b0 + 41) (Int32.toNatClampNeg x1))) (b0 + 65) (Int32.toNatClampNeg 3) (ea_i (ea_wi (ea_wi h (b0 + 65) (Int32.toNatClampNeg 1) 0) (b0 + 65) (Int32.toNatClampNeg 2) (ea_i (ea_wi h (b0 + 65) (Int32.toNatClampNeg 1) 0) (b0 + 41) (Int32.toNatClampNeg x1))) (b0 + 42) (Int32.toNatClampNeg x1))) (b0 + 65) (Int32.toNatClampNeg 4) (((ea_i (ea_wi (ea_wi (ea_wi h (b0 + 65) (Int32.toNatClampNeg 1) 0) (b0 + 65) (Int32.toNatClampNeg 2) (ea_i (ea_wi h (b0 + 65) (Int32.toNatClampNeg 1) 0) (b0 + 41) (Int32.toNatClampNeg x1))) (b0 + 65) (Int32.toNatClampNeg 3) (ea_i (ea_wi (ea_wi h (b0 + 65) (Int32.toNatClampNeg 1) 0) (b0 + 65) (Int32.toNatClampNeg 2) (ea_i (ea_wi h (b0 + 65) (Int32.toNatClampNeg 1) 0) (b0 + 41) (Int32.toNatClampNeg x1))) (b0 + 42) (Int32.toNatClampNeg x1))) (b0 + 44) (Int32.toNatClampNeg x1)) - (ea_i (ea_wi (ea_wi (ea_wi h (b0 + 65) (Int32.toNatClampNeg 1) 0) (b0 + 65) (Int32.toNatClampNeg 2) (ea_i (ea_wi h (b0 + 65) (Int32.toNatClampNeg 1) 0) (b0 + 41) (Int32.toNatClampNeg x1))) (b0 + 65) (Int32.toNatClampNeg 3) (ea_i (ea_wi (ea_wi h (b0 + 65) (Int32.toNatClampNeg 1) 0) (b0 + 65) (Int32.toNatClampNeg 2) (ea_i (ea_wi h (b0 + 65) (Int32.toNatClampNeg 1) 0) (b0 + 41) (Int32.toNatClampNeg x1))) (b0 + 42) (Int32.toNatClampNeg x1))) (b0 + 44) (Int32.toNatClampNeg x1)) / (1440 : Int32) * (1440 : Int32)) / (60 : Int32))) (b0 + 65) (Int32.toNatClampNeg 5) ((ea_i (ea_wi (ea_wi (ea_wi (ea_wi h (b0 + 65) (Int32.toNatClampNeg 1) 0) (b0 + 65) (Int32.toNatClampNeg 2) (ea_i (ea_wi h (b0 + 65) (Int32.toNatClampNeg 1) 0) (b0 + 41) (Int32.toNatClampNeg x1))) (b0 + 65) (Int32.toNatClampNeg 3) (ea_i (ea_wi (ea_wi h (b0 + 65) (Int32.toNatClampNeg 1) 0) (b0 + 65) (Int32.toNatClampNeg 2) (ea_i (ea_wi h (b0 + 65) (Int32.toNatClampNeg 1) 0) (b0 + 41) (Int32.toNatClampNeg x1))) (b0 + 42) (Int32.toNatClampNeg x1))) (b0 + 65) (Int32.toNatClampNeg 4) (((ea_i (ea_wi (ea_wi (ea_wi h (b0 + 65) (Int32.toNatClampNeg 1) 0) (b0 + 65) (Int32.toNatClampNeg 2) (ea_i (ea_wi h (b0 + 65) (Int32.toNatClampNeg 1) 0) (b0 + 41) (Int32.toNatClampNeg x1))) (b0 + 65) (Int32.toNatClampNeg 3) (ea_i (ea_wi (ea_wi h (b0 + 65) (Int32.toNatClampNeg 1) 0) (b0 + 65) (Int32.toNatClampNeg 2) (ea_i (ea_wi h (b0 + 65) (Int32.toNatClampNeg 1) 0) (b0 + 41) (Int32.toNatClampNeg x1))) (b0 + 42) (Int32.toNatClampNeg x1))) (b0 + 44) (Int32.toNatClampNeg x1)) - (ea_i (ea_wi (ea_wi (ea_wi h (b0 + 65) (Int32.toNatClampNeg 1) 0) (b0 + 65) (Int32.toNatClampNeg 2) (ea_i (ea_wi h (b0 + 65) (Int32.toNatClampNeg 1) 0) (b0 + 41) (Int32.toNatClampNeg x1))) (b0 + 65) (Int32.toNatClampNeg 3) (ea_i (ea_wi (ea_wi h (b0 + 65) (Int32.toNatClampNeg 1) 0) (b0 + 65) (Int32.toNatClampNeg 2) (ea_i (ea_wi h (b0 + 65) (Int32.toNatClampNeg 1) 0) (b0 + 41) (Int32.toNatClampNeg x1))) (b0 + 42) (Int32.toNatClampNeg x1))) (b0 + 44) (Int32.toNatClampNeg x1)) / (1440 : Int32) * (1440 : Int32)) / (60 : Int32))) (b0 + 44) (Int32.toNatClampNeg x1)) / (1440 : Int32))) (b0 + 38) (Int32.toNatClampNeg x1))) (b0 + 65) (Int32.toNatClampNeg 7) 0) else (ea_wi (ea_wi (ea_wi (ea_wi (ea_wi (ea_wi (ea_wi h (b0 + 65) (Int32.toNatClampNeg 1) 0) (b0 + 65) (Int32.toNatClampNeg 2) (ea_i (ea_wi h (b0 + 65) (Int32.toNatClampNeg 1) 0) (b0 + 41) (Int32.toNatClampNeg x1))) (b0 + 65) (Int32.toNatClampNeg 3) (ea_i (ea_wi (ea_wi h (b0 + 65) (Int32.toNatClampNeg 1) 0) (b0 + 65) (Int32.toNatClampNeg 2) (ea_i (ea_wi h (b0 + 65) (Int32.toNatClampNeg 1) 0) (b0 + 41) (Int32.toNatClampNeg x1))) (b0 + 42) (Int32.toNatClampNeg x1))) (b0 + 65) (Int32.toNatClampNeg 4) (((ea_i (ea_wi (ea_wi (ea_wi h (b0 + 65) (Int32.toNatClampNeg 1) 0) (b0 + 65) (Int32.toNatClampNeg 2) (ea_i (ea_wi h (b0 + 65) (Int32.toNatClampNeg 1) 0) (b0 + 41) (Int32.toNatClampNeg x1))) (b0 + 65) (Int32.toNatClampNeg 3) (ea_i (ea_wi (ea_wi h (b0 + 65) (Int32.toNatClampNeg 1) 0) (b0 + 65) (Int32.toNatClampNeg 2) (ea_i (ea_wi h (b0 + 65) (Int32.toNatClampNeg 1) 0) (b0 + 41) (Int32.toNatClampNeg x1))) (b0 + 42) (Int32.toNatClampNeg x1))) (b0 + 44) (Int32.toNatClampNeg x1)) - (ea_i (ea_wi (ea_wi (ea_wi h (b0 + 65) (Int32.toNatClampNeg 1) 0) (b0 + 65) (Int32.toNatClampNeg 2) (ea_i (ea_wi h (b0 + 65) (Int32.toNatClampNeg 1) 0) (b0 + 41) (Int32.toNatClampNeg x1))) (b0 + 65) (Int32.toNatClampNeg 3) (ea_i (ea_wi (ea_wi h (b0 + 65) (Int32.toNatClampNeg 1) 0) (b0 + 65) (Int32.toNatClampNeg 2) (ea_i (ea_wi h (b0 + 65) (Int32.toNatClampNeg 1) 0) (b0 + 41) (Int32.toNatClampNeg x1))) (b0 + 42) (Int32.toNatClampNeg x1))) (b0 + 44) (Int32.toNatClampNeg x1)) / (1440 : Int32) * (1440 : Int32)) / (60 : Int32))) (b0 + 65) (Int32.toNatClampNeg 5) ((ea_i (ea_wi (ea_wi (ea_wi (ea_wi h (b0 + 65) (Int32.toNatClampNeg 1) 0) (b0 + 65) (Int32.toNatClampNeg 2) (ea_i (ea_wi h (b0 + 65) (Int32.toNatClampNeg 1) 0) (b0 + 41) (Int32.toNatClampNeg x1))) (b0 + 65) (Int32.toNatClampNeg 3) (ea_i (ea_wi (ea_wi h (b0 + 65) (Int32.toNatClampNeg 1) 0) (b0 + 65) (Int32.toNatClampNeg 2) (ea_i (ea_wi h (b0 + 65) (Int32.toNatClampNeg 1) 0) (b0 + 41) (Int32.toNatClampNeg x1))) (b0 + 42) (Int32.toNatClampNeg x1))) (b0 + 65) (Int32.toNatClampNeg 4) (((ea_i (ea_wi (ea_wi (ea_wi h (b0 + 65) (Int32.toNatClampNeg 1) 0) (b0 + 65) (Int32.toNatClampNeg 2) (ea_i (ea_wi h (b0 + 65) (Int32.toNatClampNeg 1) 0) (b0 + 41) (Int32.toNatClampNeg x1))) (b0 + 65) (Int32.toNatClampNeg 3) (ea_i (ea_wi (ea_wi h (b0 + 65) (Int32.toNatClampNeg 1) 0) (b0 + 65) (Int32.toNatClampNeg 2) (ea_i (ea_wi h (b0 + 65) (Int32.toNatClampNeg 1) 0) (b0 + 41) (Int32.toNatClampNeg x1))) (b0 + 42) (Int32.toNatClampNeg x1))) (b0 + 44) (Int32.toNatClampNeg x1)) - (ea_i (ea_wi (ea_wi (ea_wi h (b0 + 65) (Int32.toNatClampNeg 1) 0) (b0 + 65) (Int32.toNatClampNeg 2) (ea_i (ea_wi h (b0 + 65) (Int32.toNatClampNeg 1) 0) (b0 + 41) (Int32.toNatClampNeg x1))) (b0 + 65) (Int32.toNatClampNeg 3) (ea_i (ea_wi (ea_wi h (b0 + 65) (Int32.toNatClampNeg 1) 0) (b0 + 65) (Int32.toNatClampNeg 2) (ea_i (ea_wi h (b0 + 65) (Int32.toNatClampNeg 1) 0) (b0 + 41) (Int32.toNatClampNeg x1))) (b0 + 42) (Int32.toNatClampNeg x1))) (b0 + 44) (Int32.toNatClampNeg x1)) / (1440 : Int32) * (1440 : Int32)) / (60 : Int32))) (b0 + 44) (Int32.toNatClampNeg x1)) / (1440 : Int32))) (b0 + 65) (Int32.toNatClampNeg 6) (ea_i (ea_wi (ea_wi (ea_wi (ea_wi (ea_wi h (b0 + 65) (Int32.toNatClampNeg 1) 0) (b0 + 65) (Int32.toNatClampNeg 2) (ea_i (ea_wi h (b0 + 65) (Int32.toNatClampNeg 1) 0) (b0 + 41) (Int32.toNatClampNeg x1))) (b0 + 65) (Int32.toNatClampNeg 3) (ea_i (ea_wi (ea_wi h (b0 + 65) (Int32.toNatClampNeg 1) 0) (b0 + 65) (Int32.toNatClampNeg 2) (ea_i (ea_wi h (b0 + 65) (Int32.toNatClampNeg 1) 0) (b0 + 41) (Int32.toNatClampNeg x1))) (b0 + 42) (Int32.toNatClampNeg x1))) (b0 + 65) (Int32.toNatClampNeg 4) (((ea_i (ea_wi (ea_wi (ea_wi h (b0 + 65) (Int32.toNatClampNeg 1) 0) (b0 + 65) (Int32.toNatClampNeg 2) (ea_i (ea_wi h (b0 + 65) (Int32.toNatClampNeg 1) 0) (b0 + 41) (Int32.toNatClampNeg x1))) (b0 + 65) (Int32.toNatClampNeg 3) (ea_i (ea_wi (ea_wi h (b0 + 65) (Int32.toNatClampNeg 1) 0) (b0 + 65) (Int32.toNatClampNeg 2) (ea_i (ea_wi h (b0 + 65) (Int32.toNatClampNeg 1) 0) (b0 + 41) (Int32.toNatClampNeg x1))) (b0 + 42) (Int32.toNatClampNeg x1))) (b0 + 44) (Int32.toNatClampNeg x1)) - (ea_i (ea_wi (ea_wi (ea_wi h (b0 + 65) (Int32.toNatClampNeg 1) 0) (b0 + 65) (Int32.toNatClampNeg 2) (ea_i (ea_wi h (b0 + 65) (Int32.toNatClampNeg 1) 0) (b0 + 41) (Int32.toNatClampNeg x1))) (b0 + 65) (Int32.toNatClampNeg 3) (ea_i (ea_wi (ea_wi h (b0 + 65) (Int32.toNatClampNeg 1) 0) (b0 + 65) (Int32.toNatClampNeg 2) (ea_i (ea_wi h (b0 + 65) (Int32.toNatClampNeg 1) 0) (b0 + 41) (Int32.toNatClampNeg x1))) (b0 + 42) (Int32.toNatClampNeg x1))) (b0 + 44) (Int32.toNatClampNeg x1)) / (1440 : Int32) * (1440 : Int32)) / (60 : Int32))) (b0 + 65) (Int32.toNatClampNeg 5) ((ea_i (ea_wi (ea_wi (ea_wi (ea_wi h (b0 + 65) (Int32.toNatClampNeg 1) 0) (b0 + 65) (Int32.toNatClampNeg 2) (ea_i (ea_wi h (b0 + 65) (Int32.toNatClampNeg 1) 0) (b0 + 41) (Int32.toNatClampNeg x1))) (b0 + 65) (Int32.toNatClampNeg 3) (ea_i (ea_wi (ea_wi h (b0 + 65) (Int32.toNatClampNeg 1) 0) (b0 + 65) (Int32.toNatClampNeg 2) (ea_i (ea_wi h (b0 + 65) (Int32.toNatClampNeg 1) 0) (b0 + 41) (Int32.toNatClampNeg x1))) (b0 + 42) (Int32.toNatClampNeg x1))) (b0 + 65) (Int32.toNatClampNeg 4) (((ea_i (ea_wi (ea_wi (ea_wi h (b0 + 65) (Int32.toNatClampNeg 1) 0) (b0 + 65) (Int32.toNatClampNeg 2) (ea_i (ea_wi h (b0 + 65) (Int32.toNatClampNeg 1) 0) (b0 + 41) (Int32.toNatClampNeg x1))) (b0 + 65) (Int32.toNatClampNeg 3) (ea_i (ea_wi (ea_wi h (b0 + 65) (Int32.toNatClampNeg 1) 0) (b0 + 65) (Int32.toNatClampNeg 2) (ea_i (ea_wi h (b0 + 65) (Int32.toNatClampNeg 1) 0) (b0 + 41) (Int32.toNatClampNeg x1))) (b0 + 42) (Int32.toNatClampNeg x1))) (b0 + 44) (Int32.toNatClampNeg x1)) - (ea_i (ea_wi (ea_wi (ea_wi h (b0 + 65) (Int32.toNatClampNeg 1) 0) (b0 + 65) (Int32.toNatClampNeg 2) (ea_i (ea_wi h (b0 + 65) (Int32.toNatClampNeg 1) 0) (b0 + 41) (Int32.toNatClampNeg x1))) (b0 + 65) (Int32.toNatClampNeg 3) (ea_i (ea_wi (ea_wi h (b0 + 65) (Int32.toNatClampNeg 1) 0) (b0 + 65) (Int32.toNatClampNeg 2) (ea_i (ea_wi h (b0 + 65) (Int32.toNatClampNeg 1) 0) (b0 + 41) (Int32.toNatClampNeg x1))) (b0 + 42) (Int32.toNatClampNeg x1))) (b0 + 44) (Int32.toNatClampNeg x1)) / (1440 : Int32) * (1440 : Int32)) / (60 : Int32))) (b0 + 44) (Int32.toNatClampNeg x1)) / (1440 : Int32))) (b0 + 38) (Int32.toNatClampNeg x1))) (b0 + 65) (Int32.toNatClampNeg 7) 1)) else (if (ea_i (ea_wi (ea_wi (ea_wi (ea_wi (ea_wi (ea_wi h (b0 + 65) (Int32.toNatClampNeg 1) (ea_i h (b0 + 45) (Int32.toNatClampNeg x1))) (b0 + 65) (Int32.toNatClampNeg 2) (ea_i (ea_wi h (b0 + 65) (Int32.toNatClampNeg 1) (ea_i h (b0 + 45) (Int32.toNatClampNeg x1))) (b0 + 41) (Int32.toNatClampNeg x1))) (b0 + 65) (Int32.toNatClampNeg 3) (ea_i (ea_wi (ea_wi h (b0 + 65) (Int32.toNatClampNeg 1) (ea_i h (b0 + 45) (Int32.toNatClampNeg x1))) (b0 + 65) (Int32.toNatClampNeg 2) (ea_i (ea_wi h (b0 + 65) (Int32.toNatClampNeg 1) (ea_i h (b0 + 45) (Int32.toNatClampNeg x1))) (b0 + 41) (Int32.toNatClampNeg x1))) (b0 + 42) (Int32.toNatClampNeg x1))) (b0 + 65) (Int32.toNatClampNeg 4) (((ea_i (ea_wi (ea_wi (ea_wi h (b0 + 65) (Int32.toNatClampNeg 1) (ea_i h (b0 + 45) (Int32.toNatClampNeg x1))) (b0 + 65) (Int32.toNatClampNeg 2) (ea_i (ea_wi h (b0 + 65) (Int32.toNatClampNeg 1) (ea_i h (b0 + 45) (Int32.toNatClampNeg x1))) (b0 + 41) (Int32.toNatClampNeg x1))) (b0 + 65) (Int32.toNatClampNeg 3) (ea_i (ea_wi (ea_wi h (b0 + 65) (Int32.toNatClampNeg 1) (ea_i h (b0 + 45) (Int32.toNatClampNeg x1))) (b0 + 65) (Int32.toNatClampNeg 2) (ea_i (ea_wi h (b0 + 65) (Int32.toNatClampNeg 1) (ea_i h (b0 + 45) (Int32.toNatClampNeg x1))) (b0 + 41) (Int32.toNatClampNeg x1))) (b0 + 42) (Int32.toNatClampNeg x1))) (b0 + 44) (Int32.toNatClampNeg x1)) - (ea_i (ea_wi (ea_wi (ea_wi h (b0 + 65) (Int32.toNatClampNeg 1) (ea_i h (b0 + 45) (Int32.toNatClampNeg x1))) (b0 + 65) (Int32.toNatClampNeg 2) (ea_i (ea_wi h (b0 + 65) (Int32.toNatClampNeg 1) (ea_i h (b0 + 45) (Int32.toNatClampNeg x1))) (b0 + 41) (Int32.toNatClampNeg x1))) (b0 + 65) (Int32.toNatClampNeg 3) (ea_i (ea_wi (ea_wi h (b0 + 65) (Int32.toNatClampNeg 1) (ea_i h (b0 + 45) (Int32.toNatClampNeg x1))) (b0 + 65) (Int32.toNatClampNeg 2) (ea_i (ea_wi h (b0 + 65) (Int32.toNatClampNeg 1) (ea_i h (b0 + 45) (Int32.toNatClampNeg x1))) (b0 + 41) (Int32.toNatClampNeg x1))) (b0 + 42) (Int32.toNatClampNeg x1))) (b0 + 44) (Int32.toNatClampNeg x1)) / (1440 : Int32) * (1440 : Int32)) / (60 : Int32))) (b0 + 65) (Int32.toNatClampNeg 5) ((ea_i (ea_wi (ea_wi (ea_wi (ea_wi h (b0 + 65) (Int32.toNatClampNeg 1) (ea_i h (b0 + 45) (Int32.toNatClampNeg x1))) (b0 + 65) (Int32.toNatClampNeg 2) (ea_i (ea_wi h (b0 + 65) (Int32.toNatClampNeg 1) (ea_i h (b0 + 45) (Int32.toNatClampNeg x1))) (b0 + 41) (Int32.toNatClampNeg x1))) (b0 + 65) (Int32.toNatClampNeg 3) (ea_i (ea_wi (ea_wi h (b0 + 65) (Int32.toNatClampNeg 1) (ea_i h (b0 + 45) (Int32.toNatClampNeg x1))) (b0 + 65) (Int32.toNatClampNeg 2) (ea_i (ea_wi h (b0 + 65) (Int32.toNatClampNeg 1) (ea_i h (b0 + 45) (Int32.toNatClampNeg x1))) (b0 + 41) (Int32.toNatClampNeg x1))) (b0 + 42) (Int32.toNatClampNeg x1))) (b0 + 65) (Int32.toNatClampNeg 4) (((ea_i (ea_wi (ea_wi (ea_wi h (b0 + 65) (Int32.toNatClampNeg 1) (ea_i h (b0 + 45) (Int32.toNatClampNeg x1))) (b0 + 65) (Int32.toNatClampNeg 2) (ea_i (ea_wi h (b0 + 65) (Int32.toNatClampNeg 1) (ea_i h (b0 + 45) (Int32.toNatClampNeg x1))) (b0 + 41) (Int32.toNatClampNeg x1))) (b0 + 65) (Int32.toNatClampNeg 3) (ea_i (ea_wi (ea_wi h (b0 + 65) (Int32.toNatClampNeg 1) (ea_i h (b0 + 45) (Int32.toNatClampNeg x1))) (b0 + 65) (Int32.toNatClampNeg 2) (ea_i (ea_wi h (b0 + 65) (Int32.toNatClampNeg 1) (ea_i h (b0 + 45) (Int32.toNatClampNeg x1))) (b0 + 41) (Int32.toNatClampNeg x1))) (b0 + 42) (Int32.toNatClampNeg x1))) (b0 + 44) (Int32.toNatClampNeg x1)) - (ea_i (ea_wi (ea_wi (ea_wi h (b0 + 65) (Int32.toNatClampNeg 1) (ea_i h (b0 + 45) (Int32.toNatClampNeg x1))) (b0 + 65) (Int32.toNatClampNeg 2) (ea_i (ea_wi h (b0 + 65) (Int32.toNatClampNeg 1) (ea_i h (b0 + 45) (Int32.toNatClampNeg x1))) (b0 + 41) (Int32.toNatClampNeg x1))) (b0 + 65) (Int32.toNatClampNeg 3) (ea_i (ea_wi (ea_wi h (b0 + 65) (Int32.toNatClampNeg 1) (ea_i h (b0 + 45) (Int32.toNatClampNeg x1))) (b0 + 65) (Int32.toNatClampNeg 2) (ea_i (ea_wi h (b0 + 65) (Int32.toNatClampNeg 1) (ea_i h (b0 + 45) (Int32.toNatClampNeg x1))) (b0 + 41) (Int32.toNatClampNeg x1))) (b0 + 42) (Int32.toNatClampNeg x1))) (b0 + 44) (Int32.toNatClampNeg x1)) / (1440 : Int32) * (1440 : Int32)) / (60 : Int32))) (b0 + 44) (Int32.toNatClampNeg x1)) / (1440 : Int32))) (b0 + 65) (Int32.toNatClampNeg 6) (ea_i (ea_wi (ea_wi (ea_wi (ea_wi (ea_wi h (b0 + 65) (Int32.toNatClampNeg 1) (ea_i h (b0 + 45) (Int32.toNatClampNeg x1))) (b0 + 65) (Int32.toNatClampNeg 2) (ea_i (ea_wi h (b0 + 65) (Int32.toNatClampNeg 1) (ea_i h (b0 + 45) (Int32.toNatClampNeg x1))) (b0 + 41) (Int32.toNatClampNeg x1))) (b0 + 65) (Int32.toNatClampNeg 3) (ea_i (ea_wi (ea_wi h (b0 + 65) (Int32.toNatClampNeg 1) (ea_i h (b0 + 45) (Int32.toNatClampNeg x1))) (b0 + 65) (Int32.toNatClampNeg 2) (ea_i (ea_wi h (b0 + 65) (Int32.toNatClampNeg 1) (ea_i h (b0 + 45) (Int32.toNatClampNeg x1))) (b0 + 41) (Int32.toNatClampNeg x1))) (b0 + 42) (Int32.toNatClampNeg x1))) (b0 + 65) (Int32.toNatClampNeg 4) (((ea_i (ea_wi (ea_wi (ea_wi h (b0 + 65) (Int32.toNatClampNeg 1) (ea_i h (b0 + 45) (Int32.toNatClampNeg x1))) (b0 + 65) (Int32.toNatClampNeg 2) (ea_i (ea_wi h (b0 + 65) (Int32.toNatClampNeg 1) (ea_i h (b0 + 45) (Int32.toNatClampNeg x1))) (b0 + 41) (Int32.toNatClampNeg x1))) (b0 + 65) (Int32.toNatClampNeg 3) (ea_i (ea_wi (ea_wi h (b0 + 65) (Int32.toNatClampNeg 1) (ea_i h (b0 + 45) (Int32.toNatClampNeg x1))) (b0 + 65) (Int32.toNatClampNeg 2) (ea_i (ea_wi h (b0 + 65) (Int32.toNatClampNeg 1) (ea_i h (b0 + 45) (Int32.toNatClampNeg x1))) (b0 + 41) (Int32.toNatClampNeg x1))) (b0 + 42) (Int32.toNatClampNeg x1))) (b0 + 44) (Int32.toNatClampNeg x1)) - (ea_i (ea_wi (ea_wi (ea_wi h (b0 + 65) (Int32.toNatClampNeg 1) (ea_i h (b0 + 45) (Int32.toNatClampNeg x1))) (b0 + 65) (Int32.toNatClampNeg 2) (ea_i (ea_wi h (b0 + 65) (Int32.toNatClampNeg 1) (ea_i h (b0 + 45) (Int32.toNatClampNeg x1))) (b0 + 41) (Int32.toNatClampNeg x1))) (b0 + 65) (Int32.toNatClampNeg 3) (ea_i (ea_wi (ea_wi h (b0 + 65) (Int32.toNatClampNeg 1) (ea_i h (b0 + 45) (Int32.toNatClampNeg x1))) (b0 + 65) (Int32.toNatClampNeg 2) (ea_i (ea_wi h (b0 + 65) (Int32.toNatClampNeg 1) (ea_i h (b0 + 45) (Int32.toNatClampNeg x1))) (b0 + 41) (Int32.toNatClampNeg x1))) (b0 + 42) (Int32.toNatClampNeg x1))) (b0 + 44) (Int32.toNatClampNeg x1)) / (1440 : Int32) * (1440 : Int32)) / (60 : Int32))) (b0 + 65) (Int32.toNatClampNeg 5) ((ea_i (ea_wi (ea_wi (ea_wi (ea_wi h (b0 + 65) (Int32.toNatClampNeg 1) (ea_i h (b0 + 45) (Int32.toNatClampNeg x1))) (b0 + 65) (Int32.toNatClampNeg 2) (ea_i (ea_wi h (b0 + 65) (Int32.toNatClampNeg 1) (ea_i h (b0 + 45) (Int32.toNatClampNeg x1))) (b0 + 41) (Int32.toNatClampNeg x1))) (b0 + 65) (Int32.toNatClampNeg 3) (ea_i (ea_wi (ea_wi h (b0 + 65) (Int32.toNatClampNeg 1) (ea_i h (b0 + 45) (Int32.toNatClampNeg x1))) (b0 + 65) (Int32.toNatClampNeg 2) (ea_i (ea_wi h (b0 + 65) (Int32.toNatClampNeg 1) (ea_i h (b0 + 45) (Int32.toNatClampNeg x1))) (b0 + 41) (Int32.toNatClampNeg x1))) (b0 + 42) (Int32.toNatClampNeg x1))) (b0 + 65) (Int32.toNatClampNeg 4) (((ea_i (ea_wi (ea_wi (ea_wi h (b0 + 65) (Int32.toNatClampNeg 1) (ea_i h (b0 + 45) (Int32.toNatClampNeg x1))) (b0 + 65) (Int32.toNatClampNeg 2) (ea_i (ea_wi h (b0 + 65) (Int32.toNatClampNeg 1) (ea_i h (b0 + 45) (Int32.toNatClampNeg x1))) (b0 + 41) (Int32.toNatClampNeg x1))) (b0 + 65) (Int32.toNatClampNeg 3) (ea_i (ea_wi (ea_wi h (b0 + 65) (Int32.toNatClampNeg 1) (ea_i h (b0 + 45) (Int32.toNatClampNeg x1))) (b0 + 65) (Int32.toNatClampNeg 2) (ea_i (ea_wi h (b0 + 65) (Int32.toNatClampNeg 1) (ea_i h (b0 + 45) (Int32.toNatClampNeg x1))) (b0 + 41) (Int32.toNatClampNeg x1))) (b0 + 42) (Int32.toNatClampNeg x1))) (b0 + 44) (Int32.toNatClampNeg x1)) - (ea_i (ea_wi (ea_wi (ea_wi h (b0 + 65) (Int32.toNatClampNeg 1) (ea_i h (b0 + 45) (Int32.toNatClampNeg x1))) (b0 + 65) (Int32.toNatClampNeg 2) (ea_i (ea_wi h (b0 + 65) (Int32.toNatClampNeg 1) (ea_i h (b0 + 45) (Int32.toNatClampNeg x1))) (b0 + 41) (Int32.toNatClampNeg x1))) (b0 + 65) (Int32.toNatClampNeg 3) (ea_i (ea_wi (ea_wi h (b0 + 65) (Int32.toNatClampNeg 1) (ea_i h (b0 + 45) (Int32.toNatClampNeg x1))) (b0 + 65) (Int32.toNatClampNeg 2) (ea_i (ea_wi h (b0 + 65) (Int32.toNatClampNeg 1) (ea_i h (b0 + 45) (Int32.toNatClampNeg x1))) (b0 + 41) (Int32.toNatClampNeg x1))) (b0 + 42) (Int32.toNatClampNeg x1))) (b0 + 44) (Int32.toNatClampNeg x1)) / (1440 : Int32) * (1440 : Int32)) / (60 : Int32))) (b0 + 44) (Int32.toNatClampNeg x1)) / (1440 : Int32))) (b0 + 38) (Int32.toNatClampNeg x1))) (b0 + 52) (Int32.toNatClampNeg x1)) = (0 : Int32) then (ea_wi (ea_wi (ea_wi (ea_wi (ea_wi (ea_wi (ea_wi h (b0 + 65) (Int32.toNatClampNeg 1) (ea_i h (b0 + 45) (Int32.toNatClampNeg x1))) (b0 + 65) (Int32.toNatClampNeg 2) (ea_i (ea_wi h (b0 + 65) (Int32.toNatClampNeg 1) (ea_i h (b0 + 45) (Int32.toNatClampNeg x1))) (b0 + 41) (Int32.toNatClampNeg x1))) (b0 + 65) (Int32.toNatClampNeg 3) (ea_i (ea_wi (ea_wi h (b0 + 65) (Int32.toNatClampNeg 1) (ea_i h (b0 + 45) (Int32.toNatClampNeg x1))) (b0 + 65) (Int32.toNatClampNeg 2) (ea_i (ea_wi h (b0 + 65) (Int32.toNatClampNeg 1) (ea_i h (b0 + 45) (Int32.toNatClampNeg x1))) (b0 + 41) (Int32.toNatClampNeg x1))) (b0 + 42) (Int32.toNatClampNeg x1))) (b0 + 65) (Int32.toNatClampNeg 4) (((ea_i (ea_wi (ea_wi (ea_wi h (b0 + 65) (Int32.toNatClampNeg 1) (ea_i h (b0 + 45) (Int32.toNatClampNeg x1))) (b0 + 65) (Int32.toNatClampNeg 2) (ea_i (ea_wi h (b0 + 65) (Int32.toNatClampNeg 1) (ea_i h (b0 + 45) (Int32.toNatClampNeg x1))) (b0 + 41) (Int32.toNatClampNeg x1))) (b0 + 65) (Int32.toNatClampNeg 3) (ea_i (ea_wi (ea_wi h (b0 + 65) (Int32.toNatClampNeg 1) (ea_i h (b0 + 45) (Int32.toNatClampNeg x1))) (b0 + 65) (Int32.toNatClampNeg 2) (ea_i (ea_wi h (b0 + 65) (Int32.toNatClampNeg 1) (ea_i h (b0 + 45) (Int32.toNatClampNeg x1))) (b0 + 41) (Int32.toNatClampNeg x1))) (b0 + 42) (Int32.toNatClampNeg x1))) (b0 + 44) (Int32.toNatClampNeg x1)) - (ea_i (ea_wi (ea_wi (ea_wi h (b0 + 65) (Int32.toNatClampNeg 1) (ea_i h (b0 + 45) (Int32.toNatClampNeg x1))) (b0 + 65) (Int32.toNatClampNeg 2) (ea_i (ea_wi h (b0 + 65) (Int32.toNatClampNeg 1) (ea_i h (b0 + 45) (Int32.toNatClampNeg x1))) (b0 + 41) (Int32.toNatClampNeg x1))) (b0 + 65) (Int32.toNatClampNeg 3) (ea_i (ea_wi (ea_wi h (b0 + 65) (Int32.toNatClampNeg 1) (ea_i h (b0 + 45) (Int32.toNatClampNeg x1))) (b0 + 65) (Int32.toNatClampNeg 2) (ea_i (ea_wi h (b0 + 65) (Int32.toNatClampNeg 1) (ea_i h (b0 + 45) (Int32.toNatClampNeg x1))) (b0 + 41) (Int32.toNatClampNeg x1))) (b0 + 42) (Int32.toNatClampNeg x1))) (b0 + 44) (Int32.toNatClampNeg x1)) / (1440 : Int32) * (1440 : Int32)) / (60 : Int32))) (b0 + 65) (Int32.toNatClampNeg 5) ((ea_i (ea_wi (ea_wi (ea_wi (ea_wi h (b0 + 65) (Int32.toNatClampNeg 1) (ea_i h (b0 + 45) (Int32.toNatClampNeg x1))) (b0 + 65) (Int32.toNatClampNeg 2) (ea_i (ea_wi h (b0 + 65) (Int32.toNatClampNeg 1) (ea_i h (b0 + 45) (Int32.toNatClampNeg x1))) (b0 + 41) (Int32.toNatClampNeg x1))) (b0 + 65) (Int32.toNatClampNeg 3) (ea_i (ea_wi (ea_wi h (b0 + 65) (Int32.toNatClampNeg 1) (ea_i h (b0 + 45) (Int32.toNatClampNeg x1))) (b0 + 65) (Int32.toNatClampNeg 2) (ea_i (ea_wi h (b0 + 65) (Int32.toNatClampNeg 1) (ea_i h (b0 + 45) (Int32.toNatClampNeg x1))) (b0 + 41) (Int32.toNatClampNeg x1))) (b0 + 42) (Int32.toNatClampNeg x1))) (b0 + 65) (Int32.toNatClampNeg 4) (((ea_i (ea_wi (ea_wi (ea_wi h (b0 + 65) (Int32.toNatClampNeg 1) (ea_i h (b0 + 45) (Int32.toNatClampNeg x1))) (b0 + 65) (Int32.toNatClampNeg 2) (ea_i (ea_wi h (b0 + 65) (Int32.toNatClampNeg 1) (ea_i h (b0 + 45) (Int32.toNatClampNeg x1))) (b0 + 41) (Int32.toNatClampNeg x1))) (b0 + 65) (Int32.toNatClampNeg 3) (ea_i (ea_wi (ea_wi h (b0 + 65) (Int32.toNatClampNeg 1) (ea_i h (b0 + 45) (Int32.toNatClampNeg x1))) (b0 + 65) (Int32.toNatClampNeg 2) (ea_i (ea_wi h (b0 + 65) (Int32.toNatClampNeg 1) (ea_i h (b0 + 45) (Int32.toNatClampNeg x1))) (b0 + 41) (Int32.toNatClampNeg x1))) (b0 + 42) (Int32.toNatClampNeg x1))) (b0 + 44) (Int32.toNatClampNeg x1)) - (ea_i (ea_wi (ea_wi (ea_wi h (b0 + 65) (Int32.toNatClampNeg 1) (ea_i h (b0 + 45) (Int32.toNatClampNeg x1))) (b0 + 65) (Int32.toNatClampNeg 2) (ea_i (ea_wi h (b0 + 65) (Int32.toNatClampNeg 1) (ea_i h (b0 + 45) (Int32.toNatClampNeg x1))) (b0 + 41) (Int32.toNatClampNeg x1))) (b0 + 65) (Int32.toNatClampNeg 3) (ea_i (ea_wi (ea_wi h (b0 + 65) (Int32.toNatClampNeg 1) (ea_i h (b0 + 45) (Int32.toNatClampNeg x1))) (b0 + 65) (Int32.toNatClampNeg 2) (ea_i (ea_wi h (b0 + 65) (Int32.toNatClampNeg 1) (ea_i h (b0 + 45) (Int32.toNatClampNeg x1))) (b0 + 41) (Int32.toNatClampNeg x1))) (b0 + 42) (Int32.toNatClampNeg x1))) (b0 + 44) (Int32.toNatClampNeg x1)) / (1440 : Int32) * (1440 : Int32)) / (60 : Int32))) (b0 + 44) (Int32.toNatClampNeg x1)) / (1440 : Int32))) (b0 + 65) (Int32.toNatClampNeg 6) (ea_i (ea_wi (ea_wi (ea_wi (ea_wi (ea_wi h (b0 + 65) (Int32.toNatClampNeg 1) (ea_i h (b0 + 45) (Int32.toNatClampNeg x1))) (b0 + 65) (Int32.toNatClampNeg 2) (ea_i (ea_wi h (b0 + 65) (Int32.toNatClampNeg 1) (ea_i h (b0 + 45) (Int32.toNatClampNeg x1))) (b0 + 41) (Int32.toNatClampNeg x1))) (b0 + 65) (Int32.toNatClampNeg 3) (ea_i (ea_wi (ea_wi h (b0 + 65) (Int32.toNatClampNeg 1) (ea_i h (b0 + 45) (Int32.toNatClampNeg x1))) (b0 + 65) (Int32.toNatClampNeg 2) (ea_i (ea_wi h (b0 + 65) (Int32.toNatClampNeg 1) (ea_i h (b0 + 45) (Int32.toNatClampNeg x1))) (b0 + 41) (Int32.toNatClampNeg x1))) (b0 + 42) (Int32.toNatClampNeg x1))) (b0 + 65) (Int32.toNatClampNeg 4) (((ea_i (ea_wi (ea_wi (ea_wi h (b0 + 65) (Int32.toNatClampNeg 1) (ea_i h (b0 + 45) (Int32.toNatClampNeg x1))) (b0 + 65) (Int32.toNatClampNeg 2) (ea_i (ea_wi h (b0 + 65) (Int32.toNatClampNeg 1) (ea_i h (b0 + 45) (Int32.toNatClampNeg x1))) (b0 + 41) (Int32.toNatClampNeg x1))) (b0 + 65) (Int32.toNatClampNeg 3) (ea_i (ea_wi (ea_wi h (b0 + 65) (Int32.toNatClampNeg 1) (ea_i h (b0 + 45) (Int32.toNatClampNeg x1))) (b0 + 65) (Int32.toNatClampNeg 2) (ea_i (ea_wi h (b0 + 65) (Int32.toNatClampNeg 1) (ea_i h (b0 + 45) (Int32.toNatClampNeg x1))) (b0 + 41) (Int32.toNatClampNeg x1))) (b0 + 42) (Int32.toNatClampNeg x1))) (b0 + 44) (Int32.toNatClampNeg x1)) - (ea_i (ea_wi (ea_wi (ea_wi h (b0 + 65) (Int32.toNatClampNeg 1) (ea_i h (b0 + 45) (Int32.toNatClampNeg x1))) (b0 + 65) (Int32.toNatClampNeg 2) (ea_i (ea_wi h (b0 + 65) (Int32.toNatClampNeg 1) (ea_i h (b0 + 45) (Int32.toNatClampNeg x1))) (b0 + 41) (Int32.toNatClampNeg x1))) (b0 + 65) (Int32.toNatClampNeg 3) (ea_i (ea_wi (ea_wi h (b0 + 65) (Int32.toNatClampNeg 1) (ea_i h (b0 + 45) (Int32.toNatClampNeg x1))) (b0 + 65) (Int32.toNatClampNeg 2) (ea_i (ea_wi h (b0 + 65) (Int32.toNatClampNeg 1) (ea_i h (b0 + 45) (Int32.toNatClampNeg x1))) (b0 + 41) (Int32.toNatClampNeg x1))) (b0 + 42) (Int32.toNatClampNeg x1))) (b0 + 44) (Int32.toNatClampNeg x1)) / (1440 : Int32) * (1440 : Int32)) / (60 : Int32))) (b0 + 65) (Int32.toNatClampNeg 5) ((ea_i (ea_wi (ea_wi (ea_wi (ea_wi h (b0 + 65) (Int32.toNatClampNeg 1) (ea_i h (b0 + 45) (Int32.toNatClampNeg x1))) (b0 + 65) (Int32.toNatClampNeg 2) (ea_i (ea_wi h (b0 + 65) (Int32.toNatClampNeg 1) (ea_i h (b0 + 45) (Int32.toNatClampNeg x1))) (b0 + 41) (Int32.toNatClampNeg x1))) (b0 + 65) (Int32.toNatClampNeg 3) (ea_i (ea_wi (ea_wi h (b0 + 65) (Int32.toNatClampNeg 1) (ea_i h (b0 + 45) (Int32.toNatClampNeg x1))) (b0 + 65) (Int32.toNatClampNeg 2) (ea_i (ea_wi h (b0 + 65) (Int32.toNatClampNeg 1) (ea_i h (b0 + 45) (Int32.toNatClampNeg x1))) (b0 + 41) (Int32.toNatClampNeg x1))) (b0 + 42) (Int32.toNatClampNeg x1))) (b0 + 65) (Int32.toNatClampNeg 4) (((ea_i (ea_wi (ea_wi (ea_wi h (b0 + 65) (Int32.toNatClampNeg 1) (ea_i h (b0 + 45) (Int32.toNatClampNeg x1))) (b0 + 65) (Int32.toNatClampNeg 2) (ea_i (ea_wi h (b0 + 65) (Int32.toNatClampNeg 1) (ea_i h (b0 + 45) (Int32.toNatClampNeg x1))) (b0 + 41) (Int32.toNatClampNeg x1))) (b0 + 65) (Int32.toNatClampNeg 3) (ea_i (ea_wi (ea_wi h (b0 + 65) (Int32.toNatClampNeg 1) (ea_i h (b0 + 45) (Int32.toNatClampNeg x1))) (b0 + 65) (Int32.toNatClampNeg 2) (ea_i (ea_wi h (b0 + 65) (Int32.toNatClampNeg 1) (ea_i h (b0 + 45) (Int32.toNatClampNeg x1))) (b0 + 41) (Int32.toNatClampNeg x1))) (b0 + 42) (Int32.toNatClampNeg x1))) (b0 + 44) (Int32.toNatClampNeg x1)) - (ea_i (ea_wi (ea_wi (ea_wi h (b0 + 65) (Int32.toNatClampNeg 1) (ea_i h (b0 + 45) (Int32.toNatClampNeg x1))) (b0 + 65) (Int32.toNatClampNeg 2) (ea_i (ea_wi h (b0 + 65) (Int32.toNatClampNeg 1) (ea_i h (b0 + 45) (Int32.toNatClampNeg x1))) (b0 + 41) (Int32.toNatClampNeg x1))) (b0 + 65) (Int32.toNatClampNeg 3) (ea_i (ea_wi (ea_wi h (b0 + 65) (Int32.toNatClampNeg 1) (ea_i h (b0 + 45) (Int32.toNatClampNeg x1))) (b0 + 65) (Int32.toNatClampNeg 2) (ea_i (ea_wi h (b0 + 65) (Int32.toNatClampNeg 1) (ea_i h (b0 + 45) (Int32.toNatClampNeg x1))) (b0 + 41) (Int32.toNatClampNeg x1))) (b0 + 42) (Int32.toNatClampNeg x1))) (b0 + 44) (Int32.toNatClampNeg x1)) / (1440 : Int32) * (1440 : Int32)) / (60 : Int32))) (b0 + 44) (Int32.toNatClampNeg x1)) / (1440 : Int32))) (b0 + 38) (Int32.toNatClampNeg x1))) (b0 + 65) (Int32.toNatClampNeg 7) 0) else (ea_wi (ea_wi (ea_wi (ea_wi (ea_wi (ea_wi (ea_wi h (b0 + 65) (Int32.toNatClampNeg 1) (ea_i h (b0 + 45) (Int32.toNatClampNeg x1))) (b0 + 65) (Int32.toNatClampNeg 2) (ea_i (ea_wi h (b0 + 65) (Int32.toNatClampNeg 1) (ea_i h (b0 + 45) (Int32.toNatClampNeg x1))) (b0 + 41) (Int32.toNatClampNeg x1))) (b0 + 65) (Int32.toNatClampNeg 3) (ea_i (ea_wi (ea_wi h (b0 + 65) (Int32.toNatClampNeg 1) (ea_i h (b0 + 45) (Int32.toNatClampNeg x1))) (b0 + 65) (Int32.toNatClampNeg 2) (ea_i (ea_wi h (b0 + 65) (Int32.toNatClampNeg 1) (ea_i h (b0 + 45) (Int32.toNatClampNeg x1))) (b0 + 41) (Int32.toNatClampNeg x1))) (b0 + 42) (Int32.toNatClampNeg x1))) (b0 + 65) (Int32.toNatClampNeg 4) (((ea_i (ea_wi (ea_wi (ea_wi h (b0 + 65) (Int32.toNatClampNeg 1) (ea_i h (b0 + 45) (Int32.toNatClampNeg x1))) (b0 + 65) (Int32.toNatClampNeg 2) (ea_i (ea_wi h (b0 + 65) (Int32.toNatClampNeg 1) (ea_i h (b0 + 45) (Int32.toNatClampNeg x1))) (b0 + 41) (Int32.toNatClampNeg x1))) (b0 + 65) (Int32.toNatClampNeg 3) (ea_i (ea_wi (ea_wi h (b0 + 65) (Int32.toNatClampNeg 1) (ea_i h (b0 + 45) (Int32.toNatClampNeg x1))) (b0 + 65) (Int32.toNatClampNeg 2) (ea_i (ea_wi h (b0 + 65) (Int32.toNatClampNeg 1) (ea_i h (b0 + 45) (Int32.toNatClampNeg x1))) (b0 + 41) (Int32.toNatClampNeg x1))) (b0 + 42) (Int32.toNatClampNeg x1))) (b0 + 44) (Int32.toNatClampNeg x1)) - (ea_i (ea_wi (ea_wi (ea_wi h (b0 + 65) (Int32.toNatClampNeg 1) (ea_i h (b0 + 45) (Int32.toNatClampNeg x1))) (b0 + 65) (Int32.toNatClampNeg 2) (ea_i (ea_wi h (b0 + 65) (Int32.toNatClampNeg 1) (ea_i h (b0 + 45) (Int32.toNatClampNeg x1))) (b0 + 41) (Int32.toNatClampNeg x1))) (b0 + 65) (Int32.toNatClampNeg 3) (ea_i (ea_wi (ea_wi h (b0 + 65) (Int32.toNatClampNeg 1) (ea_i h (b0 + 45) (Int32.toNatClampNeg x1))) (b0 + 65) (Int32.toNatClampNeg 2) (ea_i (ea_wi h (b0 + 65) (Int32.toNatClampNeg 1) (ea_i h (b0 + 45) (Int32.toNatClampNeg x1))) (b0 + 41) (Int32.toNatClampNeg x1))) (b0 + 42) (Int32.toNatClampNeg x1))) (b0 + 44) (Int32.toNatClampNeg x1)) / (1440 : Int32) * (1440 : Int32)) / (60 : Int32))) (b0 + 65) (Int32.toNatClampNeg 5) ((ea_i (ea_wi (ea_wi (ea_wi (ea_wi h (b0 + 65) (Int32.toNatClampNeg 1) (ea_i h (b0 + 45) (Int32.toNatClampNeg x1))) (b0 + 65) (Int32.toNatClampNeg 2) (ea_i (ea_wi h (b0 + 65) (Int32.toNatClampNeg 1) (ea_i h (b0 + 45) (Int32.toNatClampNeg x1))) (b0 + 41) (Int32.toNatClampNeg x1))) (b0 + 65) (Int32.toNatClampNeg 3) (ea_i (ea_wi (ea_wi h (b0 + 65) (Int32.toNatClampNeg 1) (ea_i h (b0 + 45) (Int32.toNatClampNeg x1))) (b0 + 65) (Int32.toNatClampNeg 2) (ea_i (ea_wi h (b0 + 65) (Int32.toNatClampNeg 1) (ea_i h (b0 + 45) (Int32.toNatClampNeg x1))) (b0 + 41) (Int32.toNatClampNeg x1))) (b0 + 42) (Int32.toNatClampNeg x1))) (b0 + 65) (Int32.toNatClampNeg 4) (((ea_i (ea_wi (ea_wi (ea_wi h (b0 + 65) (Int32.toNatClampNeg 1) (ea_i h (b0 + 45) (Int32.toNatClampNeg x1))) (b0 + 65) (Int32.toNatClampNeg 2) (ea_i (ea_wi h (b0 + 65) (Int32.toNatClampNeg 1) (ea_i h (b0 + 45) (Int32.toNatClampNeg x1))) (b0 + 41) (Int32.toNatClampNeg x1))) (b0 + 65) (Int32.toNatClampNeg 3) (ea_i (ea_wi (ea_wi h (b0 + 65) (Int32.toNatClampNeg 1) (ea_i h (b0 + 45) (Int32.toNatClampNeg x1))) (b0 + 65) (Int32.toNatClampNeg 2) (ea_i (ea_wi h (b0 + 65) (Int32.toNatClampNeg 1) (ea_i h (b0 + 45) (Int32.toNatClampNeg x1))) (b0 + 41) (Int32.toNatClampNeg x1))) (b0 + 42) (Int32.toNatClampNeg x1))) (b0 + 44) (Int32.toNatClampNeg x1)) - (ea_i (ea_wi (ea_wi (ea_wi h (b0 + 65) (Int32.toNatClampNeg 1) (ea_i h (b0 + 45) (Int32.toNatClampNeg x1))) (b0 + 65) (Int32.toNatClampNeg 2) (ea_i (ea_wi h (b0 + 65) (Int32.toNatClampNeg 1) (ea_i h (b0 + 45) (Int32.toNatClampNeg x1))) (b0 + 41) (Int32.toNatClampNeg x1))) (b0 + 65) (Int32.toNatClampNeg 3) (ea_i (ea_wi (ea_wi h (b0 + 65) (Int32.toNatClampNeg 1) (ea_i h (b0 + 45) (Int32.toNatClampNeg x1))) (b0 + 65) (Int32.toNatClampNeg 2) (ea_i (ea_wi h (b0 + 65) (Int32.toNatClampNeg 1) (ea_i h (b0 + 45) (Int32.toNatClampNeg x1))) (b0 + 41) (Int32.toNatClampNeg x1))) (b0 + 42) (Int32.toNatClampNeg x1))) (b0 + 44) (Int32.toNatClampNeg x1)) / (1440 : Int32) * (1440 : Int32)) / (60 : Int32))) (b0 + 44) (Int32.toNatClampNeg x1)) / (1440 : Int32))) (b0 + 65) (Int32.toNatClampNeg 6) (ea_i (ea_wi (ea_wi (ea_wi (ea_wi (ea_wi h (b0 + 65) (Int32.toNatClampNeg 1) (ea_i h (b0 + 45) (Int32.toNatClampNeg x1))) (b0 + 65) (Int32.toNatClampNeg 2) (ea_i (ea_wi h (b0 + 65) (Int32.toNatClampNeg 1) (ea_i h (b0 + 45) (Int32.toNatClampNeg x1))) (b0 + 41) (Int32.toNatClampNeg x1))) (b0 + 65) (Int32.toNatClampNeg 3) (ea_i (ea_wi (ea_wi h (b0 + 65) (Int32.toNatClampNeg 1) (ea_i h (b0 + 45) (Int32.toNatClampNeg x1))) (b0 + 65) (Int32.toNatClampNeg 2) (ea_i (ea_wi h (b0 + 65) (Int32.toNatClampNeg 1) (ea_i h (b0 + 45) (Int32.toNatClampNeg x1))) (b0 + 41) (Int32.toNatClampNeg x1))) (b0 + 42) (Int32.toNatClampNeg x1))) (b0 + 65) (Int32.toNatClampNeg 4) (((ea_i (ea_wi (ea_wi (ea_wi h (b0 + 65) (Int32.toNatClampNeg 1) (ea_i h (b0 + 45) (Int32.toNatClampNeg x1))) (b0 + 65) (Int32.toNatClampNeg 2) (ea_i (ea_wi h (b0 + 65) (Int32.toNatClampNeg 1) (ea_i h (b0 + 45) (Int32.toNatClampNeg x1))) (b0 + 41) (Int32.toNatClampNeg x1))) (b0 + 65) (Int32.toNatClampNeg 3) (ea_i (ea_wi (ea_wi h (b0 + 65) (Int32.toNatClampNeg 1) (ea_i h (b0 + 45) (Int32.toNatClampNeg x1))) (b0 + 65) (Int32.toNatClampNeg 2) (ea_i (ea_wi h (b0 + 65) (Int32.toNatClampNeg 1) (ea_i h (b0 + 45) (Int32.toNatClampNeg x1))) (b0 + 41) (Int32.toNatClampNeg x1))) (b0 + 42) (Int32.toNatClampNeg x1))) (b0 + 44) (Int32.toNatClampNeg x1)) - (ea_i (ea_wi (ea_wi (ea_wi h (b0 + 65) (Int32.toNatClampNeg 1) (ea_i h (b0 + 45) (Int32.toNatClampNeg x1))) (b0 + 65) (Int32.toNatClampNeg 2) (ea_i (ea_wi h (b0 + 65) (Int32.toNatClampNeg 1) (ea_i h (b0 + 45) (Int32.toNatClampNeg x1))) (b0 + 41) (Int32.toNatClampNeg x1))) (b0 + 65) (Int32.toNatClampNeg 3) (ea_i (ea_wi (ea_wi h (b0 + 65) (Int32.toNatClampNeg 1) (ea_i h (b0 + 45) (Int32.toNatClampNeg x1))) (b0 + 65) (Int32.toNatClampNeg 2) (ea_i (ea_wi h (b0 + 65) (Int32.toNatClampNeg 1) (ea_i h (b0 + 45) (Int32.toNatClampNeg x1))) (b0 + 41) (Int32.toNatClampNeg x1))) (b0 + 42) (Int32.toNatClampNeg x1))) (b0 + 44) (Int32.toNatClampNeg x1)) / (1440 : Int32) * (1440 : Int32)) / (60 : Int32))) (b0 + 65) (Int32.toNatClampNeg 5) ((ea_i (ea_wi (ea_wi (ea_wi (ea_wi h (b0 + 65) (Int32.toNatClampNeg 1) (ea_i h (b0 + 45) (Int32.toNatClampNeg x1))) (b0 + 65) (Int32.toNatClampNeg 2) (ea_i (ea_wi h (b0 + 65) (Int32.toNatClampNeg 1) (ea_i h (b0 + 45) (Int32.toNatClampNeg x1))) (b0 + 41) (Int32.toNatClampNeg x1))) (b0 + 65) (Int32.toNatClampNeg 3) (ea_i (ea_wi (ea_wi h (b0 + 65) (Int32.toNatClampNeg 1) (ea_i h (b0 + 45) (Int32.toNatClampNeg x1))) (b0 + 65) (Int32.toNatClampNeg 2) (ea_i (ea_wi h (b0 + 65) (Int32.toNatClampNeg 1) (ea_i h (b0 + 45) (Int32.toNatClampNeg x1))) (b0 + 41) (Int32.toNatClampNeg x1))) (b0 + 42) (Int32.toNatClampNeg x1))) (b0 + 65) (Int32.toNatClampNeg 4) (((ea_i (ea_wi (ea_wi (ea_wi h (b0 + 65) (Int32.toNatClampNeg 1) (ea_i h (b0 + 45) (Int32.toNatClampNeg x1))) (b0 + 65) (Int32.toNatClampNeg 2) (ea_i (ea_wi h (b0 + 65) (Int32.toNatClampNeg 1) (ea_i h (b0 + 45) (Int32.toNatClampNeg x1))) (b0 + 41) (Int32.toNatClampNeg x1))) (b0 + 65) (Int32.toNatClampNeg 3) (ea_i (ea_wi (ea_wi h (b0 + 65) (Int32.toNatClampNeg 1) (ea_i h (b0 + 45) (Int32.toNatClampNeg x1))) (b0 + 65) (Int32.toNatClampNeg 2) (ea_i (ea_wi h (b0 + 65) (Int32.toNatClampNeg 1) (ea_i h (b0 + 45) (Int32.toNatClampNeg x1))) (b0 + 41) (Int32.toNatClampNeg x1))) (b0 + 42) (Int32.toNatClampNeg x1))) (b0 + 44) (Int32.toNatClampNeg x1)) - (ea_i (ea_wi (ea_wi (ea_wi h (b0 + 65) (Int32.toNatClampNeg 1) (ea_i h (b0 + 45) (Int32.toNatClampNeg x1))) (b0 + 65) (Int32.toNatClampNeg 2) (ea_i (ea_wi h (b0 + 65) (Int32.toNatClampNeg 1) (ea_i h (b0 + 45) (Int32.toNatClampNeg x1))) (b0 + 41) (Int32.toNatClampNeg x1))) (b0 + 65) (Int32.toNatClampNeg 3) (ea_i (ea_wi (ea_wi h (b0 + 65) (Int32.toNatClampNeg 1) (ea_i h (b0 + 45) (Int32.toNatClampNeg x1))) (b0 + 65) (Int32.toNatClampNeg 2) (ea_i (ea_wi h (b0 + 65) (Int32.toNatClampNeg 1) (ea_i h (b0 + 45) (Int32.toNatClampNeg x1))) (b0 + 41) (Int32.toNatClampNeg x1))) (b0 + 42) (Int32.toNatClampNeg x1))) (b0 + 44) (Int32.toNatClampNeg x1)) / (1440 : Int32) * (1440 : Int32)) / (60 : Int32))) (b0 + 44) (Int32.toNatClampNeg x1)) / (1440 : Int32))) (b0 + 38) (Int32.toNatClampNeg x1))) (b0 + 65) (Int32.toNatClampNeg 7) 1)))
def okX12_gathers (b0 : Nat) (x1 : Int32) (h : ea_H) : Prop := vp_in x1 120 ∧ (((ea_i h (b0 + 45) (Int32.toNatClampNeg x1)) = (1000000 : Int32) → vp_in 1 8 ∧ (vp_in x1 120 ∧ (vp_in 2 8 ∧ (vp_in x1 120 ∧ (vp_in 3 8 ∧ (vp_in x1 120 ∧ (vp_in 4 8 ∧ (vp_in x1 120 ∧ (vp_in 5 8 ∧ (vp_in x1 120 ∧ (vp_in 6 8 ∧ (vp_in x1 120 ∧ (((ea_i (ea_wi (ea_wi (ea_wi (ea_wi (ea_wi (ea_wi h (b0 + 65) (Int32.toNatClampNeg 1) 0) (b0 + 65) (Int32.toNatClampNeg 2) (ea_i (ea_wi h (b0 + 65) (Int32.toNatClampNeg 1) 0) (b0 + 41) (Int32.toNatClampNeg x1))) (b0 + 65) (Int32.toNatClampNeg 3) (ea_i (ea_wi (ea_wi h (b0 + 65) (Int32.toNatClampNeg 1) 0) (b0 + 65) (Int32.toNatClampNeg 2) (ea_i (ea_wi h (b0 + 65) (Int32.toNatClampNeg 1) 0) (b0 + 41) (Int32.toNatClampNeg x1))) (b0 + 42) (Int32.toNatClampNeg x1))) (b0 + 65) (Int32.toNatClampNeg 4) (((ea_i (ea_wi (ea_wi (ea_wi h (b0 + 65) (Int32.toNatClampNeg 1) 0) (b0 + 65) (Int32.toNatClampNeg 2) (ea_i (ea_wi h (b0 + 65) (Int32.toNatClampNeg 1) 0) (b0 + 41) (Int32.toNatClampNeg x1))) (b0 + 65) (Int32.toNatClampNeg 3) (ea_i (ea_wi (ea_wi h (b0 + 65) (Int32.toNatClampNeg 1) 0) (b0 + 65) (Int32.toNatClampNeg 2) (ea_i (ea_wi h (b0 + 65) (Int32.toNatClampNeg 1) 0) (b0 + 41) (Int32.toNatClampNeg x1))) (b0 + 42) (Int32.toNatClampNeg x1))) (b0 + 44) (Int32.toNatClampNeg x1)) - (ea_i (ea_wi (ea_wi (ea_wi h (b0 + 65) (Int32.toNatClampNeg 1) 0) (b0 + 65) (Int32.toNatClampNeg 2) (ea_i (ea_wi h (b0 + 65) (Int32.toNatClampNeg 1) 0) (b0 + 41) (Int32.toNatClampNeg x1))) (b0 + 65) (Int32.toNatClampNeg 3) (ea_i (ea_wi (ea_wi h (b0 + 65) (Int32.toNatClampNeg 1) 0) (b0 + 65) (Int32.toNatClampNeg 2) (ea_i (ea_wi h (b0 + 65) (Int32.toNatClampNeg 1) 0) (b0 + 41) (Int32.toNatClampNeg x1))) (b0 + 42) (Int32.toNatClampNeg x1))) (b0 + 44) (Int32.toNatClampNeg x1)) / (1440 : Int32) * (1440 : Int32)) / (60 : Int32))) (b0 + 65) (Int32.toNatClampNeg 5) ((ea_i (ea_wi (ea_wi (ea_wi (ea_wi h (b0 + 65) (Int32.toNatClampNeg 1) 0) (b0 + 65) (Int32.toNatClampNeg 2) (ea_i (ea_wi h (b0 + 65) (Int32.toNatClampNeg 1) 0) (b0 + 41) (Int32.toNatClampNeg x1))) (b0 + 65) (Int32.toNatClampNeg 3) (ea_i (ea_wi (ea_wi h (b0 + 65) (Int32.toNatClampNeg 1) 0) (b0 + 65) (Int32.toNatClampNeg 2) (ea_i (ea_wi h (b0 + 65) (Int32.toNatClampNeg 1) 0) (b0 + 41) (Int32.toNatClampNeg x1))) (b0 + 42) (Int32.toNatClampNeg x1))) (b0 + 65) (Int32.toNatClampNeg 4) (((ea_i (ea_wi (ea_wi (ea_wi h (b0 + 65) (Int32.toNatClampNeg 1) 0) (b0 + 65) (Int32.toNatClampNeg 2) (ea_i (ea_wi h (b0 + 65) (Int32.toNatClampNeg 1) 0) (b0 + 41) (Int32.toNatClampNeg x1))) (b0 + 65) (Int32.toNatClampNeg 3) (ea_i (ea_wi (ea_wi h (b0 + 65) (Int32.toNatClampNeg 1) 0) (b0 + 65) (Int32.toNatClampNeg 2) (ea_i (ea_wi h (b0 + 65) (Int32.toNatClampNeg 1) 0) (b0 + 41) (Int32.toNatClampNeg x1))) (b0 + 42) (Int32.toNatClampNeg x1))) (b0 + 44) (Int32.toNatClampNeg x1)) - (ea_i (ea_wi (ea_wi (ea_wi h (b0 + 65) (Int32.toNatClampNeg 1) 0) (b0 + 65) (Int32.toNatClampNeg 2) (ea_i (ea_wi h (b0 + 65) (Int32.toNatClampNeg 1) 0) (b0 + 41) (Int32.toNatClampNeg x1))) (b0 + 65) (Int32.toNatClampNeg 3) (ea_i (ea_wi (ea_wi h (b0 + 65) (Int32.toNatClampNeg 1) 0) (b0 + 65) (Int32.toNatClampNeg 2) (ea_i (ea_wi h (b0 + 65) (Int32.toNatClampNeg 1) 0) (b0 + 41) (Int32.toNatClampNeg x1))) (b0 + 42) (Int32.toNatClampNeg x1))) (b0 + 44) (Int32.toNatClampNeg x1)) / (1440 : Int32) * (1440 : Int32)) / (60 : Int32))) (b0 + 44) (Int32.toNatClampNeg x1)) / (1440 : Int32))) (b0 + 65) (Int32.toNatClampNeg 6) (ea_i (ea_wi (ea_wi (ea_wi (ea_wi (ea_wi h (b0 + 65) (Int32.toNatClampNeg 1) 0) (b0 + 65) (Int32.toNatClampNeg 2) (ea_i (ea_wi h (b0 + 65) (Int32.toNatClampNeg 1) 0) (b0 + 41) (Int32.toNatClampNeg x1))) (b0 + 65) (Int32.toNatClampNeg 3) (ea_i (ea_wi (ea_wi h (b0 + 65) (Int32.toNatClampNeg 1) 0) (b0 + 65) (Int32.toNatClampNeg 2) (ea_i (ea_wi h (b0 + 65) (Int32.toNatClampNeg 1) 0) (b0 + 41) (Int32.toNatClampNeg x1))) (b0 + 42) (Int32.toNatClampNeg x1))) (b0 + 65) (Int32.toNatClampNeg 4) (((ea_i (ea_wi (ea_wi (ea_wi h (b0 + 65) (Int32.toNatClampNeg 1) 0) (b0 + 65) (Int32.toNatClampNeg 2) (ea_i (ea_wi h (b0 + 65) (Int32.toNatClampNeg 1) 0) (b0 + 41) (Int32.toNatClampNeg x1))) (b0 + 65) (Int32.toNatClampNeg 3) (ea_i (ea_wi (ea_wi h (b0 + 65) (Int32.toNatClampNeg 1) 0) (b0 + 65) (Int32.toNatClampNeg 2) (ea_i (ea_wi h (b0 + 65) (Int32.toNatClampNeg 1) 0) (b0 + 41) (Int32.toNatClampNeg x1))) (b0 + 42) (Int32.toNatClampNeg x1))) (b0 + 44) (Int32.toNatClampNeg x1)) - (ea_i (ea_wi (ea_wi (ea_wi h (b0 + 65) (Int32.toNatClampNeg 1) 0) (b0 + 65) (Int32.toNatClampNeg 2) (ea_i (ea_wi h (b0 + 65) (Int32.toNatClampNeg 1) 0) (b0 + 41) (Int32.toNatClampNeg x1))) (b0 + 65) (Int32.toNatClampNeg 3) (ea_i (ea_wi (ea_wi h (b0 + 65) (Int32.toNatClampNeg 1) 0) (b0 + 65) (Int32.toNatClampNeg 2) (ea_i (ea_wi h (b0 + 65) (Int32.toNatClampNeg 1) 0) (b0 + 41) (Int32.toNatClampNeg x1))) (b0 + 42) (Int32.toNatClampNeg x1))) (b0 + 44) (Int32.toNatClampNeg x1)) / (1440 : Int32) * (1440 : Int32)) / (60 : Int32))) (b0 + 65) (Int32.toNatClampNeg 5) ((ea_i (ea_wi (ea_wi (ea_wi (ea_wi h (b0 + 65) (Int32.toNatClampNeg 1) 0) (b0 + 65) (Int32.toNatClampNeg 2) (ea_i (ea_wi h (b0 + 65) (Int32.toNatClampNeg 1) 0) (b0 + 41) (Int32.toNatClampNeg x1))) (b0 + 65) (Int32.toNatClampNeg 3) (ea_i (ea_wi (ea_wi h (b0 + 65) (Int32.toNatClampNeg 1) 0) (b0 + 65) (Int32.toNatClampNeg 2) (ea_i (ea_wi h (b0 + 65) (Int32.toNatClampNeg 1) 0) (b0 + 41) (Int32.toNatClampNeg x1))) (b0 + 42) (Int32.toNatClampNeg x1))) (b0 + 65) (Int32.toNatClampNeg 4) (((ea_i (ea_wi (ea_wi (ea_wi h (b0 + 65) (Int32.toNatClampNeg 1) 0) (b0 + 65) (Int32.toNatClampNeg 2) (ea_i (ea_wi h (b0 + 65) (Int32.toNatClampNeg 1) 0) (b0 + 41) (Int32.toNatClampNeg x1))) (b0 + 65) (Int32.toNatClampNeg 3) (ea_i (ea_wi (ea_wi h (b0 + 65) (Int32.toNatClampNeg 1) 0) (b0 + 65) (Int32.toNatClampNeg 2) (ea_i (ea_wi h (b0 + 65) (Int32.toNatClampNeg 1) 0) (b0 + 41) (Int32.toNatClampNeg x1))) (b0 + 42) (Int32.toNatClampNeg x1))) (b0 + 44) (Int32.toNatClampNeg x1)) - (ea_i (ea_wi (ea_wi (ea_wi h (b0 + 65) (Int32.toNatClampNeg 1) 0) (b0 + 65) (Int32.toNatClampNeg 2) (ea_i (ea_wi h (b0 + 65) (Int32.toNatClampNeg 1) 0) (b0 + 41) (Int32.toNatClampNeg x1))) (b0 + 65) (Int32.toNatClampNeg 3) (ea_i (ea_wi (ea_wi h (b0 + 65) (Int32.toNatClampNeg 1) 0) (b0 + 65) (Int32.toNatClampNeg 2) (ea_i (ea_wi h (b0 + 65) (Int32.toNatClampNeg 1) 0) (b0 + 41) (Int32.toNatClampNeg x1))) (b0 + 42) (Int32.toNatClampNeg x1))) (b0 + 44) (Int32.toNatClampNeg x1)) / (1440 : Int32) * (1440 : Int32)) / (60 : Int32))) (b0 + 44) (Int32.toNatClampNeg x1)) / (1440 : Int32))) (b0 + 38) (Int32.toNatClampNeg x1))) (b0 + 52) (Int32.toNatClampNeg x1)) = (0 : Int32) → vp_in 7 8) ∧ (¬ (ea_i (ea_wi (ea_wi (ea_wi (ea_wi (ea_wi (ea_wi h (b0 + 65) (Int32.toNatClampNeg 1) 0) (b0 + 65) (Int32.toNatClampNeg 2) (ea_i (ea_wi h (b0 + 65) (Int32.toNatClampNeg 1) 0) (b0 + 41) (Int32.toNatClampNeg x1))) (b0 + 65) (Int32.toNatClampNeg 3) (ea_i (ea_wi (ea_wi h (b0 + 65) (Int32.toNatClampNeg 1) 0) (b0 + 65) (Int32.toNatClampNeg 2) (ea_i (ea_wi h (b0 + 65) (Int32.toNatClampNeg 1) 0) (b0 + 41) (Int32.toNatClampNeg x1))) (b0 + 42) (Int32.toNatClampNeg x1))) (b0 + 65) (Int32.toNatClampNeg 4) (((ea_i (ea_wi (ea_wi (ea_wi h (b0 + 65) (Int32.toNatClampNeg 1) 0) (b0 + 65) (Int32.toNatClampNeg 2) (ea_i (ea_wi h (b0 + 65) (Int32.toNatClampNeg 1) 0) (b0 + 41) (Int32.toNatClampNeg x1))) (b0 + 65) (Int32.toNatClampNeg 3) (ea_i (ea_wi (ea_wi h (b0 + 65) (Int32.toNatClampNeg 1) 0) (b0 + 65) (Int32.toNatClampNeg 2) (ea_i (ea_wi h (b0 + 65) (Int32.toNatClampNeg 1) 0) (b0 + 41) (Int32.toNatClampNeg x1))) (b0 + 42) (Int32.toNatClampNeg x1))) (b0 + 44) (Int32.toNatClampNeg x1)) - (ea_i (ea_wi (ea_wi (ea_wi h (b0 + 65) (Int32.toNatClampNeg 1) 0) (b0 + 65) (Int32.toNatClampNeg 2) (ea_i (ea_wi h (b0 + 65) (Int32.toNatClampNeg 1) 0) (b0 + 41) (Int32.toNatClampNeg x1))) (b0 + 65) (Int32.toNatClampNeg 3) (ea_i (ea_wi (ea_wi h (b0 + 65) (Int32.toNatClampNeg 1) 0) (b0 + 65) (Int32.toNatClampNeg 2) (ea_i (ea_wi h (b0 + 65) (Int32.toNatClampNeg 1) 0) (b0 + 41) (Int32.toNatClampNeg x1))) (b0 + 42) (Int32.toNatClampNeg x1))) (b0 + 44) (Int32.toNatClampNeg x1)) / (1440 : Int32) * (1440 : Int32)) / (60 : Int32))) (b0 + 65) (Int32.toNatClampNeg 5) ((ea_i (ea_wi (ea_wi (ea_wi (ea_wi h (b0 + 65) (Int32.toNatClampNeg 1) 0) (b0 + 65) (Int32.toNatClampNeg 2) (ea_i (ea_wi h (b0 + 65) (Int32.toNatClampNeg 1) 0) (b0 + 41) (Int32.toNatClampNeg x1))) (b0 + 65) (Int32.toNatClampNeg 3) (ea_i (ea_wi (ea_wi h (b0 + 65) (Int32.toNatClampNeg 1) 0) (b0 + 65) (Int32.toNatClampNeg 2) (ea_i (ea_wi h (b0 + 65) (Int32.toNatClampNeg 1) 0) (b0 + 41) (Int32.toNatClampNeg x1))) (b0 + 42) (Int32.toNatClampNeg x1))) (b0 + 65) (Int32.toNatClampNeg 4) (((ea_i (ea_wi (ea_wi (ea_wi h (b0 + 65) (Int32.toNatClampNeg 1) 0) (b0 + 65) (Int32.toNatClampNeg 2) (ea_i (ea_wi h (b0 + 65) (Int32.toNatClampNeg 1) 0) (b0 + 41) (Int32.toNatClampNeg x1))) (b0 + 65) (Int32.toNatClampNeg 3) (ea_i (ea_wi (ea_wi h (b0 + 65) (Int32.toNatClampNeg 1) 0) (b0 + 65) (Int32.toNatClampNeg 2) (ea_i (ea_wi h (b0 + 65) (Int32.toNatClampNeg 1) 0) (b0 + 41) (Int32.toNatClampNeg x1))) (b0 + 42) (Int32.toNatClampNeg x1))) (b0 + 44) (Int32.toNatClampNeg x1)) - (ea_i (ea_wi (ea_wi (ea_wi h (b0 + 65) (Int32.toNatClampNeg 1) 0) (b0 + 65) (Int32.toNatClampNeg 2) (ea_i (ea_wi h (b0 + 65) (Int32.toNatClampNeg 1) 0) (b0 + 41) (Int32.toNatClampNeg x1))) (b0 + 65) (Int32.toNatClampNeg 3) (ea_i (ea_wi (ea_wi h (b0 + 65) (Int32.toNatClampNeg 1) 0) (b0 + 65) (Int32.toNatClampNeg 2) (ea_i (ea_wi h (b0 + 65) (Int32.toNatClampNeg 1) 0) (b0 + 41) (Int32.toNatClampNeg x1))) (b0 + 42) (Int32.toNatClampNeg x1))) (b0 + 44) (Int32.toNatClampNeg x1)) / (1440 : Int32) * (1440 : Int32)) / (60 : Int32))) (b0 + 44) (Int32.toNatClampNeg x1)) / (1440 : Int32))) (b0 + 65) (Int32.toNatClampNeg 6) (ea_i (ea_wi (ea_wi (ea_wi (ea_wi (ea_wi h (b0 + 65) (Int32.toNatClampNeg 1) 0) (b0 + 65) (Int32.toNatClampNeg 2) (ea_i (ea_wi h (b0 + 65) (Int32.toNatClampNeg 1) 0) (b0 + 41) (Int32.toNatClampNeg x1))) (b0 + 65) (Int32.toNatClampNeg 3) (ea_i (ea_wi (ea_wi h (b0 + 65) (Int32.toNatClampNeg 1) 0) (b0 + 65) (Int32.toNatClampNeg 2) (ea_i (ea_wi h (b0 + 65) (Int32.toNatClampNeg 1) 0) (b0 + 41) (Int32.toNatClampNeg x1))) (b0 + 42) (Int32.toNatClampNeg x1))) (b0 + 65) (Int32.toNatClampNeg 4) (((ea_i (ea_wi (ea_wi (ea_wi h (b0 + 65) (Int32.toNatClampNeg 1) 0) (b0 + 65) (Int32.toNatClampNeg 2) (ea_i (ea_wi h (b0 + 65) (Int32.toNatClampNeg 1) 0) (b0 + 41) (Int32.toNatClampNeg x1))) (b0 + 65) (Int32.toNatClampNeg 3) (ea_i (ea_wi (ea_wi h (b0 + 65) (Int32.toNatClampNeg 1) 0) (b0 + 65) (Int32.toNatClampNeg 2) (ea_i (ea_wi h (b0 + 65) (Int32.toNatClampNeg 1) 0) (b0 + 41) (Int32.toNatClampNeg x1))) (b0 + 42) (Int32.toNatClampNeg x1))) (b0 + 44) (Int32.toNatClampNeg x1)) - (ea_i (ea_wi (ea_wi (ea_wi h (b0 + 65) (Int32.toNatClampNeg 1) 0) (b0 + 65) (Int32.toNatClampNeg 2) (ea_i (ea_wi h (b0 + 65) (Int32.toNatClampNeg 1) 0) (b0 + 41) (Int32.toNatClampNeg x1))) (b0 + 65) (Int32.toNatClampNeg 3) (ea_i (ea_wi (ea_wi h (b0 + 65) (Int32.toNatClampNeg 1) 0) (b0 + 65) (Int32.toNatClampNeg 2) (ea_i (ea_wi h (b0 + 65) (Int32.toNatClampNeg 1) 0) (b0 + 41) (Int32.toNatClampNeg x1))) (b0 + 42) (Int32.toNatClampNeg x1))) (b0 + 44) (Int32.toNatClampNeg x1)) / (1440 : Int32) * (1440 : Int32)) / (60 : Int32))) (b0 + 65) (Int32.toNatClampNeg 5) ((ea_i (ea_wi (ea_wi (ea_wi (ea_wi h (b0 + 65) (Int32.toNatClampNeg 1) 0) (b0 + 65) (Int32.toNatClampNeg 2) (ea_i (ea_wi h (b0 + 65) (Int32.toNatClampNeg 1) 0) (b0 + 41) (Int32.toNatClampNeg x1))) (b0 + 65) (Int32.toNatClampNeg 3) (ea_i (ea_wi (ea_wi h (b0 + 65) (Int32.toNatClampNeg 1) 0) (b0 + 65) (Int32.toNatClampNeg 2) (ea_i (ea_wi h (b0 + 65) (Int32.toNatClampNeg 1) 0) (b0 + 41) (Int32.toNatClampNeg x1))) (b0 + 42) (Int32.toNatClampNeg x1))) (b0 + 65) (Int32.toNatClampNeg 4) (((ea_i (ea_wi (ea_wi (ea_wi h (b0 + 65) (Int32.toNatClampNeg 1) 0) (b0 + 65) (Int32.toNatClampNeg 2) (ea_i (ea_wi h (b0 + 65) (Int32.toNatClampNeg 1) 0) (b0 + 41) (Int32.toNatClampNeg x1))) (b0 + 65) (Int32.toNatClampNeg 3) (ea_i (ea_wi (ea_wi h (b0 + 65) (Int32.toNatClampNeg 1) 0) (b0 + 65) (Int32.toNatClampNeg 2) (ea_i (ea_wi h (b0 + 65) (Int32.toNatClampNeg 1) 0) (b0 + 41) (Int32.toNatClampNeg x1))) (b0 + 42) (Int32.toNatClampNeg x1))) (b0 + 44) (Int32.toNatClampNeg x1)) - (ea_i (ea_wi (ea_wi (ea_wi h (b0 + 65) (Int32.toNatClampNeg 1) 0) (b0 + 65) (Int32.toNatClampNeg 2) (ea_i (ea_wi h (b0 + 65) (Int32.toNatClampNeg 1) 0) (b0 + 41) (Int32.toNatClampNeg x1))) (b0 + 65) (Int32.toNatClampNeg 3) (ea_i (ea_wi (ea_wi h (b0 + 65) (Int32.toNatClampNeg 1) 0) (b0 + 65) (Int32.toNatClampNeg 2) (ea_i (ea_wi h (b0 + 65) (Int32.toNatClampNeg 1) 0) (b0 + 41) (Int32.toNatClampNeg x1))) (b0 + 42) (Int32.toNatClampNeg x1))) (b0 + 44) (Int32.toNatClampNeg x1)) / (1440 : Int32) * (1440 : Int32)) / (60 : Int32))) (b0 + 44) (Int32.toNatClampNeg x1)) / (1440 : Int32))) (b0 + 38) (Int32.toNatClampNeg x1))) (b0 + 52) (Int32.toNatClampNeg x1)) = (0 : Int32) → vp_in 7 8)))))))))))))) ∧ (¬ (ea_i h (b0 + 45) (Int32.toNatClampNeg x1)) = (1000000 : Int32) → vp_in x1 120 ∧ (vp_in 1 8 ∧ (vp_in x1 120 ∧ (vp_in 2 8 ∧ (vp_in x1 120 ∧ (vp_in 3 8 ∧ (vp_in x1 120 ∧ (vp_in 4 8 ∧ (vp_in x1 120 ∧ (vp_in 5 8 ∧ (vp_in x1 120 ∧ (vp_in 6 8 ∧ (vp_in x1 120 ∧ (((ea_i (ea_wi (ea_wi (ea_wi (ea_wi (ea_wi (ea_wi h (b0 + 65) (Int32.toNatClampNeg 1) (ea_i h (b0 + 45) (Int32.toNatClampNeg x1))) (b0 + 65) (Int32.toNatClampNeg 2) (ea_i (ea_wi h (b0 + 65) (Int32.toNatClampNeg 1) (ea_i h (b0 + 45) (Int32.toNatClampNeg x1))) (b0 + 41) (Int32.toNatClampNeg x1))) (b0 + 65) (Int32.toNatClampNeg 3) (ea_i (ea_wi (ea_wi h (b0 + 65) (Int32.toNatClampNeg 1) (ea_i h (b0 + 45) (Int32.toNatClampNeg x1))) (b0 + 65) (Int32.toNatClampNeg 2) (ea_i (ea_wi h (b0 + 65) (Int32.toNatClampNeg 1) (ea_i h (b0 + 45) (Int32.toNatClampNeg x1))) (b0 + 41) (Int32.toNatClampNeg x1))) (b0 + 42) (Int32.toNatClampNeg x1))) (b0 + 65) (Int32.toNatClampNeg 4) (((ea_i (ea_wi (ea_wi (ea_wi h (b0 + 65) (Int32.toNatClampNeg 1) (ea_i h (b0 + 45) (Int32.toNatClampNeg x1))) (b0 + 65) (Int32.toNatClampNeg 2) (ea_i (ea_wi h (b0 + 65) (Int32.toNatClampNeg 1) (ea_i h (b0 + 45) (Int32.toNatClampNeg x1))) (b0 + 41) (Int32.toNatClampNeg x1))) (b0 + 65) (Int32.toNatClampNeg 3) (ea_i (ea_wi (ea_wi h (b0 + 65) (Int32.toNatClampNeg 1) (ea_i h (b0 + 45) (Int32.toNatClampNeg x1))) (b0 + 65) (Int32.toNatClampNeg 2) (ea_i (ea_wi h (b0 + 65) (Int32.toNatClampNeg 1) (ea_i h (b0 + 45) (Int32.toNatClampNeg x1))) (b0 + 41) (Int32.toNatClampNeg x1))) (b0 + 42) (Int32.toNatClampNeg x1))) (b0 + 44) (Int32.toNatClampNeg x1)) - (ea_i (ea_wi (ea_wi (ea_wi h (b0 + 65) (Int32.toNatClampNeg 1) (ea_i h (b0 + 45) (Int32.toNatClampNeg x1))) (b0 + 65) (Int32.toNatClampNeg 2) (ea_i (ea_wi h (b0 + 65) (Int32.toNatClampNeg 1) (ea_i h (b0 + 45) (Int32.toNatClampNeg x1))) (b0 + 41) (Int32.toNatClampNeg x1))) (b0 + 65) (Int32.toNatClampNeg 3) (ea_i (ea_wi (ea_wi h (b0 + 65) (Int32.toNatClampNeg 1) (ea_i h (b0 + 45) (Int32.toNatClampNeg x1))) (b0 + 65) (Int32.toNatClampNeg 2) (ea_i (ea_wi h (b0 + 65) (Int32.toNatClampNeg 1) (ea_i h (b0 + 45) (Int32.toNatClampNeg x1))) (b0 + 41) (Int32.toNatClampNeg x1))) (b0 + 42) (Int32.toNatClampNeg x1))) (b0 + 44) (Int32.toNatClampNeg x1)) / (1440 : Int32) * (1440 : Int32)) / (60 : Int32))) (b0 + 65) (Int32.toNatClampNeg 5) ((ea_i (ea_wi (ea_wi (ea_wi (ea_wi h (b0 + 65) (Int32.toNatClampNeg 1) (ea_i h (b0 + 45) (Int32.toNatClampNeg x1))) (b0 + 65) (Int32.toNatClampNeg 2) (ea_i (ea_wi h (b0 + 65) (Int32.toNatClampNeg 1) (ea_i h (b0 + 45) (Int32.toNatClampNeg x1))) (b0 + 41) (Int32.toNatClampNeg x1))) (b0 + 65) (Int32.toNatClampNeg 3) (ea_i (ea_wi (ea_wi h (b0 + 65) (Int32.toNatClampNeg 1) (ea_i h (b0 + 45) (Int32.toNatClampNeg x1))) (b0 + 65) (Int32.toNatClampNeg 2) (ea_i (ea_wi h (b0 + 65) (Int32.toNatClampNeg 1) (ea_i h (b0 + 45) (Int32.toNatClampNeg x1))) (b0 + 41) (Int32.toNatClampNeg x1))) (b0 + 42) (Int32.toNatClampNeg x1))) (b0 + 65) (Int32.toNatClampNeg 4) (((ea_i (ea_wi (ea_wi (ea_wi h (b0 + 65) (Int32.toNatClampNeg 1) (ea_i h (b0 + 45) (Int32.toNatClampNeg x1))) (b0 + 65) (Int32.toNatClampNeg 2) (ea_i (ea_wi h (b0 + 65) (Int32.toNatClampNeg 1) (ea_i h (b0 + 45) (Int32.toNatClampNeg x1))) (b0 + 41) (Int32.toNatClampNeg x1))) (b0 + 65) (Int32.toNatClampNeg 3) (ea_i (ea_wi (ea_wi h (b0 + 65) (Int32.toNatClampNeg 1) (ea_i h (b0 + 45) (Int32.toNatClampNeg x1))) (b0 + 65) (Int32.toNatClampNeg 2) (ea_i (ea_wi h (b0 + 65) (Int32.toNatClampNeg 1) (ea_i h (b0 + 45) (Int32.toNatClampNeg x1))) (b0 + 41) (Int32.toNatClampNeg x1))) (b0 + 42) (Int32.toNatClampNeg x1))) (b0 + 44) (Int32.toNatClampNeg x1)) - (ea_i (ea_wi (ea_wi (ea_wi h (b0 + 65) (Int32.toNatClampNeg 1) (ea_i h (b0 + 45) (Int32.toNatClampNeg x1))) (b0 + 65) (Int32.toNatClampNeg 2) (ea_i (ea_wi h (b0 + 65) (Int32.toNatClampNeg 1) (ea_i h (b0 + 45) (Int32.toNatClampNeg x1))) (b0 + 41) (Int32.toNatClampNeg x1))) (b0 + 65) (Int32.toNatClampNeg 3) (ea_i (ea_wi (ea_wi h (b0 + 65) (Int32.toNatClampNeg 1) (ea_i h (b0 + 45) (Int32.toNatClampNeg x1))) (b0 + 65) (Int32.toNatClampNeg 2) (ea_i (ea_wi h (b0 + 65) (Int32.toNatClampNeg 1) (ea_i h (b0 + 45) (Int32.toNatClampNeg x1))) (b0 + 41) (Int32.toNatClampNeg x1))) (b0 + 42) (Int32.toNatClampNeg x1))) (b0 + 44) (Int32.toNatClampNeg x1)) / (1440 : Int32) * (1440 : Int32)) / (60 : Int32))) (b0 + 44) (Int32.toNatClampNeg x1)) / (1440 : Int32))) (b0 + 65) (Int32.toNatClampNeg 6) (ea_i (ea_wi (ea_wi (ea_wi (ea_wi (ea_wi h (b0 + 65) (Int32.toNatClampNeg 1) (ea_i h (b0 + 45) (Int32.toNatClampNeg x1))) (b0 + 65) (Int32.toNatClampNeg 2) (ea_i (ea_wi h (b0 + 65) (Int32.toNatClampNeg 1) (ea_i h (b0 + 45) (Int32.toNatClampNeg x1))) (b0 + 41) (Int32.toNatClampNeg x1))) (b0 + 65) (Int32.toNatClampNeg 3) (ea_i (ea_wi (ea_wi h (b0 + 65) (Int32.toNatClampNeg 1) (ea_i h (b0 + 45) (Int32.toNatClampNeg x1))) (b0 + 65) (Int32.toNatClampNeg 2) (ea_i (ea_wi h (b0 + 65) (Int32.toNatClampNeg 1) (ea_i h (b0 + 45) (Int32.toNatClampNeg x1))) (b0 + 41) (Int32.toNatClampNeg x1))) (b0 + 42) (Int32.toNatClampNeg x1))) (b0 + 65) (Int32.toNatClampNeg 4) (((ea_i (ea_wi (ea_wi (ea_wi h (b0 + 65) (Int32.toNatClampNeg 1) (ea_i h (b0 + 45) (Int32.toNatClampNeg x1))) (b0 + 65) (Int32.toNatClampNeg 2) (ea_i (ea_wi h (b0 + 65) (Int32.toNatClampNeg 1) (ea_i h (b0 + 45) (Int32.toNatClampNeg x1))) (b0 + 41) (Int32.toNatClampNeg x1))) (b0 + 65) (Int32.toNatClampNeg 3) (ea_i (ea_wi (ea_wi h (b0 + 65) (Int32.toNatClampNeg 1) (ea_i h (b0 + 45) (Int32.toNatClampNeg x1))) (b0 + 65) (Int32.toNatClampNeg 2) (ea_i (ea_wi h (b0 + 65) (Int32.toNatClampNeg 1) (ea_i h (b0 + 45) (Int32.toNatClampNeg x1))) (b0 + 41) (Int32.toNatClampNeg x1))) (b0 + 42) (Int32.toNatClampNeg x1))) (b0 + 44) (Int32.toNatClampNeg x1)) - (ea_i (ea_wi (ea_wi (ea_wi h (b0 + 65) (Int32.toNatClampNeg 1) (ea_i h (b0 + 45) (Int32.toNatClampNeg x1))) (b0 + 65) (Int32.toNatClampNeg 2) (ea_i (ea_wi h (b0 + 65) (Int32.toNatClampNeg 1) (ea_i h (b0 + 45) (Int32.toNatClampNeg x1))) (b0 + 41) (Int32.toNatClampNeg x1))) (b0 + 65) (Int32.toNatClampNeg 3) (ea_i (ea_wi (ea_wi h (b0 + 65) (Int32.toNatClampNeg 1) (ea_i h (b0 + 45) (Int32.toNatClampNeg x1))) (b0 + 65) (Int32.toNatClampNeg 2) (ea_i (ea_wi h (b0 + 65) (Int32.toNatClampNeg 1) (ea_i h (b0 + 45) (Int32.toNatClampNeg x1))) (b0 + 41) (Int32.toNatClampNeg x1))) (b0 + 42) (Int32.toNatClampNeg x1))) (b0 + 44) (Int32.toNatClampNeg x1)) / (1440 : Int32) * (1440 : Int32)) / (60 : Int32))) (b0 + 65) (Int32.toNatClampNeg 5) ((ea_i (ea_wi (ea_wi (ea_wi (ea_wi h (b0 + 65) (Int32.toNatClampNeg 1) (ea_i h (b0 + 45) (Int32.toNatClampNeg x1))) (b0 + 65) (Int32.toNatClampNeg 2) (ea_i (ea_wi h (b0 + 65) (Int32.toNatClampNeg 1) (ea_i h (b0 + 45) (Int32.toNatClampNeg x1))) (b0 + 41) (Int32.toNatClampNeg x1))) (b0 + 65) (Int32.toNatClampNeg 3) (ea_i (ea_wi (ea_wi h (b0 + 65) (Int32.toNatClampNeg 1) (ea_i h (b0 + 45) (Int32.toNatClampNeg x1))) (b0 + 65) (Int32.toNatClampNeg 2) (ea_i (ea_wi h (b0 + 65) (Int32.toNatClampNeg 1) (ea_i h (b0 + 45) (Int32.toNatClampNeg x1))) (b0 + 41) (Int32.toNatClampNeg x1))) (b0 + 42) (Int32.toNatClampNeg x1))) (b0 + 65) (Int32.toNatClampNeg 4) (((ea_i (ea_wi (ea_wi (ea_wi h (b0 + 65) (Int32.toNatClampNeg 1) (ea_i h (b0 + 45) (Int32.toNatClampNeg x1))) (b0 + 65) (Int32.toNatClampNeg 2) (ea_i (ea_wi h (b0 + 65) (Int32.toNatClampNeg 1) (ea_i h (b0 + 45) (Int32.toNatClampNeg x1))) (b0 + 41) (Int32.toNatClampNeg x1))) (b0 + 65) (Int32.toNatClampNeg 3) (ea_i (ea_wi (ea_wi h (b0 + 65) (Int32.toNatClampNeg 1) (ea_i h (b0 + 45) (Int32.toNatClampNeg x1))) (b0 + 65) (Int32.toNatClampNeg 2) (ea_i (ea_wi h (b0 + 65) (Int32.toNatClampNeg 1) (ea_i h (b0 + 45) (Int32.toNatClampNeg x1))) (b0 + 41) (Int32.toNatClampNeg x1))) (b0 + 42) (Int32.toNatClampNeg x1))) (b0 + 44) (Int32.toNatClampNeg x1)) - (ea_i (ea_wi (ea_wi (ea_wi h (b0 + 65) (Int32.toNatClampNeg 1) (ea_i h (b0 + 45) (Int32.toNatClampNeg x1))) (b0 + 65) (Int32.toNatClampNeg 2) (ea_i (ea_wi h (b0 + 65) (Int32.toNatClampNeg 1) (ea_i h (b0 + 45) (Int32.toNatClampNeg x1))) (b0 + 41) (Int32.toNatClampNeg x1))) (b0 + 65) (Int32.toNatClampNeg 3) (ea_i (ea_wi (ea_wi h (b0 + 65) (Int32.toNatClampNeg 1) (ea_i h (b0 + 45) (Int32.toNatClampNeg x1))) (b0 + 65) (Int32.toNatClampNeg 2) (ea_i (ea_wi h (b0 + 65) (Int32.toNatClampNeg 1) (ea_i h (b0 + 45) (Int32.toNatClampNeg x1))) (b0 + 41) (Int32.toNatClampNeg x1))) (b0 + 42) (Int32.toNatClampNeg x1))) (b0 + 44) (Int32.toNatClampNeg x1)) / (1440 : Int32) * (1440 : Int32)) / (60 : Int32))) (b0 + 44) (Int32.toNatClampNeg x1)) / (1440 : Int32))) (b0 + 38) (Int32.toNatClampNeg x1))) (b0 + 52) (Int32.toNatClampNeg x1)) = (0 : Int32) → vp_in 7 8) ∧ (¬ (ea_i (ea_wi (ea_wi (ea_wi (ea_wi (ea_wi (ea_wi h (b0 + 65) (Int32.toNatClampNeg 1) (ea_i h (b0 + 45) (Int32.toNatClampNeg x1))) (b0 + 65) (Int32.toNatClampNeg 2) (ea_i (ea_wi h (b0 + 65) (Int32.toNatClampNeg 1) (ea_i h (b0 + 45) (Int32.toNatClampNeg x1))) (b0 + 41) (Int32.toNatClampNeg x1))) (b0 + 65) (Int32.toNatClampNeg 3) (ea_i (ea_wi (ea_wi h (b0 + 65) (Int32.toNatClampNeg 1) (ea_i h (b0 + 45) (Int32.toNatClampNeg x1))) (b0 + 65) (Int32.toNatClampNeg 2) (ea_i (ea_wi h (b0 + 65) (Int32.toNatClampNeg 1) (ea_i h (b0 + 45) (Int32.toNatClampNeg x1))) (b0 + 41) (Int32.toNatClampNeg x1))) (b0 + 42) (Int32.toNatClampNeg x1))) (b0 + 65) (Int32.toNatClampNeg 4) (((ea_i (ea_wi (ea_wi (ea_wi h (b0 + 65) (Int32.toNatClampNeg 1) (ea_i h (b0 + 45) (Int32.toNatClampNeg x1))) (b0 + 65) (Int32.toNatClampNeg 2) (ea_i (ea_wi h (b0 + 65) (Int32.toNatClampNeg 1) (ea_i h (b0 + 45) (Int32.toNatClampNeg x1))) (b0 + 41) (Int32.toNatClampNeg x1))) (b0 + 65) (Int32.toNatClampNeg 3) (ea_i (ea_wi (ea_wi h (b0 + 65) (Int32.toNatClampNeg 1) (ea_i h (b0 + 45) (Int32.toNatClampNeg x1))) (b0 + 65) (Int32.toNatClampNeg 2) (ea_i (ea_wi h (b0 + 65) (Int32.toNatClampNeg 1) (ea_i h (b0 + 45) (Int32.toNatClampNeg x1))) (b0 + 41) (Int32.toNatClampNeg x1))) (b0 + 42) (Int32.toNatClampNeg x1))) (b0 + 44) (Int32.toNatClampNeg x1)) - (ea_i (ea_wi (ea_wi (ea_wi h (b0 + 65) (Int32.toNatClampNeg 1) (ea_i h (b0 + 45) (Int32.toNatClampNeg x1))) (b0 + 65) (Int32.toNatClampNeg 2) (ea_i (ea_wi h (b0 + 65) (Int32.toNatClampNeg 1) (ea_i h (b0 + 45) (Int32.toNatClampNeg x1))) (b0 + 41) (Int32.toNatClampNeg x1))) (b0 + 65) (Int32.toNatClampNeg 3) (ea_i (ea_wi (ea_wi h (b0 + 65) (Int32.toNatClampNeg 1) (ea_i h (b0 + 45) (Int32.toNatClampNeg x1))) (b0 + 65) (Int32.toNatClampNeg 2) (ea_i (ea_wi h (b0 + 65) (Int32.toNatClampNeg 1) (ea_i h (b0 + 45) (Int32.toNatClampNeg x1))) (b0 + 41) (Int32.toNatClampNeg x1))) (b0 + 42) (Int32.toNatClampNeg x1))) (b0 + 44) (Int32.toNatClampNeg x1)) / (1440 : Int32) * (1440 : Int32)) / (60 : Int32))) (b0 + 65) (Int32.toNatClampNeg 5) ((ea_i (ea_wi (ea_wi (ea_wi (ea_wi h (b0 + 65) (Int32.toNatClampNeg 1) (ea_i h (b0 + 45) (Int32.toNatClampNeg x1))) (b0 + 65) (Int32.toNatClampNeg 2) (ea_i (ea_wi h (b0 + 65) (Int32.toNatClampNeg 1) (ea_i h (b0 + 45) (Int32.toNatClampNeg x1))) (b0 + 41) (Int32.toNatClampNeg x1))) (b0 + 65) (Int32.toNatClampNeg 3) (ea_i (ea_wi (ea_wi h (b0 + 65) (Int32.toNatClampNeg 1) (ea_i h (b0 + 45) (Int32.toNatClampNeg x1))) (b0 + 65) (Int32.toNatClampNeg 2) (ea_i (ea_wi h (b0 + 65) (Int32.toNatClampNeg 1) (ea_i h (b0 + 45) (Int32.toNatClampNeg x1))) (b0 + 41) (Int32.toNatClampNeg x1))) (b0 + 42) (Int32.toNatClampNeg x1))) (b0 + 65) (Int32.toNatClampNeg 4) (((ea_i (ea_wi (ea_wi (ea_wi h (b0 + 65) (Int32.toNatClampNeg 1) (ea_i h (b0 + 45) (Int32.toNatClampNeg x1))) (b0 + 65) (Int32.toNatClampNeg 2) (ea_i (ea_wi h (b0 + 65) (Int32.toNatClampNeg 1) (ea_i h (b0 + 45) (Int32.toNatClampNeg x1))) (b0 + 41) (Int32.toNatClampNeg x1))) (b0 + 65) (Int32.toNatClampNeg 3) (ea_i (ea_wi (ea_wi h (b0 + 65) (Int32.toNatClampNeg 1) (ea_i h (b0 + 45) (Int32.toNatClampNeg x1))) (b0 + 65) (Int32.toNatClampNeg 2) (ea_i (ea_wi h (b0 + 65) (Int32.toNatClampNeg 1) (ea_i h (b0 + 45) (Int32.toNatClampNeg x1))) (b0 + 41) (Int32.toNatClampNeg x1))) (b0 + 42) (Int32.toNatClampNeg x1))) (b0 + 44) (Int32.toNatClampNeg x1)) - (ea_i (ea_wi (ea_wi (ea_wi h (b0 + 65) (Int32.toNatClampNeg 1) (ea_i h (b0 + 45) (Int32.toNatClampNeg x1))) (b0 + 65) (Int32.toNatClampNeg 2) (ea_i (ea_wi h (b0 + 65) (Int32.toNatClampNeg 1) (ea_i h (b0 + 45) (Int32.toNatClampNeg x1))) (b0 + 41) (Int32.toNatClampNeg x1))) (b0 + 65) (Int32.toNatClampNeg 3) (ea_i (ea_wi (ea_wi h (b0 + 65) (Int32.toNatClampNeg 1) (ea_i h (b0 + 45) (Int32.toNatClampNeg x1))) (b0 + 65) (Int32.toNatClampNeg 2) (ea_i (ea_wi h (b0 + 65) (Int32.toNatClampNeg 1) (ea_i h (b0 + 45) (Int32.toNatClampNeg x1))) (b0 + 41) (Int32.toNatClampNeg x1))) (b0 + 42) (Int32.toNatClampNeg x1))) (b0 + 44) (Int32.toNatClampNeg x1)) / (1440 : Int32) * (1440 : Int32)) / (60 : Int32))) (b0 + 44) (Int32.toNatClampNeg x1)) / (1440 : Int32))) (b0 + 65) (Int32.toNatClampNeg 6) (ea_i (ea_wi (ea_wi (ea_wi (ea_wi (ea_wi h (b0 + 65) (Int32.toNatClampNeg 1) (ea_i h (b0 + 45) (Int32.toNatClampNeg x1))) (b0 + 65) (Int32.toNatClampNeg 2) (ea_i (ea_wi h (b0 + 65) (Int32.toNatClampNeg 1) (ea_i h (b0 + 45) (Int32.toNatClampNeg x1))) (b0 + 41) (Int32.toNatClampNeg x1))) (b0 + 65) (Int32.toNatClampNeg 3) (ea_i (ea_wi (ea_wi h (b0 + 65) (Int32.toNatClampNeg 1) (ea_i h (b0 + 45) (Int32.toNatClampNeg x1))) (b0 + 65) (Int32.toNatClampNeg 2) (ea_i (ea_wi h (b0 + 65) (Int32.toNatClampNeg 1) (ea_i h (b0 + 45) (Int32.toNatClampNeg x1))) (b0 + 41) (Int32.toNatClampNeg x1))) (b0 + 42) (Int32.toNatClampNeg x1))) (b0 + 65) (Int32.toNatClampNeg 4) (((ea_i (ea_wi (ea_wi (ea_wi h (b0 + 65) (Int32.toNatClampNeg 1) (ea_i h (b0 + 45) (Int32.toNatClampNeg x1))) (b0 + 65) (Int32.toNatClampNeg 2) (ea_i (ea_wi h (b0 + 65) (Int32.toNatClampNeg 1) (ea_i h (b0 + 45) (Int32.toNatClampNeg x1))) (b0 + 41) (Int32.toNatClampNeg x1))) (b0 + 65) (Int32.toNatClampNeg 3) (ea_i (ea_wi (ea_wi h (b0 + 65) (Int32.toNatClampNeg 1) (ea_i h (b0 + 45) (Int32.toNatClampNeg x1))) (b0 + 65) (Int32.toNatClampNeg 2) (ea_i (ea_wi h (b0 + 65) (Int32.toNatClampNeg 1) (ea_i h (b0 + 45) (Int32.toNatClampNeg x1))) (b0 + 41) (Int32.toNatClampNeg x1))) (b0 + 42) (Int32.toNatClampNeg x1))) (b0 + 44) (Int32.toNatClampNeg x1)) - (ea_i (ea_wi (ea_wi (ea_wi h (b0 + 65) (Int32.toNatClampNeg 1) (ea_i h (b0 + 45) (Int32.toNatClampNeg x1))) (b0 + 65) (Int32.toNatClampNeg 2) (ea_i (ea_wi h (b0 + 65) (Int32.toNatClampNeg 1) (ea_i h (b0 + 45) (Int32.toNatClampNeg x1))) (b0 + 41) (Int32.toNatClampNeg x1))) (b0 + 65) (Int32.toNatClampNeg 3) (ea_i (ea_wi (ea_wi h (b0 + 65) (Int32.toNatClampNeg 1) (ea_i h (b0 + 45) (Int32.toNatClampNeg x1))) (b0 + 65) (Int32.toNatClampNeg 2) (ea_i (ea_wi h (b0 + 65) (Int32.toNatClampNeg 1) (ea_i h (b0 + 45) (Int32.toNatClampNeg x1))) (b0 + 41) (Int32.toNatClampNeg x1))) (b0 + 42) (Int32.toNatClampNeg x1))) (b0 + 44) (Int32.toNatClampNeg x1)) / (1440 : Int32) * (1440 : Int32)) / (60 : Int32))) (b0 + 65) (Int32.toNatClampNeg 5) ((ea_i (ea_wi (ea_wi (ea_wi (ea_wi h (b0 + 65) (Int32.toNatClampNeg 1) (ea_i h (b0 + 45) (Int32.toNatClampNeg x1))) (b0 + 65) (Int32.toNatClampNeg 2) (ea_i (ea_wi h (b0 + 65) (Int32.toNatClampNeg 1) (ea_i h (b0 + 45) (Int32.toNatClampNeg x1))) (b0 + 41) (Int32.toNatClampNeg x1))) (b0 + 65) (Int32.toNatClampNeg 3) (ea_i (ea_wi (ea_wi h (b0 + 65) (Int32.toNatClampNeg 1) (ea_i h (b0 + 45) (Int32.toNatClampNeg x1))) (b0 + 65) (Int32.toNatClampNeg 2) (ea_i (ea_wi h (b0 + 65) (Int32.toNatClampNeg 1) (ea_i h (b0 + 45) (Int32.toNatClampNeg x1))) (b0 + 41) (Int32.toNatClampNeg x1))) (b0 + 42) (Int32.toNatClampNeg x1))) (b0 + 65) (Int32.toNatClampNeg 4) (((ea_i (ea_wi (ea_wi (ea_wi h (b0 + 65) (Int32.toNatClampNeg 1) (ea_i h (b0 + 45) (Int32.toNatClampNeg x1))) (b0 + 65) (Int32.toNatClampNeg 2) (ea_i (ea_wi h (b0 + 65) (Int32.toNatClampNeg 1) (ea_i h (b0 + 45) (Int32.toNatClampNeg x1))) (b0 + 41) (Int32.toNatClampNeg x1))) (b0 + 65) (Int32.toNatClampNeg 3) (ea_i (ea_wi (ea_wi h (b0 + 65) (Int32.toNatClampNeg 1) (ea_i h (b0 + 45) (Int32.toNatClampNeg x1))) (b0 + 65) (Int32.toNatClampNeg 2) (ea_i (ea_wi h (b0 + 65) (Int32.toNatClampNeg 1) (ea_i h (b0 + 45) (Int32.toNatClampNeg x1))) (b0 + 41) (Int32.toNatClampNeg x1))) (b0 + 42) (Int32.toNatClampNeg x1))) (b0 + 44) (Int32.toNatClampNeg x1)) - (ea_i (ea_wi (ea_wi (ea_wi h (b0 + 65) (Int32.toNatClampNeg 1) (ea_i h (b0 + 45) (Int32.toNatClampNeg x1))) (b0 + 65) (Int32.toNatClampNeg 2) (ea_i (ea_wi h (b0 + 65) (Int32.toNatClampNeg 1) (ea_i h (b0 + 45) (Int32.toNatClampNeg x1))) (b0 + 41) (Int32.toNatClampNeg x1))) (b0 + 65) (Int32.toNatClampNeg 3) (ea_i (ea_wi (ea_wi h (b0 + 65) (Int32.toNatClampNeg 1) (ea_i h (b0 + 45) (Int32.toNatClampNeg x1))) (b0 + 65) (Int32.toNatClampNeg 2) (ea_i (ea_wi h (b0 + 65) (Int32.toNatClampNeg 1) (ea_i h (b0 + 45) (Int32.toNatClampNeg x1))) (b0 + 41) (Int32.toNatClampNeg x1))) (b0 + 42) (Int32.toNatClampNeg x1))) (b0 + 44) (Int32.toNatClampNeg x1)) / (1440 : Int32) * (1440 : Int32)) / (60 : Int32))) (b0 + 44) (Int32.toNatClampNeg x1)) / (1440 : Int32))) (b0 + 38) (Int32.toNatClampNeg x1))) (b0 + 52) (Int32.toNatClampNeg x1)) = (0 : Int32) → vp_in 7 8))))))))))))))))
theorem shX12_gathers {b0 : Nat} {x1 : Int32} {h : ea_H} (hs : ShM b0 h) : ShM b0 (wX12_gathers b0 x1 h) := (ShM_it (ShM_it (ShM_wi (ShM_wi (ShM_wi (ShM_wi (ShM_wi (ShM_wi (ShM_wi hs))))))) (ShM_wi (ShM_wi (ShM_wi (ShM_wi (ShM_wi (ShM_wi (ShM_wi hs)))))))) (ShM_it (ShM_wi (ShM_wi (ShM_wi (ShM_wi (ShM_wi (ShM_wi (ShM_wi hs))))))) (ShM_wi (ShM_wi (ShM_wi (ShM_wi (ShM_wi (ShM_wi (ShM_wi hs)))))))))
theorem sX12_gathers {d : Nat} {b0 : Nat} {x1 : Int32} {h : ea_H} (hd : 1 ≤ d) (hs : ShM b0 h) (K : okX12_gathers b0 x1 h) : ea_Met mX12_gathers d [vR (some (b0 + 0)), vI x1] h none (wX12_gathers b0 x1 h) := by
  obtain ⟨Y, EY⟩ : ∃ z, z = wX12_gathers b0 x1 h := ⟨_, rfl⟩
  rw [← EY]
  unfold wX12_gathers at EY
  unfold okX12_gathers at K
  refine ea_enter rfl (Nat.le_of_ble_eq_true rfl) ?_
  refine ea_aload_n (pc := 0) dX12_gathers_0 rfl 0 rfl ?_
  refine ea_getR (pc := 1) dX12_gathers_1 ec_12 (k := 91) (Nat.le_of_ble_eq_true rfl) rfl (Or.inl ew_1436) (hs.1 0 (by decide)).1 (hs.1 0 (by decide)).2.1 (hs.2 0 91 rfl) ?_
  refine ea_iconst (pc := 4) dX12_gathers_4 (v := 1) rfl ?_
  refine ea_aload_n (pc := 5) dX12_gathers_5 rfl 0 rfl ?_
  refine ea_getR (pc := 6) dX12_gathers_6 ec_12 (k := 71) (Nat.le_of_ble_eq_true rfl) rfl (Or.inl ew_1416) (hs.1 0 (by decide)).1 (hs.1 0 (by decide)).2.1 (hs.2 0 71 rfl) ?_
  refine ea_iload_n (pc := 9) dX12_gathers_9 rfl 1 rfl ?_
  obtain ⟨z1, K⟩ := K
  refine ea_iald (pc := 10) dX12_gathers_10 (hs.1 45 (by decide)).1 (hs.1 45 (by decide)).2.1 (ea_vpl (hs.1 45 (by decide)).2.2 z1) ?_
  refine ea_ldcw (pc := 11) dX12_gathers_11 ew_1727 ?_
  refine ea_icmp_ne (pc := 14) (tgt := 21) dX12_gathers_14 rfl (fun c49 => ?_) (fun c49 => ?_)
  · have EY := EY.trans (if_neg c49)
    have K := K.2 c49
    refine ea_aload_n (pc := 21) dX12_gathers_21 rfl 0 rfl ?_
    refine ea_getR (pc := 22) dX12_gathers_22 ec_12 (k := 71) (Nat.le_of_ble_eq_true rfl) rfl (Or.inl ew_1416) (hs.1 0 (by decide)).1 (hs.1 0 (by decide)).2.1 (hs.2 0 71 rfl) ?_
    refine ea_iload_n (pc := 25) dX12_gathers_25 rfl 1 rfl ?_
    obtain ⟨z2, K⟩ := K
    refine ea_iald (pc := 26) dX12_gathers_26 (hs.1 45 (by decide)).1 (hs.1 45 (by decide)).2.1 (ea_vpl (hs.1 45 (by decide)).2.2 z2) ?_
    obtain ⟨z3, K⟩ := K
    refine ea_iast (pc := 27) dX12_gathers_27 (hs.1 65 (by decide)).1 (hs.1 65 (by decide)).2.1 (ea_vpl (hs.1 65 (by decide)).2.2 z3) ?_
    have hs4 : ShM b0 (ea_wi h (b0 + 65) (Int32.toNatClampNeg 1) (ea_i h (b0 + 45) (Int32.toNatClampNeg x1))) := ShM_wi hs
    refine ea_aload_n (pc := 28) dX12_gathers_28 rfl 0 rfl ?_
    refine ea_getR (pc := 29) dX12_gathers_29 ec_12 (k := 91) (Nat.le_of_ble_eq_true rfl) rfl (Or.inl ew_1436) (hs4.1 0 (by decide)).1 (hs4.1 0 (by decide)).2.1 (hs4.2 0 91 rfl) ?_
    refine ea_iconst (pc := 32) dX12_gathers_32 (v := 2) rfl ?_
    refine ea_aload_n (pc := 33) dX12_gathers_33 rfl 0 rfl ?_
    refine ea_getR (pc := 34) dX12_gathers_34 ec_12 (k := 67) (Nat.le_of_ble_eq_true rfl) rfl (Or.inl ew_1412) (hs4.1 0 (by decide)).1 (hs4.1 0 (by decide)).2.1 (hs4.2 0 67 rfl) ?_
    refine ea_iload_n (pc := 37) dX12_gathers_37 rfl 1 rfl ?_
    obtain ⟨z5, K⟩ := K
    refine ea_iald (pc := 38) dX12_gathers_38 (hs4.1 41 (by decide)).1 (hs4.1 41 (by decide)).2.1 (ea_vpl (hs4.1 41 (by decide)).2.2 z5) ?_
    obtain ⟨z6, K⟩ := K
    refine ea_iast (pc := 39) dX12_gathers_39 (hs4.1 65 (by decide)).1 (hs4.1 65 (by decide)).2.1 (ea_vpl (hs4.1 65 (by decide)).2.2 z6) ?_
    have hs7 : ShM b0 (ea_wi (ea_wi h (b0 + 65) (Int32.toNatClampNeg 1) (ea_i h (b0 + 45) (Int32.toNatClampNeg x1))) (b0 + 65) (Int32.toNatClampNeg 2) (ea_i (ea_wi h (b0 + 65) (Int32.toNatClampNeg 1) (ea_i h (b0 + 45) (Int32.toNatClampNeg x1))) (b0 + 41) (Int32.toNatClampNeg x1))) := ShM_wi hs4
    refine ea_aload_n (pc := 40) dX12_gathers_40 rfl 0 rfl ?_
    refine ea_getR (pc := 41) dX12_gathers_41 ec_12 (k := 91) (Nat.le_of_ble_eq_true rfl) rfl (Or.inl ew_1436) (hs7.1 0 (by decide)).1 (hs7.1 0 (by decide)).2.1 (hs7.2 0 91 rfl) ?_
    refine ea_iconst (pc := 44) dX12_gathers_44 (v := 3) rfl ?_
    refine ea_aload_n (pc := 45) dX12_gathers_45 rfl 0 rfl ?_
    refine ea_getR (pc := 46) dX12_gathers_46 ec_12 (k := 68) (Nat.le_of_ble_eq_true rfl) rfl (Or.inl ew_1413) (hs7.1 0 (by decide)).1 (hs7.1 0 (by decide)).2.1 (hs7.2 0 68 rfl) ?_
    refine ea_iload_n (pc := 49) dX12_gathers_49 rfl 1 rfl ?_
    obtain ⟨z8, K⟩ := K
    refine ea_iald (pc := 50) dX12_gathers_50 (hs7.1 42 (by decide)).1 (hs7.1 42 (by decide)).2.1 (ea_vpl (hs7.1 42 (by decide)).2.2 z8) ?_
    obtain ⟨z9, K⟩ := K
    refine ea_iast (pc := 51) dX12_gathers_51 (hs7.1 65 (by decide)).1 (hs7.1 65 (by decide)).2.1 (ea_vpl (hs7.1 65 (by decide)).2.2 z9) ?_
    have hs10 : ShM b0 (ea_wi (ea_wi (ea_wi h (b0 + 65) (Int32.toNatClampNeg 1) (ea_i h (b0 + 45) (Int32.toNatClampNeg x1))) (b0 + 65) (Int32.toNatClampNeg 2) (ea_i (ea_wi h (b0 + 65) (Int32.toNatClampNeg 1) (ea_i h (b0 + 45) (Int32.toNatClampNeg x1))) (b0 + 41) (Int32.toNatClampNeg x1))) (b0 + 65) (Int32.toNatClampNeg 3) (ea_i (ea_wi (ea_wi h (b0 + 65) (Int32.toNatClampNeg 1) (ea_i h (b0 + 45) (Int32.toNatClampNeg x1))) (b0 + 65) (Int32.toNatClampNeg 2) (ea_i (ea_wi h (b0 + 65) (Int32.toNatClampNeg 1) (ea_i h (b0 + 45) (Int32.toNatClampNeg x1))) (b0 + 41) (Int32.toNatClampNeg x1))) (b0 + 42) (Int32.toNatClampNeg x1))) := ShM_wi hs7
    refine ea_aload_n (pc := 52) dX12_gathers_52 rfl 0 rfl ?_
    refine ea_getR (pc := 53) dX12_gathers_53 ec_12 (k := 91) (Nat.le_of_ble_eq_true rfl) rfl (Or.inl ew_1436) (hs10.1 0 (by decide)).1 (hs10.1 0 (by decide)).2.1 (hs10.2 0 91 rfl) ?_
    refine ea_iconst (pc := 56) dX12_gathers_56 (v := 4) rfl ?_
    refine ea_aload_n (pc := 57) dX12_gathers_57 rfl 0 rfl ?_
    refine ea_getR (pc := 58) dX12_gathers_58 ec_12 (k := 70) (Nat.le_of_ble_eq_true rfl) rfl (Or.inl ew_1415) (hs10.1 0 (by decide)).1 (hs10.1 0 (by decide)).2.1 (hs10.2 0 70 rfl) ?_
    refine ea_iload_n (pc := 61) dX12_gathers_61 rfl 1 rfl ?_
    obtain ⟨z11, K⟩ := K
    refine ea_iald (pc := 62) dX12_gathers_62 (hs10.1 44 (by decide)).1 (hs10.1 44 (by decide)).2.1 (ea_vpl (hs10.1 44 (by decide)).2.2 z11) ?_
    refine ea_sipush (pc := 63) dX12_gathers_63 (v := 1440) rfl ?_
    refine ea_irem (pc := 66) dX12_gathers_66 (by decide) ?_
    refine ea_bipush (pc := 67) dX12_gathers_67 (v := 60) rfl ?_
    refine ea_idiv (pc := 69) dX12_gathers_69 (by decide) ?_
    obtain ⟨z12, K⟩ := K
    refine ea_iast (pc := 70) dX12_gathers_70 (hs10.1 65 (by decide)).1 (hs10.1 65 (by decide)).2.1 (ea_vpl (hs10.1 65 (by decide)).2.2 z12) ?_
    have hs13 : ShM b0 (ea_wi (ea_wi (ea_wi (ea_wi h (b0 + 65) (Int32.toNatClampNeg 1) (ea_i h (b0 + 45) (Int32.toNatClampNeg x1))) (b0 + 65) (Int32.toNatClampNeg 2) (ea_i (ea_wi h (b0 + 65) (Int32.toNatClampNeg 1) (ea_i h (b0 + 45) (Int32.toNatClampNeg x1))) (b0 + 41) (Int32.toNatClampNeg x1))) (b0 + 65) (Int32.toNatClampNeg 3) (ea_i (ea_wi (ea_wi h (b0 + 65) (Int32.toNatClampNeg 1) (ea_i h (b0 + 45) (Int32.toNatClampNeg x1))) (b0 + 65) (Int32.toNatClampNeg 2) (ea_i (ea_wi h (b0 + 65) (Int32.toNatClampNeg 1) (ea_i h (b0 + 45) (Int32.toNatClampNeg x1))) (b0 + 41) (Int32.toNatClampNeg x1))) (b0 + 42) (Int32.toNatClampNeg x1))) (b0 + 65) (Int32.toNatClampNeg 4) (((ea_i (ea_wi (ea_wi (ea_wi h (b0 + 65) (Int32.toNatClampNeg 1) (ea_i h (b0 + 45) (Int32.toNatClampNeg x1))) (b0 + 65) (Int32.toNatClampNeg 2) (ea_i (ea_wi h (b0 + 65) (Int32.toNatClampNeg 1) (ea_i h (b0 + 45) (Int32.toNatClampNeg x1))) (b0 + 41) (Int32.toNatClampNeg x1))) (b0 + 65) (Int32.toNatClampNeg 3) (ea_i (ea_wi (ea_wi h (b0 + 65) (Int32.toNatClampNeg 1) (ea_i h (b0 + 45) (Int32.toNatClampNeg x1))) (b0 + 65) (Int32.toNatClampNeg 2) (ea_i (ea_wi h (b0 + 65) (Int32.toNatClampNeg 1) (ea_i h (b0 + 45) (Int32.toNatClampNeg x1))) (b0 + 41) (Int32.toNatClampNeg x1))) (b0 + 42) (Int32.toNatClampNeg x1))) (b0 + 44) (Int32.toNatClampNeg x1)) - (ea_i (ea_wi (ea_wi (ea_wi h (b0 + 65) (Int32.toNatClampNeg 1) (ea_i h (b0 + 45) (Int32.toNatClampNeg x1))) (b0 + 65) (Int32.toNatClampNeg 2) (ea_i (ea_wi h (b0 + 65) (Int32.toNatClampNeg 1) (ea_i h (b0 + 45) (Int32.toNatClampNeg x1))) (b0 + 41) (Int32.toNatClampNeg x1))) (b0 + 65) (Int32.toNatClampNeg 3) (ea_i (ea_wi (ea_wi h (b0 + 65) (Int32.toNatClampNeg 1) (ea_i h (b0 + 45) (Int32.toNatClampNeg x1))) (b0 + 65) (Int32.toNatClampNeg 2) (ea_i (ea_wi h (b0 + 65) (Int32.toNatClampNeg 1) (ea_i h (b0 + 45) (Int32.toNatClampNeg x1))) (b0 + 41) (Int32.toNatClampNeg x1))) (b0 + 42) (Int32.toNatClampNeg x1))) (b0 + 44) (Int32.toNatClampNeg x1)) / (1440 : Int32) * (1440 : Int32)) / (60 : Int32))) := ShM_wi hs10
    refine ea_aload_n (pc := 71) dX12_gathers_71 rfl 0 rfl ?_
    refine ea_getR (pc := 72) dX12_gathers_72 ec_12 (k := 91) (Nat.le_of_ble_eq_true rfl) rfl (Or.inl ew_1436) (hs13.1 0 (by decide)).1 (hs13.1 0 (by decide)).2.1 (hs13.2 0 91 rfl) ?_
    refine ea_iconst (pc := 75) dX12_gathers_75 (v := 5) rfl ?_
    refine ea_aload_n (pc := 76) dX12_gathers_76 rfl 0 rfl ?_
    refine ea_getR (pc := 77) dX12_gathers_77 ec_12 (k := 70) (Nat.le_of_ble_eq_true rfl) rfl (Or.inl ew_1415) (hs13.1 0 (by decide)).1 (hs13.1 0 (by decide)).2.1 (hs13.2 0 70 rfl) ?_
    refine ea_iload_n (pc := 80) dX12_gathers_80 rfl 1 rfl ?_
    obtain ⟨z14, K⟩ := K
    refine ea_iald (pc := 81) dX12_gathers_81 (hs13.1 44 (by decide)).1 (hs13.1 44 (by decide)).2.1 (ea_vpl (hs13.1 44 (by decide)).2.2 z14) ?_
    refine ea_sipush (pc := 82) dX12_gathers_82 (v := 1440) rfl ?_
    refine ea_idiv (pc := 85) dX12_gathers_85 (by decide) ?_
    obtain ⟨z15, K⟩ := K
    refine ea_iast (pc := 86) dX12_gathers_86 (hs13.1 65 (by decide)).1 (hs13.1 65 (by decide)).2.1 (ea_vpl (hs13.1 65 (by decide)).2.2 z15) ?_
    have hs16 : ShM b0 (ea_wi (ea_wi (ea_wi (ea_wi (ea_wi h (b0 + 65) (Int32.toNatClampNeg 1) (ea_i h (b0 + 45) (Int32.toNatClampNeg x1))) (b0 + 65) (Int32.toNatClampNeg 2) (ea_i (ea_wi h (b0 + 65) (Int32.toNatClampNeg 1) (ea_i h (b0 + 45) (Int32.toNatClampNeg x1))) (b0 + 41) (Int32.toNatClampNeg x1))) (b0 + 65) (Int32.toNatClampNeg 3) (ea_i (ea_wi (ea_wi h (b0 + 65) (Int32.toNatClampNeg 1) (ea_i h (b0 + 45) (Int32.toNatClampNeg x1))) (b0 + 65) (Int32.toNatClampNeg 2) (ea_i (ea_wi h (b0 + 65) (Int32.toNatClampNeg 1) (ea_i h (b0 + 45) (Int32.toNatClampNeg x1))) (b0 + 41) (Int32.toNatClampNeg x1))) (b0 + 42) (Int32.toNatClampNeg x1))) (b0 + 65) (Int32.toNatClampNeg 4) (((ea_i (ea_wi (ea_wi (ea_wi h (b0 + 65) (Int32.toNatClampNeg 1) (ea_i h (b0 + 45) (Int32.toNatClampNeg x1))) (b0 + 65) (Int32.toNatClampNeg 2) (ea_i (ea_wi h (b0 + 65) (Int32.toNatClampNeg 1) (ea_i h (b0 + 45) (Int32.toNatClampNeg x1))) (b0 + 41) (Int32.toNatClampNeg x1))) (b0 + 65) (Int32.toNatClampNeg 3) (ea_i (ea_wi (ea_wi h (b0 + 65) (Int32.toNatClampNeg 1) (ea_i h (b0 + 45) (Int32.toNatClampNeg x1))) (b0 + 65) (Int32.toNatClampNeg 2) (ea_i (ea_wi h (b0 + 65) (Int32.toNatClampNeg 1) (ea_i h (b0 + 45) (Int32.toNatClampNeg x1))) (b0 + 41) (Int32.toNatClampNeg x1))) (b0 + 42) (Int32.toNatClampNeg x1))) (b0 + 44) (Int32.toNatClampNeg x1)) - (ea_i (ea_wi (ea_wi (ea_wi h (b0 + 65) (Int32.toNatClampNeg 1) (ea_i h (b0 + 45) (Int32.toNatClampNeg x1))) (b0 + 65) (Int32.toNatClampNeg 2) (ea_i (ea_wi h (b0 + 65) (Int32.toNatClampNeg 1) (ea_i h (b0 + 45) (Int32.toNatClampNeg x1))) (b0 + 41) (Int32.toNatClampNeg x1))) (b0 + 65) (Int32.toNatClampNeg 3) (ea_i (ea_wi (ea_wi h (b0 + 65) (Int32.toNatClampNeg 1) (ea_i h (b0 + 45) (Int32.toNatClampNeg x1))) (b0 + 65) (Int32.toNatClampNeg 2) (ea_i (ea_wi h (b0 + 65) (Int32.toNatClampNeg 1) (ea_i h (b0 + 45) (Int32.toNatClampNeg x1))) (b0 + 41) (Int32.toNatClampNeg x1))) (b0 + 42) (Int32.toNatClampNeg x1))) (b0 + 44) (Int32.toNatClampNeg x1)) / (1440 : Int32) * (1440 : Int32)) / (60 : Int32))) (b0 + 65) (Int32.toNatClampNeg 5) ((ea_i (ea_wi (ea_wi (ea_wi (ea_wi h (b0 + 65) (Int32.toNatClampNeg 1) (ea_i h (b0 + 45) (Int32.toNatClampNeg x1))) (b0 + 65) (Int32.toNatClampNeg 2) (ea_i (ea_wi h (b0 + 65) (Int32.toNatClampNeg 1) (ea_i h (b0 + 45) (Int32.toNatClampNeg x1))) (b0 + 41) (Int32.toNatClampNeg x1))) (b0 + 65) (Int32.toNatClampNeg 3) (ea_i (ea_wi (ea_wi h (b0 + 65) (Int32.toNatClampNeg 1) (ea_i h (b0 + 45) (Int32.toNatClampNeg x1))) (b0 + 65) (Int32.toNatClampNeg 2) (ea_i (ea_wi h (b0 + 65) (Int32.toNatClampNeg 1) (ea_i h (b0 + 45) (Int32.toNatClampNeg x1))) (b0 + 41) (Int32.toNatClampNeg x1))) (b0 + 42) (Int32.toNatClampNeg x1))) (b0 + 65) (Int32.toNatClampNeg 4) (((ea_i (ea_wi (ea_wi (ea_wi h (b0 + 65) (Int32.toNatClampNeg 1) (ea_i h (b0 + 45) (Int32.toNatClampNeg x1))) (b0 + 65) (Int32.toNatClampNeg 2) (ea_i (ea_wi h (b0 + 65) (Int32.toNatClampNeg 1) (ea_i h (b0 + 45) (Int32.toNatClampNeg x1))) (b0 + 41) (Int32.toNatClampNeg x1))) (b0 + 65) (Int32.toNatClampNeg 3) (ea_i (ea_wi (ea_wi h (b0 + 65) (Int32.toNatClampNeg 1) (ea_i h (b0 + 45) (Int32.toNatClampNeg x1))) (b0 + 65) (Int32.toNatClampNeg 2) (ea_i (ea_wi h (b0 + 65) (Int32.toNatClampNeg 1) (ea_i h (b0 + 45) (Int32.toNatClampNeg x1))) (b0 + 41) (Int32.toNatClampNeg x1))) (b0 + 42) (Int32.toNatClampNeg x1))) (b0 + 44) (Int32.toNatClampNeg x1)) - (ea_i (ea_wi (ea_wi (ea_wi h (b0 + 65) (Int32.toNatClampNeg 1) (ea_i h (b0 + 45) (Int32.toNatClampNeg x1))) (b0 + 65) (Int32.toNatClampNeg 2) (ea_i (ea_wi h (b0 + 65) (Int32.toNatClampNeg 1) (ea_i h (b0 + 45) (Int32.toNatClampNeg x1))) (b0 + 41) (Int32.toNatClampNeg x1))) (b0 + 65) (Int32.toNatClampNeg 3) (ea_i (ea_wi (ea_wi h (b0 + 65) (Int32.toNatClampNeg 1) (ea_i h (b0 + 45) (Int32.toNatClampNeg x1))) (b0 + 65) (Int32.toNatClampNeg 2) (ea_i (ea_wi h (b0 + 65) (Int32.toNatClampNeg 1) (ea_i h (b0 + 45) (Int32.toNatClampNeg x1))) (b0 + 41) (Int32.toNatClampNeg x1))) (b0 + 42) (Int32.toNatClampNeg x1))) (b0 + 44) (Int32.toNatClampNeg x1)) / (1440 : Int32) * (1440 : Int32)) / (60 : Int32))) (b0 + 44) (Int32.toNatClampNeg x1)) / (1440 : Int32))) := ShM_wi hs13
    refine ea_aload_n (pc := 87) dX12_gathers_87 rfl 0 rfl ?_
    refine ea_getR (pc := 88) dX12_gathers_88 ec_12 (k := 91) (Nat.le_of_ble_eq_true rfl) rfl (Or.inl ew_1436) (hs16.1 0 (by decide)).1 (hs16.1 0 (by decide)).2.1 (hs16.2 0 91 rfl) ?_
    refine ea_bipush (pc := 91) dX12_gathers_91 (v := 6) rfl ?_
    refine ea_aload_n (pc := 93) dX12_gathers_93 rfl 0 rfl ?_
    refine ea_getR (pc := 94) dX12_gathers_94 ec_12 (k := 64) (Nat.le_of_ble_eq_true rfl) rfl (Or.inl ew_1409) (hs16.1 0 (by decide)).1 (hs16.1 0 (by decide)).2.1 (hs16.2 0 64 rfl) ?_
    refine ea_iload_n (pc := 97) dX12_gathers_97 rfl 1 rfl ?_
    obtain ⟨z17, K⟩ := K
    refine ea_iald (pc := 98) dX12_gathers_98 (hs16.1 38 (by decide)).1 (hs16.1 38 (by decide)).2.1 (ea_vpl (hs16.1 38 (by decide)).2.2 z17) ?_
    obtain ⟨z18, K⟩ := K
    refine ea_iast (pc := 99) dX12_gathers_99 (hs16.1 65 (by decide)).1 (hs16.1 65 (by decide)).2.1 (ea_vpl (hs16.1 65 (by decide)).2.2 z18) ?_
    have hs19 : ShM b0 (ea_wi (ea_wi (ea_wi (ea_wi (ea_wi (ea_wi h (b0 + 65) (Int32.toNatClampNeg 1) (ea_i h (b0 + 45) (Int32.toNatClampNeg x1))) (b0 + 65) (Int32.toNatClampNeg 2) (ea_i (ea_wi h (b0 + 65) (Int32.toNatClampNeg 1) (ea_i h (b0 + 45) (Int32.toNatClampNeg x1))) (b0 + 41) (Int32.toNatClampNeg x1))) (b0 + 65) (Int32.toNatClampNeg 3) (ea_i (ea_wi (ea_wi h (b0 + 65) (Int32.toNatClampNeg 1) (ea_i h (b0 + 45) (Int32.toNatClampNeg x1))) (b0 + 65) (Int32.toNatClampNeg 2) (ea_i (ea_wi h (b0 + 65) (Int32.toNatClampNeg 1) (ea_i h (b0 + 45) (Int32.toNatClampNeg x1))) (b0 + 41) (Int32.toNatClampNeg x1))) (b0 + 42) (Int32.toNatClampNeg x1))) (b0 + 65) (Int32.toNatClampNeg 4) (((ea_i (ea_wi (ea_wi (ea_wi h (b0 + 65) (Int32.toNatClampNeg 1) (ea_i h (b0 + 45) (Int32.toNatClampNeg x1))) (b0 + 65) (Int32.toNatClampNeg 2) (ea_i (ea_wi h (b0 + 65) (Int32.toNatClampNeg 1) (ea_i h (b0 + 45) (Int32.toNatClampNeg x1))) (b0 + 41) (Int32.toNatClampNeg x1))) (b0 + 65) (Int32.toNatClampNeg 3) (ea_i (ea_wi (ea_wi h (b0 + 65) (Int32.toNatClampNeg 1) (ea_i h (b0 + 45) (Int32.toNatClampNeg x1))) (b0 + 65) (Int32.toNatClampNeg 2) (ea_i (ea_wi h (b0 + 65) (Int32.toNatClampNeg 1) (ea_i h (b0 + 45) (Int32.toNatClampNeg x1))) (b0 + 41) (Int32.toNatClampNeg x1))) (b0 + 42) (Int32.toNatClampNeg x1))) (b0 + 44) (Int32.toNatClampNeg x1)) - (ea_i (ea_wi (ea_wi (ea_wi h (b0 + 65) (Int32.toNatClampNeg 1) (ea_i h (b0 + 45) (Int32.toNatClampNeg x1))) (b0 + 65) (Int32.toNatClampNeg 2) (ea_i (ea_wi h (b0 + 65) (Int32.toNatClampNeg 1) (ea_i h (b0 + 45) (Int32.toNatClampNeg x1))) (b0 + 41) (Int32.toNatClampNeg x1))) (b0 + 65) (Int32.toNatClampNeg 3) (ea_i (ea_wi (ea_wi h (b0 + 65) (Int32.toNatClampNeg 1) (ea_i h (b0 + 45) (Int32.toNatClampNeg x1))) (b0 + 65) (Int32.toNatClampNeg 2) (ea_i (ea_wi h (b0 + 65) (Int32.toNatClampNeg 1) (ea_i h (b0 + 45) (Int32.toNatClampNeg x1))) (b0 + 41) (Int32.toNatClampNeg x1))) (b0 + 42) (Int32.toNatClampNeg x1))) (b0 + 44) (Int32.toNatClampNeg x1)) / (1440 : Int32) * (1440 : Int32)) / (60 : Int32))) (b0 + 65) (Int32.toNatClampNeg 5) ((ea_i (ea_wi (ea_wi (ea_wi (ea_wi h (b0 + 65) (Int32.toNatClampNeg 1) (ea_i h (b0 + 45) (Int32.toNatClampNeg x1))) (b0 + 65) (Int32.toNatClampNeg 2) (ea_i (ea_wi h (b0 + 65) (Int32.toNatClampNeg 1) (ea_i h (b0 + 45) (Int32.toNatClampNeg x1))) (b0 + 41) (Int32.toNatClampNeg x1))) (b0 + 65) (Int32.toNatClampNeg 3) (ea_i (ea_wi (ea_wi h (b0 + 65) (Int32.toNatClampNeg 1) (ea_i h (b0 + 45) (Int32.toNatClampNeg x1))) (b0 + 65) (Int32.toNatClampNeg 2) (ea_i (ea_wi h (b0 + 65) (Int32.toNatClampNeg 1) (ea_i h (b0 + 45) (Int32.toNatClampNeg x1))) (b0 + 41) (Int32.toNatClampNeg x1))) (b0 + 42) (Int32.toNatClampNeg x1))) (b0 + 65) (Int32.toNatClampNeg 4) (((ea_i (ea_wi (ea_wi (ea_wi h (b0 + 65) (Int32.toNatClampNeg 1) (ea_i h (b0 + 45) (Int32.toNatClampNeg x1))) (b0 + 65) (Int32.toNatClampNeg 2) (ea_i (ea_wi h (b0 + 65) (Int32.toNatClampNeg 1) (ea_i h (b0 + 45) (Int32.toNatClampNeg x1))) (b0 + 41) (Int32.toNatClampNeg x1))) (b0 + 65) (Int32.toNatClampNeg 3) (ea_i (ea_wi (ea_wi h (b0 + 65) (Int32.toNatClampNeg 1) (ea_i h (b0 + 45) (Int32.toNatClampNeg x1))) (b0 + 65) (Int32.toNatClampNeg 2) (ea_i (ea_wi h (b0 + 65) (Int32.toNatClampNeg 1) (ea_i h (b0 + 45) (Int32.toNatClampNeg x1))) (b0 + 41) (Int32.toNatClampNeg x1))) (b0 + 42) (Int32.toNatClampNeg x1))) (b0 + 44) (Int32.toNatClampNeg x1)) - (ea_i (ea_wi (ea_wi (ea_wi h (b0 + 65) (Int32.toNatClampNeg 1) (ea_i h (b0 + 45) (Int32.toNatClampNeg x1))) (b0 + 65) (Int32.toNatClampNeg 2) (ea_i (ea_wi h (b0 + 65) (Int32.toNatClampNeg 1) (ea_i h (b0 + 45) (Int32.toNatClampNeg x1))) (b0 + 41) (Int32.toNatClampNeg x1))) (b0 + 65) (Int32.toNatClampNeg 3) (ea_i (ea_wi (ea_wi h (b0 + 65) (Int32.toNatClampNeg 1) (ea_i h (b0 + 45) (Int32.toNatClampNeg x1))) (b0 + 65) (Int32.toNatClampNeg 2) (ea_i (ea_wi h (b0 + 65) (Int32.toNatClampNeg 1) (ea_i h (b0 + 45) (Int32.toNatClampNeg x1))) (b0 + 41) (Int32.toNatClampNeg x1))) (b0 + 42) (Int32.toNatClampNeg x1))) (b0 + 44) (Int32.toNatClampNeg x1)) / (1440 : Int32) * (1440 : Int32)) / (60 : Int32))) (b0 + 44) (Int32.toNatClampNeg x1)) / (1440 : Int32))) (b0 + 65) (Int32.toNatClampNeg 6) (ea_i (ea_wi (ea_wi (ea_wi (ea_wi (ea_wi h (b0 + 65) (Int32.toNatClampNeg 1) (ea_i h (b0 + 45) (Int32.toNatClampNeg x1))) (b0 + 65) (Int32.toNatClampNeg 2) (ea_i (ea_wi h (b0 + 65) (Int32.toNatClampNeg 1) (ea_i h (b0 + 45) (Int32.toNatClampNeg x1))) (b0 + 41) (Int32.toNatClampNeg x1))) (b0 + 65) (Int32.toNatClampNeg 3) (ea_i (ea_wi (ea_wi h (b0 + 65) (Int32.toNatClampNeg 1) (ea_i h (b0 + 45) (Int32.toNatClampNeg x1))) (b0 + 65) (Int32.toNatClampNeg 2) (ea_i (ea_wi h (b0 + 65) (Int32.toNatClampNeg 1) (ea_i h (b0 + 45) (Int32.toNatClampNeg x1))) (b0 + 41) (Int32.toNatClampNeg x1))) (b0 + 42) (Int32.toNatClampNeg x1))) (b0 + 65) (Int32.toNatClampNeg 4) (((ea_i (ea_wi (ea_wi (ea_wi h (b0 + 65) (Int32.toNatClampNeg 1) (ea_i h (b0 + 45) (Int32.toNatClampNeg x1))) (b0 + 65) (Int32.toNatClampNeg 2) (ea_i (ea_wi h (b0 + 65) (Int32.toNatClampNeg 1) (ea_i h (b0 + 45) (Int32.toNatClampNeg x1))) (b0 + 41) (Int32.toNatClampNeg x1))) (b0 + 65) (Int32.toNatClampNeg 3) (ea_i (ea_wi (ea_wi h (b0 + 65) (Int32.toNatClampNeg 1) (ea_i h (b0 + 45) (Int32.toNatClampNeg x1))) (b0 + 65) (Int32.toNatClampNeg 2) (ea_i (ea_wi h (b0 + 65) (Int32.toNatClampNeg 1) (ea_i h (b0 + 45) (Int32.toNatClampNeg x1))) (b0 + 41) (Int32.toNatClampNeg x1))) (b0 + 42) (Int32.toNatClampNeg x1))) (b0 + 44) (Int32.toNatClampNeg x1)) - (ea_i (ea_wi (ea_wi (ea_wi h (b0 + 65) (Int32.toNatClampNeg 1) (ea_i h (b0 + 45) (Int32.toNatClampNeg x1))) (b0 + 65) (Int32.toNatClampNeg 2) (ea_i (ea_wi h (b0 + 65) (Int32.toNatClampNeg 1) (ea_i h (b0 + 45) (Int32.toNatClampNeg x1))) (b0 + 41) (Int32.toNatClampNeg x1))) (b0 + 65) (Int32.toNatClampNeg 3) (ea_i (ea_wi (ea_wi h (b0 + 65) (Int32.toNatClampNeg 1) (ea_i h (b0 + 45) (Int32.toNatClampNeg x1))) (b0 + 65) (Int32.toNatClampNeg 2) (ea_i (ea_wi h (b0 + 65) (Int32.toNatClampNeg 1) (ea_i h (b0 + 45) (Int32.toNatClampNeg x1))) (b0 + 41) (Int32.toNatClampNeg x1))) (b0 + 42) (Int32.toNatClampNeg x1))) (b0 + 44) (Int32.toNatClampNeg x1)) / (1440 : Int32) * (1440 : Int32)) / (60 : Int32))) (b0 + 65) (Int32.toNatClampNeg 5) ((ea_i (ea_wi (ea_wi (ea_wi (ea_wi h (b0 + 65) (Int32.toNatClampNeg 1) (ea_i h (b0 + 45) (Int32.toNatClampNeg x1))) (b0 + 65) (Int32.toNatClampNeg 2) (ea_i (ea_wi h (b0 + 65) (Int32.toNatClampNeg 1) (ea_i h (b0 + 45) (Int32.toNatClampNeg x1))) (b0 + 41) (Int32.toNatClampNeg x1))) (b0 + 65) (Int32.toNatClampNeg 3) (ea_i (ea_wi (ea_wi h (b0 + 65) (Int32.toNatClampNeg 1) (ea_i h (b0 + 45) (Int32.toNatClampNeg x1))) (b0 + 65) (Int32.toNatClampNeg 2) (ea_i (ea_wi h (b0 + 65) (Int32.toNatClampNeg 1) (ea_i h (b0 + 45) (Int32.toNatClampNeg x1))) (b0 + 41) (Int32.toNatClampNeg x1))) (b0 + 42) (Int32.toNatClampNeg x1))) (b0 + 65) (Int32.toNatClampNeg 4) (((ea_i (ea_wi (ea_wi (ea_wi h (b0 + 65) (Int32.toNatClampNeg 1) (ea_i h (b0 + 45) (Int32.toNatClampNeg x1))) (b0 + 65) (Int32.toNatClampNeg 2) (ea_i (ea_wi h (b0 + 65) (Int32.toNatClampNeg 1) (ea_i h (b0 + 45) (Int32.toNatClampNeg x1))) (b0 + 41) (Int32.toNatClampNeg x1))) (b0 + 65) (Int32.toNatClampNeg 3) (ea_i (ea_wi (ea_wi h (b0 + 65) (Int32.toNatClampNeg 1) (ea_i h (b0 + 45) (Int32.toNatClampNeg x1))) (b0 + 65) (Int32.toNatClampNeg 2) (ea_i (ea_wi h (b0 + 65) (Int32.toNatClampNeg 1) (ea_i h (b0 + 45) (Int32.toNatClampNeg x1))) (b0 + 41) (Int32.toNatClampNeg x1))) (b0 + 42) (Int32.toNatClampNeg x1))) (b0 + 44) (Int32.toNatClampNeg x1)) - (ea_i (ea_wi (ea_wi (ea_wi h (b0 + 65) (Int32.toNatClampNeg 1) (ea_i h (b0 + 45) (Int32.toNatClampNeg x1))) (b0 + 65) (Int32.toNatClampNeg 2) (ea_i (ea_wi h (b0 + 65) (Int32.toNatClampNeg 1) (ea_i h (b0 + 45) (Int32.toNatClampNeg x1))) (b0 + 41) (Int32.toNatClampNeg x1))) (b0 + 65) (Int32.toNatClampNeg 3) (ea_i (ea_wi (ea_wi h (b0 + 65) (Int32.toNatClampNeg 1) (ea_i h (b0 + 45) (Int32.toNatClampNeg x1))) (b0 + 65) (Int32.toNatClampNeg 2) (ea_i (ea_wi h (b0 + 65) (Int32.toNatClampNeg 1) (ea_i h (b0 + 45) (Int32.toNatClampNeg x1))) (b0 + 41) (Int32.toNatClampNeg x1))) (b0 + 42) (Int32.toNatClampNeg x1))) (b0 + 44) (Int32.toNatClampNeg x1)) / (1440 : Int32) * (1440 : Int32)) / (60 : Int32))) (b0 + 44) (Int32.toNatClampNeg x1)) / (1440 : Int32))) (b0 + 38) (Int32.toNatClampNeg x1))) := ShM_wi hs16
    refine ea_aload_n (pc := 100) dX12_gathers_100 rfl 0 rfl ?_
    refine ea_getR (pc := 101) dX12_gathers_101 ec_12 (k := 91) (Nat.le_of_ble_eq_true rfl) rfl (Or.inl ew_1436) (hs19.1 0 (by decide)).1 (hs19.1 0 (by decide)).2.1 (hs19.2 0 91 rfl) ?_
    refine ea_bipush (pc := 104) dX12_gathers_104 (v := 7) rfl ?_
    refine ea_aload_n (pc := 106) dX12_gathers_106 rfl 0 rfl ?_
    refine ea_getR (pc := 107) dX12_gathers_107 ec_12 (k := 78) (Nat.le_of_ble_eq_true rfl) rfl (Or.inl ew_1423) (hs19.1 0 (by decide)).1 (hs19.1 0 (by decide)).2.1 (hs19.2 0 78 rfl) ?_
    refine ea_iload_n (pc := 110) dX12_gathers_110 rfl 1 rfl ?_
    obtain ⟨z20, K⟩ := K
    refine ea_zald (pc := 111) dX12_gathers_111 (hs19.1 52 (by decide)).1 (hs19.1 52 (by decide)).2.1 (ea_vpl (hs19.1 52 (by decide)).2.2 z20) ?_
    refine ea_if_eq (pc := 112) (tgt := 119) dX12_gathers_112 rfl (fun c25 => ?_) (fun c25 => ?_)
    · have EY := EY.trans (if_pos c25)
      have K := K.1 c25
      refine ea_iconst (pc := 119) dX12_gathers_119 (v := 0) rfl ?_
      have z21 := K
      refine ea_iast (pc := 120) dX12_gathers_120 (hs19.1 65 (by decide)).1 (hs19.1 65 (by decide)).2.1 (ea_vpl (hs19.1 65 (by decide)).2.2 z21) ?_
      have hs22 : ShM b0 (ea_wi (ea_wi (ea_wi (ea_wi (ea_wi (ea_wi (ea_wi h (b0 + 65) (Int32.toNatClampNeg 1) (ea_i h (b0 + 45) (Int32.toNatClampNeg x1))) (b0 + 65) (Int32.toNatClampNeg 2) (ea_i (ea_wi h (b0 + 65) (Int32.toNatClampNeg 1) (ea_i h (b0 + 45) (Int32.toNatClampNeg x1))) (b0 + 41) (Int32.toNatClampNeg x1))) (b0 + 65) (Int32.toNatClampNeg 3) (ea_i (ea_wi (ea_wi h (b0 + 65) (Int32.toNatClampNeg 1) (ea_i h (b0 + 45) (Int32.toNatClampNeg x1))) (b0 + 65) (Int32.toNatClampNeg 2) (ea_i (ea_wi h (b0 + 65) (Int32.toNatClampNeg 1) (ea_i h (b0 + 45) (Int32.toNatClampNeg x1))) (b0 + 41) (Int32.toNatClampNeg x1))) (b0 + 42) (Int32.toNatClampNeg x1))) (b0 + 65) (Int32.toNatClampNeg 4) (((ea_i (ea_wi (ea_wi (ea_wi h (b0 + 65) (Int32.toNatClampNeg 1) (ea_i h (b0 + 45) (Int32.toNatClampNeg x1))) (b0 + 65) (Int32.toNatClampNeg 2) (ea_i (ea_wi h (b0 + 65) (Int32.toNatClampNeg 1) (ea_i h (b0 + 45) (Int32.toNatClampNeg x1))) (b0 + 41) (Int32.toNatClampNeg x1))) (b0 + 65) (Int32.toNatClampNeg 3) (ea_i (ea_wi (ea_wi h (b0 + 65) (Int32.toNatClampNeg 1) (ea_i h (b0 + 45) (Int32.toNatClampNeg x1))) (b0 + 65) (Int32.toNatClampNeg 2) (ea_i (ea_wi h (b0 + 65) (Int32.toNatClampNeg 1) (ea_i h (b0 + 45) (Int32.toNatClampNeg x1))) (b0 + 41) (Int32.toNatClampNeg x1))) (b0 + 42) (Int32.toNatClampNeg x1))) (b0 + 44) (Int32.toNatClampNeg x1)) - (ea_i (ea_wi (ea_wi (ea_wi h (b0 + 65) (Int32.toNatClampNeg 1) (ea_i h (b0 + 45) (Int32.toNatClampNeg x1))) (b0 + 65) (Int32.toNatClampNeg 2) (ea_i (ea_wi h (b0 + 65) (Int32.toNatClampNeg 1) (ea_i h (b0 + 45) (Int32.toNatClampNeg x1))) (b0 + 41) (Int32.toNatClampNeg x1))) (b0 + 65) (Int32.toNatClampNeg 3) (ea_i (ea_wi (ea_wi h (b0 + 65) (Int32.toNatClampNeg 1) (ea_i h (b0 + 45) (Int32.toNatClampNeg x1))) (b0 + 65) (Int32.toNatClampNeg 2) (ea_i (ea_wi h (b0 + 65) (Int32.toNatClampNeg 1) (ea_i h (b0 + 45) (Int32.toNatClampNeg x1))) (b0 + 41) (Int32.toNatClampNeg x1))) (b0 + 42) (Int32.toNatClampNeg x1))) (b0 + 44) (Int32.toNatClampNeg x1)) / (1440 : Int32) * (1440 : Int32)) / (60 : Int32))) (b0 + 65) (Int32.toNatClampNeg 5) ((ea_i (ea_wi (ea_wi (ea_wi (ea_wi h (b0 + 65) (Int32.toNatClampNeg 1) (ea_i h (b0 + 45) (Int32.toNatClampNeg x1))) (b0 + 65) (Int32.toNatClampNeg 2) (ea_i (ea_wi h (b0 + 65) (Int32.toNatClampNeg 1) (ea_i h (b0 + 45) (Int32.toNatClampNeg x1))) (b0 + 41) (Int32.toNatClampNeg x1))) (b0 + 65) (Int32.toNatClampNeg 3) (ea_i (ea_wi (ea_wi h (b0 + 65) (Int32.toNatClampNeg 1) (ea_i h (b0 + 45) (Int32.toNatClampNeg x1))) (b0 + 65) (Int32.toNatClampNeg 2) (ea_i (ea_wi h (b0 + 65) (Int32.toNatClampNeg 1) (ea_i h (b0 + 45) (Int32.toNatClampNeg x1))) (b0 + 41) (Int32.toNatClampNeg x1))) (b0 + 42) (Int32.toNatClampNeg x1))) (b0 + 65) (Int32.toNatClampNeg 4) (((ea_i (ea_wi (ea_wi (ea_wi h (b0 + 65) (Int32.toNatClampNeg 1) (ea_i h (b0 + 45) (Int32.toNatClampNeg x1))) (b0 + 65) (Int32.toNatClampNeg 2) (ea_i (ea_wi h (b0 + 65) (Int32.toNatClampNeg 1) (ea_i h (b0 + 45) (Int32.toNatClampNeg x1))) (b0 + 41) (Int32.toNatClampNeg x1))) (b0 + 65) (Int32.toNatClampNeg 3) (ea_i (ea_wi (ea_wi h (b0 + 65) (Int32.toNatClampNeg 1) (ea_i h (b0 + 45) (Int32.toNatClampNeg x1))) (b0 + 65) (Int32.toNatClampNeg 2) (ea_i (ea_wi h (b0 + 65) (Int32.toNatClampNeg 1) (ea_i h (b0 + 45) (Int32.toNatClampNeg x1))) (b0 + 41) (Int32.toNatClampNeg x1))) (b0 + 42) (Int32.toNatClampNeg x1))) (b0 + 44) (Int32.toNatClampNeg x1)) - (ea_i (ea_wi (ea_wi (ea_wi h (b0 + 65) (Int32.toNatClampNeg 1) (ea_i h (b0 + 45) (Int32.toNatClampNeg x1))) (b0 + 65) (Int32.toNatClampNeg 2) (ea_i (ea_wi h (b0 + 65) (Int32.toNatClampNeg 1) (ea_i h (b0 + 45) (Int32.toNatClampNeg x1))) (b0 + 41) (Int32.toNatClampNeg x1))) (b0 + 65) (Int32.toNatClampNeg 3) (ea_i (ea_wi (ea_wi h (b0 + 65) (Int32.toNatClampNeg 1) (ea_i h (b0 + 45) (Int32.toNatClampNeg x1))) (b0 + 65) (Int32.toNatClampNeg 2) (ea_i (ea_wi h (b0 + 65) (Int32.toNatClampNeg 1) (ea_i h (b0 + 45) (Int32.toNatClampNeg x1))) (b0 + 41) (Int32.toNatClampNeg x1))) (b0 + 42) (Int32.toNatClampNeg x1))) (b0 + 44) (Int32.toNatClampNeg x1)) / (1440 : Int32) * (1440 : Int32)) / (60 : Int32))) (b0 + 44) (Int32.toNatClampNeg x1)) / (1440 : Int32))) (b0 + 65) (Int32.toNatClampNeg 6) (ea_i (ea_wi (ea_wi (ea_wi (ea_wi (ea_wi h (b0 + 65) (Int32.toNatClampNeg 1) (ea_i h (b0 + 45) (Int32.toNatClampNeg x1))) (b0 + 65) (Int32.toNatClampNeg 2) (ea_i (ea_wi h (b0 + 65) (Int32.toNatClampNeg 1) (ea_i h (b0 + 45) (Int32.toNatClampNeg x1))) (b0 + 41) (Int32.toNatClampNeg x1))) (b0 + 65) (Int32.toNatClampNeg 3) (ea_i (ea_wi (ea_wi h (b0 + 65) (Int32.toNatClampNeg 1) (ea_i h (b0 + 45) (Int32.toNatClampNeg x1))) (b0 + 65) (Int32.toNatClampNeg 2) (ea_i (ea_wi h (b0 + 65) (Int32.toNatClampNeg 1) (ea_i h (b0 + 45) (Int32.toNatClampNeg x1))) (b0 + 41) (Int32.toNatClampNeg x1))) (b0 + 42) (Int32.toNatClampNeg x1))) (b0 + 65) (Int32.toNatClampNeg 4) (((ea_i (ea_wi (ea_wi (ea_wi h (b0 + 65) (Int32.toNatClampNeg 1) (ea_i h (b0 + 45) (Int32.toNatClampNeg x1))) (b0 + 65) (Int32.toNatClampNeg 2) (ea_i (ea_wi h (b0 + 65) (Int32.toNatClampNeg 1) (ea_i h (b0 + 45) (Int32.toNatClampNeg x1))) (b0 + 41) (Int32.toNatClampNeg x1))) (b0 + 65) (Int32.toNatClampNeg 3) (ea_i (ea_wi (ea_wi h (b0 + 65) (Int32.toNatClampNeg 1) (ea_i h (b0 + 45) (Int32.toNatClampNeg x1))) (b0 + 65) (Int32.toNatClampNeg 2) (ea_i (ea_wi h (b0 + 65) (Int32.toNatClampNeg 1) (ea_i h (b0 + 45) (Int32.toNatClampNeg x1))) (b0 + 41) (Int32.toNatClampNeg x1))) (b0 + 42) (Int32.toNatClampNeg x1))) (b0 + 44) (Int32.toNatClampNeg x1)) - (ea_i (ea_wi (ea_wi (ea_wi h (b0 + 65) (Int32.toNatClampNeg 1) (ea_i h (b0 + 45) (Int32.toNatClampNeg x1))) (b0 + 65) (Int32.toNatClampNeg 2) (ea_i (ea_wi h (b0 + 65) (Int32.toNatClampNeg 1) (ea_i h (b0 + 45) (Int32.toNatClampNeg x1))) (b0 + 41) (Int32.toNatClampNeg x1))) (b0 + 65) (Int32.toNatClampNeg 3) (ea_i (ea_wi (ea_wi h (b0 + 65) (Int32.toNatClampNeg 1) (ea_i h (b0 + 45) (Int32.toNatClampNeg x1))) (b0 + 65) (Int32.toNatClampNeg 2) (ea_i (ea_wi h (b0 + 65) (Int32.toNatClampNeg 1) (ea_i h (b0 + 45) (Int32.toNatClampNeg x1))) (b0 + 41) (Int32.toNatClampNeg x1))) (b0 + 42) (Int32.toNatClampNeg x1))) (b0 + 44) (Int32.toNatClampNeg x1)) / (1440 : Int32) * (1440 : Int32)) / (60 : Int32))) (b0 + 65) (Int32.toNatClampNeg 5) ((ea_i (ea_wi (ea_wi (ea_wi (ea_wi h (b0 + 65) (Int32.toNatClampNeg 1) (ea_i h (b0 + 45) (Int32.toNatClampNeg x1))) (b0 + 65) (Int32.toNatClampNeg 2) (ea_i (ea_wi h (b0 + 65) (Int32.toNatClampNeg 1) (ea_i h (b0 + 45) (Int32.toNatClampNeg x1))) (b0 + 41) (Int32.toNatClampNeg x1))) (b0 + 65) (Int32.toNatClampNeg 3) (ea_i (ea_wi (ea_wi h (b0 + 65) (Int32.toNatClampNeg 1) (ea_i h (b0 + 45) (Int32.toNatClampNeg x1))) (b0 + 65) (Int32.toNatClampNeg 2) (ea_i (ea_wi h (b0 + 65) (Int32.toNatClampNeg 1) (ea_i h (b0 + 45) (Int32.toNatClampNeg x1))) (b0 + 41) (Int32.toNatClampNeg x1))) (b0 + 42) (Int32.toNatClampNeg x1))) (b0 + 65) (Int32.toNatClampNeg 4) (((ea_i (ea_wi (ea_wi (ea_wi h (b0 + 65) (Int32.toNatClampNeg 1) (ea_i h (b0 + 45) (Int32.toNatClampNeg x1))) (b0 + 65) (Int32.toNatClampNeg 2) (ea_i (ea_wi h (b0 + 65) (Int32.toNatClampNeg 1) (ea_i h (b0 + 45) (Int32.toNatClampNeg x1))) (b0 + 41) (Int32.toNatClampNeg x1))) (b0 + 65) (Int32.toNatClampNeg 3) (ea_i (ea_wi (ea_wi h (b0 + 65) (Int32.toNatClampNeg 1) (ea_i h (b0 + 45) (Int32.toNatClampNeg x1))) (b0 + 65) (Int32.toNatClampNeg 2) (ea_i (ea_wi h (b0 + 65) (Int32.toNatClampNeg 1) (ea_i h (b0 + 45) (Int32.toNatClampNeg x1))) (b0 + 41) (Int32.toNatClampNeg x1))) (b0 + 42) (Int32.toNatClampNeg x1))) (b0 + 44) (Int32.toNatClampNeg x1)) - (ea_i (ea_wi (ea_wi (ea_wi h (b0 + 65) (Int32.toNatClampNeg 1) (ea_i h (b0 + 45) (Int32.toNatClampNeg x1))) (b0 + 65) (Int32.toNatClampNeg 2) (ea_i (ea_wi h (b0 + 65) (Int32.toNatClampNeg 1) (ea_i h (b0 + 45) (Int32.toNatClampNeg x1))) (b0 + 41) (Int32.toNatClampNeg x1))) (b0 + 65) (Int32.toNatClampNeg 3) (ea_i (ea_wi (ea_wi h (b0 + 65) (Int32.toNatClampNeg 1) (ea_i h (b0 + 45) (Int32.toNatClampNeg x1))) (b0 + 65) (Int32.toNatClampNeg 2) (ea_i (ea_wi h (b0 + 65) (Int32.toNatClampNeg 1) (ea_i h (b0 + 45) (Int32.toNatClampNeg x1))) (b0 + 41) (Int32.toNatClampNeg x1))) (b0 + 42) (Int32.toNatClampNeg x1))) (b0 + 44) (Int32.toNatClampNeg x1)) / (1440 : Int32) * (1440 : Int32)) / (60 : Int32))) (b0 + 44) (Int32.toNatClampNeg x1)) / (1440 : Int32))) (b0 + 38) (Int32.toNatClampNeg x1))) (b0 + 65) (Int32.toNatClampNeg 7) 0) := ShM_wi hs19
      exact ea_vretE (pc := 121) dX12_gathers_121 rfl EY
    · have EY := EY.trans (if_neg c25)
      have K := K.2 c25
      refine ea_iconst (pc := 115) dX12_gathers_115 (v := 1) rfl ?_
      refine ea_goto (pc := 116) (tgt := 120) dX12_gathers_116 rfl ?_
      have z23 := K
      refine ea_iast (pc := 120) dX12_gathers_120 (hs19.1 65 (by decide)).1 (hs19.1 65 (by decide)).2.1 (ea_vpl (hs19.1 65 (by decide)).2.2 z23) ?_
      have hs24 : ShM b0 (ea_wi (ea_wi (ea_wi (ea_wi (ea_wi (ea_wi (ea_wi h (b0 + 65) (Int32.toNatClampNeg 1) (ea_i h (b0 + 45) (Int32.toNatClampNeg x1))) (b0 + 65) (Int32.toNatClampNeg 2) (ea_i (ea_wi h (b0 + 65) (Int32.toNatClampNeg 1) (ea_i h (b0 + 45) (Int32.toNatClampNeg x1))) (b0 + 41) (Int32.toNatClampNeg x1))) (b0 + 65) (Int32.toNatClampNeg 3) (ea_i (ea_wi (ea_wi h (b0 + 65) (Int32.toNatClampNeg 1) (ea_i h (b0 + 45) (Int32.toNatClampNeg x1))) (b0 + 65) (Int32.toNatClampNeg 2) (ea_i (ea_wi h (b0 + 65) (Int32.toNatClampNeg 1) (ea_i h (b0 + 45) (Int32.toNatClampNeg x1))) (b0 + 41) (Int32.toNatClampNeg x1))) (b0 + 42) (Int32.toNatClampNeg x1))) (b0 + 65) (Int32.toNatClampNeg 4) (((ea_i (ea_wi (ea_wi (ea_wi h (b0 + 65) (Int32.toNatClampNeg 1) (ea_i h (b0 + 45) (Int32.toNatClampNeg x1))) (b0 + 65) (Int32.toNatClampNeg 2) (ea_i (ea_wi h (b0 + 65) (Int32.toNatClampNeg 1) (ea_i h (b0 + 45) (Int32.toNatClampNeg x1))) (b0 + 41) (Int32.toNatClampNeg x1))) (b0 + 65) (Int32.toNatClampNeg 3) (ea_i (ea_wi (ea_wi h (b0 + 65) (Int32.toNatClampNeg 1) (ea_i h (b0 + 45) (Int32.toNatClampNeg x1))) (b0 + 65) (Int32.toNatClampNeg 2) (ea_i (ea_wi h (b0 + 65) (Int32.toNatClampNeg 1) (ea_i h (b0 + 45) (Int32.toNatClampNeg x1))) (b0 + 41) (Int32.toNatClampNeg x1))) (b0 + 42) (Int32.toNatClampNeg x1))) (b0 + 44) (Int32.toNatClampNeg x1)) - (ea_i (ea_wi (ea_wi (ea_wi h (b0 + 65) (Int32.toNatClampNeg 1) (ea_i h (b0 + 45) (Int32.toNatClampNeg x1))) (b0 + 65) (Int32.toNatClampNeg 2) (ea_i (ea_wi h (b0 + 65) (Int32.toNatClampNeg 1) (ea_i h (b0 + 45) (Int32.toNatClampNeg x1))) (b0 + 41) (Int32.toNatClampNeg x1))) (b0 + 65) (Int32.toNatClampNeg 3) (ea_i (ea_wi (ea_wi h (b0 + 65) (Int32.toNatClampNeg 1) (ea_i h (b0 + 45) (Int32.toNatClampNeg x1))) (b0 + 65) (Int32.toNatClampNeg 2) (ea_i (ea_wi h (b0 + 65) (Int32.toNatClampNeg 1) (ea_i h (b0 + 45) (Int32.toNatClampNeg x1))) (b0 + 41) (Int32.toNatClampNeg x1))) (b0 + 42) (Int32.toNatClampNeg x1))) (b0 + 44) (Int32.toNatClampNeg x1)) / (1440 : Int32) * (1440 : Int32)) / (60 : Int32))) (b0 + 65) (Int32.toNatClampNeg 5) ((ea_i (ea_wi (ea_wi (ea_wi (ea_wi h (b0 + 65) (Int32.toNatClampNeg 1) (ea_i h (b0 + 45) (Int32.toNatClampNeg x1))) (b0 + 65) (Int32.toNatClampNeg 2) (ea_i (ea_wi h (b0 + 65) (Int32.toNatClampNeg 1) (ea_i h (b0 + 45) (Int32.toNatClampNeg x1))) (b0 + 41) (Int32.toNatClampNeg x1))) (b0 + 65) (Int32.toNatClampNeg 3) (ea_i (ea_wi (ea_wi h (b0 + 65) (Int32.toNatClampNeg 1) (ea_i h (b0 + 45) (Int32.toNatClampNeg x1))) (b0 + 65) (Int32.toNatClampNeg 2) (ea_i (ea_wi h (b0 + 65) (Int32.toNatClampNeg 1) (ea_i h (b0 + 45) (Int32.toNatClampNeg x1))) (b0 + 41) (Int32.toNatClampNeg x1))) (b0 + 42) (Int32.toNatClampNeg x1))) (b0 + 65) (Int32.toNatClampNeg 4) (((ea_i (ea_wi (ea_wi (ea_wi h (b0 + 65) (Int32.toNatClampNeg 1) (ea_i h (b0 + 45) (Int32.toNatClampNeg x1))) (b0 + 65) (Int32.toNatClampNeg 2) (ea_i (ea_wi h (b0 + 65) (Int32.toNatClampNeg 1) (ea_i h (b0 + 45) (Int32.toNatClampNeg x1))) (b0 + 41) (Int32.toNatClampNeg x1))) (b0 + 65) (Int32.toNatClampNeg 3) (ea_i (ea_wi (ea_wi h (b0 + 65) (Int32.toNatClampNeg 1) (ea_i h (b0 + 45) (Int32.toNatClampNeg x1))) (b0 + 65) (Int32.toNatClampNeg 2) (ea_i (ea_wi h (b0 + 65) (Int32.toNatClampNeg 1) (ea_i h (b0 + 45) (Int32.toNatClampNeg x1))) (b0 + 41) (Int32.toNatClampNeg x1))) (b0 + 42) (Int32.toNatClampNeg x1))) (b0 + 44) (Int32.toNatClampNeg x1)) - (ea_i (ea_wi (ea_wi (ea_wi h (b0 + 65) (Int32.toNatClampNeg 1) (ea_i h (b0 + 45) (Int32.toNatClampNeg x1))) (b0 + 65) (Int32.toNatClampNeg 2) (ea_i (ea_wi h (b0 + 65) (Int32.toNatClampNeg 1) (ea_i h (b0 + 45) (Int32.toNatClampNeg x1))) (b0 + 41) (Int32.toNatClampNeg x1))) (b0 + 65) (Int32.toNatClampNeg 3) (ea_i (ea_wi (ea_wi h (b0 + 65) (Int32.toNatClampNeg 1) (ea_i h (b0 + 45) (Int32.toNatClampNeg x1))) (b0 + 65) (Int32.toNatClampNeg 2) (ea_i (ea_wi h (b0 + 65) (Int32.toNatClampNeg 1) (ea_i h (b0 + 45) (Int32.toNatClampNeg x1))) (b0 + 41) (Int32.toNatClampNeg x1))) (b0 + 42) (Int32.toNatClampNeg x1))) (b0 + 44) (Int32.toNatClampNeg x1)) / (1440 : Int32) * (1440 : Int32)) / (60 : Int32))) (b0 + 44) (Int32.toNatClampNeg x1)) / (1440 : Int32))) (b0 + 65) (Int32.toNatClampNeg 6) (ea_i (ea_wi (ea_wi (ea_wi (ea_wi (ea_wi h (b0 + 65) (Int32.toNatClampNeg 1) (ea_i h (b0 + 45) (Int32.toNatClampNeg x1))) (b0 + 65) (Int32.toNatClampNeg 2) (ea_i (ea_wi h (b0 + 65) (Int32.toNatClampNeg 1) (ea_i h (b0 + 45) (Int32.toNatClampNeg x1))) (b0 + 41) (Int32.toNatClampNeg x1))) (b0 + 65) (Int32.toNatClampNeg 3) (ea_i (ea_wi (ea_wi h (b0 + 65) (Int32.toNatClampNeg 1) (ea_i h (b0 + 45) (Int32.toNatClampNeg x1))) (b0 + 65) (Int32.toNatClampNeg 2) (ea_i (ea_wi h (b0 + 65) (Int32.toNatClampNeg 1) (ea_i h (b0 + 45) (Int32.toNatClampNeg x1))) (b0 + 41) (Int32.toNatClampNeg x1))) (b0 + 42) (Int32.toNatClampNeg x1))) (b0 + 65) (Int32.toNatClampNeg 4) (((ea_i (ea_wi (ea_wi (ea_wi h (b0 + 65) (Int32.toNatClampNeg 1) (ea_i h (b0 + 45) (Int32.toNatClampNeg x1))) (b0 + 65) (Int32.toNatClampNeg 2) (ea_i (ea_wi h (b0 + 65) (Int32.toNatClampNeg 1) (ea_i h (b0 + 45) (Int32.toNatClampNeg x1))) (b0 + 41) (Int32.toNatClampNeg x1))) (b0 + 65) (Int32.toNatClampNeg 3) (ea_i (ea_wi (ea_wi h (b0 + 65) (Int32.toNatClampNeg 1) (ea_i h (b0 + 45) (Int32.toNatClampNeg x1))) (b0 + 65) (Int32.toNatClampNeg 2) (ea_i (ea_wi h (b0 + 65) (Int32.toNatClampNeg 1) (ea_i h (b0 + 45) (Int32.toNatClampNeg x1))) (b0 + 41) (Int32.toNatClampNeg x1))) (b0 + 42) (Int32.toNatClampNeg x1))) (b0 + 44) (Int32.toNatClampNeg x1)) - (ea_i (ea_wi (ea_wi (ea_wi h (b0 + 65) (Int32.toNatClampNeg 1) (ea_i h (b0 + 45) (Int32.toNatClampNeg x1))) (b0 + 65) (Int32.toNatClampNeg 2) (ea_i (ea_wi h (b0 + 65) (Int32.toNatClampNeg 1) (ea_i h (b0 + 45) (Int32.toNatClampNeg x1))) (b0 + 41) (Int32.toNatClampNeg x1))) (b0 + 65) (Int32.toNatClampNeg 3) (ea_i (ea_wi (ea_wi h (b0 + 65) (Int32.toNatClampNeg 1) (ea_i h (b0 + 45) (Int32.toNatClampNeg x1))) (b0 + 65) (Int32.toNatClampNeg 2) (ea_i (ea_wi h (b0 + 65) (Int32.toNatClampNeg 1) (ea_i h (b0 + 45) (Int32.toNatClampNeg x1))) (b0 + 41) (Int32.toNatClampNeg x1))) (b0 + 42) (Int32.toNatClampNeg x1))) (b0 + 44) (Int32.toNatClampNeg x1)) / (1440 : Int32) * (1440 : Int32)) / (60 : Int32))) (b0 + 65) (Int32.toNatClampNeg 5) ((ea_i (ea_wi (ea_wi (ea_wi (ea_wi h (b0 + 65) (Int32.toNatClampNeg 1) (ea_i h (b0 + 45) (Int32.toNatClampNeg x1))) (b0 + 65) (Int32.toNatClampNeg 2) (ea_i (ea_wi h (b0 + 65) (Int32.toNatClampNeg 1) (ea_i h (b0 + 45) (Int32.toNatClampNeg x1))) (b0 + 41) (Int32.toNatClampNeg x1))) (b0 + 65) (Int32.toNatClampNeg 3) (ea_i (ea_wi (ea_wi h (b0 + 65) (Int32.toNatClampNeg 1) (ea_i h (b0 + 45) (Int32.toNatClampNeg x1))) (b0 + 65) (Int32.toNatClampNeg 2) (ea_i (ea_wi h (b0 + 65) (Int32.toNatClampNeg 1) (ea_i h (b0 + 45) (Int32.toNatClampNeg x1))) (b0 + 41) (Int32.toNatClampNeg x1))) (b0 + 42) (Int32.toNatClampNeg x1))) (b0 + 65) (Int32.toNatClampNeg 4) (((ea_i (ea_wi (ea_wi (ea_wi h (b0 + 65) (Int32.toNatClampNeg 1) (ea_i h (b0 + 45) (Int32.toNatClampNeg x1))) (b0 + 65) (Int32.toNatClampNeg 2) (ea_i (ea_wi h (b0 + 65) (Int32.toNatClampNeg 1) (ea_i h (b0 + 45) (Int32.toNatClampNeg x1))) (b0 + 41) (Int32.toNatClampNeg x1))) (b0 + 65) (Int32.toNatClampNeg 3) (ea_i (ea_wi (ea_wi h (b0 + 65) (Int32.toNatClampNeg 1) (ea_i h (b0 + 45) (Int32.toNatClampNeg x1))) (b0 + 65) (Int32.toNatClampNeg 2) (ea_i (ea_wi h (b0 + 65) (Int32.toNatClampNeg 1) (ea_i h (b0 + 45) (Int32.toNatClampNeg x1))) (b0 + 41) (Int32.toNatClampNeg x1))) (b0 + 42) (Int32.toNatClampNeg x1))) (b0 + 44) (Int32.toNatClampNeg x1)) - (ea_i (ea_wi (ea_wi (ea_wi h (b0 + 65) (Int32.toNatClampNeg 1) (ea_i h (b0 + 45) (Int32.toNatClampNeg x1))) (b0 + 65) (Int32.toNatClampNeg 2) (ea_i (ea_wi h (b0 + 65) (Int32.toNatClampNeg 1) (ea_i h (b0 + 45) (Int32.toNatClampNeg x1))) (b0 + 41) (Int32.toNatClampNeg x1))) (b0 + 65) (Int32.toNatClampNeg 3) (ea_i (ea_wi (ea_wi h (b0 + 65) (Int32.toNatClampNeg 1) (ea_i h (b0 + 45) (Int32.toNatClampNeg x1))) (b0 + 65) (Int32.toNatClampNeg 2) (ea_i (ea_wi h (b0 + 65) (Int32.toNatClampNeg 1) (ea_i h (b0 + 45) (Int32.toNatClampNeg x1))) (b0 + 41) (Int32.toNatClampNeg x1))) (b0 + 42) (Int32.toNatClampNeg x1))) (b0 + 44) (Int32.toNatClampNeg x1)) / (1440 : Int32) * (1440 : Int32)) / (60 : Int32))) (b0 + 44) (Int32.toNatClampNeg x1)) / (1440 : Int32))) (b0 + 38) (Int32.toNatClampNeg x1))) (b0 + 65) (Int32.toNatClampNeg 7) 1) := ShM_wi hs19
      exact ea_vretE (pc := 121) dX12_gathers_121 rfl EY
  · have EY := EY.trans (if_pos c49)
    have K := K.1 c49
    refine ea_iconst (pc := 17) dX12_gathers_17 (v := 0) rfl ?_
    refine ea_goto (pc := 18) (tgt := 27) dX12_gathers_18 rfl ?_
    obtain ⟨z26, K⟩ := K
    refine ea_iast (pc := 27) dX12_gathers_27 (hs.1 65 (by decide)).1 (hs.1 65 (by decide)).2.1 (ea_vpl (hs.1 65 (by decide)).2.2 z26) ?_
    have hs27 : ShM b0 (ea_wi h (b0 + 65) (Int32.toNatClampNeg 1) 0) := ShM_wi hs
    refine ea_aload_n (pc := 28) dX12_gathers_28 rfl 0 rfl ?_
    refine ea_getR (pc := 29) dX12_gathers_29 ec_12 (k := 91) (Nat.le_of_ble_eq_true rfl) rfl (Or.inl ew_1436) (hs27.1 0 (by decide)).1 (hs27.1 0 (by decide)).2.1 (hs27.2 0 91 rfl) ?_
    refine ea_iconst (pc := 32) dX12_gathers_32 (v := 2) rfl ?_
    refine ea_aload_n (pc := 33) dX12_gathers_33 rfl 0 rfl ?_
    refine ea_getR (pc := 34) dX12_gathers_34 ec_12 (k := 67) (Nat.le_of_ble_eq_true rfl) rfl (Or.inl ew_1412) (hs27.1 0 (by decide)).1 (hs27.1 0 (by decide)).2.1 (hs27.2 0 67 rfl) ?_
    refine ea_iload_n (pc := 37) dX12_gathers_37 rfl 1 rfl ?_
    obtain ⟨z28, K⟩ := K
    refine ea_iald (pc := 38) dX12_gathers_38 (hs27.1 41 (by decide)).1 (hs27.1 41 (by decide)).2.1 (ea_vpl (hs27.1 41 (by decide)).2.2 z28) ?_
    obtain ⟨z29, K⟩ := K
    refine ea_iast (pc := 39) dX12_gathers_39 (hs27.1 65 (by decide)).1 (hs27.1 65 (by decide)).2.1 (ea_vpl (hs27.1 65 (by decide)).2.2 z29) ?_
    have hs30 : ShM b0 (ea_wi (ea_wi h (b0 + 65) (Int32.toNatClampNeg 1) 0) (b0 + 65) (Int32.toNatClampNeg 2) (ea_i (ea_wi h (b0 + 65) (Int32.toNatClampNeg 1) 0) (b0 + 41) (Int32.toNatClampNeg x1))) := ShM_wi hs27
    refine ea_aload_n (pc := 40) dX12_gathers_40 rfl 0 rfl ?_
    refine ea_getR (pc := 41) dX12_gathers_41 ec_12 (k := 91) (Nat.le_of_ble_eq_true rfl) rfl (Or.inl ew_1436) (hs30.1 0 (by decide)).1 (hs30.1 0 (by decide)).2.1 (hs30.2 0 91 rfl) ?_
    refine ea_iconst (pc := 44) dX12_gathers_44 (v := 3) rfl ?_
    refine ea_aload_n (pc := 45) dX12_gathers_45 rfl 0 rfl ?_
    refine ea_getR (pc := 46) dX12_gathers_46 ec_12 (k := 68) (Nat.le_of_ble_eq_true rfl) rfl (Or.inl ew_1413) (hs30.1 0 (by decide)).1 (hs30.1 0 (by decide)).2.1 (hs30.2 0 68 rfl) ?_
    refine ea_iload_n (pc := 49) dX12_gathers_49 rfl 1 rfl ?_
    obtain ⟨z31, K⟩ := K
    refine ea_iald (pc := 50) dX12_gathers_50 (hs30.1 42 (by decide)).1 (hs30.1 42 (by decide)).2.1 (ea_vpl (hs30.1 42 (by decide)).2.2 z31) ?_
    obtain ⟨z32, K⟩ := K
    refine ea_iast (pc := 51) dX12_gathers_51 (hs30.1 65 (by decide)).1 (hs30.1 65 (by decide)).2.1 (ea_vpl (hs30.1 65 (by decide)).2.2 z32) ?_
    have hs33 : ShM b0 (ea_wi (ea_wi (ea_wi h (b0 + 65) (Int32.toNatClampNeg 1) 0) (b0 + 65) (Int32.toNatClampNeg 2) (ea_i (ea_wi h (b0 + 65) (Int32.toNatClampNeg 1) 0) (b0 + 41) (Int32.toNatClampNeg x1))) (b0 + 65) (Int32.toNatClampNeg 3) (ea_i (ea_wi (ea_wi h (b0 + 65) (Int32.toNatClampNeg 1) 0) (b0 + 65) (Int32.toNatClampNeg 2) (ea_i (ea_wi h (b0 + 65) (Int32.toNatClampNeg 1) 0) (b0 + 41) (Int32.toNatClampNeg x1))) (b0 + 42) (Int32.toNatClampNeg x1))) := ShM_wi hs30
    refine ea_aload_n (pc := 52) dX12_gathers_52 rfl 0 rfl ?_
    refine ea_getR (pc := 53) dX12_gathers_53 ec_12 (k := 91) (Nat.le_of_ble_eq_true rfl) rfl (Or.inl ew_1436) (hs33.1 0 (by decide)).1 (hs33.1 0 (by decide)).2.1 (hs33.2 0 91 rfl) ?_
    refine ea_iconst (pc := 56) dX12_gathers_56 (v := 4) rfl ?_
    refine ea_aload_n (pc := 57) dX12_gathers_57 rfl 0 rfl ?_
    refine ea_getR (pc := 58) dX12_gathers_58 ec_12 (k := 70) (Nat.le_of_ble_eq_true rfl) rfl (Or.inl ew_1415) (hs33.1 0 (by decide)).1 (hs33.1 0 (by decide)).2.1 (hs33.2 0 70 rfl) ?_
    refine ea_iload_n (pc := 61) dX12_gathers_61 rfl 1 rfl ?_
    obtain ⟨z34, K⟩ := K
    refine ea_iald (pc := 62) dX12_gathers_62 (hs33.1 44 (by decide)).1 (hs33.1 44 (by decide)).2.1 (ea_vpl (hs33.1 44 (by decide)).2.2 z34) ?_
    refine ea_sipush (pc := 63) dX12_gathers_63 (v := 1440) rfl ?_
    refine ea_irem (pc := 66) dX12_gathers_66 (by decide) ?_
    refine ea_bipush (pc := 67) dX12_gathers_67 (v := 60) rfl ?_
    refine ea_idiv (pc := 69) dX12_gathers_69 (by decide) ?_
    obtain ⟨z35, K⟩ := K
    refine ea_iast (pc := 70) dX12_gathers_70 (hs33.1 65 (by decide)).1 (hs33.1 65 (by decide)).2.1 (ea_vpl (hs33.1 65 (by decide)).2.2 z35) ?_
    have hs36 : ShM b0 (ea_wi (ea_wi (ea_wi (ea_wi h (b0 + 65) (Int32.toNatClampNeg 1) 0) (b0 + 65) (Int32.toNatClampNeg 2) (ea_i (ea_wi h (b0 + 65) (Int32.toNatClampNeg 1) 0) (b0 + 41) (Int32.toNatClampNeg x1))) (b0 + 65) (Int32.toNatClampNeg 3) (ea_i (ea_wi (ea_wi h (b0 + 65) (Int32.toNatClampNeg 1) 0) (b0 + 65) (Int32.toNatClampNeg 2) (ea_i (ea_wi h (b0 + 65) (Int32.toNatClampNeg 1) 0) (b0 + 41) (Int32.toNatClampNeg x1))) (b0 + 42) (Int32.toNatClampNeg x1))) (b0 + 65) (Int32.toNatClampNeg 4) (((ea_i (ea_wi (ea_wi (ea_wi h (b0 + 65) (Int32.toNatClampNeg 1) 0) (b0 + 65) (Int32.toNatClampNeg 2) (ea_i (ea_wi h (b0 + 65) (Int32.toNatClampNeg 1) 0) (b0 + 41) (Int32.toNatClampNeg x1))) (b0 + 65) (Int32.toNatClampNeg 3) (ea_i (ea_wi (ea_wi h (b0 + 65) (Int32.toNatClampNeg 1) 0) (b0 + 65) (Int32.toNatClampNeg 2) (ea_i (ea_wi h (b0 + 65) (Int32.toNatClampNeg 1) 0) (b0 + 41) (Int32.toNatClampNeg x1))) (b0 + 42) (Int32.toNatClampNeg x1))) (b0 + 44) (Int32.toNatClampNeg x1)) - (ea_i (ea_wi (ea_wi (ea_wi h (b0 + 65) (Int32.toNatClampNeg 1) 0) (b0 + 65) (Int32.toNatClampNeg 2) (ea_i (ea_wi h (b0 + 65) (Int32.toNatClampNeg 1) 0) (b0 + 41) (Int32.toNatClampNeg x1))) (b0 + 65) (Int32.toNatClampNeg 3) (ea_i (ea_wi (ea_wi h (b0 + 65) (Int32.toNatClampNeg 1) 0) (b0 + 65) (Int32.toNatClampNeg 2) (ea_i (ea_wi h (b0 + 65) (Int32.toNatClampNeg 1) 0) (b0 + 41) (Int32.toNatClampNeg x1))) (b0 + 42) (Int32.toNatClampNeg x1))) (b0 + 44) (Int32.toNatClampNeg x1)) / (1440 : Int32) * (1440 : Int32)) / (60 : Int32))) := ShM_wi hs33
    refine ea_aload_n (pc := 71) dX12_gathers_71 rfl 0 rfl ?_
    refine ea_getR (pc := 72) dX12_gathers_72 ec_12 (k := 91) (Nat.le_of_ble_eq_true rfl) rfl (Or.inl ew_1436) (hs36.1 0 (by decide)).1 (hs36.1 0 (by decide)).2.1 (hs36.2 0 91 rfl) ?_
    refine ea_iconst (pc := 75) dX12_gathers_75 (v := 5) rfl ?_
    refine ea_aload_n (pc := 76) dX12_gathers_76 rfl 0 rfl ?_
    refine ea_getR (pc := 77) dX12_gathers_77 ec_12 (k := 70) (Nat.le_of_ble_eq_true rfl) rfl (Or.inl ew_1415) (hs36.1 0 (by decide)).1 (hs36.1 0 (by decide)).2.1 (hs36.2 0 70 rfl) ?_
    refine ea_iload_n (pc := 80) dX12_gathers_80 rfl 1 rfl ?_
    obtain ⟨z37, K⟩ := K
    refine ea_iald (pc := 81) dX12_gathers_81 (hs36.1 44 (by decide)).1 (hs36.1 44 (by decide)).2.1 (ea_vpl (hs36.1 44 (by decide)).2.2 z37) ?_
    refine ea_sipush (pc := 82) dX12_gathers_82 (v := 1440) rfl ?_
    refine ea_idiv (pc := 85) dX12_gathers_85 (by decide) ?_
    obtain ⟨z38, K⟩ := K
    refine ea_iast (pc := 86) dX12_gathers_86 (hs36.1 65 (by decide)).1 (hs36.1 65 (by decide)).2.1 (ea_vpl (hs36.1 65 (by decide)).2.2 z38) ?_
    have hs39 : ShM b0 (ea_wi (ea_wi (ea_wi (ea_wi (ea_wi h (b0 + 65) (Int32.toNatClampNeg 1) 0) (b0 + 65) (Int32.toNatClampNeg 2) (ea_i (ea_wi h (b0 + 65) (Int32.toNatClampNeg 1) 0) (b0 + 41) (Int32.toNatClampNeg x1))) (b0 + 65) (Int32.toNatClampNeg 3) (ea_i (ea_wi (ea_wi h (b0 + 65) (Int32.toNatClampNeg 1) 0) (b0 + 65) (Int32.toNatClampNeg 2) (ea_i (ea_wi h (b0 + 65) (Int32.toNatClampNeg 1) 0) (b0 + 41) (Int32.toNatClampNeg x1))) (b0 + 42) (Int32.toNatClampNeg x1))) (b0 + 65) (Int32.toNatClampNeg 4) (((ea_i (ea_wi (ea_wi (ea_wi h (b0 + 65) (Int32.toNatClampNeg 1) 0) (b0 + 65) (Int32.toNatClampNeg 2) (ea_i (ea_wi h (b0 + 65) (Int32.toNatClampNeg 1) 0) (b0 + 41) (Int32.toNatClampNeg x1))) (b0 + 65) (Int32.toNatClampNeg 3) (ea_i (ea_wi (ea_wi h (b0 + 65) (Int32.toNatClampNeg 1) 0) (b0 + 65) (Int32.toNatClampNeg 2) (ea_i (ea_wi h (b0 + 65) (Int32.toNatClampNeg 1) 0) (b0 + 41) (Int32.toNatClampNeg x1))) (b0 + 42) (Int32.toNatClampNeg x1))) (b0 + 44) (Int32.toNatClampNeg x1)) - (ea_i (ea_wi (ea_wi (ea_wi h (b0 + 65) (Int32.toNatClampNeg 1) 0) (b0 + 65) (Int32.toNatClampNeg 2) (ea_i (ea_wi h (b0 + 65) (Int32.toNatClampNeg 1) 0) (b0 + 41) (Int32.toNatClampNeg x1))) (b0 + 65) (Int32.toNatClampNeg 3) (ea_i (ea_wi (ea_wi h (b0 + 65) (Int32.toNatClampNeg 1) 0) (b0 + 65) (Int32.toNatClampNeg 2) (ea_i (ea_wi h (b0 + 65) (Int32.toNatClampNeg 1) 0) (b0 + 41) (Int32.toNatClampNeg x1))) (b0 + 42) (Int32.toNatClampNeg x1))) (b0 + 44) (Int32.toNatClampNeg x1)) / (1440 : Int32) * (1440 : Int32)) / (60 : Int32))) (b0 + 65) (Int32.toNatClampNeg 5) ((ea_i (ea_wi (ea_wi (ea_wi (ea_wi h (b0 + 65) (Int32.toNatClampNeg 1) 0) (b0 + 65) (Int32.toNatClampNeg 2) (ea_i (ea_wi h (b0 + 65) (Int32.toNatClampNeg 1) 0) (b0 + 41) (Int32.toNatClampNeg x1))) (b0 + 65) (Int32.toNatClampNeg 3) (ea_i (ea_wi (ea_wi h (b0 + 65) (Int32.toNatClampNeg 1) 0) (b0 + 65) (Int32.toNatClampNeg 2) (ea_i (ea_wi h (b0 + 65) (Int32.toNatClampNeg 1) 0) (b0 + 41) (Int32.toNatClampNeg x1))) (b0 + 42) (Int32.toNatClampNeg x1))) (b0 + 65) (Int32.toNatClampNeg 4) (((ea_i (ea_wi (ea_wi (ea_wi h (b0 + 65) (Int32.toNatClampNeg 1) 0) (b0 + 65) (Int32.toNatClampNeg 2) (ea_i (ea_wi h (b0 + 65) (Int32.toNatClampNeg 1) 0) (b0 + 41) (Int32.toNatClampNeg x1))) (b0 + 65) (Int32.toNatClampNeg 3) (ea_i (ea_wi (ea_wi h (b0 + 65) (Int32.toNatClampNeg 1) 0) (b0 + 65) (Int32.toNatClampNeg 2) (ea_i (ea_wi h (b0 + 65) (Int32.toNatClampNeg 1) 0) (b0 + 41) (Int32.toNatClampNeg x1))) (b0 + 42) (Int32.toNatClampNeg x1))) (b0 + 44) (Int32.toNatClampNeg x1)) - (ea_i (ea_wi (ea_wi (ea_wi h (b0 + 65) (Int32.toNatClampNeg 1) 0) (b0 + 65) (Int32.toNatClampNeg 2) (ea_i (ea_wi h (b0 + 65) (Int32.toNatClampNeg 1) 0) (b0 + 41) (Int32.toNatClampNeg x1))) (b0 + 65) (Int32.toNatClampNeg 3) (ea_i (ea_wi (ea_wi h (b0 + 65) (Int32.toNatClampNeg 1) 0) (b0 + 65) (Int32.toNatClampNeg 2) (ea_i (ea_wi h (b0 + 65) (Int32.toNatClampNeg 1) 0) (b0 + 41) (Int32.toNatClampNeg x1))) (b0 + 42) (Int32.toNatClampNeg x1))) (b0 + 44) (Int32.toNatClampNeg x1)) / (1440 : Int32) * (1440 : Int32)) / (60 : Int32))) (b0 + 44) (Int32.toNatClampNeg x1)) / (1440 : Int32))) := ShM_wi hs36
    refine ea_aload_n (pc := 87) dX12_gathers_87 rfl 0 rfl ?_
    refine ea_getR (pc := 88) dX12_gathers_88 ec_12 (k := 91) (Nat.le_of_ble_eq_true rfl) rfl (Or.inl ew_1436) (hs39.1 0 (by decide)).1 (hs39.1 0 (by decide)).2.1 (hs39.2 0 91 rfl) ?_
    refine ea_bipush (pc := 91) dX12_gathers_91 (v := 6) rfl ?_
    refine ea_aload_n (pc := 93) dX12_gathers_93 rfl 0 rfl ?_
    refine ea_getR (pc := 94) dX12_gathers_94 ec_12 (k := 64) (Nat.le_of_ble_eq_true rfl) rfl (Or.inl ew_1409) (hs39.1 0 (by decide)).1 (hs39.1 0 (by decide)).2.1 (hs39.2 0 64 rfl) ?_
    refine ea_iload_n (pc := 97) dX12_gathers_97 rfl 1 rfl ?_
    obtain ⟨z40, K⟩ := K
    refine ea_iald (pc := 98) dX12_gathers_98 (hs39.1 38 (by decide)).1 (hs39.1 38 (by decide)).2.1 (ea_vpl (hs39.1 38 (by decide)).2.2 z40) ?_
    obtain ⟨z41, K⟩ := K
    refine ea_iast (pc := 99) dX12_gathers_99 (hs39.1 65 (by decide)).1 (hs39.1 65 (by decide)).2.1 (ea_vpl (hs39.1 65 (by decide)).2.2 z41) ?_
    have hs42 : ShM b0 (ea_wi (ea_wi (ea_wi (ea_wi (ea_wi (ea_wi h (b0 + 65) (Int32.toNatClampNeg 1) 0) (b0 + 65) (Int32.toNatClampNeg 2) (ea_i (ea_wi h (b0 + 65) (Int32.toNatClampNeg 1) 0) (b0 + 41) (Int32.toNatClampNeg x1))) (b0 + 65) (Int32.toNatClampNeg 3) (ea_i (ea_wi (ea_wi h (b0 + 65) (Int32.toNatClampNeg 1) 0) (b0 + 65) (Int32.toNatClampNeg 2) (ea_i (ea_wi h (b0 + 65) (Int32.toNatClampNeg 1) 0) (b0 + 41) (Int32.toNatClampNeg x1))) (b0 + 42) (Int32.toNatClampNeg x1))) (b0 + 65) (Int32.toNatClampNeg 4) (((ea_i (ea_wi (ea_wi (ea_wi h (b0 + 65) (Int32.toNatClampNeg 1) 0) (b0 + 65) (Int32.toNatClampNeg 2) (ea_i (ea_wi h (b0 + 65) (Int32.toNatClampNeg 1) 0) (b0 + 41) (Int32.toNatClampNeg x1))) (b0 + 65) (Int32.toNatClampNeg 3) (ea_i (ea_wi (ea_wi h (b0 + 65) (Int32.toNatClampNeg 1) 0) (b0 + 65) (Int32.toNatClampNeg 2) (ea_i (ea_wi h (b0 + 65) (Int32.toNatClampNeg 1) 0) (b0 + 41) (Int32.toNatClampNeg x1))) (b0 + 42) (Int32.toNatClampNeg x1))) (b0 + 44) (Int32.toNatClampNeg x1)) - (ea_i (ea_wi (ea_wi (ea_wi h (b0 + 65) (Int32.toNatClampNeg 1) 0) (b0 + 65) (Int32.toNatClampNeg 2) (ea_i (ea_wi h (b0 + 65) (Int32.toNatClampNeg 1) 0) (b0 + 41) (Int32.toNatClampNeg x1))) (b0 + 65) (Int32.toNatClampNeg 3) (ea_i (ea_wi (ea_wi h (b0 + 65) (Int32.toNatClampNeg 1) 0) (b0 + 65) (Int32.toNatClampNeg 2) (ea_i (ea_wi h (b0 + 65) (Int32.toNatClampNeg 1) 0) (b0 + 41) (Int32.toNatClampNeg x1))) (b0 + 42) (Int32.toNatClampNeg x1))) (b0 + 44) (Int32.toNatClampNeg x1)) / (1440 : Int32) * (1440 : Int32)) / (60 : Int32))) (b0 + 65) (Int32.toNatClampNeg 5) ((ea_i (ea_wi (ea_wi (ea_wi (ea_wi h (b0 + 65) (Int32.toNatClampNeg 1) 0) (b0 + 65) (Int32.toNatClampNeg 2) (ea_i (ea_wi h (b0 + 65) (Int32.toNatClampNeg 1) 0) (b0 + 41) (Int32.toNatClampNeg x1))) (b0 + 65) (Int32.toNatClampNeg 3) (ea_i (ea_wi (ea_wi h (b0 + 65) (Int32.toNatClampNeg 1) 0) (b0 + 65) (Int32.toNatClampNeg 2) (ea_i (ea_wi h (b0 + 65) (Int32.toNatClampNeg 1) 0) (b0 + 41) (Int32.toNatClampNeg x1))) (b0 + 42) (Int32.toNatClampNeg x1))) (b0 + 65) (Int32.toNatClampNeg 4) (((ea_i (ea_wi (ea_wi (ea_wi h (b0 + 65) (Int32.toNatClampNeg 1) 0) (b0 + 65) (Int32.toNatClampNeg 2) (ea_i (ea_wi h (b0 + 65) (Int32.toNatClampNeg 1) 0) (b0 + 41) (Int32.toNatClampNeg x1))) (b0 + 65) (Int32.toNatClampNeg 3) (ea_i (ea_wi (ea_wi h (b0 + 65) (Int32.toNatClampNeg 1) 0) (b0 + 65) (Int32.toNatClampNeg 2) (ea_i (ea_wi h (b0 + 65) (Int32.toNatClampNeg 1) 0) (b0 + 41) (Int32.toNatClampNeg x1))) (b0 + 42) (Int32.toNatClampNeg x1))) (b0 + 44) (Int32.toNatClampNeg x1)) - (ea_i (ea_wi (ea_wi (ea_wi h (b0 + 65) (Int32.toNatClampNeg 1) 0) (b0 + 65) (Int32.toNatClampNeg 2) (ea_i (ea_wi h (b0 + 65) (Int32.toNatClampNeg 1) 0) (b0 + 41) (Int32.toNatClampNeg x1))) (b0 + 65) (Int32.toNatClampNeg 3) (ea_i (ea_wi (ea_wi h (b0 + 65) (Int32.toNatClampNeg 1) 0) (b0 + 65) (Int32.toNatClampNeg 2) (ea_i (ea_wi h (b0 + 65) (Int32.toNatClampNeg 1) 0) (b0 + 41) (Int32.toNatClampNeg x1))) (b0 + 42) (Int32.toNatClampNeg x1))) (b0 + 44) (Int32.toNatClampNeg x1)) / (1440 : Int32) * (1440 : Int32)) / (60 : Int32))) (b0 + 44) (Int32.toNatClampNeg x1)) / (1440 : Int32))) (b0 + 65) (Int32.toNatClampNeg 6) (ea_i (ea_wi (ea_wi (ea_wi (ea_wi (ea_wi h (b0 + 65) (Int32.toNatClampNeg 1) 0) (b0 + 65) (Int32.toNatClampNeg 2) (ea_i (ea_wi h (b0 + 65) (Int32.toNatClampNeg 1) 0) (b0 + 41) (Int32.toNatClampNeg x1))) (b0 + 65) (Int32.toNatClampNeg 3) (ea_i (ea_wi (ea_wi h (b0 + 65) (Int32.toNatClampNeg 1) 0) (b0 + 65) (Int32.toNatClampNeg 2) (ea_i (ea_wi h (b0 + 65) (Int32.toNatClampNeg 1) 0) (b0 + 41) (Int32.toNatClampNeg x1))) (b0 + 42) (Int32.toNatClampNeg x1))) (b0 + 65) (Int32.toNatClampNeg 4) (((ea_i (ea_wi (ea_wi (ea_wi h (b0 + 65) (Int32.toNatClampNeg 1) 0) (b0 + 65) (Int32.toNatClampNeg 2) (ea_i (ea_wi h (b0 + 65) (Int32.toNatClampNeg 1) 0) (b0 + 41) (Int32.toNatClampNeg x1))) (b0 + 65) (Int32.toNatClampNeg 3) (ea_i (ea_wi (ea_wi h (b0 + 65) (Int32.toNatClampNeg 1) 0) (b0 + 65) (Int32.toNatClampNeg 2) (ea_i (ea_wi h (b0 + 65) (Int32.toNatClampNeg 1) 0) (b0 + 41) (Int32.toNatClampNeg x1))) (b0 + 42) (Int32.toNatClampNeg x1))) (b0 + 44) (Int32.toNatClampNeg x1)) - (ea_i (ea_wi (ea_wi (ea_wi h (b0 + 65) (Int32.toNatClampNeg 1) 0) (b0 + 65) (Int32.toNatClampNeg 2) (ea_i (ea_wi h (b0 + 65) (Int32.toNatClampNeg 1) 0) (b0 + 41) (Int32.toNatClampNeg x1))) (b0 + 65) (Int32.toNatClampNeg 3) (ea_i (ea_wi (ea_wi h (b0 + 65) (Int32.toNatClampNeg 1) 0) (b0 + 65) (Int32.toNatClampNeg 2) (ea_i (ea_wi h (b0 + 65) (Int32.toNatClampNeg 1) 0) (b0 + 41) (Int32.toNatClampNeg x1))) (b0 + 42) (Int32.toNatClampNeg x1))) (b0 + 44) (Int32.toNatClampNeg x1)) / (1440 : Int32) * (1440 : Int32)) / (60 : Int32))) (b0 + 65) (Int32.toNatClampNeg 5) ((ea_i (ea_wi (ea_wi (ea_wi (ea_wi h (b0 + 65) (Int32.toNatClampNeg 1) 0) (b0 + 65) (Int32.toNatClampNeg 2) (ea_i (ea_wi h (b0 + 65) (Int32.toNatClampNeg 1) 0) (b0 + 41) (Int32.toNatClampNeg x1))) (b0 + 65) (Int32.toNatClampNeg 3) (ea_i (ea_wi (ea_wi h (b0 + 65) (Int32.toNatClampNeg 1) 0) (b0 + 65) (Int32.toNatClampNeg 2) (ea_i (ea_wi h (b0 + 65) (Int32.toNatClampNeg 1) 0) (b0 + 41) (Int32.toNatClampNeg x1))) (b0 + 42) (Int32.toNatClampNeg x1))) (b0 + 65) (Int32.toNatClampNeg 4) (((ea_i (ea_wi (ea_wi (ea_wi h (b0 + 65) (Int32.toNatClampNeg 1) 0) (b0 + 65) (Int32.toNatClampNeg 2) (ea_i (ea_wi h (b0 + 65) (Int32.toNatClampNeg 1) 0) (b0 + 41) (Int32.toNatClampNeg x1))) (b0 + 65) (Int32.toNatClampNeg 3) (ea_i (ea_wi (ea_wi h (b0 + 65) (Int32.toNatClampNeg 1) 0) (b0 + 65) (Int32.toNatClampNeg 2) (ea_i (ea_wi h (b0 + 65) (Int32.toNatClampNeg 1) 0) (b0 + 41) (Int32.toNatClampNeg x1))) (b0 + 42) (Int32.toNatClampNeg x1))) (b0 + 44) (Int32.toNatClampNeg x1)) - (ea_i (ea_wi (ea_wi (ea_wi h (b0 + 65) (Int32.toNatClampNeg 1) 0) (b0 + 65) (Int32.toNatClampNeg 2) (ea_i (ea_wi h (b0 + 65) (Int32.toNatClampNeg 1) 0) (b0 + 41) (Int32.toNatClampNeg x1))) (b0 + 65) (Int32.toNatClampNeg 3) (ea_i (ea_wi (ea_wi h (b0 + 65) (Int32.toNatClampNeg 1) 0) (b0 + 65) (Int32.toNatClampNeg 2) (ea_i (ea_wi h (b0 + 65) (Int32.toNatClampNeg 1) 0) (b0 + 41) (Int32.toNatClampNeg x1))) (b0 + 42) (Int32.toNatClampNeg x1))) (b0 + 44) (Int32.toNatClampNeg x1)) / (1440 : Int32) * (1440 : Int32)) / (60 : Int32))) (b0 + 44) (Int32.toNatClampNeg x1)) / (1440 : Int32))) (b0 + 38) (Int32.toNatClampNeg x1))) := ShM_wi hs39
    refine ea_aload_n (pc := 100) dX12_gathers_100 rfl 0 rfl ?_
    refine ea_getR (pc := 101) dX12_gathers_101 ec_12 (k := 91) (Nat.le_of_ble_eq_true rfl) rfl (Or.inl ew_1436) (hs42.1 0 (by decide)).1 (hs42.1 0 (by decide)).2.1 (hs42.2 0 91 rfl) ?_
    refine ea_bipush (pc := 104) dX12_gathers_104 (v := 7) rfl ?_
    refine ea_aload_n (pc := 106) dX12_gathers_106 rfl 0 rfl ?_
    refine ea_getR (pc := 107) dX12_gathers_107 ec_12 (k := 78) (Nat.le_of_ble_eq_true rfl) rfl (Or.inl ew_1423) (hs42.1 0 (by decide)).1 (hs42.1 0 (by decide)).2.1 (hs42.2 0 78 rfl) ?_
    refine ea_iload_n (pc := 110) dX12_gathers_110 rfl 1 rfl ?_
    obtain ⟨z43, K⟩ := K
    refine ea_zald (pc := 111) dX12_gathers_111 (hs42.1 52 (by decide)).1 (hs42.1 52 (by decide)).2.1 (ea_vpl (hs42.1 52 (by decide)).2.2 z43) ?_
    refine ea_if_eq (pc := 112) (tgt := 119) dX12_gathers_112 rfl (fun c48 => ?_) (fun c48 => ?_)
    · have EY := EY.trans (if_pos c48)
      have K := K.1 c48
      refine ea_iconst (pc := 119) dX12_gathers_119 (v := 0) rfl ?_
      have z44 := K
      refine ea_iast (pc := 120) dX12_gathers_120 (hs42.1 65 (by decide)).1 (hs42.1 65 (by decide)).2.1 (ea_vpl (hs42.1 65 (by decide)).2.2 z44) ?_
      have hs45 : ShM b0 (ea_wi (ea_wi (ea_wi (ea_wi (ea_wi (ea_wi (ea_wi h (b0 + 65) (Int32.toNatClampNeg 1) 0) (b0 + 65) (Int32.toNatClampNeg 2) (ea_i (ea_wi h (b0 + 65) (Int32.toNatClampNeg 1) 0) (b0 + 41) (Int32.toNatClampNeg x1))) (b0 + 65) (Int32.toNatClampNeg 3) (ea_i (ea_wi (ea_wi h (b0 + 65) (Int32.toNatClampNeg 1) 0) (b0 + 65) (Int32.toNatClampNeg 2) (ea_i (ea_wi h (b0 + 65) (Int32.toNatClampNeg 1) 0) (b0 + 41) (Int32.toNatClampNeg x1))) (b0 + 42) (Int32.toNatClampNeg x1))) (b0 + 65) (Int32.toNatClampNeg 4) (((ea_i (ea_wi (ea_wi (ea_wi h (b0 + 65) (Int32.toNatClampNeg 1) 0) (b0 + 65) (Int32.toNatClampNeg 2) (ea_i (ea_wi h (b0 + 65) (Int32.toNatClampNeg 1) 0) (b0 + 41) (Int32.toNatClampNeg x1))) (b0 + 65) (Int32.toNatClampNeg 3) (ea_i (ea_wi (ea_wi h (b0 + 65) (Int32.toNatClampNeg 1) 0) (b0 + 65) (Int32.toNatClampNeg 2) (ea_i (ea_wi h (b0 + 65) (Int32.toNatClampNeg 1) 0) (b0 + 41) (Int32.toNatClampNeg x1))) (b0 + 42) (Int32.toNatClampNeg x1))) (b0 + 44) (Int32.toNatClampNeg x1)) - (ea_i (ea_wi (ea_wi (ea_wi h (b0 + 65) (Int32.toNatClampNeg 1) 0) (b0 + 65) (Int32.toNatClampNeg 2) (ea_i (ea_wi h (b0 + 65) (Int32.toNatClampNeg 1) 0) (b0 + 41) (Int32.toNatClampNeg x1))) (b0 + 65) (Int32.toNatClampNeg 3) (ea_i (ea_wi (ea_wi h (b0 + 65) (Int32.toNatClampNeg 1) 0) (b0 + 65) (Int32.toNatClampNeg 2) (ea_i (ea_wi h (b0 + 65) (Int32.toNatClampNeg 1) 0) (b0 + 41) (Int32.toNatClampNeg x1))) (b0 + 42) (Int32.toNatClampNeg x1))) (b0 + 44) (Int32.toNatClampNeg x1)) / (1440 : Int32) * (1440 : Int32)) / (60 : Int32))) (b0 + 65) (Int32.toNatClampNeg 5) ((ea_i (ea_wi (ea_wi (ea_wi (ea_wi h (b0 + 65) (Int32.toNatClampNeg 1) 0) (b0 + 65) (Int32.toNatClampNeg 2) (ea_i (ea_wi h (b0 + 65) (Int32.toNatClampNeg 1) 0) (b0 + 41) (Int32.toNatClampNeg x1))) (b0 + 65) (Int32.toNatClampNeg 3) (ea_i (ea_wi (ea_wi h (b0 + 65) (Int32.toNatClampNeg 1) 0) (b0 + 65) (Int32.toNatClampNeg 2) (ea_i (ea_wi h (b0 + 65) (Int32.toNatClampNeg 1) 0) (b0 + 41) (Int32.toNatClampNeg x1))) (b0 + 42) (Int32.toNatClampNeg x1))) (b0 + 65) (Int32.toNatClampNeg 4) (((ea_i (ea_wi (ea_wi (ea_wi h (b0 + 65) (Int32.toNatClampNeg 1) 0) (b0 + 65) (Int32.toNatClampNeg 2) (ea_i (ea_wi h (b0 + 65) (Int32.toNatClampNeg 1) 0) (b0 + 41) (Int32.toNatClampNeg x1))) (b0 + 65) (Int32.toNatClampNeg 3) (ea_i (ea_wi (ea_wi h (b0 + 65) (Int32.toNatClampNeg 1) 0) (b0 + 65) (Int32.toNatClampNeg 2) (ea_i (ea_wi h (b0 + 65) (Int32.toNatClampNeg 1) 0) (b0 + 41) (Int32.toNatClampNeg x1))) (b0 + 42) (Int32.toNatClampNeg x1))) (b0 + 44) (Int32.toNatClampNeg x1)) - (ea_i (ea_wi (ea_wi (ea_wi h (b0 + 65) (Int32.toNatClampNeg 1) 0) (b0 + 65) (Int32.toNatClampNeg 2) (ea_i (ea_wi h (b0 + 65) (Int32.toNatClampNeg 1) 0) (b0 + 41) (Int32.toNatClampNeg x1))) (b0 + 65) (Int32.toNatClampNeg 3) (ea_i (ea_wi (ea_wi h (b0 + 65) (Int32.toNatClampNeg 1) 0) (b0 + 65) (Int32.toNatClampNeg 2) (ea_i (ea_wi h (b0 + 65) (Int32.toNatClampNeg 1) 0) (b0 + 41) (Int32.toNatClampNeg x1))) (b0 + 42) (Int32.toNatClampNeg x1))) (b0 + 44) (Int32.toNatClampNeg x1)) / (1440 : Int32) * (1440 : Int32)) / (60 : Int32))) (b0 + 44) (Int32.toNatClampNeg x1)) / (1440 : Int32))) (b0 + 65) (Int32.toNatClampNeg 6) (ea_i (ea_wi (ea_wi (ea_wi (ea_wi (ea_wi h (b0 + 65) (Int32.toNatClampNeg 1) 0) (b0 + 65) (Int32.toNatClampNeg 2) (ea_i (ea_wi h (b0 + 65) (Int32.toNatClampNeg 1) 0) (b0 + 41) (Int32.toNatClampNeg x1))) (b0 + 65) (Int32.toNatClampNeg 3) (ea_i (ea_wi (ea_wi h (b0 + 65) (Int32.toNatClampNeg 1) 0) (b0 + 65) (Int32.toNatClampNeg 2) (ea_i (ea_wi h (b0 + 65) (Int32.toNatClampNeg 1) 0) (b0 + 41) (Int32.toNatClampNeg x1))) (b0 + 42) (Int32.toNatClampNeg x1))) (b0 + 65) (Int32.toNatClampNeg 4) (((ea_i (ea_wi (ea_wi (ea_wi h (b0 + 65) (Int32.toNatClampNeg 1) 0) (b0 + 65) (Int32.toNatClampNeg 2) (ea_i (ea_wi h (b0 + 65) (Int32.toNatClampNeg 1) 0) (b0 + 41) (Int32.toNatClampNeg x1))) (b0 + 65) (Int32.toNatClampNeg 3) (ea_i (ea_wi (ea_wi h (b0 + 65) (Int32.toNatClampNeg 1) 0) (b0 + 65) (Int32.toNatClampNeg 2) (ea_i (ea_wi h (b0 + 65) (Int32.toNatClampNeg 1) 0) (b0 + 41) (Int32.toNatClampNeg x1))) (b0 + 42) (Int32.toNatClampNeg x1))) (b0 + 44) (Int32.toNatClampNeg x1)) - (ea_i (ea_wi (ea_wi (ea_wi h (b0 + 65) (Int32.toNatClampNeg 1) 0) (b0 + 65) (Int32.toNatClampNeg 2) (ea_i (ea_wi h (b0 + 65) (Int32.toNatClampNeg 1) 0) (b0 + 41) (Int32.toNatClampNeg x1))) (b0 + 65) (Int32.toNatClampNeg 3) (ea_i (ea_wi (ea_wi h (b0 + 65) (Int32.toNatClampNeg 1) 0) (b0 + 65) (Int32.toNatClampNeg 2) (ea_i (ea_wi h (b0 + 65) (Int32.toNatClampNeg 1) 0) (b0 + 41) (Int32.toNatClampNeg x1))) (b0 + 42) (Int32.toNatClampNeg x1))) (b0 + 44) (Int32.toNatClampNeg x1)) / (1440 : Int32) * (1440 : Int32)) / (60 : Int32))) (b0 + 65) (Int32.toNatClampNeg 5) ((ea_i (ea_wi (ea_wi (ea_wi (ea_wi h (b0 + 65) (Int32.toNatClampNeg 1) 0) (b0 + 65) (Int32.toNatClampNeg 2) (ea_i (ea_wi h (b0 + 65) (Int32.toNatClampNeg 1) 0) (b0 + 41) (Int32.toNatClampNeg x1))) (b0 + 65) (Int32.toNatClampNeg 3) (ea_i (ea_wi (ea_wi h (b0 + 65) (Int32.toNatClampNeg 1) 0) (b0 + 65) (Int32.toNatClampNeg 2) (ea_i (ea_wi h (b0 + 65) (Int32.toNatClampNeg 1) 0) (b0 + 41) (Int32.toNatClampNeg x1))) (b0 + 42) (Int32.toNatClampNeg x1))) (b0 + 65) (Int32.toNatClampNeg 4) (((ea_i (ea_wi (ea_wi (ea_wi h (b0 + 65) (Int32.toNatClampNeg 1) 0) (b0 + 65) (Int32.toNatClampNeg 2) (ea_i (ea_wi h (b0 + 65) (Int32.toNatClampNeg 1) 0) (b0 + 41) (Int32.toNatClampNeg x1))) (b0 + 65) (Int32.toNatClampNeg 3) (ea_i (ea_wi (ea_wi h (b0 + 65) (Int32.toNatClampNeg 1) 0) (b0 + 65) (Int32.toNatClampNeg 2) (ea_i (ea_wi h (b0 + 65) (Int32.toNatClampNeg 1) 0) (b0 + 41) (Int32.toNatClampNeg x1))) (b0 + 42) (Int32.toNatClampNeg x1))) (b0 + 44) (Int32.toNatClampNeg x1)) - (ea_i (ea_wi (ea_wi (ea_wi h (b0 + 65) (Int32.toNatClampNeg 1) 0) (b0 + 65) (Int32.toNatClampNeg 2) (ea_i (ea_wi h (b0 + 65) (Int32.toNatClampNeg 1) 0) (b0 + 41) (Int32.toNatClampNeg x1))) (b0 + 65) (Int32.toNatClampNeg 3) (ea_i (ea_wi (ea_wi h (b0 + 65) (Int32.toNatClampNeg 1) 0) (b0 + 65) (Int32.toNatClampNeg 2) (ea_i (ea_wi h (b0 + 65) (Int32.toNatClampNeg 1) 0) (b0 + 41) (Int32.toNatClampNeg x1))) (b0 + 42) (Int32.toNatClampNeg x1))) (b0 + 44) (Int32.toNatClampNeg x1)) / (1440 : Int32) * (1440 : Int32)) / (60 : Int32))) (b0 + 44) (Int32.toNatClampNeg x1)) / (1440 : Int32))) (b0 + 38) (Int32.toNatClampNeg x1))) (b0 + 65) (Int32.toNatClampNeg 7) 0) := ShM_wi hs42
      exact ea_vretE (pc := 121) dX12_gathers_121 rfl EY
    · have EY := EY.trans (if_neg c48)
      have K := K.2 c48
      refine ea_iconst (pc := 115) dX12_gathers_115 (v := 1) rfl ?_
      refine ea_goto (pc := 116) (tgt := 120) dX12_gathers_116 rfl ?_
      have z46 := K
      refine ea_iast (pc := 120) dX12_gathers_120 (hs42.1 65 (by decide)).1 (hs42.1 65 (by decide)).2.1 (ea_vpl (hs42.1 65 (by decide)).2.2 z46) ?_
      have hs47 : ShM b0 (ea_wi (ea_wi (ea_wi (ea_wi (ea_wi (ea_wi (ea_wi h (b0 + 65) (Int32.toNatClampNeg 1) 0) (b0 + 65) (Int32.toNatClampNeg 2) (ea_i (ea_wi h (b0 + 65) (Int32.toNatClampNeg 1) 0) (b0 + 41) (Int32.toNatClampNeg x1))) (b0 + 65) (Int32.toNatClampNeg 3) (ea_i (ea_wi (ea_wi h (b0 + 65) (Int32.toNatClampNeg 1) 0) (b0 + 65) (Int32.toNatClampNeg 2) (ea_i (ea_wi h (b0 + 65) (Int32.toNatClampNeg 1) 0) (b0 + 41) (Int32.toNatClampNeg x1))) (b0 + 42) (Int32.toNatClampNeg x1))) (b0 + 65) (Int32.toNatClampNeg 4) (((ea_i (ea_wi (ea_wi (ea_wi h (b0 + 65) (Int32.toNatClampNeg 1) 0) (b0 + 65) (Int32.toNatClampNeg 2) (ea_i (ea_wi h (b0 + 65) (Int32.toNatClampNeg 1) 0) (b0 + 41) (Int32.toNatClampNeg x1))) (b0 + 65) (Int32.toNatClampNeg 3) (ea_i (ea_wi (ea_wi h (b0 + 65) (Int32.toNatClampNeg 1) 0) (b0 + 65) (Int32.toNatClampNeg 2) (ea_i (ea_wi h (b0 + 65) (Int32.toNatClampNeg 1) 0) (b0 + 41) (Int32.toNatClampNeg x1))) (b0 + 42) (Int32.toNatClampNeg x1))) (b0 + 44) (Int32.toNatClampNeg x1)) - (ea_i (ea_wi (ea_wi (ea_wi h (b0 + 65) (Int32.toNatClampNeg 1) 0) (b0 + 65) (Int32.toNatClampNeg 2) (ea_i (ea_wi h (b0 + 65) (Int32.toNatClampNeg 1) 0) (b0 + 41) (Int32.toNatClampNeg x1))) (b0 + 65) (Int32.toNatClampNeg 3) (ea_i (ea_wi (ea_wi h (b0 + 65) (Int32.toNatClampNeg 1) 0) (b0 + 65) (Int32.toNatClampNeg 2) (ea_i (ea_wi h (b0 + 65) (Int32.toNatClampNeg 1) 0) (b0 + 41) (Int32.toNatClampNeg x1))) (b0 + 42) (Int32.toNatClampNeg x1))) (b0 + 44) (Int32.toNatClampNeg x1)) / (1440 : Int32) * (1440 : Int32)) / (60 : Int32))) (b0 + 65) (Int32.toNatClampNeg 5) ((ea_i (ea_wi (ea_wi (ea_wi (ea_wi h (b0 + 65) (Int32.toNatClampNeg 1) 0) (b0 + 65) (Int32.toNatClampNeg 2) (ea_i (ea_wi h (b0 + 65) (Int32.toNatClampNeg 1) 0) (b0 + 41) (Int32.toNatClampNeg x1))) (b0 + 65) (Int32.toNatClampNeg 3) (ea_i (ea_wi (ea_wi h (b0 + 65) (Int32.toNatClampNeg 1) 0) (b0 + 65) (Int32.toNatClampNeg 2) (ea_i (ea_wi h (b0 + 65) (Int32.toNatClampNeg 1) 0) (b0 + 41) (Int32.toNatClampNeg x1))) (b0 + 42) (Int32.toNatClampNeg x1))) (b0 + 65) (Int32.toNatClampNeg 4) (((ea_i (ea_wi (ea_wi (ea_wi h (b0 + 65) (Int32.toNatClampNeg 1) 0) (b0 + 65) (Int32.toNatClampNeg 2) (ea_i (ea_wi h (b0 + 65) (Int32.toNatClampNeg 1) 0) (b0 + 41) (Int32.toNatClampNeg x1))) (b0 + 65) (Int32.toNatClampNeg 3) (ea_i (ea_wi (ea_wi h (b0 + 65) (Int32.toNatClampNeg 1) 0) (b0 + 65) (Int32.toNatClampNeg 2) (ea_i (ea_wi h (b0 + 65) (Int32.toNatClampNeg 1) 0) (b0 + 41) (Int32.toNatClampNeg x1))) (b0 + 42) (Int32.toNatClampNeg x1))) (b0 + 44) (Int32.toNatClampNeg x1)) - (ea_i (ea_wi (ea_wi (ea_wi h (b0 + 65) (Int32.toNatClampNeg 1) 0) (b0 + 65) (Int32.toNatClampNeg 2) (ea_i (ea_wi h (b0 + 65) (Int32.toNatClampNeg 1) 0) (b0 + 41) (Int32.toNatClampNeg x1))) (b0 + 65) (Int32.toNatClampNeg 3) (ea_i (ea_wi (ea_wi h (b0 + 65) (Int32.toNatClampNeg 1) 0) (b0 + 65) (Int32.toNatClampNeg 2) (ea_i (ea_wi h (b0 + 65) (Int32.toNatClampNeg 1) 0) (b0 + 41) (Int32.toNatClampNeg x1))) (b0 + 42) (Int32.toNatClampNeg x1))) (b0 + 44) (Int32.toNatClampNeg x1)) / (1440 : Int32) * (1440 : Int32)) / (60 : Int32))) (b0 + 44) (Int32.toNatClampNeg x1)) / (1440 : Int32))) (b0 + 65) (Int32.toNatClampNeg 6) (ea_i (ea_wi (ea_wi (ea_wi (ea_wi (ea_wi h (b0 + 65) (Int32.toNatClampNeg 1) 0) (b0 + 65) (Int32.toNatClampNeg 2) (ea_i (ea_wi h (b0 + 65) (Int32.toNatClampNeg 1) 0) (b0 + 41) (Int32.toNatClampNeg x1))) (b0 + 65) (Int32.toNatClampNeg 3) (ea_i (ea_wi (ea_wi h (b0 + 65) (Int32.toNatClampNeg 1) 0) (b0 + 65) (Int32.toNatClampNeg 2) (ea_i (ea_wi h (b0 + 65) (Int32.toNatClampNeg 1) 0) (b0 + 41) (Int32.toNatClampNeg x1))) (b0 + 42) (Int32.toNatClampNeg x1))) (b0 + 65) (Int32.toNatClampNeg 4) (((ea_i (ea_wi (ea_wi (ea_wi h (b0 + 65) (Int32.toNatClampNeg 1) 0) (b0 + 65) (Int32.toNatClampNeg 2) (ea_i (ea_wi h (b0 + 65) (Int32.toNatClampNeg 1) 0) (b0 + 41) (Int32.toNatClampNeg x1))) (b0 + 65) (Int32.toNatClampNeg 3) (ea_i (ea_wi (ea_wi h (b0 + 65) (Int32.toNatClampNeg 1) 0) (b0 + 65) (Int32.toNatClampNeg 2) (ea_i (ea_wi h (b0 + 65) (Int32.toNatClampNeg 1) 0) (b0 + 41) (Int32.toNatClampNeg x1))) (b0 + 42) (Int32.toNatClampNeg x1))) (b0 + 44) (Int32.toNatClampNeg x1)) - (ea_i (ea_wi (ea_wi (ea_wi h (b0 + 65) (Int32.toNatClampNeg 1) 0) (b0 + 65) (Int32.toNatClampNeg 2) (ea_i (ea_wi h (b0 + 65) (Int32.toNatClampNeg 1) 0) (b0 + 41) (Int32.toNatClampNeg x1))) (b0 + 65) (Int32.toNatClampNeg 3) (ea_i (ea_wi (ea_wi h (b0 + 65) (Int32.toNatClampNeg 1) 0) (b0 + 65) (Int32.toNatClampNeg 2) (ea_i (ea_wi h (b0 + 65) (Int32.toNatClampNeg 1) 0) (b0 + 41) (Int32.toNatClampNeg x1))) (b0 + 42) (Int32.toNatClampNeg x1))) (b0 + 44) (Int32.toNatClampNeg x1)) / (1440 : Int32) * (1440 : Int32)) / (60 : Int32))) (b0 + 65) (Int32.toNatClampNeg 5) ((ea_i (ea_wi (ea_wi (ea_wi (ea_wi h (b0 + 65) (Int32.toNatClampNeg 1) 0) (b0 + 65) (Int32.toNatClampNeg 2) (ea_i (ea_wi h (b0 + 65) (Int32.toNatClampNeg 1) 0) (b0 + 41) (Int32.toNatClampNeg x1))) (b0 + 65) (Int32.toNatClampNeg 3) (ea_i (ea_wi (ea_wi h (b0 + 65) (Int32.toNatClampNeg 1) 0) (b0 + 65) (Int32.toNatClampNeg 2) (ea_i (ea_wi h (b0 + 65) (Int32.toNatClampNeg 1) 0) (b0 + 41) (Int32.toNatClampNeg x1))) (b0 + 42) (Int32.toNatClampNeg x1))) (b0 + 65) (Int32.toNatClampNeg 4) (((ea_i (ea_wi (ea_wi (ea_wi h (b0 + 65) (Int32.toNatClampNeg 1) 0) (b0 + 65) (Int32.toNatClampNeg 2) (ea_i (ea_wi h (b0 + 65) (Int32.toNatClampNeg 1) 0) (b0 + 41) (Int32.toNatClampNeg x1))) (b0 + 65) (Int32.toNatClampNeg 3) (ea_i (ea_wi (ea_wi h (b0 + 65) (Int32.toNatClampNeg 1) 0) (b0 + 65) (Int32.toNatClampNeg 2) (ea_i (ea_wi h (b0 + 65) (Int32.toNatClampNeg 1) 0) (b0 + 41) (Int32.toNatClampNeg x1))) (b0 + 42) (Int32.toNatClampNeg x1))) (b0 + 44) (Int32.toNatClampNeg x1)) - (ea_i (ea_wi (ea_wi (ea_wi h (b0 + 65) (Int32.toNatClampNeg 1) 0) (b0 + 65) (Int32.toNatClampNeg 2) (ea_i (ea_wi h (b0 + 65) (Int32.toNatClampNeg 1) 0) (b0 + 41) (Int32.toNatClampNeg x1))) (b0 + 65) (Int32.toNatClampNeg 3) (ea_i (ea_wi (ea_wi h (b0 + 65) (Int32.toNatClampNeg 1) 0) (b0 + 65) (Int32.toNatClampNeg 2) (ea_i (ea_wi h (b0 + 65) (Int32.toNatClampNeg 1) 0) (b0 + 41) (Int32.toNatClampNeg x1))) (b0 + 42) (Int32.toNatClampNeg x1))) (b0 + 44) (Int32.toNatClampNeg x1)) / (1440 : Int32) * (1440 : Int32)) / (60 : Int32))) (b0 + 44) (Int32.toNatClampNeg x1)) / (1440 : Int32))) (b0 + 38) (Int32.toNatClampNeg x1))) (b0 + 65) (Int32.toNatClampNeg 7) 1) := ShM_wi hs42
      exact ea_vretE (pc := 121) dX12_gathers_121 rfl EY
noncomputable def vX12_both (x0 : Int32) (x1 : Int32) (x2 : Int32) (h : ea_H) : Int32 := (if Int32.toInt x0 = 8 then (x1 + x2) else (if Int32.toInt x0 = 9 then (x1 - x2) else (if Int32.toInt x0 = 10 then (x1 * x2) else (if Int32.toInt x0 = 11 then (x1 ||| x2) else (if Int32.toInt x0 = 12 then (if x2 ≤ x1 then (0 : Int32) else (1 : Int32)) else (if Int32.toInt x0 = 13 then (if x1 = x2 then (1 : Int32) else (0 : Int32)) else (if Int32.toInt x0 = 14 then (if x1 ≤ x2 then (0 : Int32) else (1 : Int32)) else (if Int32.toInt x0 = 15 then (x1 ||| x2) else (if Int32.toInt x0 = 16 then (x1 &&& x2) else (x1 ||| x2))))))))))
theorem sX12_both {d : Nat} {x0 : Int32} {x1 : Int32} {x2 : Int32} {h : ea_H} (hd : 1 ≤ d) : ea_Met mX12_both d [vI x0, vI x1, vI x2] h (some (vI (vX12_both x0 x1 x2 h))) h := by
  obtain ⟨X, EX⟩ : ∃ z, z = vX12_both x0 x1 x2 h := ⟨_, rfl⟩
  rw [← EX]
  unfold vX12_both at EX
  refine ea_enter rfl (Nat.le_of_ble_eq_true rfl) ?_
  refine ea_iload_n (pc := 0) dX12_both_0 rfl 0 rfl ?_
  by_cases qc1_0 : Int32.toInt x0 = 8
  · have EX := EX.trans (if_pos qc1_0)
    refine ea_tswIn (pc := 1) (tgt := 52) dX12_both_1 (by rw [qc1_0]; decide) (by rw [qc1_0]; decide) (by rw [qc1_0]; rfl) rfl ?_
    refine ea_iload_n (pc := 52) dX12_both_52 rfl 1 rfl ?_
    refine ea_iload_n (pc := 53) dX12_both_53 rfl 2 rfl ?_
    refine ea_iadd (pc := 54) dX12_both_54 ?_
    exact ea_iretE (pc := 55) dX12_both_55 rfl rfl EX rfl
  have EX := EX.trans (if_neg qc1_0)
  by_cases qc1_1 : Int32.toInt x0 = 9
  · have EX := EX.trans (if_pos qc1_1)
    refine ea_tswIn (pc := 1) (tgt := 56) dX12_both_1 (by rw [qc1_1]; decide) (by rw [qc1_1]; decide) (by rw [qc1_1]; rfl) rfl ?_
    refine ea_iload_n (pc := 56) dX12_both_56 rfl 1 rfl ?_
    refine ea_iload_n (pc := 57) dX12_both_57 rfl 2 rfl ?_
    refine ea_isub (pc := 58) dX12_both_58 ?_
    exact ea_iretE (pc := 59) dX12_both_59 rfl rfl EX rfl
  have EX := EX.trans (if_neg qc1_1)
  by_cases qc1_2 : Int32.toInt x0 = 10
  · have EX := EX.trans (if_pos qc1_2)
    refine ea_tswIn (pc := 1) (tgt := 60) dX12_both_1 (by rw [qc1_2]; decide) (by rw [qc1_2]; decide) (by rw [qc1_2]; rfl) rfl ?_
    refine ea_iload_n (pc := 60) dX12_both_60 rfl 1 rfl ?_
    refine ea_iload_n (pc := 61) dX12_both_61 rfl 2 rfl ?_
    refine ea_imul (pc := 62) dX12_both_62 ?_
    exact ea_iretE (pc := 63) dX12_both_63 rfl rfl EX rfl
  have EX := EX.trans (if_neg qc1_2)
  by_cases qc1_3 : Int32.toInt x0 = 11
  · have EX := EX.trans (if_pos qc1_3)
    refine ea_tswIn (pc := 1) (tgt := 101) dX12_both_1 (by rw [qc1_3]; decide) (by rw [qc1_3]; decide) (by rw [qc1_3]; rfl) rfl ?_
    refine ea_iload_n (pc := 101) dX12_both_101 rfl 1 rfl ?_
    refine ea_iload_n (pc := 102) dX12_both_102 rfl 2 rfl ?_
    refine ea_ior (pc := 103) dX12_both_103 ?_
    exact ea_iretE (pc := 104) dX12_both_104 rfl rfl EX rfl
  have EX := EX.trans (if_neg qc1_3)
  by_cases qc1_4 : Int32.toInt x0 = 12
  · have EX := EX.trans (if_pos qc1_4)
    refine ea_tswIn (pc := 1) (tgt := 64) dX12_both_1 (by rw [qc1_4]; decide) (by rw [qc1_4]; decide) (by rw [qc1_4]; rfl) rfl ?_
    refine ea_iload_n (pc := 64) dX12_both_64 rfl 1 rfl ?_
    refine ea_iload_n (pc := 65) dX12_both_65 rfl 2 rfl ?_
    refine ea_icmp_ge (pc := 66) (tgt := 73) dX12_both_66 rfl (fun c1 => ?_) (fun c1 => ?_)
    · have EX := EX.trans (if_pos c1)
      refine ea_iconst (pc := 73) dX12_both_73 (v := 0) rfl ?_
      exact ea_iretE (pc := 74) dX12_both_74 rfl rfl EX rfl
    · have EX := EX.trans (if_neg c1)
      refine ea_iconst (pc := 69) dX12_both_69 (v := 1) rfl ?_
      refine ea_goto (pc := 70) (tgt := 74) dX12_both_70 rfl ?_
      exact ea_iretE (pc := 74) dX12_both_74 rfl rfl EX rfl
  have EX := EX.trans (if_neg qc1_4)
  by_cases qc1_5 : Int32.toInt x0 = 13
  · have EX := EX.trans (if_pos qc1_5)
    refine ea_tswIn (pc := 1) (tgt := 75) dX12_both_1 (by rw [qc1_5]; decide) (by rw [qc1_5]; decide) (by rw [qc1_5]; rfl) rfl ?_
    refine ea_iload_n (pc := 75) dX12_both_75 rfl 1 rfl ?_
    refine ea_iload_n (pc := 76) dX12_both_76 rfl 2 rfl ?_
    refine ea_icmp_ne (pc := 77) (tgt := 84) dX12_both_77 rfl (fun c2 => ?_) (fun c2 => ?_)
    · have EX := EX.trans (if_neg c2)
      refine ea_iconst (pc := 84) dX12_both_84 (v := 0) rfl ?_
      exact ea_iretE (pc := 85) dX12_both_85 rfl rfl EX rfl
    · have EX := EX.trans (if_pos c2)
      refine ea_iconst (pc := 80) dX12_both_80 (v := 1) rfl ?_
      refine ea_goto (pc := 81) (tgt := 85) dX12_both_81 rfl ?_
      exact ea_iretE (pc := 85) dX12_both_85 rfl rfl EX rfl
  have EX := EX.trans (if_neg qc1_5)
  by_cases qc1_6 : Int32.toInt x0 = 14
  · have EX := EX.trans (if_pos qc1_6)
    refine ea_tswIn (pc := 1) (tgt := 86) dX12_both_1 (by rw [qc1_6]; decide) (by rw [qc1_6]; decide) (by rw [qc1_6]; rfl) rfl ?_
    refine ea_iload_n (pc := 86) dX12_both_86 rfl 1 rfl ?_
    refine ea_iload_n (pc := 87) dX12_both_87 rfl 2 rfl ?_
    refine ea_icmp_le (pc := 88) (tgt := 95) dX12_both_88 rfl (fun c3 => ?_) (fun c3 => ?_)
    · have EX := EX.trans (if_pos c3)
      refine ea_iconst (pc := 95) dX12_both_95 (v := 0) rfl ?_
      exact ea_iretE (pc := 96) dX12_both_96 rfl rfl EX rfl
    · have EX := EX.trans (if_neg c3)
      refine ea_iconst (pc := 91) dX12_both_91 (v := 1) rfl ?_
      refine ea_goto (pc := 92) (tgt := 96) dX12_both_92 rfl ?_
      exact ea_iretE (pc := 96) dX12_both_96 rfl rfl EX rfl
  have EX := EX.trans (if_neg qc1_6)
  by_cases qc1_7 : Int32.toInt x0 = 15
  · have EX := EX.trans (if_pos qc1_7)
    refine ea_tswIn (pc := 1) (tgt := 101) dX12_both_1 (by rw [qc1_7]; decide) (by rw [qc1_7]; decide) (by rw [qc1_7]; rfl) rfl ?_
    refine ea_iload_n (pc := 101) dX12_both_101 rfl 1 rfl ?_
    refine ea_iload_n (pc := 102) dX12_both_102 rfl 2 rfl ?_
    refine ea_ior (pc := 103) dX12_both_103 ?_
    exact ea_iretE (pc := 104) dX12_both_104 rfl rfl EX rfl
  have EX := EX.trans (if_neg qc1_7)
  by_cases qc1_8 : Int32.toInt x0 = 16
  · have EX := EX.trans (if_pos qc1_8)
    refine ea_tswIn (pc := 1) (tgt := 97) dX12_both_1 (by rw [qc1_8]; decide) (by rw [qc1_8]; decide) (by rw [qc1_8]; rfl) rfl ?_
    refine ea_iload_n (pc := 97) dX12_both_97 rfl 1 rfl ?_
    refine ea_iload_n (pc := 98) dX12_both_98 rfl 2 rfl ?_
    refine ea_iand (pc := 99) dX12_both_99 ?_
    exact ea_iretE (pc := 100) dX12_both_100 rfl rfl EX rfl
  have EX := EX.trans (if_neg qc1_8)
  refine ea_tswOut (pc := 1) (tgt := 101) dX12_both_1 (ea_sw_8_16 qc1_0 qc1_1 qc1_2 qc1_3 qc1_4 qc1_5 qc1_6 qc1_7 qc1_8) rfl ?_
  refine ea_iload_n (pc := 101) dX12_both_101 rfl 1 rfl ?_
  refine ea_iload_n (pc := 102) dX12_both_102 rfl 2 rfl ?_
  refine ea_ior (pc := 103) dX12_both_103 ?_
  exact ea_iretE (pc := 104) dX12_both_104 rfl rfl EX rfl
noncomputable def vX12_isFree (b0 : Nat) (x1 : Int32) (x2 : Int32) (h : ea_H) : Int32 := (if (ea_i h (b0 + 38) (Int32.toNatClampNeg x1)) = (2 : Int32) then (if (ea_i h (b0 + 25) (Int32.toNatClampNeg x2)) < (ea_i h (b0 + 46) (Int32.toNatClampNeg x1)) then (0 : Int32) else (1 : Int32)) else (0 : Int32))
def okX12_isFree (b0 : Nat) (x1 : Int32) (x2 : Int32) (h : ea_H) : Prop := vp_in x1 120 ∧ (((ea_i h (b0 + 38) (Int32.toNatClampNeg x1)) = (2 : Int32) → vp_in x1 120 ∧ (vp_in x2 6)) ∧ (¬ (ea_i h (b0 + 38) (Int32.toNatClampNeg x1)) = (2 : Int32) → True))
theorem bo_vX12_isFree (b0 : Nat) (x1 : Int32) (x2 : Int32) (h : ea_H) : vX12_isFree b0 x1 x2 h = 0 ∨ vX12_isFree b0 x1 x2 h = 1 := (ea_itB (ea_itB (Or.inl rfl) (Or.inr rfl)) (Or.inl rfl))
theorem sX12_isFree {d : Nat} {b0 : Nat} {x1 : Int32} {x2 : Int32} {h : ea_H} (hd : 1 ≤ d) (hs : ShM b0 h) (K : okX12_isFree b0 x1 x2 h) : ea_Met mX12_isFree d [vR (some (b0 + 0)), vI x1, vI x2] h (some (vI (vX12_isFree b0 x1 x2 h))) h := by
  obtain ⟨X, EX⟩ : ∃ z, z = vX12_isFree b0 x1 x2 h := ⟨_, rfl⟩
  rw [← EX]
  unfold vX12_isFree at EX
  unfold okX12_isFree at K
  refine ea_enter rfl (Nat.le_of_ble_eq_true rfl) ?_
  refine ea_aload_n (pc := 0) dX12_isFree_0 rfl 0 rfl ?_
  refine ea_getR (pc := 1) dX12_isFree_1 ec_12 (k := 64) (Nat.le_of_ble_eq_true rfl) rfl (Or.inl ew_1409) (hs.1 0 (by decide)).1 (hs.1 0 (by decide)).2.1 (hs.2 0 64 rfl) ?_
  refine ea_iload_n (pc := 4) dX12_isFree_4 rfl 1 rfl ?_
  obtain ⟨z1, K⟩ := K
  refine ea_iald (pc := 5) dX12_isFree_5 (hs.1 38 (by decide)).1 (hs.1 38 (by decide)).2.1 (ea_vpl (hs.1 38 (by decide)).2.2 z1) ?_
  refine ea_iconst (pc := 6) dX12_isFree_6 (v := 2) rfl ?_
  refine ea_icmp_ne (pc := 7) (tgt := 29) dX12_isFree_7 rfl (fun c5 => ?_) (fun c5 => ?_)
  · have EX := EX.trans (if_neg c5)
    refine ea_iconst (pc := 29) dX12_isFree_29 (v := 0) rfl ?_
    exact ea_iretE (pc := 30) dX12_isFree_30 rfl (ea_bn (Or.inl rfl)) EX rfl
  · have EX := EX.trans (if_pos c5)
    have K := K.1 c5
    refine ea_aload_n (pc := 10) dX12_isFree_10 rfl 0 rfl ?_
    refine ea_getR (pc := 11) dX12_isFree_11 ec_12 (k := 72) (Nat.le_of_ble_eq_true rfl) rfl (Or.inl ew_1417) (hs.1 0 (by decide)).1 (hs.1 0 (by decide)).2.1 (hs.2 0 72 rfl) ?_
    refine ea_iload_n (pc := 14) dX12_isFree_14 rfl 1 rfl ?_
    obtain ⟨z2, K⟩ := K
    refine ea_iald (pc := 15) dX12_isFree_15 (hs.1 46 (by decide)).1 (hs.1 46 (by decide)).2.1 (ea_vpl (hs.1 46 (by decide)).2.2 z2) ?_
    refine ea_aload_n (pc := 16) dX12_isFree_16 rfl 0 rfl ?_
    refine ea_getR (pc := 17) dX12_isFree_17 ec_12 (k := 30) (Nat.le_of_ble_eq_true rfl) rfl (Or.inl ew_1375) (hs.1 0 (by decide)).1 (hs.1 0 (by decide)).2.1 (hs.2 0 30 rfl) ?_
    refine ea_iload_n (pc := 20) dX12_isFree_20 rfl 2 rfl ?_
    have z3 := K
    refine ea_iald (pc := 21) dX12_isFree_21 (hs.1 25 (by decide)).1 (hs.1 25 (by decide)).2.1 (ea_vpl (hs.1 25 (by decide)).2.2 z3) ?_
    refine ea_icmp_gt (pc := 22) (tgt := 29) dX12_isFree_22 rfl (fun c4 => ?_) (fun c4 => ?_)
    · have EX := EX.trans (if_pos c4)
      refine ea_iconst (pc := 29) dX12_isFree_29 (v := 0) rfl ?_
      exact ea_iretE (pc := 30) dX12_isFree_30 rfl (ea_bn (Or.inl rfl)) EX rfl
    · have EX := EX.trans (if_neg c4)
      refine ea_iconst (pc := 25) dX12_isFree_25 (v := 1) rfl ?_
      refine ea_goto (pc := 26) (tgt := 30) dX12_isFree_26 rfl ?_
      exact ea_iretE (pc := 30) dX12_isFree_30 rfl (ea_bn (Or.inr rfl)) EX rfl
noncomputable def vX12_isOwed (b0 : Nat) (x1 : Int32) (h : ea_H) : Int32 := (if (ea_i h (b0 + 38) (Int32.toNatClampNeg x1)) = (0 : Int32) then (1 : Int32) else (if (ea_i h (b0 + 38) (Int32.toNatClampNeg x1)) = (3 : Int32) then (1 : Int32) else (0 : Int32)))
def okX12_isOwed (b0 : Nat) (x1 : Int32) (h : ea_H) : Prop := vp_in x1 120 ∧ (((ea_i h (b0 + 38) (Int32.toNatClampNeg x1)) = (0 : Int32) → True) ∧ (¬ (ea_i h (b0 + 38) (Int32.toNatClampNeg x1)) = (0 : Int32) → vp_in x1 120))
theorem bo_vX12_isOwed (b0 : Nat) (x1 : Int32) (h : ea_H) : vX12_isOwed b0 x1 h = 0 ∨ vX12_isOwed b0 x1 h = 1 := (ea_itB (Or.inr rfl) (ea_itB (Or.inr rfl) (Or.inl rfl)))
theorem sX12_isOwed {d : Nat} {b0 : Nat} {x1 : Int32} {h : ea_H} (hd : 1 ≤ d) (hs : ShM b0 h) (K : okX12_isOwed b0 x1 h) : ea_Met mX12_isOwed d [vR (some (b0 + 0)), vI x1] h (some (vI (vX12_isOwed b0 x1 h))) h := by
  obtain ⟨X, EX⟩ : ∃ z, z = vX12_isOwed b0 x1 h := ⟨_, rfl⟩
  rw [← EX]
  unfold vX12_isOwed at EX
  unfold okX12_isOwed at K
  refine ea_enter rfl (Nat.le_of_ble_eq_true rfl) ?_
  refine ea_aload_n (pc := 0) dX12_isOwed_0 rfl 0 rfl ?_
  refine ea_getR (pc := 1) dX12_isOwed_1 ec_12 (k := 64) (Nat.le_of_ble_eq_true rfl) rfl (Or.inl ew_1409) (hs.1 0 (by decide)).1 (hs.1 0 (by decide)).2.1 (hs.2 0 64 rfl) ?_
  refine ea_iload_n (pc := 4) dX12_isOwed_4 rfl 1 rfl ?_
  obtain ⟨z1, K⟩ := K
  refine ea_iald (pc := 5) dX12_isOwed_5 (hs.1 38 (by decide)).1 (hs.1 38 (by decide)).2.1 (ea_vpl (hs.1 38 (by decide)).2.2 z1) ?_
  refine ea_if_eq (pc := 6) (tgt := 19) dX12_isOwed_6 rfl (fun c4 => ?_) (fun c4 => ?_)
  · have EX := EX.trans (if_pos c4)
    refine ea_iconst (pc := 19) dX12_isOwed_19 (v := 1) rfl ?_
    refine ea_goto (pc := 20) (tgt := 24) dX12_isOwed_20 rfl ?_
    exact ea_iretE (pc := 24) dX12_isOwed_24 rfl (ea_bn (Or.inr rfl)) EX rfl
  · have EX := EX.trans (if_neg c4)
    have K := K.2 c4
    refine ea_aload_n (pc := 9) dX12_isOwed_9 rfl 0 rfl ?_
    refine ea_getR (pc := 10) dX12_isOwed_10 ec_12 (k := 64) (Nat.le_of_ble_eq_true rfl) rfl (Or.inl ew_1409) (hs.1 0 (by decide)).1 (hs.1 0 (by decide)).2.1 (hs.2 0 64 rfl) ?_
    refine ea_iload_n (pc := 13) dX12_isOwed_13 rfl 1 rfl ?_
    have z2 := K
    refine ea_iald (pc := 14) dX12_isOwed_14 (hs.1 38 (by decide)).1 (hs.1 38 (by decide)).2.1 (ea_vpl (hs.1 38 (by decide)).2.2 z2) ?_
    refine ea_iconst (pc := 15) dX12_isOwed_15 (v := 3) rfl ?_
    refine ea_icmp_ne (pc := 16) (tgt := 23) dX12_isOwed_16 rfl (fun c3 => ?_) (fun c3 => ?_)
    · have EX := EX.trans (if_neg c3)
      refine ea_iconst (pc := 23) dX12_isOwed_23 (v := 0) rfl ?_
      exact ea_iretE (pc := 24) dX12_isOwed_24 rfl (ea_bn (Or.inl rfl)) EX rfl
    · have EX := EX.trans (if_pos c3)
      refine ea_iconst (pc := 19) dX12_isOwed_19 (v := 1) rfl ?_
      refine ea_goto (pc := 20) (tgt := 24) dX12_isOwed_20 rfl ?_
      exact ea_iretE (pc := 24) dX12_isOwed_24 rfl (ea_bn (Or.inr rfl)) EX rfl
noncomputable def vX12_owed (b0 : Nat) (x1 : Int32) (h : ea_H) : Int32 := (if (vX12_isOwed b0 (x1 : Int32) h) = (0 : Int32) then (0 : Int32) else (ea_i h (b0 + 48) (Int32.toNatClampNeg x1)))
def okX12_owed (b0 : Nat) (x1 : Int32) (h : ea_H) : Prop := (okX12_isOwed b0 (x1 : Int32) h) ∧ (((vX12_isOwed b0 (x1 : Int32) h) = (0 : Int32) → True) ∧ (¬ (vX12_isOwed b0 (x1 : Int32) h) = (0 : Int32) → vp_in x1 120))
theorem sX12_owed {d : Nat} {b0 : Nat} {x1 : Int32} {h : ea_H} (hd : 2 ≤ d) (hs : ShM b0 h) (K : okX12_owed b0 x1 h) : ea_Met mX12_owed d [vR (some (b0 + 0)), vI x1] h (some (vI (vX12_owed b0 x1 h))) h := by
  obtain ⟨X, EX⟩ : ∃ z, z = vX12_owed b0 x1 h := ⟨_, rfl⟩
  rw [← EX]
  unfold vX12_owed at EX
  unfold okX12_owed at K
  refine ea_enter rfl (Nat.le_of_ble_eq_true rfl) ?_
  refine ea_aload_n (pc := 0) dX12_owed_0 rfl 0 rfl ?_
  refine ea_iload_n (pc := 1) dX12_owed_1 rfl 1 rfl ?_
  obtain ⟨z1, K⟩ := K
  refine ea_callV (pc := 2) (d' := d - 1) (As := [vI x1]) (st := []) dX12_owed_2 kX12_isOwed (sX12_isOwed (d := d - 1) (by omega) hs z1) (by omega) rfl (Nat.le_of_ble_eq_true rfl) ew_2031 ew_2033 ew_91 (ci := 12) rfl (by decide) (hs.1 0 (by decide)).1 (hs.1 0 (by decide)).2.1 ?_
  refine ea_if_eq (pc := 5) (tgt := 17) dX12_owed_5 rfl (fun c3 => ?_) (fun c3 => ?_)
  · have EX := EX.trans (if_pos c3)
    refine ea_iconst (pc := 17) dX12_owed_17 (v := 0) rfl ?_
    exact ea_iretE (pc := 18) dX12_owed_18 rfl rfl EX rfl
  · have EX := EX.trans (if_neg c3)
    have K := K.2 c3
    refine ea_aload_n (pc := 8) dX12_owed_8 rfl 0 rfl ?_
    refine ea_getR (pc := 9) dX12_owed_9 ec_12 (k := 74) (Nat.le_of_ble_eq_true rfl) rfl (Or.inl ew_1419) (hs.1 0 (by decide)).1 (hs.1 0 (by decide)).2.1 (hs.2 0 74 rfl) ?_
    refine ea_iload_n (pc := 12) dX12_owed_12 rfl 1 rfl ?_
    have z2 := K
    refine ea_iald (pc := 13) dX12_owed_13 (hs.1 48 (by decide)).1 (hs.1 48 (by decide)).2.1 (ea_vpl (hs.1 48 (by decide)).2.2 z2) ?_
    refine ea_goto (pc := 14) (tgt := 18) dX12_owed_14 rfl ?_
    exact ea_iretE (pc := 18) dX12_owed_18 rfl rfl EX rfl
noncomputable def vX12_of (b0 : Nat) (x1 : Int32) (x2 : Int32) (h : ea_H) : Int32 := (if (vX12_isLetterOf b0 (x1 : Int32) h) = (0 : Int32) then ((-1) : Int32) else (if Int32.toInt x2 = 0 then (ea_i h (b0 + 38) (Int32.toNatClampNeg x1)) else (if Int32.toInt x2 = 1 then (ea_i h (b0 + 39) (Int32.toNatClampNeg x1)) else (if Int32.toInt x2 = 2 then (ea_i h (b0 + 40) (Int32.toNatClampNeg x1)) else (if Int32.toInt x2 = 3 then (ea_i h (b0 + 41) (Int32.toNatClampNeg x1)) else (if Int32.toInt x2 = 4 then (ea_i h (b0 + 42) (Int32.toNatClampNeg x1)) else (if Int32.toInt x2 = 5 then (ea_i h (b0 + 43) (Int32.toNatClampNeg x1)) else (if Int32.toInt x2 = 6 then (ea_i h (b0 + 44) (Int32.toNatClampNeg x1)) else (if Int32.toInt x2 = 7 then (ea_i h (b0 + 55) (Int32.toNatClampNeg x1)) else (if Int32.toInt x2 = 8 then (ea_i h (b0 + 56) (Int32.toNatClampNeg x1)) else (if Int32.toInt x2 = 9 then (if (ea_i h (b0 + 52) (Int32.toNatClampNeg x1)) = (0 : Int32) then (0 : Int32) else (1 : Int32)) else (if Int32.toInt x2 = 10 then (if (ea_i h (b0 + 55) (Int32.toNatClampNeg x1)) = (1 : Int32) then (if (ea_i h (b0 + 61) (Int32.toNatClampNeg x1)) = (0 : Int32) then (0 : Int32) else (1 : Int32)) else (0 : Int32)) else (if Int32.toInt x2 = 11 then (if (ea_i h (b0 + 55) (Int32.toNatClampNeg x1)) = (1 : Int32) then (ea_i h (b0 + 57) (Int32.toNatClampNeg x1)) else ((-1) : Int32)) else (if Int32.toInt x2 = 12 then (ea_i h (b0 + 58) (Int32.toNatClampNeg x1)) else ((-1) : Int32)))))))))))))))
def okX12_of (b0 : Nat) (x1 : Int32) (x2 : Int32) (h : ea_H) : Prop := ((vX12_isLetterOf b0 (x1 : Int32) h) = (0 : Int32) → True) ∧ (¬ (vX12_isLetterOf b0 (x1 : Int32) h) = (0 : Int32) → (Int32.toInt x2 = 0 → vp_in x1 120) ∧ (¬ Int32.toInt x2 = 0 → (Int32.toInt x2 = 1 → vp_in x1 120) ∧ (¬ Int32.toInt x2 = 1 → (Int32.toInt x2 = 2 → vp_in x1 120) ∧ (¬ Int32.toInt x2 = 2 → (Int32.toInt x2 = 3 → vp_in x1 120) ∧ (¬ Int32.toInt x2 = 3 → (Int32.toInt x2 = 4 → vp_in x1 120) ∧ (¬ Int32.toInt x2 = 4 → (Int32.toInt x2 = 5 → vp_in x1 120) ∧ (¬ Int32.toInt x2 = 5 → (Int32.toInt x2 = 6 → vp_in x1 120) ∧ (¬ Int32.toInt x2 = 6 → (Int32.toInt x2 = 7 → vp_in x1 120) ∧ (¬ Int32.toInt x2 = 7 → (Int32.toInt x2 = 8 → vp_in x1 120) ∧ (¬ Int32.toInt x2 = 8 → (Int32.toInt x2 = 9 → vp_in x1 120) ∧ (¬ Int32.toInt x2 = 9 → (Int32.toInt x2 = 10 → vp_in x1 120 ∧ (((ea_i h (b0 + 55) (Int32.toNatClampNeg x1)) = (1 : Int32) → vp_in x1 120) ∧ (¬ (ea_i h (b0 + 55) (Int32.toNatClampNeg x1)) = (1 : Int32) → True))) ∧ (¬ Int32.toInt x2 = 10 → (Int32.toInt x2 = 11 → vp_in x1 120 ∧ (((ea_i h (b0 + 55) (Int32.toNatClampNeg x1)) = (1 : Int32) → vp_in x1 120) ∧ (¬ (ea_i h (b0 + 55) (Int32.toNatClampNeg x1)) = (1 : Int32) → True))) ∧ (¬ Int32.toInt x2 = 11 → (Int32.toInt x2 = 12 → vp_in x1 120) ∧ (¬ Int32.toInt x2 = 12 → True))))))))))))))
theorem sX12_of {d : Nat} {b0 : Nat} {x1 : Int32} {x2 : Int32} {h : ea_H} (hd : 3 ≤ d) (hs : ShM b0 h) (K : okX12_of b0 x1 x2 h) : ea_Met mX12_of d [vR (some (b0 + 0)), vI x1, vI x2] h (some (vI (vX12_of b0 x1 x2 h))) h := by
  obtain ⟨X, EX⟩ : ∃ z, z = vX12_of b0 x1 x2 h := ⟨_, rfl⟩
  rw [← EX]
  unfold vX12_of at EX
  unfold okX12_of at K
  refine ea_enter rfl (Nat.le_of_ble_eq_true rfl) ?_
  refine ea_aload_n (pc := 0) dX12_of_0 rfl 0 rfl ?_
  refine ea_iload_n (pc := 1) dX12_of_1 rfl 1 rfl ?_
  refine ea_callV (pc := 2) (d' := d - 1) (As := [vI x1]) (st := []) dX12_of_2 kX12_isLetterOf (sX12_isLetterOf (d := d - 1) (by omega) hs) (by omega) rfl (Nat.le_of_ble_eq_true rfl) ew_2019 ew_2021 ew_89 (ci := 12) rfl (by decide) (hs.1 0 (by decide)).1 (hs.1 0 (by decide)).2.1 ?_
  refine ea_if_ne (pc := 5) (tgt := 10) dX12_of_5 rfl (fun c21 => ?_) (fun c21 => ?_)
  · have EX := EX.trans (if_neg c21)
    have K := K.2 c21
    refine ea_iload_n (pc := 10) dX12_of_10 rfl 2 rfl ?_
    by_cases qc11_0 : Int32.toInt x2 = 0
    · have EX := EX.trans (if_pos qc11_0)
      have K := K.1 qc11_0
      refine ea_tswIn (pc := 11) (tgt := 76) dX12_of_11 (by rw [qc11_0]; decide) (by rw [qc11_0]; decide) (by rw [qc11_0]; rfl) rfl ?_
      refine ea_aload_n (pc := 76) dX12_of_76 rfl 0 rfl ?_
      refine ea_getR (pc := 77) dX12_of_77 ec_12 (k := 64) (Nat.le_of_ble_eq_true rfl) rfl (Or.inl ew_1409) (hs.1 0 (by decide)).1 (hs.1 0 (by decide)).2.1 (hs.2 0 64 rfl) ?_
      refine ea_iload_n (pc := 80) dX12_of_80 rfl 1 rfl ?_
      have z2 := K
      refine ea_iald (pc := 81) dX12_of_81 (hs.1 38 (by decide)).1 (hs.1 38 (by decide)).2.1 (ea_vpl (hs.1 38 (by decide)).2.2 z2) ?_
      exact ea_iretE (pc := 82) dX12_of_82 rfl rfl EX rfl
    have EX := EX.trans (if_neg qc11_0)
    have K := K.2 qc11_0
    by_cases qc11_1 : Int32.toInt x2 = 1
    · have EX := EX.trans (if_pos qc11_1)
      have K := K.1 qc11_1
      refine ea_tswIn (pc := 11) (tgt := 83) dX12_of_11 (by rw [qc11_1]; decide) (by rw [qc11_1]; decide) (by rw [qc11_1]; rfl) rfl ?_
      refine ea_aload_n (pc := 83) dX12_of_83 rfl 0 rfl ?_
      refine ea_getR (pc := 84) dX12_of_84 ec_12 (k := 65) (Nat.le_of_ble_eq_true rfl) rfl (Or.inl ew_1410) (hs.1 0 (by decide)).1 (hs.1 0 (by decide)).2.1 (hs.2 0 65 rfl) ?_
      refine ea_iload_n (pc := 87) dX12_of_87 rfl 1 rfl ?_
      have z3 := K
      refine ea_iald (pc := 88) dX12_of_88 (hs.1 39 (by decide)).1 (hs.1 39 (by decide)).2.1 (ea_vpl (hs.1 39 (by decide)).2.2 z3) ?_
      exact ea_iretE (pc := 89) dX12_of_89 rfl rfl EX rfl
    have EX := EX.trans (if_neg qc11_1)
    have K := K.2 qc11_1
    by_cases qc11_2 : Int32.toInt x2 = 2
    · have EX := EX.trans (if_pos qc11_2)
      have K := K.1 qc11_2
      refine ea_tswIn (pc := 11) (tgt := 90) dX12_of_11 (by rw [qc11_2]; decide) (by rw [qc11_2]; decide) (by rw [qc11_2]; rfl) rfl ?_
      refine ea_aload_n (pc := 90) dX12_of_90 rfl 0 rfl ?_
      refine ea_getR (pc := 91) dX12_of_91 ec_12 (k := 66) (Nat.le_of_ble_eq_true rfl) rfl (Or.inl ew_1411) (hs.1 0 (by decide)).1 (hs.1 0 (by decide)).2.1 (hs.2 0 66 rfl) ?_
      refine ea_iload_n (pc := 94) dX12_of_94 rfl 1 rfl ?_
      have z4 := K
      refine ea_iald (pc := 95) dX12_of_95 (hs.1 40 (by decide)).1 (hs.1 40 (by decide)).2.1 (ea_vpl (hs.1 40 (by decide)).2.2 z4) ?_
      exact ea_iretE (pc := 96) dX12_of_96 rfl rfl EX rfl
    have EX := EX.trans (if_neg qc11_2)
    have K := K.2 qc11_2
    by_cases qc11_3 : Int32.toInt x2 = 3
    · have EX := EX.trans (if_pos qc11_3)
      have K := K.1 qc11_3
      refine ea_tswIn (pc := 11) (tgt := 97) dX12_of_11 (by rw [qc11_3]; decide) (by rw [qc11_3]; decide) (by rw [qc11_3]; rfl) rfl ?_
      refine ea_aload_n (pc := 97) dX12_of_97 rfl 0 rfl ?_
      refine ea_getR (pc := 98) dX12_of_98 ec_12 (k := 67) (Nat.le_of_ble_eq_true rfl) rfl (Or.inl ew_1412) (hs.1 0 (by decide)).1 (hs.1 0 (by decide)).2.1 (hs.2 0 67 rfl) ?_
      refine ea_iload_n (pc := 101) dX12_of_101 rfl 1 rfl ?_
      have z5 := K
      refine ea_iald (pc := 102) dX12_of_102 (hs.1 41 (by decide)).1 (hs.1 41 (by decide)).2.1 (ea_vpl (hs.1 41 (by decide)).2.2 z5) ?_
      exact ea_iretE (pc := 103) dX12_of_103 rfl rfl EX rfl
    have EX := EX.trans (if_neg qc11_3)
    have K := K.2 qc11_3
    by_cases qc11_4 : Int32.toInt x2 = 4
    · have EX := EX.trans (if_pos qc11_4)
      have K := K.1 qc11_4
      refine ea_tswIn (pc := 11) (tgt := 104) dX12_of_11 (by rw [qc11_4]; decide) (by rw [qc11_4]; decide) (by rw [qc11_4]; rfl) rfl ?_
      refine ea_aload_n (pc := 104) dX12_of_104 rfl 0 rfl ?_
      refine ea_getR (pc := 105) dX12_of_105 ec_12 (k := 68) (Nat.le_of_ble_eq_true rfl) rfl (Or.inl ew_1413) (hs.1 0 (by decide)).1 (hs.1 0 (by decide)).2.1 (hs.2 0 68 rfl) ?_
      refine ea_iload_n (pc := 108) dX12_of_108 rfl 1 rfl ?_
      have z6 := K
      refine ea_iald (pc := 109) dX12_of_109 (hs.1 42 (by decide)).1 (hs.1 42 (by decide)).2.1 (ea_vpl (hs.1 42 (by decide)).2.2 z6) ?_
      exact ea_iretE (pc := 110) dX12_of_110 rfl rfl EX rfl
    have EX := EX.trans (if_neg qc11_4)
    have K := K.2 qc11_4
    by_cases qc11_5 : Int32.toInt x2 = 5
    · have EX := EX.trans (if_pos qc11_5)
      have K := K.1 qc11_5
      refine ea_tswIn (pc := 11) (tgt := 111) dX12_of_11 (by rw [qc11_5]; decide) (by rw [qc11_5]; decide) (by rw [qc11_5]; rfl) rfl ?_
      refine ea_aload_n (pc := 111) dX12_of_111 rfl 0 rfl ?_
      refine ea_getR (pc := 112) dX12_of_112 ec_12 (k := 69) (Nat.le_of_ble_eq_true rfl) rfl (Or.inl ew_1414) (hs.1 0 (by decide)).1 (hs.1 0 (by decide)).2.1 (hs.2 0 69 rfl) ?_
      refine ea_iload_n (pc := 115) dX12_of_115 rfl 1 rfl ?_
      have z7 := K
      refine ea_iald (pc := 116) dX12_of_116 (hs.1 43 (by decide)).1 (hs.1 43 (by decide)).2.1 (ea_vpl (hs.1 43 (by decide)).2.2 z7) ?_
      exact ea_iretE (pc := 117) dX12_of_117 rfl rfl EX rfl
    have EX := EX.trans (if_neg qc11_5)
    have K := K.2 qc11_5
    by_cases qc11_6 : Int32.toInt x2 = 6
    · have EX := EX.trans (if_pos qc11_6)
      have K := K.1 qc11_6
      refine ea_tswIn (pc := 11) (tgt := 118) dX12_of_11 (by rw [qc11_6]; decide) (by rw [qc11_6]; decide) (by rw [qc11_6]; rfl) rfl ?_
      refine ea_aload_n (pc := 118) dX12_of_118 rfl 0 rfl ?_
      refine ea_getR (pc := 119) dX12_of_119 ec_12 (k := 70) (Nat.le_of_ble_eq_true rfl) rfl (Or.inl ew_1415) (hs.1 0 (by decide)).1 (hs.1 0 (by decide)).2.1 (hs.2 0 70 rfl) ?_
      refine ea_iload_n (pc := 122) dX12_of_122 rfl 1 rfl ?_
      have z8 := K
      refine ea_iald (pc := 123) dX12_of_123 (hs.1 44 (by decide)).1 (hs.1 44 (by decide)).2.1 (ea_vpl (hs.1 44 (by decide)).2.2 z8) ?_
      exact ea_iretE (pc := 124) dX12_of_124 rfl rfl EX rfl
    have EX := EX.trans (if_neg qc11_6)
    have K := K.2 qc11_6
    by_cases qc11_7 : Int32.toInt x2 = 7
    · have EX := EX.trans (if_pos qc11_7)
      have K := K.1 qc11_7
      refine ea_tswIn (pc := 11) (tgt := 125) dX12_of_11 (by rw [qc11_7]; decide) (by rw [qc11_7]; decide) (by rw [qc11_7]; rfl) rfl ?_
      refine ea_aload_n (pc := 125) dX12_of_125 rfl 0 rfl ?_
      refine ea_getR (pc := 126) dX12_of_126 ec_12 (k := 81) (Nat.le_of_ble_eq_true rfl) rfl (Or.inl ew_1426) (hs.1 0 (by decide)).1 (hs.1 0 (by decide)).2.1 (hs.2 0 81 rfl) ?_
      refine ea_iload_n (pc := 129) dX12_of_129 rfl 1 rfl ?_
      have z9 := K
      refine ea_iald (pc := 130) dX12_of_130 (hs.1 55 (by decide)).1 (hs.1 55 (by decide)).2.1 (ea_vpl (hs.1 55 (by decide)).2.2 z9) ?_
      exact ea_iretE (pc := 131) dX12_of_131 rfl rfl EX rfl
    have EX := EX.trans (if_neg qc11_7)
    have K := K.2 qc11_7
    by_cases qc11_8 : Int32.toInt x2 = 8
    · have EX := EX.trans (if_pos qc11_8)
      have K := K.1 qc11_8
      refine ea_tswIn (pc := 11) (tgt := 132) dX12_of_11 (by rw [qc11_8]; decide) (by rw [qc11_8]; decide) (by rw [qc11_8]; rfl) rfl ?_
      refine ea_aload_n (pc := 132) dX12_of_132 rfl 0 rfl ?_
      refine ea_getR (pc := 133) dX12_of_133 ec_12 (k := 82) (Nat.le_of_ble_eq_true rfl) rfl (Or.inl ew_1427) (hs.1 0 (by decide)).1 (hs.1 0 (by decide)).2.1 (hs.2 0 82 rfl) ?_
      refine ea_iload_n (pc := 136) dX12_of_136 rfl 1 rfl ?_
      have z10 := K
      refine ea_iald (pc := 137) dX12_of_137 (hs.1 56 (by decide)).1 (hs.1 56 (by decide)).2.1 (ea_vpl (hs.1 56 (by decide)).2.2 z10) ?_
      exact ea_iretE (pc := 138) dX12_of_138 rfl rfl EX rfl
    have EX := EX.trans (if_neg qc11_8)
    have K := K.2 qc11_8
    by_cases qc11_9 : Int32.toInt x2 = 9
    · have EX := EX.trans (if_pos qc11_9)
      have K := K.1 qc11_9
      refine ea_tswIn (pc := 11) (tgt := 139) dX12_of_11 (by rw [qc11_9]; decide) (by rw [qc11_9]; decide) (by rw [qc11_9]; rfl) rfl ?_
      refine ea_aload_n (pc := 139) dX12_of_139 rfl 0 rfl ?_
      refine ea_getR (pc := 140) dX12_of_140 ec_12 (k := 78) (Nat.le_of_ble_eq_true rfl) rfl (Or.inl ew_1423) (hs.1 0 (by decide)).1 (hs.1 0 (by decide)).2.1 (hs.2 0 78 rfl) ?_
      refine ea_iload_n (pc := 143) dX12_of_143 rfl 1 rfl ?_
      have z11 := K
      refine ea_zald (pc := 144) dX12_of_144 (hs.1 52 (by decide)).1 (hs.1 52 (by decide)).2.1 (ea_vpl (hs.1 52 (by decide)).2.2 z11) ?_
      refine ea_if_eq (pc := 145) (tgt := 152) dX12_of_145 rfl (fun c12 => ?_) (fun c12 => ?_)
      · have EX := EX.trans (if_pos c12)
        refine ea_iconst (pc := 152) dX12_of_152 (v := 0) rfl ?_
        exact ea_iretE (pc := 153) dX12_of_153 rfl rfl EX rfl
      · have EX := EX.trans (if_neg c12)
        refine ea_iconst (pc := 148) dX12_of_148 (v := 1) rfl ?_
        refine ea_goto (pc := 149) (tgt := 153) dX12_of_149 rfl ?_
        exact ea_iretE (pc := 153) dX12_of_153 rfl rfl EX rfl
    have EX := EX.trans (if_neg qc11_9)
    have K := K.2 qc11_9
    by_cases qc11_10 : Int32.toInt x2 = 10
    · have EX := EX.trans (if_pos qc11_10)
      have K := K.1 qc11_10
      refine ea_tswIn (pc := 11) (tgt := 154) dX12_of_11 (by rw [qc11_10]; decide) (by rw [qc11_10]; decide) (by rw [qc11_10]; rfl) rfl ?_
      refine ea_aload_n (pc := 154) dX12_of_154 rfl 0 rfl ?_
      refine ea_getR (pc := 155) dX12_of_155 ec_12 (k := 81) (Nat.le_of_ble_eq_true rfl) rfl (Or.inl ew_1426) (hs.1 0 (by decide)).1 (hs.1 0 (by decide)).2.1 (hs.2 0 81 rfl) ?_
      refine ea_iload_n (pc := 158) dX12_of_158 rfl 1 rfl ?_
      obtain ⟨z13, K⟩ := K
      refine ea_iald (pc := 159) dX12_of_159 (hs.1 55 (by decide)).1 (hs.1 55 (by decide)).2.1 (ea_vpl (hs.1 55 (by decide)).2.2 z13) ?_
      refine ea_iconst (pc := 160) dX12_of_160 (v := 1) rfl ?_
      refine ea_icmp_ne (pc := 161) (tgt := 177) dX12_of_161 rfl (fun c16 => ?_) (fun c16 => ?_)
      · have EX := EX.trans (if_neg c16)
        refine ea_iconst (pc := 177) dX12_of_177 (v := 0) rfl ?_
        exact ea_iretE (pc := 178) dX12_of_178 rfl rfl EX rfl
      · have EX := EX.trans (if_pos c16)
        have K := K.1 c16
        refine ea_aload_n (pc := 164) dX12_of_164 rfl 0 rfl ?_
        refine ea_getR (pc := 165) dX12_of_165 ec_12 (k := 87) (Nat.le_of_ble_eq_true rfl) rfl (Or.inl ew_1432) (hs.1 0 (by decide)).1 (hs.1 0 (by decide)).2.1 (hs.2 0 87 rfl) ?_
        refine ea_iload_n (pc := 168) dX12_of_168 rfl 1 rfl ?_
        have z14 := K
        refine ea_zald (pc := 169) dX12_of_169 (hs.1 61 (by decide)).1 (hs.1 61 (by decide)).2.1 (ea_vpl (hs.1 61 (by decide)).2.2 z14) ?_
        refine ea_if_eq (pc := 170) (tgt := 177) dX12_of_170 rfl (fun c15 => ?_) (fun c15 => ?_)
        · have EX := EX.trans (if_pos c15)
          refine ea_iconst (pc := 177) dX12_of_177 (v := 0) rfl ?_
          exact ea_iretE (pc := 178) dX12_of_178 rfl rfl EX rfl
        · have EX := EX.trans (if_neg c15)
          refine ea_iconst (pc := 173) dX12_of_173 (v := 1) rfl ?_
          refine ea_goto (pc := 174) (tgt := 178) dX12_of_174 rfl ?_
          exact ea_iretE (pc := 178) dX12_of_178 rfl rfl EX rfl
    have EX := EX.trans (if_neg qc11_10)
    have K := K.2 qc11_10
    by_cases qc11_11 : Int32.toInt x2 = 11
    · have EX := EX.trans (if_pos qc11_11)
      have K := K.1 qc11_11
      refine ea_tswIn (pc := 11) (tgt := 179) dX12_of_11 (by rw [qc11_11]; decide) (by rw [qc11_11]; decide) (by rw [qc11_11]; rfl) rfl ?_
      refine ea_aload_n (pc := 179) dX12_of_179 rfl 0 rfl ?_
      refine ea_getR (pc := 180) dX12_of_180 ec_12 (k := 81) (Nat.le_of_ble_eq_true rfl) rfl (Or.inl ew_1426) (hs.1 0 (by decide)).1 (hs.1 0 (by decide)).2.1 (hs.2 0 81 rfl) ?_
      refine ea_iload_n (pc := 183) dX12_of_183 rfl 1 rfl ?_
      obtain ⟨z17, K⟩ := K
      refine ea_iald (pc := 184) dX12_of_184 (hs.1 55 (by decide)).1 (hs.1 55 (by decide)).2.1 (ea_vpl (hs.1 55 (by decide)).2.2 z17) ?_
      refine ea_iconst (pc := 185) dX12_of_185 (v := 1) rfl ?_
      refine ea_icmp_ne (pc := 186) (tgt := 198) dX12_of_186 rfl (fun c19 => ?_) (fun c19 => ?_)
      · have EX := EX.trans (if_neg c19)
        refine ea_iconst (pc := 198) dX12_of_198 (v := (-1)) rfl ?_
        exact ea_iretE (pc := 199) dX12_of_199 rfl rfl EX rfl
      · have EX := EX.trans (if_pos c19)
        have K := K.1 c19
        refine ea_aload_n (pc := 189) dX12_of_189 rfl 0 rfl ?_
        refine ea_getR (pc := 190) dX12_of_190 ec_12 (k := 83) (Nat.le_of_ble_eq_true rfl) rfl (Or.inl ew_1428) (hs.1 0 (by decide)).1 (hs.1 0 (by decide)).2.1 (hs.2 0 83 rfl) ?_
        refine ea_iload_n (pc := 193) dX12_of_193 rfl 1 rfl ?_
        have z18 := K
        refine ea_iald (pc := 194) dX12_of_194 (hs.1 57 (by decide)).1 (hs.1 57 (by decide)).2.1 (ea_vpl (hs.1 57 (by decide)).2.2 z18) ?_
        refine ea_goto (pc := 195) (tgt := 199) dX12_of_195 rfl ?_
        exact ea_iretE (pc := 199) dX12_of_199 rfl rfl EX rfl
    have EX := EX.trans (if_neg qc11_11)
    have K := K.2 qc11_11
    by_cases qc11_12 : Int32.toInt x2 = 12
    · have EX := EX.trans (if_pos qc11_12)
      have K := K.1 qc11_12
      refine ea_tswIn (pc := 11) (tgt := 200) dX12_of_11 (by rw [qc11_12]; decide) (by rw [qc11_12]; decide) (by rw [qc11_12]; rfl) rfl ?_
      refine ea_aload_n (pc := 200) dX12_of_200 rfl 0 rfl ?_
      refine ea_getR (pc := 201) dX12_of_201 ec_12 (k := 84) (Nat.le_of_ble_eq_true rfl) rfl (Or.inl ew_1429) (hs.1 0 (by decide)).1 (hs.1 0 (by decide)).2.1 (hs.2 0 84 rfl) ?_
      refine ea_iload_n (pc := 204) dX12_of_204 rfl 1 rfl ?_
      have z20 := K
      refine ea_iald (pc := 205) dX12_of_205 (hs.1 58 (by decide)).1 (hs.1 58 (by decide)).2.1 (ea_vpl (hs.1 58 (by decide)).2.2 z20) ?_
      exact ea_iretE (pc := 206) dX12_of_206 rfl rfl EX rfl
    have EX := EX.trans (if_neg qc11_12)
    have K := K.2 qc11_12
    refine ea_tswOut (pc := 11) (tgt := 207) dX12_of_11 (ea_sw_0_12 qc11_0 qc11_1 qc11_2 qc11_3 qc11_4 qc11_5 qc11_6 qc11_7 qc11_8 qc11_9 qc11_10 qc11_11 qc11_12) rfl ?_
    refine ea_iconst (pc := 207) dX12_of_207 (v := (-1)) rfl ?_
    exact ea_iretE (pc := 208) dX12_of_208 rfl rfl EX rfl
  · have EX := EX.trans (if_pos c21)
    refine ea_iconst (pc := 8) dX12_of_8 (v := (-1)) rfl ?_
    exact ea_iretE (pc := 9) dX12_of_9 rfl rfl EX rfl
