/-! the reference, 0 -/
/-! the reference: its cells; methods without loops -/
def ShM_cl : List (Nat × Nat) := [(12, 0), (20, 144), (20, 10), (20, 80), (20, 80), (20, 80), (20, 70), (21, 80), (21, 560), (20, 12), (20, 1000), (20, 1000), (20, 1000), (20, 1000), (20, 70), (20, 12000), (20, 12000), (20, 12000), (20, 12000), (20, 1000), (20, 12), (20, 6), (20, 6), (20, 6), (20, 6), (20, 6), (20, 6), (20, 6), (20, 6), (20, 6), (20, 150), (20, 144), (20, 7320), (20, 25), (20, 24), (20, 1220), (20, 600), (20, 620), (20, 120), (20, 120), (20, 120), (20, 120), (20, 120), (20, 120), (20, 120), (20, 120), (20, 120), (20, 120), (20, 120), (20, 120), (20, 120), (20, 120), (21, 120), (21, 120), (21, 120), (20, 120), (20, 120), (20, 120), (20, 120), (20, 120), (20, 70), (21, 120), (20, 120000), (20, 120000), (20, 120000), (20, 8), (20, 8), (20, 8), (20, 8), (20, 8), (20, 120), (20, 480), (20, 480), (20, 20), (20, 20), (20, 20), (20, 20), (20, 2400), (20, 10), (20, 10), (20, 10), (20, 120), (20, 120), (20, 120), (20, 120), (20, 120), (20, 120), (20, 120), (20, 70), (21, 120)]
def ShM_rf : List (Nat × Nat × Nat) := [(0, 3, 1), (0, 4, 2), (0, 5, 3), (0, 6, 4), (0, 7, 5), (0, 8, 6), (0, 9, 7), (0, 10, 8), (0, 11, 9), (0, 14, 10), (0, 15, 11), (0, 16, 12), (0, 17, 13), (0, 18, 14), (0, 19, 15), (0, 20, 16), (0, 21, 17), (0, 22, 18), (0, 23, 19), (0, 24, 20), (0, 26, 21), (0, 27, 22), (0, 28, 23), (0, 29, 24), (0, 30, 25), (0, 31, 26), (0, 32, 27), (0, 33, 28), (0, 34, 29), (0, 35, 30), (0, 36, 31), (0, 37, 32), (0, 38, 33), (0, 39, 34), (0, 40, 35), (0, 41, 36), (0, 42, 37), (0, 64, 38), (0, 65, 39), (0, 66, 40), (0, 67, 41), (0, 68, 42), (0, 69, 43), (0, 70, 44), (0, 71, 45), (0, 72, 46), (0, 73, 47), (0, 74, 48), (0, 75, 49), (0, 76, 50), (0, 77, 51), (0, 78, 52), (0, 79, 53), (0, 80, 54), (0, 81, 55), (0, 82, 56), (0, 83, 57), (0, 84, 58), (0, 85, 59), (0, 86, 60), (0, 87, 61), (0, 88, 62), (0, 89, 63), (0, 90, 64), (0, 91, 65), (0, 93, 66), (0, 94, 67), (0, 95, 68), (0, 96, 69), (0, 97, 70), (0, 98, 71), (0, 99, 72), (0, 101, 73), (0, 102, 74), (0, 103, 75), (0, 104, 76), (0, 105, 77), (0, 106, 78), (0, 107, 79), (0, 108, 80), (0, 109, 81), (0, 110, 82), (0, 111, 83), (0, 112, 84), (0, 113, 85), (0, 114, 86), (0, 115, 87), (0, 116, 88), (0, 117, 89)]
def ShM_c (b : Nat) : Nat := (ShM_cl.getD b (0, 0)).1
def ShM_l (b : Nat) : Nat := (ShM_cl.getD b (0, 0)).2
def ShM_r (a k : Nat) : Option Nat := (ShM_rf.find? fun q => q.1 == a && q.2.1 == k).map fun q => q.2.2
/-- the cells that are made once, from number b0 on: their classes, their lengths, what they refer to -/
def ShM (b0 : Nat) (h : ea_H) : Prop := (∀ b, b < 90 → b0 + b < ea_n h ∧ ea_c h (b0 + b) = ShM_c b ∧ ea_l h (b0 + b) = ShM_l b) ∧ ∀ a k, (ShM_r a k).isSome → ea_r h (b0 + a) k = (ShM_r a k).map fun t => b0 + t
theorem ShM_wi {b0 : Nat} {h : ea_H} {a k : Nat} {x : Int32} (hs : ShM b0 h) : ShM b0 (ea_wi h a k x) := hs
theorem ShM_wa {b0 : Nat} {h : ea_H} {a : Nat} {f : Nat → Int32} (hs : ShM b0 h) : ShM b0 (ea_wa h a f) := hs
theorem ShM_wj {b0 : Nat} {h : ea_H} {a k : Nat} {x : Int64} (hs : ShM b0 h) : ShM b0 (ea_wj h a k x) := hs
theorem ShM_new {b0 : Nat} {h : ea_H} {c l s : Nat} (hs : ShM b0 h) : ShM b0 (ea_new h c l s) := by
  have h0 := (hs.1 0 (by decide)).1
  refine ⟨fun b hb => ?_, fun a k hk => ?_⟩
  · obtain ⟨h1, h2, h3⟩ := hs.1 b hb
    have hne : b0 + b ≠ ea_n h := by omega
    exact ⟨Nat.lt_succ_of_lt h1, by rw [← h2]; simp only [ea_c, ea_new, ea_u1, if_neg hne], by rw [← h3]; simp only [ea_l, ea_new, ea_u1, if_neg hne]⟩
  · have hlt : a < 90 := by
      have hm : ∀ q ∈ ShM_rf, q.1 < 90 := by decide
      unfold ShM_r at hk
      cases hf : ShM_rf.find? (fun q => q.1 == a && q.2.1 == k) with
      | none => rw [hf] at hk; cases hk
      | some q =>
        have h5 := List.find?_some hf
        have h6 := hm q (List.mem_of_find?_eq_some hf)
        simp only [Bool.and_eq_true, beq_iff_eq] at h5
        omega
    have h1 := (hs.1 a hlt).1
    have hne : b0 + a ≠ ea_n h := by omega
    rw [← hs.2 a k hk]
    simp only [ea_r, ea_new, ea_u1, if_neg hne]
theorem ShM_wr {b0 : Nat} {h : ea_H} {o k : Nat} {x : Option Nat} (hr : ShM_r o k = none) (hs : ShM b0 h) : ShM b0 (ea_wr h (b0 + o) k x) := by
  refine ⟨hs.1, fun a j hj => ?_⟩
  rw [← hs.2 a j hj]
  have hne : ¬ (b0 + a = b0 + o ∧ j = k) := by
    rintro ⟨e1, rfl⟩
    have : a = o := by omega
    subst this
    rw [hr] at hj
    cases hj
  simp only [ea_r, ea_wr, ea_u2, if_neg hne]
def ShM_far (b0 a : Nat) : Prop := ∀ b, b < 90 → a ≠ b0 + b
noncomputable def ShM_wd (b0 : Nat) (h : ea_H) (a k : Nat) (x : Option Nat) : ea_H := @ite _ (ShM_far b0 a) (Classical.propDecidable _) (ea_wr h a k x) h
theorem ShM_wdeq {b0 : Nat} {h : ea_H} {a k : Nat} {x : Option Nat} (hf : ShM_far b0 a) : ShM_wd b0 h a k x = ea_wr h a k x := by unfold ShM_wd; rw [if_pos hf]
theorem ShM_lt {a k : Nat} (hk : (ShM_r a k).isSome) : a < 90 := by
  have hm : ∀ q ∈ ShM_rf, q.1 < 90 := by decide
  unfold ShM_r at hk
  cases hf : ShM_rf.find? (fun q => q.1 == a && q.2.1 == k) with
  | none => rw [hf] at hk; cases hk
  | some q =>
    have h5 := List.find?_some hf
    have h6 := hm q (List.mem_of_find?_eq_some hf)
    simp only [Bool.and_eq_true, beq_iff_eq] at h5
    omega
theorem ShM_wd_sh {b0 : Nat} {h : ea_H} {a k : Nat} {x : Option Nat} (hs : ShM b0 h) : ShM b0 (ShM_wd b0 h a k x) := by
  unfold ShM_wd
  split
  · rename_i hf
    refine ⟨hs.1, fun b j hj => ?_⟩
    rw [← hs.2 b j hj]
    have hb := ShM_lt hj
    have hne : ¬ (b0 + b = a ∧ j = k) := fun h => hf b hb h.1.symm
    simp only [ea_r, ea_wr, ea_u2, if_neg hne]
  · exact hs
theorem ShM_it {b0 : Nat} {c : Prop} {_ : Decidable c} {A B : ea_H} (hA : ShM b0 A) (hB : ShM b0 B) : ShM b0 (if c then A else B) := by split <;> assumption
theorem ea_itB {c : Prop} {_ : Decidable c} {a b : Int32} (ha : a = 0 ∨ a = 1) (hb : b = 0 ∨ b = 1) : (if c then a else b) = 0 ∨ (if c then a else b) = 1 := by split <;> assumption
theorem ea_sw_0_3 {x : Int} (q0 : ¬ x = 0) (q1 : ¬ x = 1) (q2 : ¬ x = 2) (q3 : ¬ x = 3) : x < 0 ∨ 3 < x := by omega
theorem ea_sw_0_4 {x : Int} (q0 : ¬ x = 0) (q1 : ¬ x = 1) (q2 : ¬ x = 2) (q3 : ¬ x = 3) (q4 : ¬ x = 4) : x < 0 ∨ 4 < x := by omega
theorem ea_sw_0_5 {x : Int} (q0 : ¬ x = 0) (q1 : ¬ x = 1) (q2 : ¬ x = 2) (q3 : ¬ x = 3) (q4 : ¬ x = 4) (q5 : ¬ x = 5) : x < 0 ∨ 5 < x := by omega
theorem ea_sw_0_7 {x : Int} (q0 : ¬ x = 0) (q1 : ¬ x = 1) (q2 : ¬ x = 2) (q3 : ¬ x = 3) (q4 : ¬ x = 4) (q5 : ¬ x = 5) (q6 : ¬ x = 6) (q7 : ¬ x = 7) : x < 0 ∨ 7 < x := by omega
theorem ea_sw_0_12 {x : Int} (q0 : ¬ x = 0) (q1 : ¬ x = 1) (q2 : ¬ x = 2) (q3 : ¬ x = 3) (q4 : ¬ x = 4) (q5 : ¬ x = 5) (q6 : ¬ x = 6) (q7 : ¬ x = 7) (q8 : ¬ x = 8) (q9 : ¬ x = 9) (q10 : ¬ x = 10) (q11 : ¬ x = 11) (q12 : ¬ x = 12) : x < 0 ∨ 12 < x := by omega
theorem ea_sw_8_16 {x : Int} (q0 : ¬ x = 8) (q1 : ¬ x = 9) (q2 : ¬ x = 10) (q3 : ¬ x = 11) (q4 : ¬ x = 12) (q5 : ¬ x = 13) (q6 : ¬ x = 14) (q7 : ¬ x = 15) (q8 : ¬ x = 16) : x < 8 ∨ 16 < x := by omega
noncomputable def gd {α : Type} (P : Prop) (A : Option α) : Option α := @ite _ P (Classical.propDecidable P) A none
theorem gd_some {α : Type} {P : Prop} {A : Option α} {x : α} (h : gd P A = some x) : P ∧ A = some x := by
  unfold gd at h
  split at h
  · exact ⟨by assumption, h⟩
  · cases h
def ea_let {α β : Type} (x : α) (f : α → β) : β := f x
theorem let_some {α β : Type} {x : α} {f : α → Option β} {r : β} (h : ea_let x f = some r) : ∃ y, y = x ∧ f y = some r := ⟨x, rfl, h⟩
theorem bd_some {α β : Type} {A : Option α} {f : α → Option β} {x : β} (h : Option.bind A f = some x) : ∃ y, A = some y ∧ f y = some x := by
  cases A with
  | none => cases h
  | some y => exact ⟨y, rfl, h⟩
theorem gd_pos {α : Type} {P : Prop} {A : Option α} (h : P) : gd P A = A := by unfold gd; rw [if_pos h]
theorem ea_vpl {i : Int32} {l n : Nat} (e : l = n) (z : vp_in i n) : vp_in i l := by subst e; exact z
theorem ea_tops {M : ea_M} {d : Nat} {h0 hE h : ea_H} {rv : Option ea_V} {pc : Nat} {lv : List (Nat × ea_V)} {st : List ea_V} {v v2 : ea_V} (e : v = v2) (k : ea_W M d h0 rv hE pc lv (v2 :: st) h) : ea_W M d h0 rv hE pc lv (v :: st) h := by subst e; exact k
noncomputable def vX12_isIn (x0 : Int32) (x1 : Int32) (x2 : Int32) (h : ea_H) : Int32 := (if x0 < x1 then (0 : Int32) else (if x2 < x0 then (0 : Int32) else (1 : Int32)))
theorem bo_vX12_isIn (x0 : Int32) (x1 : Int32) (x2 : Int32) (h : ea_H) : vX12_isIn x0 x1 x2 h = 0 ∨ vX12_isIn x0 x1 x2 h = 1 := (ea_itB (Or.inl rfl) (ea_itB (Or.inl rfl) (Or.inr rfl)))
theorem sX12_isIn {d : Nat} {x0 : Int32} {x1 : Int32} {x2 : Int32} {h : ea_H} (hd : 1 ≤ d) : ea_Met mX12_isIn d [vI x0, vI x1, vI x2] h (some (vI (vX12_isIn x0 x1 x2 h))) h := by
  obtain ⟨X, EX⟩ : ∃ z, z = vX12_isIn x0 x1 x2 h := ⟨_, rfl⟩
  rw [← EX]
  unfold vX12_isIn at EX
  refine ea_enter rfl (Nat.le_of_ble_eq_true rfl) ?_
  refine ea_iload_n (pc := 0) dX12_isIn_0 rfl 0 rfl ?_
  refine ea_iload_n (pc := 1) dX12_isIn_1 rfl 1 rfl ?_
  refine ea_icmp_lt (pc := 2) (tgt := 14) dX12_isIn_2 rfl (fun c2 => ?_) (fun c2 => ?_)
  · have EX := EX.trans (if_pos c2)
    refine ea_iconst (pc := 14) dX12_isIn_14 (v := 0) rfl ?_
    exact ea_iretE (pc := 15) dX12_isIn_15 rfl (ea_bn (Or.inl rfl)) EX rfl
  · have EX := EX.trans (if_neg c2)
    refine ea_iload_n (pc := 5) dX12_isIn_5 rfl 0 rfl ?_
    refine ea_iload_n (pc := 6) dX12_isIn_6 rfl 2 rfl ?_
    refine ea_icmp_gt (pc := 7) (tgt := 14) dX12_isIn_7 rfl (fun c1 => ?_) (fun c1 => ?_)
    · have EX := EX.trans (if_pos c1)
      refine ea_iconst (pc := 14) dX12_isIn_14 (v := 0) rfl ?_
      exact ea_iretE (pc := 15) dX12_isIn_15 rfl (ea_bn (Or.inl rfl)) EX rfl
    · have EX := EX.trans (if_neg c1)
      refine ea_iconst (pc := 10) dX12_isIn_10 (v := 1) rfl ?_
      refine ea_goto (pc := 11) (tgt := 15) dX12_isIn_11 rfl ?_
      exact ea_iretE (pc := 15) dX12_isIn_15 rfl (ea_bn (Or.inr rfl)) EX rfl
noncomputable def vX12_isTown (b0 : Nat) (x1 : Int32) (h : ea_H) : Int32 := (vX12_isIn (x1 : Int32) (0 : Int32) (((ea_i h (b0 + 0) 1) - (1 : Int32)) : Int32) h)
theorem bo_vX12_isTown (b0 : Nat) (x1 : Int32) (h : ea_H) : vX12_isTown b0 x1 h = 0 ∨ vX12_isTown b0 x1 h = 1 := (bo_vX12_isIn _ _ _ _)
theorem sX12_isTown {d : Nat} {b0 : Nat} {x1 : Int32} {h : ea_H} (hd : 2 ≤ d) (hs : ShM b0 h) : ea_Met mX12_isTown d [vR (some (b0 + 0)), vI x1] h (some (vI (vX12_isTown b0 x1 h))) h := by
  obtain ⟨X, EX⟩ : ∃ z, z = vX12_isTown b0 x1 h := ⟨_, rfl⟩
  rw [← EX]
  unfold vX12_isTown at EX
  refine ea_enter rfl (Nat.le_of_ble_eq_true rfl) ?_
  refine ea_iload_n (pc := 0) dX12_isTown_0 rfl 1 rfl ?_
  refine ea_iconst (pc := 1) dX12_isTown_1 (v := 0) rfl ?_
  refine ea_aload_n (pc := 2) dX12_isTown_2 rfl 0 rfl ?_
  refine ea_getI (pc := 3) dX12_isTown_3 ec_12 (k := 1) (Nat.le_of_ble_eq_true rfl) rfl (Or.inl ew_1346) (hs.1 0 (by decide)).1 (hs.1 0 (by decide)).2.1 ?_
  refine ea_iconst (pc := 6) dX12_isTown_6 (v := 1) rfl ?_
  refine ea_isub (pc := 7) dX12_isTown_7 ?_
  refine ea_callS (pc := 8) (d' := d - 1) (As := [vI x1, vI 0, vI ((ea_i h (b0 + 0) 1) - (1 : Int32))]) (st := []) dX12_isTown_8 kX12_isIn (sX12_isIn (d := d - 1) (by omega)) (by omega) rfl (Nat.le_of_ble_eq_true rfl) ew_1712 ew_1713 ?_
  exact ea_iretE (pc := 11) dX12_isTown_11 rfl (ea_bn (bo_vX12_isIn ..)) EX rfl
noncomputable def vX12_isTrain (b0 : Nat) (x1 : Int32) (h : ea_H) : Int32 := (vX12_isIn (x1 : Int32) (0 : Int32) (((ea_i h (b0 + 0) 2) - (1 : Int32)) : Int32) h)
theorem bo_vX12_isTrain (b0 : Nat) (x1 : Int32) (h : ea_H) : vX12_isTrain b0 x1 h = 0 ∨ vX12_isTrain b0 x1 h = 1 := (bo_vX12_isIn _ _ _ _)
theorem sX12_isTrain {d : Nat} {b0 : Nat} {x1 : Int32} {h : ea_H} (hd : 2 ≤ d) (hs : ShM b0 h) : ea_Met mX12_isTrain d [vR (some (b0 + 0)), vI x1] h (some (vI (vX12_isTrain b0 x1 h))) h := by
  obtain ⟨X, EX⟩ : ∃ z, z = vX12_isTrain b0 x1 h := ⟨_, rfl⟩
  rw [← EX]
  unfold vX12_isTrain at EX
  refine ea_enter rfl (Nat.le_of_ble_eq_true rfl) ?_
  refine ea_iload_n (pc := 0) dX12_isTrain_0 rfl 1 rfl ?_
  refine ea_iconst (pc := 1) dX12_isTrain_1 (v := 0) rfl ?_
  refine ea_aload_n (pc := 2) dX12_isTrain_2 rfl 0 rfl ?_
  refine ea_getI (pc := 3) dX12_isTrain_3 ec_12 (k := 2) (Nat.le_of_ble_eq_true rfl) rfl (Or.inl ew_1347) (hs.1 0 (by decide)).1 (hs.1 0 (by decide)).2.1 ?_
  refine ea_iconst (pc := 6) dX12_isTrain_6 (v := 1) rfl ?_
  refine ea_isub (pc := 7) dX12_isTrain_7 ?_
  refine ea_callS (pc := 8) (d' := d - 1) (As := [vI x1, vI 0, vI ((ea_i h (b0 + 0) 2) - (1 : Int32))]) (st := []) dX12_isTrain_8 kX12_isIn (sX12_isIn (d := d - 1) (by omega)) (by omega) rfl (Nat.le_of_ble_eq_true rfl) ew_1712 ew_1713 ?_
  exact ea_iretE (pc := 11) dX12_isTrain_11 rfl (ea_bn (bo_vX12_isIn ..)) EX rfl
noncomputable def vX12_isDay (x0 : Int32) (h : ea_H) : Int32 := (vX12_isIn (x0 : Int32) (0 : Int32) (6 : Int32) h)
theorem bo_vX12_isDay (x0 : Int32) (h : ea_H) : vX12_isDay x0 h = 0 ∨ vX12_isDay x0 h = 1 := (bo_vX12_isIn _ _ _ _)
theorem sX12_isDay {d : Nat} {x0 : Int32} {h : ea_H} (hd : 2 ≤ d) : ea_Met mX12_isDay d [vI x0] h (some (vI (vX12_isDay x0 h))) h := by
  obtain ⟨X, EX⟩ : ∃ z, z = vX12_isDay x0 h := ⟨_, rfl⟩
  rw [← EX]
  unfold vX12_isDay at EX
  refine ea_enter rfl (Nat.le_of_ble_eq_true rfl) ?_
  refine ea_iload_n (pc := 0) dX12_isDay_0 rfl 0 rfl ?_
  refine ea_iconst (pc := 1) dX12_isDay_1 (v := 0) rfl ?_
  refine ea_bipush (pc := 2) dX12_isDay_2 (v := 6) rfl ?_
  refine ea_callS (pc := 4) (d' := d - 1) (As := [vI x0, vI 0, vI 6]) (st := []) dX12_isDay_4 kX12_isIn (sX12_isIn (d := d - 1) (by omega)) (by omega) rfl (Nat.le_of_ble_eq_true rfl) ew_1712 ew_1713 ?_
  exact ea_iretE (pc := 7) dX12_isDay_7 rfl (ea_bn (bo_vX12_isIn ..)) EX rfl
noncomputable def vX12_isMinute (x0 : Int32) (h : ea_H) : Int32 := (vX12_isIn (x0 : Int32) (0 : Int32) (10079 : Int32) h)
theorem bo_vX12_isMinute (x0 : Int32) (h : ea_H) : vX12_isMinute x0 h = 0 ∨ vX12_isMinute x0 h = 1 := (bo_vX12_isIn _ _ _ _)
theorem sX12_isMinute {d : Nat} {x0 : Int32} {h : ea_H} (hd : 2 ≤ d) : ea_Met mX12_isMinute d [vI x0] h (some (vI (vX12_isMinute x0 h))) h := by
  obtain ⟨X, EX⟩ : ∃ z, z = vX12_isMinute x0 h := ⟨_, rfl⟩
  rw [← EX]
  unfold vX12_isMinute at EX
  refine ea_enter rfl (Nat.le_of_ble_eq_true rfl) ?_
  refine ea_iload_n (pc := 0) dX12_isMinute_0 rfl 0 rfl ?_
  refine ea_iconst (pc := 1) dX12_isMinute_1 (v := 0) rfl ?_
  refine ea_sipush (pc := 2) dX12_isMinute_2 (v := 10079) rfl ?_
  refine ea_callS (pc := 5) (d' := d - 1) (As := [vI x0, vI 0, vI 10079]) (st := []) dX12_isMinute_5 kX12_isIn (sX12_isIn (d := d - 1) (by omega)) (by omega) rfl (Nat.le_of_ble_eq_true rfl) ew_1712 ew_1713 ?_
  exact ea_iretE (pc := 8) dX12_isMinute_8 rfl (ea_bn (bo_vX12_isIn ..)) EX rfl
noncomputable def vX12_town (b0 : Nat) (h : ea_H) : Int32 := (if (ea_i h (b0 + 0) 1) = (12 : Int32) then ((-1) : Int32) else ((ea_i (ea_wi (ea_wi h (b0 + 0) 1 ((ea_i h (b0 + 0) 1) + (1 : Int32))) (b0 + 0) 12 0) (b0 + 0) 1) - (1 : Int32)))
noncomputable def wX12_town (b0 : Nat) (h : ea_H) : ea_H := (if (ea_i h (b0 + 0) 1) = (12 : Int32) then h else (ea_wi (ea_wi h (b0 + 0) 1 ((ea_i h (b0 + 0) 1) + (1 : Int32))) (b0 + 0) 12 0))
theorem shX12_town {b0 : Nat} {h : ea_H} (hs : ShM b0 h) : ShM b0 (wX12_town b0 h) := (ShM_it hs (ShM_wi (ShM_wi hs)))
theorem sX12_town {d : Nat} {b0 : Nat} {h : ea_H} (hd : 1 ≤ d) (hs : ShM b0 h) : ea_Met mX12_town d [vR (some (b0 + 0))] h (some (vI (vX12_town b0 h))) (wX12_town b0 h) := by
  obtain ⟨X, EX⟩ : ∃ z, z = vX12_town b0 h := ⟨_, rfl⟩
  rw [← EX]
  unfold vX12_town at EX
  obtain ⟨Y, EY⟩ : ∃ z, z = wX12_town b0 h := ⟨_, rfl⟩
  rw [← EY]
  unfold wX12_town at EY
  refine ea_enter rfl (Nat.le_of_ble_eq_true rfl) ?_
  refine ea_aload_n (pc := 0) dX12_town_0 rfl 0 rfl ?_
  refine ea_getI (pc := 1) dX12_town_1 ec_12 (k := 1) (Nat.le_of_ble_eq_true rfl) rfl (Or.inl ew_1346) (hs.1 0 (by decide)).1 (hs.1 0 (by decide)).2.1 ?_
  refine ea_bipush (pc := 4) dX12_town_4 (v := 12) rfl ?_
  refine ea_icmp_ne (pc := 6) (tgt := 11) dX12_town_6 rfl (fun c3 => ?_) (fun c3 => ?_)
  · have EX := EX.trans (if_neg c3)
    have EY := EY.trans (if_neg c3)
    refine ea_aload_n (pc := 11) dX12_town_11 rfl 0 rfl ?_
    refine ea_dup (pc := 12) dX12_town_12 rfl ?_
    refine ea_getI (pc := 13) dX12_town_13 ec_12 (k := 1) (Nat.le_of_ble_eq_true rfl) rfl (Or.inl ew_1346) (hs.1 0 (by decide)).1 (hs.1 0 (by decide)).2.1 ?_
    refine ea_iconst (pc := 16) dX12_town_16 (v := 1) rfl ?_
    refine ea_iadd (pc := 17) dX12_town_17 ?_
    refine ea_putI (pc := 18) dX12_town_18 ec_12 (k := 1) (Nat.le_of_ble_eq_true rfl) rfl (Or.inl ⟨rfl, Or.inl ew_1346⟩) rfl rfl (hs.1 0 (by decide)).1 (hs.1 0 (by decide)).2.1 ?_
    have hs1 : ShM b0 (ea_wi h (b0 + 0) 1 ((ea_i h (b0 + 0) 1) + (1 : Int32))) := ShM_wi hs
    refine ea_aload_n (pc := 21) dX12_town_21 rfl 0 rfl ?_
    refine ea_iconst (pc := 22) dX12_town_22 (v := 0) rfl ?_
    refine ea_putI (pc := 23) dX12_town_23 ec_12 (k := 12) (Nat.le_of_ble_eq_true rfl) rfl (Or.inl ⟨rfl, Or.inl ew_1357⟩) (ea_bn (Or.inl rfl)) (ea_bf (Or.inl rfl)) (hs1.1 0 (by decide)).1 (hs1.1 0 (by decide)).2.1 ?_
    have hs2 : ShM b0 (ea_wi (ea_wi h (b0 + 0) 1 ((ea_i h (b0 + 0) 1) + (1 : Int32))) (b0 + 0) 12 0) := ShM_wi hs1
    refine ea_aload_n (pc := 26) dX12_town_26 rfl 0 rfl ?_
    refine ea_getI (pc := 27) dX12_town_27 ec_12 (k := 1) (Nat.le_of_ble_eq_true rfl) rfl (Or.inl ew_1346) (hs2.1 0 (by decide)).1 (hs2.1 0 (by decide)).2.1 ?_
    refine ea_iconst (pc := 30) dX12_town_30 (v := 1) rfl ?_
    refine ea_isub (pc := 31) dX12_town_31 ?_
    exact ea_iretE (pc := 32) dX12_town_32 rfl rfl EX EY
  · have EX := EX.trans (if_pos c3)
    have EY := EY.trans (if_pos c3)
    refine ea_iconst (pc := 9) dX12_town_9 (v := (-1)) rfl ?_
    exact ea_iretE (pc := 10) dX12_town_10 rfl rfl EX EY
noncomputable def vX12_road (b0 : Nat) (x1 : Int32) (x2 : Int32) (x3 : Int32) (h : ea_H) : Int32 := (if (vX12_isTown b0 (x1 : Int32) h) = (0 : Int32) then (0 : Int32) else (if (vX12_isTown b0 (x2 : Int32) h) = (0 : Int32) then (0 : Int32) else (if x1 = x2 then (0 : Int32) else (if (vX12_isIn (x3 : Int32) (1 : Int32) (999 : Int32) h) = (0 : Int32) then (0 : Int32) else (1 : Int32)))))
noncomputable def wX12_road (b0 : Nat) (x1 : Int32) (x2 : Int32) (x3 : Int32) (h : ea_H) : ea_H := (if (vX12_isTown b0 (x1 : Int32) h) = (0 : Int32) then h else (if (vX12_isTown b0 (x2 : Int32) h) = (0 : Int32) then h else (if x1 = x2 then h else (if (vX12_isIn (x3 : Int32) (1 : Int32) (999 : Int32) h) = (0 : Int32) then h else (ea_wi (ea_wi h (b0 + 1) (Int32.toNatClampNeg (((12 : Int32) * x1) + x2)) x3) (b0 + 1) (Int32.toNatClampNeg (((12 : Int32) * x2) + x1)) x3)))))
def okX12_road (b0 : Nat) (x1 : Int32) (x2 : Int32) (x3 : Int32) (h : ea_H) : Prop := ((vX12_isTown b0 (x1 : Int32) h) = (0 : Int32) → True) ∧ (¬ (vX12_isTown b0 (x1 : Int32) h) = (0 : Int32) → ((vX12_isTown b0 (x2 : Int32) h) = (0 : Int32) → True) ∧ (¬ (vX12_isTown b0 (x2 : Int32) h) = (0 : Int32) → (x1 = x2 → True) ∧ (¬ x1 = x2 → ((vX12_isIn (x3 : Int32) (1 : Int32) (999 : Int32) h) = (0 : Int32) → True) ∧ (¬ (vX12_isIn (x3 : Int32) (1 : Int32) (999 : Int32) h) = (0 : Int32) → vp_in (((12 : Int32) * x1) + x2) 144 ∧ (vp_in (((12 : Int32) * x2) + x1) 144)))))
theorem bo_vX12_road (b0 : Nat) (x1 : Int32) (x2 : Int32) (x3 : Int32) (h : ea_H) : vX12_road b0 x1 x2 x3 h = 0 ∨ vX12_road b0 x1 x2 x3 h = 1 := (ea_itB (Or.inl rfl) (ea_itB (Or.inl rfl) (ea_itB (Or.inl rfl) (ea_itB (Or.inl rfl) (Or.inr rfl)))))
theorem shX12_road {b0 : Nat} {x1 : Int32} {x2 : Int32} {x3 : Int32} {h : ea_H} (hs : ShM b0 h) : ShM b0 (wX12_road b0 x1 x2 x3 h) := (ShM_it hs (ShM_it hs (ShM_it hs (ShM_it hs (ShM_wi (ShM_wi hs))))))
theorem sX12_road {d : Nat} {b0 : Nat} {x1 : Int32} {x2 : Int32} {x3 : Int32} {h : ea_H} (hd : 3 ≤ d) (hs : ShM b0 h) (K : okX12_road b0 x1 x2 x3 h) : ea_Met mX12_road d [vR (some (b0 + 0)), vI x1, vI x2, vI x3] h (some (vI (vX12_road b0 x1 x2 x3 h))) (wX12_road b0 x1 x2 x3 h) := by
  obtain ⟨X, EX⟩ : ∃ z, z = vX12_road b0 x1 x2 x3 h := ⟨_, rfl⟩
  rw [← EX]
  unfold vX12_road at EX
  obtain ⟨Y, EY⟩ : ∃ z, z = wX12_road b0 x1 x2 x3 h := ⟨_, rfl⟩
  rw [← EY]
  unfold wX12_road at EY
  unfold okX12_road at K
  refine ea_enter rfl (Nat.le_of_ble_eq_true rfl) ?_
  refine ea_aload_n (pc := 0) dX12_road_0 rfl 0 rfl ?_
  refine ea_iload_n (pc := 1) dX12_road_1 rfl 1 rfl ?_
  refine ea_callV (pc := 2) (d' := d - 1) (As := [vI x1]) (st := []) dX12_road_2 kX12_isTown (sX12_isTown (d := d - 1) (by omega) hs) (by omega) rfl (Nat.le_of_ble_eq_true rfl) ew_1708 ew_1710 ew_47 (ci := 12) rfl (by decide) (hs.1 0 (by decide)).1 (hs.1 0 (by decide)).2.1 ?_
  refine ea_if_eq (pc := 5) (tgt := 32) dX12_road_5 rfl (fun c11 => ?_) (fun c11 => ?_)
  · have EX := EX.trans (if_pos c11)
    have EY := EY.trans (if_pos c11)
    refine ea_iconst (pc := 32) dX12_road_32 (v := 0) rfl ?_
    exact ea_iretE (pc := 33) dX12_road_33 rfl (ea_bn (Or.inl rfl)) EX EY
  · have EX := EX.trans (if_neg c11)
    have EY := EY.trans (if_neg c11)
    have K := K.2 c11
    refine ea_aload_n (pc := 8) dX12_road_8 rfl 0 rfl ?_
    refine ea_iload_n (pc := 9) dX12_road_9 rfl 2 rfl ?_
    refine ea_callV (pc := 10) (d' := d - 1) (As := [vI x2]) (st := []) dX12_road_10 kX12_isTown (sX12_isTown (d := d - 1) (by omega) hs) (by omega) rfl (Nat.le_of_ble_eq_true rfl) ew_1708 ew_1710 ew_47 (ci := 12) rfl (by decide) (hs.1 0 (by decide)).1 (hs.1 0 (by decide)).2.1 ?_
    refine ea_if_eq (pc := 13) (tgt := 32) dX12_road_13 rfl (fun c10 => ?_) (fun c10 => ?_)
    · have EX := EX.trans (if_pos c10)
      have EY := EY.trans (if_pos c10)
      refine ea_iconst (pc := 32) dX12_road_32 (v := 0) rfl ?_
      exact ea_iretE (pc := 33) dX12_road_33 rfl (ea_bn (Or.inl rfl)) EX EY
    · have EX := EX.trans (if_neg c10)
      have EY := EY.trans (if_neg c10)
      have K := K.2 c10
      refine ea_iload_n (pc := 16) dX12_road_16 rfl 1 rfl ?_
      refine ea_iload_n (pc := 17) dX12_road_17 rfl 2 rfl ?_
      refine ea_icmp_eq (pc := 18) (tgt := 32) dX12_road_18 rfl (fun c9 => ?_) (fun c9 => ?_)
      · have EX := EX.trans (if_pos c9)
        have EY := EY.trans (if_pos c9)
        refine ea_iconst (pc := 32) dX12_road_32 (v := 0) rfl ?_
        exact ea_iretE (pc := 33) dX12_road_33 rfl (ea_bn (Or.inl rfl)) EX EY
      · have EX := EX.trans (if_neg c9)
        have EY := EY.trans (if_neg c9)
        have K := K.2 c9
        refine ea_iload_n (pc := 21) dX12_road_21 rfl 3 rfl ?_
        refine ea_iconst (pc := 22) dX12_road_22 (v := 1) rfl ?_
        refine ea_sipush (pc := 23) dX12_road_23 (v := 999) rfl ?_
        refine ea_callS (pc := 26) (d' := d - 1) (As := [vI x3, vI 1, vI 999]) (st := []) dX12_road_26 kX12_isIn (sX12_isIn (d := d - 1) (by omega)) (by omega) rfl (Nat.le_of_ble_eq_true rfl) ew_1712 ew_1713 ?_
        refine ea_if_ne (pc := 29) (tgt := 34) dX12_road_29 rfl (fun c8 => ?_) (fun c8 => ?_)
        · have EX := EX.trans (if_neg c8)
          have EY := EY.trans (if_neg c8)
          have K := K.2 c8
          refine ea_aload_n (pc := 34) dX12_road_34 rfl 0 rfl ?_
          refine ea_getR (pc := 35) dX12_road_35 ec_12 (k := 3) (Nat.le_of_ble_eq_true rfl) rfl (Or.inl ew_1348) (hs.1 0 (by decide)).1 (hs.1 0 (by decide)).2.1 (hs.2 0 3 rfl) ?_
          refine ea_bipush (pc := 38) dX12_road_38 (v := 12) rfl ?_
          refine ea_iload_n (pc := 40) dX12_road_40 rfl 1 rfl ?_
          refine ea_imul (pc := 41) dX12_road_41 ?_
          refine ea_iload_n (pc := 42) dX12_road_42 rfl 2 rfl ?_
          refine ea_iadd (pc := 43) dX12_road_43 ?_
          refine ea_iload_n (pc := 44) dX12_road_44 rfl 3 rfl ?_
          obtain ⟨z4, K⟩ := K
          refine ea_iast (pc := 45) dX12_road_45 (hs.1 1 (by decide)).1 (hs.1 1 (by decide)).2.1 (ea_vpl (hs.1 1 (by decide)).2.2 z4) ?_
          have hs5 : ShM b0 (ea_wi h (b0 + 1) (Int32.toNatClampNeg (((12 : Int32) * x1) + x2)) x3) := ShM_wi hs
          refine ea_aload_n (pc := 46) dX12_road_46 rfl 0 rfl ?_
          refine ea_getR (pc := 47) dX12_road_47 ec_12 (k := 3) (Nat.le_of_ble_eq_true rfl) rfl (Or.inl ew_1348) (hs5.1 0 (by decide)).1 (hs5.1 0 (by decide)).2.1 (hs5.2 0 3 rfl) ?_
          refine ea_bipush (pc := 50) dX12_road_50 (v := 12) rfl ?_
          refine ea_iload_n (pc := 52) dX12_road_52 rfl 2 rfl ?_
          refine ea_imul (pc := 53) dX12_road_53 ?_
          refine ea_iload_n (pc := 54) dX12_road_54 rfl 1 rfl ?_
          refine ea_iadd (pc := 55) dX12_road_55 ?_
          refine ea_iload_n (pc := 56) dX12_road_56 rfl 3 rfl ?_
          have z6 := K
          refine ea_iast (pc := 57) dX12_road_57 (hs5.1 1 (by decide)).1 (hs5.1 1 (by decide)).2.1 (ea_vpl (hs5.1 1 (by decide)).2.2 z6) ?_
          have hs7 : ShM b0 (ea_wi (ea_wi h (b0 + 1) (Int32.toNatClampNeg (((12 : Int32) * x1) + x2)) x3) (b0 + 1) (Int32.toNatClampNeg (((12 : Int32) * x2) + x1)) x3) := ShM_wi hs5
          refine ea_iconst (pc := 58) dX12_road_58 (v := 1) rfl ?_
          exact ea_iretE (pc := 59) dX12_road_59 rfl (ea_bn (Or.inr rfl)) EX EY
        · have EX := EX.trans (if_pos c8)
          have EY := EY.trans (if_pos c8)
          refine ea_iconst (pc := 32) dX12_road_32 (v := 0) rfl ?_
          exact ea_iretE (pc := 33) dX12_road_33 rfl (ea_bn (Or.inl rfl)) EX EY
noncomputable def vX12_train (b0 : Nat) (h : ea_H) : Int32 := (if (ea_i h (b0 + 0) 2) = (10 : Int32) then ((-1) : Int32) else ((ea_i (ea_wi (ea_wi h (b0 + 0) 2 ((ea_i h (b0 + 0) 2) + (1 : Int32))) (b0 + 0) 12 0) (b0 + 0) 2) - (1 : Int32)))
noncomputable def wX12_train (b0 : Nat) (h : ea_H) : ea_H := (if (ea_i h (b0 + 0) 2) = (10 : Int32) then h else (ea_wi (ea_wi h (b0 + 0) 2 ((ea_i h (b0 + 0) 2) + (1 : Int32))) (b0 + 0) 12 0))
theorem shX12_train {b0 : Nat} {h : ea_H} (hs : ShM b0 h) : ShM b0 (wX12_train b0 h) := (ShM_it hs (ShM_wi (ShM_wi hs)))
theorem sX12_train {d : Nat} {b0 : Nat} {h : ea_H} (hd : 1 ≤ d) (hs : ShM b0 h) : ea_Met mX12_train d [vR (some (b0 + 0))] h (some (vI (vX12_train b0 h))) (wX12_train b0 h) := by
  obtain ⟨X, EX⟩ : ∃ z, z = vX12_train b0 h := ⟨_, rfl⟩
  rw [← EX]
  unfold vX12_train at EX
  obtain ⟨Y, EY⟩ : ∃ z, z = wX12_train b0 h := ⟨_, rfl⟩
  rw [← EY]
  unfold wX12_train at EY
  refine ea_enter rfl (Nat.le_of_ble_eq_true rfl) ?_
  refine ea_aload_n (pc := 0) dX12_train_0 rfl 0 rfl ?_
  refine ea_getI (pc := 1) dX12_train_1 ec_12 (k := 2) (Nat.le_of_ble_eq_true rfl) rfl (Or.inl ew_1347) (hs.1 0 (by decide)).1 (hs.1 0 (by decide)).2.1 ?_
  refine ea_bipush (pc := 4) dX12_train_4 (v := 10) rfl ?_
  refine ea_icmp_ne (pc := 6) (tgt := 11) dX12_train_6 rfl (fun c3 => ?_) (fun c3 => ?_)
  · have EX := EX.trans (if_neg c3)
    have EY := EY.trans (if_neg c3)
    refine ea_aload_n (pc := 11) dX12_train_11 rfl 0 rfl ?_
    refine ea_dup (pc := 12) dX12_train_12 rfl ?_
    refine ea_getI (pc := 13) dX12_train_13 ec_12 (k := 2) (Nat.le_of_ble_eq_true rfl) rfl (Or.inl ew_1347) (hs.1 0 (by decide)).1 (hs.1 0 (by decide)).2.1 ?_
    refine ea_iconst (pc := 16) dX12_train_16 (v := 1) rfl ?_
    refine ea_iadd (pc := 17) dX12_train_17 ?_
    refine ea_putI (pc := 18) dX12_train_18 ec_12 (k := 2) (Nat.le_of_ble_eq_true rfl) rfl (Or.inl ⟨rfl, Or.inl ew_1347⟩) rfl rfl (hs.1 0 (by decide)).1 (hs.1 0 (by decide)).2.1 ?_
    have hs1 : ShM b0 (ea_wi h (b0 + 0) 2 ((ea_i h (b0 + 0) 2) + (1 : Int32))) := ShM_wi hs
    refine ea_aload_n (pc := 21) dX12_train_21 rfl 0 rfl ?_
    refine ea_iconst (pc := 22) dX12_train_22 (v := 0) rfl ?_
    refine ea_putI (pc := 23) dX12_train_23 ec_12 (k := 12) (Nat.le_of_ble_eq_true rfl) rfl (Or.inl ⟨rfl, Or.inl ew_1357⟩) (ea_bn (Or.inl rfl)) (ea_bf (Or.inl rfl)) (hs1.1 0 (by decide)).1 (hs1.1 0 (by decide)).2.1 ?_
    have hs2 : ShM b0 (ea_wi (ea_wi h (b0 + 0) 2 ((ea_i h (b0 + 0) 2) + (1 : Int32))) (b0 + 0) 12 0) := ShM_wi hs1
    refine ea_aload_n (pc := 26) dX12_train_26 rfl 0 rfl ?_
    refine ea_getI (pc := 27) dX12_train_27 ec_12 (k := 2) (Nat.le_of_ble_eq_true rfl) rfl (Or.inl ew_1347) (hs2.1 0 (by decide)).1 (hs2.1 0 (by decide)).2.1 ?_
    refine ea_iconst (pc := 30) dX12_train_30 (v := 1) rfl ?_
    refine ea_isub (pc := 31) dX12_train_31 ?_
    exact ea_iretE (pc := 32) dX12_train_32 rfl rfl EX EY
  · have EX := EX.trans (if_pos c3)
    have EY := EY.trans (if_pos c3)
    refine ea_iconst (pc := 9) dX12_train_9 (v := (-1)) rfl ?_
    exact ea_iretE (pc := 10) dX12_train_10 rfl rfl EX EY
noncomputable def vX12_stopOf (b0 : Nat) (x1 : Int32) (x2 : Int32) (x3 : Int32) (h : ea_H) : Int32 := (if (vX12_isTrain b0 (x1 : Int32) h) = (0 : Int32) then ((-1) : Int32) else (if x2 = ((-1) : Int32) then (if x3 = (0 : Int32) then (ea_i h (b0 + 2) (Int32.toNatClampNeg x1)) else ((-1) : Int32)) else (if (vX12_isIn (x2 : Int32) (0 : Int32) (((ea_i h (b0 + 2) (Int32.toNatClampNeg x1)) - (1 : Int32)) : Int32) h) = (0 : Int32) then ((-1) : Int32) else (if x3 = (0 : Int32) then (ea_i h (b0 + 3) (Int32.toNatClampNeg (((8 : Int32) * x1) + x2))) else (if x3 = (1 : Int32) then (ea_i h (b0 + 4) (Int32.toNatClampNeg (((8 : Int32) * x1) + x2))) else (if x3 = (2 : Int32) then (ea_i h (b0 + 5) (Int32.toNatClampNeg (((8 : Int32) * x1) + x2))) else (if x3 = (3 : Int32) then (if (ea_i h (b0 + 7) (Int32.toNatClampNeg (((8 : Int32) * x1) + x2))) = (0 : Int32) then (0 : Int32) else (1 : Int32)) else ((-1) : Int32))))))))
def okX12_stopOf (b0 : Nat) (x1 : Int32) (x2 : Int32) (x3 : Int32) (h : ea_H) : Prop := ((vX12_isTrain b0 (x1 : Int32) h) = (0 : Int32) → True) ∧ (¬ (vX12_isTrain b0 (x1 : Int32) h) = (0 : Int32) → (x2 = ((-1) : Int32) → (x3 = (0 : Int32) → vp_in x1 10) ∧ (¬ x3 = (0 : Int32) → True)) ∧ (¬ x2 = ((-1) : Int32) → vp_in x1 10 ∧ (((vX12_isIn (x2 : Int32) (0 : Int32) (((ea_i h (b0 + 2) (Int32.toNatClampNeg x1)) - (1 : Int32)) : Int32) h) = (0 : Int32) → True) ∧ (¬ (vX12_isIn (x2 : Int32) (0 : Int32) (((ea_i h (b0 + 2) (Int32.toNatClampNeg x1)) - (1 : Int32)) : Int32) h) = (0 : Int32) → (x3 = (0 : Int32) → vp_in (((8 : Int32) * x1) + x2) 80) ∧ (¬ x3 = (0 : Int32) → (x3 = (1 : Int32) → vp_in (((8 : Int32) * x1) + x2) 80) ∧ (¬ x3 = (1 : Int32) → (x3 = (2 : Int32) → vp_in (((8 : Int32) * x1) + x2) 80) ∧ (¬ x3 = (2 : Int32) → (x3 = (3 : Int32) → vp_in (((8 : Int32) * x1) + x2) 80) ∧ (¬ x3 = (3 : Int32) → True))))))))
theorem sX12_stopOf {d : Nat} {b0 : Nat} {x1 : Int32} {x2 : Int32} {x3 : Int32} {h : ea_H} (hd : 3 ≤ d) (hs : ShM b0 h) (K : okX12_stopOf b0 x1 x2 x3 h) : ea_Met mX12_stopOf d [vR (some (b0 + 0)), vI x1, vI x2, vI x3] h (some (vI (vX12_stopOf b0 x1 x2 x3 h))) h := by
  obtain ⟨X, EX⟩ : ∃ z, z = vX12_stopOf b0 x1 x2 x3 h := ⟨_, rfl⟩
  rw [← EX]
  unfold vX12_stopOf at EX
  unfold okX12_stopOf at K
  refine ea_enter rfl (Nat.le_of_ble_eq_true rfl) ?_
  refine ea_aload_n (pc := 0) dX12_stopOf_0 rfl 0 rfl ?_
  refine ea_iload_n (pc := 1) dX12_stopOf_1 rfl 1 rfl ?_
  refine ea_callV (pc := 2) (d' := d - 1) (As := [vI x1]) (st := []) dX12_stopOf_2 kX12_isTrain (sX12_isTrain (d := d - 1) (by omega) hs) (by omega) rfl (Nat.le_of_ble_eq_true rfl) ew_1736 ew_1738 ew_50 (ci := 12) rfl (by decide) (hs.1 0 (by decide)).1 (hs.1 0 (by decide)).2.1 ?_
  refine ea_if_ne (pc := 5) (tgt := 10) dX12_stopOf_5 rfl (fun c17 => ?_) (fun c17 => ?_)
  · have EX := EX.trans (if_neg c17)
    have K := K.2 c17
    refine ea_iload_n (pc := 10) dX12_stopOf_10 rfl 2 rfl ?_
    refine ea_iconst (pc := 11) dX12_stopOf_11 (v := (-1)) rfl ?_
    refine ea_icmp_ne (pc := 12) (tgt := 30) dX12_stopOf_12 rfl (fun c16 => ?_) (fun c16 => ?_)
    · have EX := EX.trans (if_neg c16)
      have K := K.2 c16
      refine ea_iload_n (pc := 30) dX12_stopOf_30 rfl 2 rfl ?_
      refine ea_iconst (pc := 31) dX12_stopOf_31 (v := 0) rfl ?_
      refine ea_aload_n (pc := 32) dX12_stopOf_32 rfl 0 rfl ?_
      refine ea_getR (pc := 33) dX12_stopOf_33 ec_12 (k := 4) (Nat.le_of_ble_eq_true rfl) rfl (Or.inl ew_1349) (hs.1 0 (by decide)).1 (hs.1 0 (by decide)).2.1 (hs.2 0 4 rfl) ?_
      refine ea_iload_n (pc := 36) dX12_stopOf_36 rfl 1 rfl ?_
      obtain ⟨z2, K⟩ := K
      refine ea_iald (pc := 37) dX12_stopOf_37 (hs.1 2 (by decide)).1 (hs.1 2 (by decide)).2.1 (ea_vpl (hs.1 2 (by decide)).2.2 z2) ?_
      refine ea_iconst (pc := 38) dX12_stopOf_38 (v := 1) rfl ?_
      refine ea_isub (pc := 39) dX12_stopOf_39 ?_
      refine ea_callS (pc := 40) (d' := d - 1) (As := [vI x2, vI 0, vI ((ea_i h (b0 + 2) (Int32.toNatClampNeg x1)) - (1 : Int32))]) (st := []) dX12_stopOf_40 kX12_isIn (sX12_isIn (d := d - 1) (by omega)) (by omega) rfl (Nat.le_of_ble_eq_true rfl) ew_1712 ew_1713 ?_
      refine ea_if_ne (pc := 43) (tgt := 48) dX12_stopOf_43 rfl (fun c13 => ?_) (fun c13 => ?_)
      · have EX := EX.trans (if_neg c13)
        have K := K.2 c13
        refine ea_bipush (pc := 48) dX12_stopOf_48 (v := 8) rfl ?_
        refine ea_iload_n (pc := 50) dX12_stopOf_50 rfl 1 rfl ?_
        refine ea_imul (pc := 51) dX12_stopOf_51 ?_
        refine ea_iload_n (pc := 52) dX12_stopOf_52 rfl 2 rfl ?_
        refine ea_iadd (pc := 53) dX12_stopOf_53 ?_
        refine ea_istore (pc := 54) (lv' := [(0, vR (some (b0 + 0))), (3, vI x3), (4, vI (((8 : Int32) * x1) + x2))]) dX12_stopOf_54 (Nat.le_of_ble_eq_true rfl) [1, 4, 0] rfl ?_
        refine ea_iload_n (pc := 56) dX12_stopOf_56 rfl 1 rfl ?_
        refine ea_if_ne (pc := 57) (tgt := 70) dX12_stopOf_57 rfl (fun c12 => ?_) (fun c12 => ?_)
        · have EX := EX.trans (if_neg c12)
          have K := K.2 c12
          refine ea_iload_n (pc := 70) dX12_stopOf_70 rfl 1 rfl ?_
          refine ea_iconst (pc := 71) dX12_stopOf_71 (v := 1) rfl ?_
          refine ea_icmp_ne (pc := 72) (tgt := 85) dX12_stopOf_72 rfl (fun c10 => ?_) (fun c10 => ?_)
          · have EX := EX.trans (if_neg c10)
            have K := K.2 c10
            refine ea_iload_n (pc := 85) dX12_stopOf_85 rfl 1 rfl ?_
            refine ea_iconst (pc := 86) dX12_stopOf_86 (v := 2) rfl ?_
            refine ea_icmp_ne (pc := 87) (tgt := 100) dX12_stopOf_87 rfl (fun c8 => ?_) (fun c8 => ?_)
            · have EX := EX.trans (if_neg c8)
              have K := K.2 c8
              refine ea_iload_n (pc := 100) dX12_stopOf_100 rfl 1 rfl ?_
              refine ea_iconst (pc := 101) dX12_stopOf_101 (v := 3) rfl ?_
              refine ea_icmp_ne (pc := 102) (tgt := 123) dX12_stopOf_102 rfl (fun c6 => ?_) (fun c6 => ?_)
              · have EX := EX.trans (if_neg c6)
                refine ea_iconst (pc := 123) dX12_stopOf_123 (v := (-1)) rfl ?_
                exact ea_iretE (pc := 124) dX12_stopOf_124 rfl rfl EX rfl
              · have EX := EX.trans (if_pos c6)
                have K := K.1 c6
                refine ea_aload_n (pc := 105) dX12_stopOf_105 rfl 0 rfl ?_
                refine ea_getR (pc := 106) dX12_stopOf_106 ec_12 (k := 9) (Nat.le_of_ble_eq_true rfl) rfl (Or.inl ew_1354) (hs.1 0 (by decide)).1 (hs.1 0 (by decide)).2.1 (hs.2 0 9 rfl) ?_
                refine ea_iload (pc := 109) dX12_stopOf_109 2 rfl ?_
                have z4 := K
                refine ea_zald (pc := 111) dX12_stopOf_111 (hs.1 7 (by decide)).1 (hs.1 7 (by decide)).2.1 (ea_vpl (hs.1 7 (by decide)).2.2 z4) ?_
                refine ea_if_eq (pc := 112) (tgt := 119) dX12_stopOf_112 rfl (fun c5 => ?_) (fun c5 => ?_)
                · have EX := EX.trans (if_pos c5)
                  refine ea_iconst (pc := 119) dX12_stopOf_119 (v := 0) rfl ?_
                  refine ea_goto (pc := 120) (tgt := 124) dX12_stopOf_120 rfl ?_
                  exact ea_iretE (pc := 124) dX12_stopOf_124 rfl rfl EX rfl
                · have EX := EX.trans (if_neg c5)
                  refine ea_iconst (pc := 115) dX12_stopOf_115 (v := 1) rfl ?_
                  refine ea_goto (pc := 116) (tgt := 124) dX12_stopOf_116 rfl ?_
                  exact ea_iretE (pc := 124) dX12_stopOf_124 rfl rfl EX rfl
            · have EX := EX.trans (if_pos c8)
              have K := K.1 c8
              refine ea_aload_n (pc := 90) dX12_stopOf_90 rfl 0 rfl ?_
              refine ea_getR (pc := 91) dX12_stopOf_91 ec_12 (k := 7) (Nat.le_of_ble_eq_true rfl) rfl (Or.inl ew_1352) (hs.1 0 (by decide)).1 (hs.1 0 (by decide)).2.1 (hs.2 0 7 rfl) ?_
              refine ea_iload (pc := 94) dX12_stopOf_94 2 rfl ?_
              have z7 := K
              refine ea_iald (pc := 96) dX12_stopOf_96 (hs.1 5 (by decide)).1 (hs.1 5 (by decide)).2.1 (ea_vpl (hs.1 5 (by decide)).2.2 z7) ?_
              refine ea_goto (pc := 97) (tgt := 124) dX12_stopOf_97 rfl ?_
              exact ea_iretE (pc := 124) dX12_stopOf_124 rfl rfl EX rfl
          · have EX := EX.trans (if_pos c10)
            have K := K.1 c10
            refine ea_aload_n (pc := 75) dX12_stopOf_75 rfl 0 rfl ?_
            refine ea_getR (pc := 76) dX12_stopOf_76 ec_12 (k := 6) (Nat.le_of_ble_eq_true rfl) rfl (Or.inl ew_1351) (hs.1 0 (by decide)).1 (hs.1 0 (by decide)).2.1 (hs.2 0 6 rfl) ?_
            refine ea_iload (pc := 79) dX12_stopOf_79 2 rfl ?_
            have z9 := K
            refine ea_iald (pc := 81) dX12_stopOf_81 (hs.1 4 (by decide)).1 (hs.1 4 (by decide)).2.1 (ea_vpl (hs.1 4 (by decide)).2.2 z9) ?_
            refine ea_goto (pc := 82) (tgt := 124) dX12_stopOf_82 rfl ?_
            exact ea_iretE (pc := 124) dX12_stopOf_124 rfl rfl EX rfl
        · have EX := EX.trans (if_pos c12)
          have K := K.1 c12
          refine ea_aload_n (pc := 60) dX12_stopOf_60 rfl 0 rfl ?_
          refine ea_getR (pc := 61) dX12_stopOf_61 ec_12 (k := 5) (Nat.le_of_ble_eq_true rfl) rfl (Or.inl ew_1350) (hs.1 0 (by decide)).1 (hs.1 0 (by decide)).2.1 (hs.2 0 5 rfl) ?_
          refine ea_iload (pc := 64) dX12_stopOf_64 2 rfl ?_
          have z11 := K
          refine ea_iald (pc := 66) dX12_stopOf_66 (hs.1 3 (by decide)).1 (hs.1 3 (by decide)).2.1 (ea_vpl (hs.1 3 (by decide)).2.2 z11) ?_
          refine ea_goto (pc := 67) (tgt := 124) dX12_stopOf_67 rfl ?_
          exact ea_iretE (pc := 124) dX12_stopOf_124 rfl rfl EX rfl
      · have EX := EX.trans (if_pos c13)
        refine ea_iconst (pc := 46) dX12_stopOf_46 (v := (-1)) rfl ?_
        exact ea_iretE (pc := 47) dX12_stopOf_47 rfl rfl EX rfl
    · have EX := EX.trans (if_pos c16)
      have K := K.1 c16
      refine ea_iload_n (pc := 15) dX12_stopOf_15 rfl 3 rfl ?_
      refine ea_if_ne (pc := 16) (tgt := 28) dX12_stopOf_16 rfl (fun c15 => ?_) (fun c15 => ?_)
      · have EX := EX.trans (if_neg c15)
        refine ea_iconst (pc := 28) dX12_stopOf_28 (v := (-1)) rfl ?_
        exact ea_iretE (pc := 29) dX12_stopOf_29 rfl rfl EX rfl
      · have EX := EX.trans (if_pos c15)
        have K := K.1 c15
        refine ea_aload_n (pc := 19) dX12_stopOf_19 rfl 0 rfl ?_
        refine ea_getR (pc := 20) dX12_stopOf_20 ec_12 (k := 4) (Nat.le_of_ble_eq_true rfl) rfl (Or.inl ew_1349) (hs.1 0 (by decide)).1 (hs.1 0 (by decide)).2.1 (hs.2 0 4 rfl) ?_
        refine ea_iload_n (pc := 23) dX12_stopOf_23 rfl 1 rfl ?_
        have z14 := K
        refine ea_iald (pc := 24) dX12_stopOf_24 (hs.1 2 (by decide)).1 (hs.1 2 (by decide)).2.1 (ea_vpl (hs.1 2 (by decide)).2.2 z14) ?_
        refine ea_goto (pc := 25) (tgt := 29) dX12_stopOf_25 rfl ?_
        exact ea_iretE (pc := 29) dX12_stopOf_29 rfl rfl EX rfl
  · have EX := EX.trans (if_pos c17)
    refine ea_iconst (pc := 8) dX12_stopOf_8 (v := (-1)) rfl ?_
    exact ea_iretE (pc := 9) dX12_stopOf_9 rfl rfl EX rfl
noncomputable def vX12_run (x0 : Int32) (x1 : Int32) (h : ea_H) : Int32 := (((7 : Int32) * x0) + x1)
theorem sX12_run {d : Nat} {x0 : Int32} {x1 : Int32} {h : ea_H} (hd : 1 ≤ d) : ea_Met mX12_run d [vI x0, vI x1] h (some (vI (vX12_run x0 x1 h))) h := by
  obtain ⟨X, EX⟩ : ∃ z, z = vX12_run x0 x1 h := ⟨_, rfl⟩
  rw [← EX]
  unfold vX12_run at EX
  refine ea_enter rfl (Nat.le_of_ble_eq_true rfl) ?_
  refine ea_bipush (pc := 0) dX12_run_0 (v := 7) rfl ?_
  refine ea_iload_n (pc := 2) dX12_run_2 rfl 0 rfl ?_
  refine ea_imul (pc := 3) dX12_run_3 ?_
  refine ea_iload_n (pc := 4) dX12_run_4 rfl 1 rfl ?_
  refine ea_iadd (pc := 5) dX12_run_5 ?_
  exact ea_iretE (pc := 6) dX12_run_6 rfl rfl EX rfl
noncomputable def vX12_comesAt (b0 : Nat) (x1 : Int32) (x2 : Int32) (h : ea_H) : Int32 := ((((1440 : Int32) * (x1 - x1 / (7 : Int32) * (7 : Int32))) + (ea_i h (b0 + 4) (Int32.toNatClampNeg (((8 : Int32) * (x1 / (7 : Int32))) + x2)))) + (ea_i h (b0 + 6) (Int32.toNatClampNeg x1)))
def okX12_comesAt (b0 : Nat) (x1 : Int32) (x2 : Int32) (h : ea_H) : Prop := vp_in (((8 : Int32) * (x1 / (7 : Int32))) + x2) 80 ∧ (vp_in x1 70)
theorem sX12_comesAt {d : Nat} {b0 : Nat} {x1 : Int32} {x2 : Int32} {h : ea_H} (hd : 1 ≤ d) (hs : ShM b0 h) (K : okX12_comesAt b0 x1 x2 h) : ea_Met mX12_comesAt d [vR (some (b0 + 0)), vI x1, vI x2] h (some (vI (vX12_comesAt b0 x1 x2 h))) h := by
  obtain ⟨X, EX⟩ : ∃ z, z = vX12_comesAt b0 x1 x2 h := ⟨_, rfl⟩
  rw [← EX]
  unfold vX12_comesAt at EX
  unfold okX12_comesAt at K
  refine ea_enter rfl (Nat.le_of_ble_eq_true rfl) ?_
  refine ea_sipush (pc := 0) dX12_comesAt_0 (v := 1440) rfl ?_
  refine ea_iload_n (pc := 3) dX12_comesAt_3 rfl 1 rfl ?_
  refine ea_bipush (pc := 4) dX12_comesAt_4 (v := 7) rfl ?_
  refine ea_irem (pc := 6) dX12_comesAt_6 (by decide) ?_
  refine ea_imul (pc := 7) dX12_comesAt_7 ?_
  refine ea_aload_n (pc := 8) dX12_comesAt_8 rfl 0 rfl ?_
  refine ea_getR (pc := 9) dX12_comesAt_9 ec_12 (k := 6) (Nat.le_of_ble_eq_true rfl) rfl (Or.inl ew_1351) (hs.1 0 (by decide)).1 (hs.1 0 (by decide)).2.1 (hs.2 0 6 rfl) ?_
  refine ea_bipush (pc := 12) dX12_comesAt_12 (v := 8) rfl ?_
  refine ea_iload_n (pc := 14) dX12_comesAt_14 rfl 1 rfl ?_
  refine ea_bipush (pc := 15) dX12_comesAt_15 (v := 7) rfl ?_
  refine ea_idiv (pc := 17) dX12_comesAt_17 (by decide) ?_
  refine ea_imul (pc := 18) dX12_comesAt_18 ?_
  refine ea_iload_n (pc := 19) dX12_comesAt_19 rfl 2 rfl ?_
  refine ea_iadd (pc := 20) dX12_comesAt_20 ?_
  obtain ⟨z1, K⟩ := K
  refine ea_iald (pc := 21) dX12_comesAt_21 (hs.1 4 (by decide)).1 (hs.1 4 (by decide)).2.1 (ea_vpl (hs.1 4 (by decide)).2.2 z1) ?_
  refine ea_iadd (pc := 22) dX12_comesAt_22 ?_
  refine ea_aload_n (pc := 23) dX12_comesAt_23 rfl 0 rfl ?_
  refine ea_getR (pc := 24) dX12_comesAt_24 ec_12 (k := 8) (Nat.le_of_ble_eq_true rfl) rfl (Or.inl ew_1353) (hs.1 0 (by decide)).1 (hs.1 0 (by decide)).2.1 (hs.2 0 8 rfl) ?_
  refine ea_iload_n (pc := 27) dX12_comesAt_27 rfl 1 rfl ?_
  have z2 := K
  refine ea_iald (pc := 28) dX12_comesAt_28 (hs.1 6 (by decide)).1 (hs.1 6 (by decide)).2.1 (ea_vpl (hs.1 6 (by decide)).2.2 z2) ?_
  refine ea_iadd (pc := 29) dX12_comesAt_29 ?_
  exact ea_iretE (pc := 30) dX12_comesAt_30 rfl rfl EX rfl
noncomputable def vX12_goesAt (b0 : Nat) (x1 : Int32) (x2 : Int32) (h : ea_H) : Int32 := ((((1440 : Int32) * (x1 - x1 / (7 : Int32) * (7 : Int32))) + (ea_i h (b0 + 5) (Int32.toNatClampNeg (((8 : Int32) * (x1 / (7 : Int32))) + x2)))) + (ea_i h (b0 + 6) (Int32.toNatClampNeg x1)))
def okX12_goesAt (b0 : Nat) (x1 : Int32) (x2 : Int32) (h : ea_H) : Prop := vp_in (((8 : Int32) * (x1 / (7 : Int32))) + x2) 80 ∧ (vp_in x1 70)
theorem sX12_goesAt {d : Nat} {b0 : Nat} {x1 : Int32} {x2 : Int32} {h : ea_H} (hd : 1 ≤ d) (hs : ShM b0 h) (K : okX12_goesAt b0 x1 x2 h) : ea_Met mX12_goesAt d [vR (some (b0 + 0)), vI x1, vI x2] h (some (vI (vX12_goesAt b0 x1 x2 h))) h := by
  obtain ⟨X, EX⟩ : ∃ z, z = vX12_goesAt b0 x1 x2 h := ⟨_, rfl⟩
  rw [← EX]
  unfold vX12_goesAt at EX
  unfold okX12_goesAt at K
  refine ea_enter rfl (Nat.le_of_ble_eq_true rfl) ?_
  refine ea_sipush (pc := 0) dX12_goesAt_0 (v := 1440) rfl ?_
  refine ea_iload_n (pc := 3) dX12_goesAt_3 rfl 1 rfl ?_
  refine ea_bipush (pc := 4) dX12_goesAt_4 (v := 7) rfl ?_
  refine ea_irem (pc := 6) dX12_goesAt_6 (by decide) ?_
  refine ea_imul (pc := 7) dX12_goesAt_7 ?_
  refine ea_aload_n (pc := 8) dX12_goesAt_8 rfl 0 rfl ?_
  refine ea_getR (pc := 9) dX12_goesAt_9 ec_12 (k := 7) (Nat.le_of_ble_eq_true rfl) rfl (Or.inl ew_1352) (hs.1 0 (by decide)).1 (hs.1 0 (by decide)).2.1 (hs.2 0 7 rfl) ?_
  refine ea_bipush (pc := 12) dX12_goesAt_12 (v := 8) rfl ?_
  refine ea_iload_n (pc := 14) dX12_goesAt_14 rfl 1 rfl ?_
  refine ea_bipush (pc := 15) dX12_goesAt_15 (v := 7) rfl ?_
  refine ea_idiv (pc := 17) dX12_goesAt_17 (by decide) ?_
  refine ea_imul (pc := 18) dX12_goesAt_18 ?_
  refine ea_iload_n (pc := 19) dX12_goesAt_19 rfl 2 rfl ?_
  refine ea_iadd (pc := 20) dX12_goesAt_20 ?_
  obtain ⟨z1, K⟩ := K
  refine ea_iald (pc := 21) dX12_goesAt_21 (hs.1 5 (by decide)).1 (hs.1 5 (by decide)).2.1 (ea_vpl (hs.1 5 (by decide)).2.2 z1) ?_
  refine ea_iadd (pc := 22) dX12_goesAt_22 ?_
  refine ea_aload_n (pc := 23) dX12_goesAt_23 rfl 0 rfl ?_
  refine ea_getR (pc := 24) dX12_goesAt_24 ec_12 (k := 8) (Nat.le_of_ble_eq_true rfl) rfl (Or.inl ew_1353) (hs.1 0 (by decide)).1 (hs.1 0 (by decide)).2.1 (hs.2 0 8 rfl) ?_
  refine ea_iload_n (pc := 27) dX12_goesAt_27 rfl 1 rfl ?_
  have z2 := K
  refine ea_iald (pc := 28) dX12_goesAt_28 (hs.1 6 (by decide)).1 (hs.1 6 (by decide)).2.1 (ea_vpl (hs.1 6 (by decide)).2.2 z2) ?_
  refine ea_iadd (pc := 29) dX12_goesAt_29 ?_
  exact ea_iretE (pc := 30) dX12_goesAt_30 rfl rfl EX rfl
noncomputable def vX12_canBeLate (b0 : Nat) (x1 : Int32) (x2 : Int32) (x3 : Int32) (h : ea_H) : Int32 := (if (vX12_isTrain b0 (x1 : Int32) h) = (0 : Int32) then (0 : Int32) else (if (vX12_isDay (x2 : Int32) h) = (0 : Int32) then (0 : Int32) else (if (vX12_isIn (x3 : Int32) (0 : Int32) (300 : Int32) h) = (0 : Int32) then (0 : Int32) else (if (ea_i h (b0 + 2) (Int32.toNatClampNeg x1)) ≤ (0 : Int32) then (0 : Int32) else (if (((1440 : Int32) * x2) + (ea_i h (b0 + 5) (Int32.toNatClampNeg ((8 : Int32) * x1)))) ≤ (ea_i h (b0 + 0) 0) then (0 : Int32) else (1 : Int32))))))
def okX12_canBeLate (b0 : Nat) (x1 : Int32) (x2 : Int32) (x3 : Int32) (h : ea_H) : Prop := ((vX12_isTrain b0 (x1 : Int32) h) = (0 : Int32) → True) ∧ (¬ (vX12_isTrain b0 (x1 : Int32) h) = (0 : Int32) → ((vX12_isDay (x2 : Int32) h) = (0 : Int32) → True) ∧ (¬ (vX12_isDay (x2 : Int32) h) = (0 : Int32) → ((vX12_isIn (x3 : Int32) (0 : Int32) (300 : Int32) h) = (0 : Int32) → True) ∧ (¬ (vX12_isIn (x3 : Int32) (0 : Int32) (300 : Int32) h) = (0 : Int32) → vp_in x1 10 ∧ (((ea_i h (b0 + 2) (Int32.toNatClampNeg x1)) ≤ (0 : Int32) → True) ∧ (¬ (ea_i h (b0 + 2) (Int32.toNatClampNeg x1)) ≤ (0 : Int32) → vp_in ((8 : Int32) * x1) 80)))))
theorem bo_vX12_canBeLate (b0 : Nat) (x1 : Int32) (x2 : Int32) (x3 : Int32) (h : ea_H) : vX12_canBeLate b0 x1 x2 x3 h = 0 ∨ vX12_canBeLate b0 x1 x2 x3 h = 1 := (ea_itB (Or.inl rfl) (ea_itB (Or.inl rfl) (ea_itB (Or.inl rfl) (ea_itB (Or.inl rfl) (ea_itB (Or.inl rfl) (Or.inr rfl))))))
theorem sX12_canBeLate {d : Nat} {b0 : Nat} {x1 : Int32} {x2 : Int32} {x3 : Int32} {h : ea_H} (hd : 3 ≤ d) (hs : ShM b0 h) (K : okX12_canBeLate b0 x1 x2 x3 h) : ea_Met mX12_canBeLate d [vR (some (b0 + 0)), vI x1, vI x2, vI x3] h (some (vI (vX12_canBeLate b0 x1 x2 x3 h))) h := by
  obtain ⟨X, EX⟩ : ∃ z, z = vX12_canBeLate b0 x1 x2 x3 h := ⟨_, rfl⟩
  rw [← EX]
  unfold vX12_canBeLate at EX
  unfold okX12_canBeLate at K
  refine ea_enter rfl (Nat.le_of_ble_eq_true rfl) ?_
  refine ea_aload_n (pc := 0) dX12_canBeLate_0 rfl 0 rfl ?_
  refine ea_iload_n (pc := 1) dX12_canBeLate_1 rfl 1 rfl ?_
  refine ea_callV (pc := 2) (d' := d - 1) (As := [vI x1]) (st := []) dX12_canBeLate_2 kX12_isTrain (sX12_isTrain (d := d - 1) (by omega) hs) (by omega) rfl (Nat.le_of_ble_eq_true rfl) ew_1736 ew_1738 ew_50 (ci := 12) rfl (by decide) (hs.1 0 (by decide)).1 (hs.1 0 (by decide)).2.1 ?_
  refine ea_if_eq (pc := 5) (tgt := 61) dX12_canBeLate_5 rfl (fun c10 => ?_) (fun c10 => ?_)
  · have EX := EX.trans (if_pos c10)
    refine ea_iconst (pc := 61) dX12_canBeLate_61 (v := 0) rfl ?_
    exact ea_iretE (pc := 62) dX12_canBeLate_62 rfl (ea_bn (Or.inl rfl)) EX rfl
  · have EX := EX.trans (if_neg c10)
    have K := K.2 c10
    refine ea_iload_n (pc := 8) dX12_canBeLate_8 rfl 2 rfl ?_
    refine ea_callS (pc := 9) (d' := d - 1) (As := [vI x2]) (st := []) dX12_canBeLate_9 kX12_isDay (sX12_isDay (d := d - 1) (by omega)) (by omega) rfl (Nat.le_of_ble_eq_true rfl) ew_1752 ew_1753 ?_
    refine ea_if_eq (pc := 12) (tgt := 61) dX12_canBeLate_12 rfl (fun c9 => ?_) (fun c9 => ?_)
    · have EX := EX.trans (if_pos c9)
      refine ea_iconst (pc := 61) dX12_canBeLate_61 (v := 0) rfl ?_
      exact ea_iretE (pc := 62) dX12_canBeLate_62 rfl (ea_bn (Or.inl rfl)) EX rfl
    · have EX := EX.trans (if_neg c9)
      have K := K.2 c9
      refine ea_iload_n (pc := 15) dX12_canBeLate_15 rfl 3 rfl ?_
      refine ea_iconst (pc := 16) dX12_canBeLate_16 (v := 0) rfl ?_
      refine ea_sipush (pc := 17) dX12_canBeLate_17 (v := 300) rfl ?_
      refine ea_callS (pc := 20) (d' := d - 1) (As := [vI x3, vI 0, vI 300]) (st := []) dX12_canBeLate_20 kX12_isIn (sX12_isIn (d := d - 1) (by omega)) (by omega) rfl (Nat.le_of_ble_eq_true rfl) ew_1712 ew_1713 ?_
      refine ea_if_eq (pc := 23) (tgt := 61) dX12_canBeLate_23 rfl (fun c8 => ?_) (fun c8 => ?_)
      · have EX := EX.trans (if_pos c8)
        refine ea_iconst (pc := 61) dX12_canBeLate_61 (v := 0) rfl ?_
        exact ea_iretE (pc := 62) dX12_canBeLate_62 rfl (ea_bn (Or.inl rfl)) EX rfl
      · have EX := EX.trans (if_neg c8)
        have K := K.2 c8
        refine ea_aload_n (pc := 26) dX12_canBeLate_26 rfl 0 rfl ?_
        refine ea_getR (pc := 27) dX12_canBeLate_27 ec_12 (k := 4) (Nat.le_of_ble_eq_true rfl) rfl (Or.inl ew_1349) (hs.1 0 (by decide)).1 (hs.1 0 (by decide)).2.1 (hs.2 0 4 rfl) ?_
        refine ea_iload_n (pc := 30) dX12_canBeLate_30 rfl 1 rfl ?_
        obtain ⟨z4, K⟩ := K
        refine ea_iald (pc := 31) dX12_canBeLate_31 (hs.1 2 (by decide)).1 (hs.1 2 (by decide)).2.1 (ea_vpl (hs.1 2 (by decide)).2.2 z4) ?_
        refine ea_if_le (pc := 32) (tgt := 61) dX12_canBeLate_32 rfl (fun c7 => ?_) (fun c7 => ?_)
        · have EX := EX.trans (if_pos c7)
          refine ea_iconst (pc := 61) dX12_canBeLate_61 (v := 0) rfl ?_
          exact ea_iretE (pc := 62) dX12_canBeLate_62 rfl (ea_bn (Or.inl rfl)) EX rfl
        · have EX := EX.trans (if_neg c7)
          have K := K.2 c7
          refine ea_sipush (pc := 35) dX12_canBeLate_35 (v := 1440) rfl ?_
          refine ea_iload_n (pc := 38) dX12_canBeLate_38 rfl 2 rfl ?_
          refine ea_imul (pc := 39) dX12_canBeLate_39 ?_
          refine ea_aload_n (pc := 40) dX12_canBeLate_40 rfl 0 rfl ?_
          refine ea_getR (pc := 41) dX12_canBeLate_41 ec_12 (k := 7) (Nat.le_of_ble_eq_true rfl) rfl (Or.inl ew_1352) (hs.1 0 (by decide)).1 (hs.1 0 (by decide)).2.1 (hs.2 0 7 rfl) ?_
          refine ea_bipush (pc := 44) dX12_canBeLate_44 (v := 8) rfl ?_
          refine ea_iload_n (pc := 46) dX12_canBeLate_46 rfl 1 rfl ?_
          refine ea_imul (pc := 47) dX12_canBeLate_47 ?_
          have z5 := K
          refine ea_iald (pc := 48) dX12_canBeLate_48 (hs.1 5 (by decide)).1 (hs.1 5 (by decide)).2.1 (ea_vpl (hs.1 5 (by decide)).2.2 z5) ?_
          refine ea_iadd (pc := 49) dX12_canBeLate_49 ?_
          refine ea_aload_n (pc := 50) dX12_canBeLate_50 rfl 0 rfl ?_
          refine ea_getI (pc := 51) dX12_canBeLate_51 ec_12 (k := 0) (Nat.le_of_ble_eq_true rfl) rfl (Or.inl ew_1345) (hs.1 0 (by decide)).1 (hs.1 0 (by decide)).2.1 ?_
          refine ea_icmp_le (pc := 54) (tgt := 61) dX12_canBeLate_54 rfl (fun c6 => ?_) (fun c6 => ?_)
          · have EX := EX.trans (if_pos c6)
            refine ea_iconst (pc := 61) dX12_canBeLate_61 (v := 0) rfl ?_
            exact ea_iretE (pc := 62) dX12_canBeLate_62 rfl (ea_bn (Or.inl rfl)) EX rfl
          · have EX := EX.trans (if_neg c6)
            refine ea_iconst (pc := 57) dX12_canBeLate_57 (v := 1) rfl ?_
            refine ea_goto (pc := 58) (tgt := 62) dX12_canBeLate_58 rfl ?_
            exact ea_iretE (pc := 62) dX12_canBeLate_62 rfl (ea_bn (Or.inr rfl)) EX rfl
noncomputable def vX12_late (b0 : Nat) (x1 : Int32) (x2 : Int32) (x3 : Int32) (h : ea_H) : Int32 := (if (vX12_canBeLate b0 (x1 : Int32) (x2 : Int32) (x3 : Int32) h) = (0 : Int32) then (0 : Int32) else (1 : Int32))
noncomputable def wX12_late (b0 : Nat) (x1 : Int32) (x2 : Int32) (x3 : Int32) (h : ea_H) : ea_H := (if (vX12_canBeLate b0 (x1 : Int32) (x2 : Int32) (x3 : Int32) h) = (0 : Int32) then h else (ea_wi (ea_wi h (b0 + 6) (Int32.toNatClampNeg (vX12_run (x1 : Int32) (x2 : Int32) h)) x3) (b0 + 0) 12 0))
def okX12_late (b0 : Nat) (x1 : Int32) (x2 : Int32) (x3 : Int32) (h : ea_H) : Prop := (okX12_canBeLate b0 (x1 : Int32) (x2 : Int32) (x3 : Int32) h) ∧ (((vX12_canBeLate b0 (x1 : Int32) (x2 : Int32) (x3 : Int32) h) = (0 : Int32) → True) ∧ (¬ (vX12_canBeLate b0 (x1 : Int32) (x2 : Int32) (x3 : Int32) h) = (0 : Int32) → vp_in (vX12_run (x1 : Int32) (x2 : Int32) h) 70))
theorem bo_vX12_late (b0 : Nat) (x1 : Int32) (x2 : Int32) (x3 : Int32) (h : ea_H) : vX12_late b0 x1 x2 x3 h = 0 ∨ vX12_late b0 x1 x2 x3 h = 1 := (ea_itB (Or.inl rfl) (Or.inr rfl))
theorem shX12_late {b0 : Nat} {x1 : Int32} {x2 : Int32} {x3 : Int32} {h : ea_H} (hs : ShM b0 h) : ShM b0 (wX12_late b0 x1 x2 x3 h) := (ShM_it hs (ShM_wi (ShM_wi hs)))
theorem sX12_late {d : Nat} {b0 : Nat} {x1 : Int32} {x2 : Int32} {x3 : Int32} {h : ea_H} (hd : 4 ≤ d) (hs : ShM b0 h) (K : okX12_late b0 x1 x2 x3 h) : ea_Met mX12_late d [vR (some (b0 + 0)), vI x1, vI x2, vI x3] h (some (vI (vX12_late b0 x1 x2 x3 h))) (wX12_late b0 x1 x2 x3 h) := by
  obtain ⟨X, EX⟩ : ∃ z, z = vX12_late b0 x1 x2 x3 h := ⟨_, rfl⟩
  rw [← EX]
  unfold vX12_late at EX
  obtain ⟨Y, EY⟩ : ∃ z, z = wX12_late b0 x1 x2 x3 h := ⟨_, rfl⟩
  rw [← EY]
  unfold wX12_late at EY
  unfold okX12_late at K
  refine ea_enter rfl (Nat.le_of_ble_eq_true rfl) ?_
  refine ea_aload_n (pc := 0) dX12_late_0 rfl 0 rfl ?_
  refine ea_iload_n (pc := 1) dX12_late_1 rfl 1 rfl ?_
  refine ea_iload_n (pc := 2) dX12_late_2 rfl 2 rfl ?_
  refine ea_iload_n (pc := 3) dX12_late_3 rfl 3 rfl ?_
  obtain ⟨z1, K⟩ := K
  refine ea_callV (pc := 4) (d' := d - 1) (As := [vI x1, vI x2, vI x3]) (st := []) dX12_late_4 kX12_canBeLate (sX12_canBeLate (d := d - 1) (by omega) hs z1) (by omega) rfl (Nat.le_of_ble_eq_true rfl) ew_1748 ew_1750 ew_51 (ci := 12) rfl (by decide) (hs.1 0 (by decide)).1 (hs.1 0 (by decide)).2.1 ?_
  refine ea_if_ne (pc := 7) (tgt := 12) dX12_late_7 rfl (fun c6 => ?_) (fun c6 => ?_)
  · have EX := EX.trans (if_neg c6)
    have EY := EY.trans (if_neg c6)
    have K := K.2 c6
    refine ea_aload_n (pc := 12) dX12_late_12 rfl 0 rfl ?_
    refine ea_getR (pc := 13) dX12_late_13 ec_12 (k := 8) (Nat.le_of_ble_eq_true rfl) rfl (Or.inl ew_1353) (hs.1 0 (by decide)).1 (hs.1 0 (by decide)).2.1 (hs.2 0 8 rfl) ?_
    refine ea_iload_n (pc := 16) dX12_late_16 rfl 1 rfl ?_
    refine ea_iload_n (pc := 17) dX12_late_17 rfl 2 rfl ?_
    refine ea_callS (pc := 18) (d' := d - 1) (As := [vI x1, vI x2]) (st := [vR (some (b0 + 6))]) dX12_late_18 kX12_run (sX12_run (d := d - 1) (by omega)) (by omega) rfl (Nat.le_of_ble_eq_true rfl) ew_1755 ew_1756 ?_
    refine ea_iload_n (pc := 21) dX12_late_21 rfl 3 rfl ?_
    have z3 := K
    refine ea_iast (pc := 22) dX12_late_22 (hs.1 6 (by decide)).1 (hs.1 6 (by decide)).2.1 (ea_vpl (hs.1 6 (by decide)).2.2 z3) ?_
    have hs4 : ShM b0 (ea_wi h (b0 + 6) (Int32.toNatClampNeg (vX12_run (x1 : Int32) (x2 : Int32) h)) x3) := ShM_wi hs
    refine ea_aload_n (pc := 23) dX12_late_23 rfl 0 rfl ?_
    refine ea_iconst (pc := 24) dX12_late_24 (v := 0) rfl ?_
    refine ea_putI (pc := 25) dX12_late_25 ec_12 (k := 12) (Nat.le_of_ble_eq_true rfl) rfl (Or.inl ⟨rfl, Or.inl ew_1357⟩) (ea_bn (Or.inl rfl)) (ea_bf (Or.inl rfl)) (hs4.1 0 (by decide)).1 (hs4.1 0 (by decide)).2.1 ?_
    have hs5 : ShM b0 (ea_wi (ea_wi h (b0 + 6) (Int32.toNatClampNeg (vX12_run (x1 : Int32) (x2 : Int32) h)) x3) (b0 + 0) 12 0) := ShM_wi hs4
    refine ea_iconst (pc := 28) dX12_late_28 (v := 1) rfl ?_
    exact ea_iretE (pc := 29) dX12_late_29 rfl (ea_bn (Or.inr rfl)) EX EY
  · have EX := EX.trans (if_pos c6)
    have EY := EY.trans (if_pos c6)
    refine ea_iconst (pc := 10) dX12_late_10 (v := 0) rfl ?_
    exact ea_iretE (pc := 11) dX12_late_11 rfl (ea_bn (Or.inl rfl)) EX EY
noncomputable def vX12_miss (b0 : Nat) (x1 : Int32) (x2 : Int32) (x3 : Int32) (h : ea_H) : Int32 := (if (vX12_isTrain b0 (x1 : Int32) h) = (0 : Int32) then (0 : Int32) else (if (vX12_isDay (x2 : Int32) h) = (0 : Int32) then (0 : Int32) else (if (vX12_isIn (x3 : Int32) (0 : Int32) (((ea_i h (b0 + 2) (Int32.toNatClampNeg x1)) - (2 : Int32)) : Int32) h) = (0 : Int32) then (0 : Int32) else (if (ea_i h (b0 + 7) (Int32.toNatClampNeg (((8 : Int32) * x1) + x3))) = (0 : Int32) then (0 : Int32) else (if (ea_i h (b0 + 8) (Int32.toNatClampNeg (((8 : Int32) * (vX12_run (x1 : Int32) (x2 : Int32) h)) + x3))) = (0 : Int32) then (if (ea_i h (b0 + 0) 0) < (vX12_comesAt b0 ((vX12_run (x1 : Int32) (x2 : Int32) h) : Int32) (x3 : Int32) h) then (1 : Int32) else (0 : Int32)) else (0 : Int32))))))
noncomputable def wX12_miss (b0 : Nat) (x1 : Int32) (x2 : Int32) (x3 : Int32) (h : ea_H) : ea_H := (if (vX12_isTrain b0 (x1 : Int32) h) = (0 : Int32) then h else (if (vX12_isDay (x2 : Int32) h) = (0 : Int32) then h else (if (vX12_isIn (x3 : Int32) (0 : Int32) (((ea_i h (b0 + 2) (Int32.toNatClampNeg x1)) - (2 : Int32)) : Int32) h) = (0 : Int32) then h else (if (ea_i h (b0 + 7) (Int32.toNatClampNeg (((8 : Int32) * x1) + x3))) = (0 : Int32) then h else (if (ea_i h (b0 + 8) (Int32.toNatClampNeg (((8 : Int32) * (vX12_run (x1 : Int32) (x2 : Int32) h)) + x3))) = (0 : Int32) then (if (ea_i h (b0 + 0) 0) < (vX12_comesAt b0 ((vX12_run (x1 : Int32) (x2 : Int32) h) : Int32) (x3 : Int32) h) then (ea_wi h (b0 + 8) (Int32.toNatClampNeg (((8 : Int32) * (vX12_run (x1 : Int32) (x2 : Int32) h)) + x3)) 1) else h) else h)))))
def okX12_miss (b0 : Nat) (x1 : Int32) (x2 : Int32) (x3 : Int32) (h : ea_H) : Prop := ((vX12_isTrain b0 (x1 : Int32) h) = (0 : Int32) → True) ∧ (¬ (vX12_isTrain b0 (x1 : Int32) h) = (0 : Int32) → ((vX12_isDay (x2 : Int32) h) = (0 : Int32) → True) ∧ (¬ (vX12_isDay (x2 : Int32) h) = (0 : Int32) → vp_in x1 10 ∧ (((vX12_isIn (x3 : Int32) (0 : Int32) (((ea_i h (b0 + 2) (Int32.toNatClampNeg x1)) - (2 : Int32)) : Int32) h) = (0 : Int32) → True) ∧ (¬ (vX12_isIn (x3 : Int32) (0 : Int32) (((ea_i h (b0 + 2) (Int32.toNatClampNeg x1)) - (2 : Int32)) : Int32) h) = (0 : Int32) → vp_in (((8 : Int32) * x1) + x3) 80 ∧ (((ea_i h (b0 + 7) (Int32.toNatClampNeg (((8 : Int32) * x1) + x3))) = (0 : Int32) → True) ∧ (¬ (ea_i h (b0 + 7) (Int32.toNatClampNeg (((8 : Int32) * x1) + x3))) = (0 : Int32) → vp_in (((8 : Int32) * (vX12_run (x1 : Int32) (x2 : Int32) h)) + x3) 560 ∧ (((ea_i h (b0 + 8) (Int32.toNatClampNeg (((8 : Int32) * (vX12_run (x1 : Int32) (x2 : Int32) h)) + x3))) = (0 : Int32) → (okX12_comesAt b0 ((vX12_run (x1 : Int32) (x2 : Int32) h) : Int32) (x3 : Int32) h) ∧ (((ea_i h (b0 + 0) 0) < (vX12_comesAt b0 ((vX12_run (x1 : Int32) (x2 : Int32) h) : Int32) (x3 : Int32) h) → vp_in (((8 : Int32) * (vX12_run (x1 : Int32) (x2 : Int32) h)) + x3) 560) ∧ (¬ (ea_i h (b0 + 0) 0) < (vX12_comesAt b0 ((vX12_run (x1 : Int32) (x2 : Int32) h) : Int32) (x3 : Int32) h) → True))) ∧ (¬ (ea_i h (b0 + 8) (Int32.toNatClampNeg (((8 : Int32) * (vX12_run (x1 : Int32) (x2 : Int32) h)) + x3))) = (0 : Int32) → True))))))))
theorem bo_vX12_miss (b0 : Nat) (x1 : Int32) (x2 : Int32) (x3 : Int32) (h : ea_H) : vX12_miss b0 x1 x2 x3 h = 0 ∨ vX12_miss b0 x1 x2 x3 h = 1 := (ea_itB (Or.inl rfl) (ea_itB (Or.inl rfl) (ea_itB (Or.inl rfl) (ea_itB (Or.inl rfl) (ea_itB (ea_itB (Or.inr rfl) (Or.inl rfl)) (Or.inl rfl))))))
theorem shX12_miss {b0 : Nat} {x1 : Int32} {x2 : Int32} {x3 : Int32} {h : ea_H} (hs : ShM b0 h) : ShM b0 (wX12_miss b0 x1 x2 x3 h) := (ShM_it hs (ShM_it hs (ShM_it hs (ShM_it hs (ShM_it (ShM_it (ShM_wi hs) hs) hs)))))
theorem sX12_miss {d : Nat} {b0 : Nat} {x1 : Int32} {x2 : Int32} {x3 : Int32} {h : ea_H} (hd : 3 ≤ d) (hs : ShM b0 h) (K : okX12_miss b0 x1 x2 x3 h) : ea_Met mX12_miss d [vR (some (b0 + 0)), vI x1, vI x2, vI x3] h (some (vI (vX12_miss b0 x1 x2 x3 h))) (wX12_miss b0 x1 x2 x3 h) := by
  obtain ⟨X, EX⟩ : ∃ z, z = vX12_miss b0 x1 x2 x3 h := ⟨_, rfl⟩
  rw [← EX]
  unfold vX12_miss at EX
  obtain ⟨Y, EY⟩ : ∃ z, z = wX12_miss b0 x1 x2 x3 h := ⟨_, rfl⟩
  rw [← EY]
  unfold wX12_miss at EY
  unfold okX12_miss at K
  refine ea_enter rfl (Nat.le_of_ble_eq_true rfl) ?_
  refine ea_aload_n (pc := 0) dX12_miss_0 rfl 0 rfl ?_
  refine ea_iload_n (pc := 1) dX12_miss_1 rfl 1 rfl ?_
  refine ea_callV (pc := 2) (d' := d - 1) (As := [vI x1]) (st := []) dX12_miss_2 kX12_isTrain (sX12_isTrain (d := d - 1) (by omega) hs) (by omega) rfl (Nat.le_of_ble_eq_true rfl) ew_1736 ew_1738 ew_50 (ci := 12) rfl (by decide) (hs.1 0 (by decide)).1 (hs.1 0 (by decide)).2.1 ?_
  refine ea_if_eq (pc := 5) (tgt := 80) dX12_miss_5 rfl (fun c18 => ?_) (fun c18 => ?_)
  · have EX := EX.trans (if_pos c18)
    have EY := EY.trans (if_pos c18)
    refine ea_iconst (pc := 80) dX12_miss_80 (v := 0) rfl ?_
    exact ea_iretE (pc := 81) dX12_miss_81 rfl (ea_bn (Or.inl rfl)) EX EY
  · have EX := EX.trans (if_neg c18)
    have EY := EY.trans (if_neg c18)
    have K := K.2 c18
    refine ea_iload_n (pc := 8) dX12_miss_8 rfl 2 rfl ?_
    refine ea_callS (pc := 9) (d' := d - 1) (As := [vI x2]) (st := []) dX12_miss_9 kX12_isDay (sX12_isDay (d := d - 1) (by omega)) (by omega) rfl (Nat.le_of_ble_eq_true rfl) ew_1752 ew_1753 ?_
    refine ea_if_eq (pc := 12) (tgt := 80) dX12_miss_12 rfl (fun c17 => ?_) (fun c17 => ?_)
    · have EX := EX.trans (if_pos c17)
      have EY := EY.trans (if_pos c17)
      refine ea_iconst (pc := 80) dX12_miss_80 (v := 0) rfl ?_
      exact ea_iretE (pc := 81) dX12_miss_81 rfl (ea_bn (Or.inl rfl)) EX EY
    · have EX := EX.trans (if_neg c17)
      have EY := EY.trans (if_neg c17)
      have K := K.2 c17
      refine ea_iload_n (pc := 15) dX12_miss_15 rfl 3 rfl ?_
      refine ea_iconst (pc := 16) dX12_miss_16 (v := 0) rfl ?_
      refine ea_aload_n (pc := 17) dX12_miss_17 rfl 0 rfl ?_
      refine ea_getR (pc := 18) dX12_miss_18 ec_12 (k := 4) (Nat.le_of_ble_eq_true rfl) rfl (Or.inl ew_1349) (hs.1 0 (by decide)).1 (hs.1 0 (by decide)).2.1 (hs.2 0 4 rfl) ?_
      refine ea_iload_n (pc := 21) dX12_miss_21 rfl 1 rfl ?_
      obtain ⟨z3, K⟩ := K
      refine ea_iald (pc := 22) dX12_miss_22 (hs.1 2 (by decide)).1 (hs.1 2 (by decide)).2.1 (ea_vpl (hs.1 2 (by decide)).2.2 z3) ?_
      refine ea_iconst (pc := 23) dX12_miss_23 (v := 2) rfl ?_
      refine ea_isub (pc := 24) dX12_miss_24 ?_
      refine ea_callS (pc := 25) (d' := d - 1) (As := [vI x3, vI 0, vI ((ea_i h (b0 + 2) (Int32.toNatClampNeg x1)) - (2 : Int32))]) (st := []) dX12_miss_25 kX12_isIn (sX12_isIn (d := d - 1) (by omega)) (by omega) rfl (Nat.le_of_ble_eq_true rfl) ew_1712 ew_1713 ?_
      refine ea_if_eq (pc := 28) (tgt := 80) dX12_miss_28 rfl (fun c16 => ?_) (fun c16 => ?_)
      · have EX := EX.trans (if_pos c16)
        have EY := EY.trans (if_pos c16)
        refine ea_iconst (pc := 80) dX12_miss_80 (v := 0) rfl ?_
        exact ea_iretE (pc := 81) dX12_miss_81 rfl (ea_bn (Or.inl rfl)) EX EY
      · have EX := EX.trans (if_neg c16)
        have EY := EY.trans (if_neg c16)
        have K := K.2 c16
        refine ea_aload_n (pc := 31) dX12_miss_31 rfl 0 rfl ?_
        refine ea_getR (pc := 32) dX12_miss_32 ec_12 (k := 9) (Nat.le_of_ble_eq_true rfl) rfl (Or.inl ew_1354) (hs.1 0 (by decide)).1 (hs.1 0 (by decide)).2.1 (hs.2 0 9 rfl) ?_
        refine ea_bipush (pc := 35) dX12_miss_35 (v := 8) rfl ?_
        refine ea_iload_n (pc := 37) dX12_miss_37 rfl 1 rfl ?_
        refine ea_imul (pc := 38) dX12_miss_38 ?_
        refine ea_iload_n (pc := 39) dX12_miss_39 rfl 3 rfl ?_
        refine ea_iadd (pc := 40) dX12_miss_40 ?_
        obtain ⟨z5, K⟩ := K
        refine ea_zald (pc := 41) dX12_miss_41 (hs.1 7 (by decide)).1 (hs.1 7 (by decide)).2.1 (ea_vpl (hs.1 7 (by decide)).2.2 z5) ?_
        refine ea_if_eq (pc := 42) (tgt := 80) dX12_miss_42 rfl (fun c15 => ?_) (fun c15 => ?_)
        · have EX := EX.trans (if_pos c15)
          have EY := EY.trans (if_pos c15)
          refine ea_iconst (pc := 80) dX12_miss_80 (v := 0) rfl ?_
          exact ea_iretE (pc := 81) dX12_miss_81 rfl (ea_bn (Or.inl rfl)) EX EY
        · have EX := EX.trans (if_neg c15)
          have EY := EY.trans (if_neg c15)
          have K := K.2 c15
          refine ea_aload_n (pc := 45) dX12_miss_45 rfl 0 rfl ?_
          refine ea_getR (pc := 46) dX12_miss_46 ec_12 (k := 10) (Nat.le_of_ble_eq_true rfl) rfl (Or.inl ew_1355) (hs.1 0 (by decide)).1 (hs.1 0 (by decide)).2.1 (hs.2 0 10 rfl) ?_
          refine ea_bipush (pc := 49) dX12_miss_49 (v := 8) rfl ?_
          refine ea_iload_n (pc := 51) dX12_miss_51 rfl 1 rfl ?_
          refine ea_iload_n (pc := 52) dX12_miss_52 rfl 2 rfl ?_
          refine ea_callS (pc := 53) (d' := d - 1) (As := [vI x1, vI x2]) (st := [vI 8, vR (some (b0 + 8))]) dX12_miss_53 kX12_run (sX12_run (d := d - 1) (by omega)) (by omega) rfl (Nat.le_of_ble_eq_true rfl) ew_1755 ew_1756 ?_
          refine ea_imul (pc := 56) dX12_miss_56 ?_
          refine ea_iload_n (pc := 57) dX12_miss_57 rfl 3 rfl ?_
          refine ea_iadd (pc := 58) dX12_miss_58 ?_
          obtain ⟨z7, K⟩ := K
          refine ea_zald (pc := 59) dX12_miss_59 (hs.1 8 (by decide)).1 (hs.1 8 (by decide)).2.1 (ea_vpl (hs.1 8 (by decide)).2.2 z7) ?_
          refine ea_if_ne (pc := 60) (tgt := 80) dX12_miss_60 rfl (fun c14 => ?_) (fun c14 => ?_)
          · have EX := EX.trans (if_neg c14)
            have EY := EY.trans (if_neg c14)
            refine ea_iconst (pc := 80) dX12_miss_80 (v := 0) rfl ?_
            exact ea_iretE (pc := 81) dX12_miss_81 rfl (ea_bn (Or.inl rfl)) EX EY
          · have EX := EX.trans (if_pos c14)
            have EY := EY.trans (if_pos c14)
            have K := K.1 c14
            refine ea_aload_n (pc := 63) dX12_miss_63 rfl 0 rfl ?_
            refine ea_iload_n (pc := 64) dX12_miss_64 rfl 1 rfl ?_
            refine ea_iload_n (pc := 65) dX12_miss_65 rfl 2 rfl ?_
            refine ea_callS (pc := 66) (d' := d - 1) (As := [vI x1, vI x2]) (st := [vR (some (b0 + 0))]) dX12_miss_66 kX12_run (sX12_run (d := d - 1) (by omega)) (by omega) rfl (Nat.le_of_ble_eq_true rfl) ew_1755 ew_1756 ?_
            refine ea_iload_n (pc := 69) dX12_miss_69 rfl 3 rfl ?_
            obtain ⟨z9, K⟩ := K
            refine ea_callV (pc := 70) (d' := d - 1) (As := [vI (vX12_run (x1 : Int32) (x2 : Int32) h), vI x3]) (st := []) dX12_miss_70 kX12_comesAt (sX12_comesAt (d := d - 1) (by omega) hs z9) (by omega) rfl (Nat.le_of_ble_eq_true rfl) ew_1762 ew_1764 ew_52 (ci := 12) rfl (by decide) (hs.1 0 (by decide)).1 (hs.1 0 (by decide)).2.1 ?_
            refine ea_aload_n (pc := 73) dX12_miss_73 rfl 0 rfl ?_
            refine ea_getI (pc := 74) dX12_miss_74 ec_12 (k := 0) (Nat.le_of_ble_eq_true rfl) rfl (Or.inl ew_1345) (hs.1 0 (by decide)).1 (hs.1 0 (by decide)).2.1 ?_
            refine ea_icmp_gt (pc := 77) (tgt := 82) dX12_miss_77 rfl (fun c13 => ?_) (fun c13 => ?_)
            · have EX := EX.trans (if_pos c13)
              have EY := EY.trans (if_pos c13)
              have K := K.1 c13
              refine ea_aload_n (pc := 82) dX12_miss_82 rfl 0 rfl ?_
              refine ea_getR (pc := 83) dX12_miss_83 ec_12 (k := 10) (Nat.le_of_ble_eq_true rfl) rfl (Or.inl ew_1355) (hs.1 0 (by decide)).1 (hs.1 0 (by decide)).2.1 (hs.2 0 10 rfl) ?_
              refine ea_bipush (pc := 86) dX12_miss_86 (v := 8) rfl ?_
              refine ea_iload_n (pc := 88) dX12_miss_88 rfl 1 rfl ?_
              refine ea_iload_n (pc := 89) dX12_miss_89 rfl 2 rfl ?_
              refine ea_callS (pc := 90) (d' := d - 1) (As := [vI x1, vI x2]) (st := [vI 8, vR (some (b0 + 8))]) dX12_miss_90 kX12_run (sX12_run (d := d - 1) (by omega)) (by omega) rfl (Nat.le_of_ble_eq_true rfl) ew_1755 ew_1756 ?_
              refine ea_imul (pc := 93) dX12_miss_93 ?_
              refine ea_iload_n (pc := 94) dX12_miss_94 rfl 3 rfl ?_
              refine ea_iadd (pc := 95) dX12_miss_95 ?_
              refine ea_iconst (pc := 96) dX12_miss_96 (v := 1) rfl ?_
              have z11 := K
              refine ea_zast (pc := 97) dX12_miss_97 (y := 1) (ea_bn (Or.inr rfl)) (hs.1 8 (by decide)).1 (hs.1 8 (by decide)).2.1 (ea_vpl (hs.1 8 (by decide)).2.2 z11) ?_
              have hs12 : ShM b0 (ea_wi h (b0 + 8) (Int32.toNatClampNeg (((8 : Int32) * (vX12_run (x1 : Int32) (x2 : Int32) h)) + x3)) 1) := ShM_wi hs
              refine ea_iconst (pc := 98) dX12_miss_98 (v := 1) rfl ?_
              exact ea_iretE (pc := 99) dX12_miss_99 rfl (ea_bn (Or.inr rfl)) EX EY
            · have EX := EX.trans (if_neg c13)
              have EY := EY.trans (if_neg c13)
              refine ea_iconst (pc := 80) dX12_miss_80 (v := 0) rfl ?_
              exact ea_iretE (pc := 81) dX12_miss_81 rfl (ea_bn (Or.inl rfl)) EX EY
noncomputable def vX12_minuteOf (b0 : Nat) (x1 : Int32) (x2 : Int32) (h : ea_H) : Int32 := (if (x2 - x2 / (2 : Int32) * (2 : Int32)) = (0 : Int32) then (vX12_goesAt b0 (x1 : Int32) ((x2 / (2 : Int32)) : Int32) h) else (vX12_comesAt b0 (x1 : Int32) (((x2 / (2 : Int32)) + (1 : Int32)) : Int32) h))
def okX12_minuteOf (b0 : Nat) (x1 : Int32) (x2 : Int32) (h : ea_H) : Prop := ((x2 - x2 / (2 : Int32) * (2 : Int32)) = (0 : Int32) → (okX12_goesAt b0 (x1 : Int32) ((x2 / (2 : Int32)) : Int32) h)) ∧ (¬ (x2 - x2 / (2 : Int32) * (2 : Int32)) = (0 : Int32) → (okX12_comesAt b0 (x1 : Int32) (((x2 / (2 : Int32)) + (1 : Int32)) : Int32) h))
theorem sX12_minuteOf {d : Nat} {b0 : Nat} {x1 : Int32} {x2 : Int32} {h : ea_H} (hd : 2 ≤ d) (hs : ShM b0 h) (K : okX12_minuteOf b0 x1 x2 h) : ea_Met mX12_minuteOf d [vR (some (b0 + 0)), vI x1, vI x2] h (some (vI (vX12_minuteOf b0 x1 x2 h))) h := by
  obtain ⟨X, EX⟩ : ∃ z, z = vX12_minuteOf b0 x1 x2 h := ⟨_, rfl⟩
  rw [← EX]
  unfold vX12_minuteOf at EX
  unfold okX12_minuteOf at K
  refine ea_enter rfl (Nat.le_of_ble_eq_true rfl) ?_
  refine ea_iload_n (pc := 0) dX12_minuteOf_0 rfl 2 rfl ?_
  refine ea_iconst (pc := 1) dX12_minuteOf_1 (v := 2) rfl ?_
  refine ea_irem (pc := 2) dX12_minuteOf_2 (by decide) ?_
  refine ea_if_ne (pc := 3) (tgt := 17) dX12_minuteOf_3 rfl (fun c3 => ?_) (fun c3 => ?_)
  · have EX := EX.trans (if_neg c3)
    have K := K.2 c3
    refine ea_aload_n (pc := 17) dX12_minuteOf_17 rfl 0 rfl ?_
    refine ea_iload_n (pc := 18) dX12_minuteOf_18 rfl 1 rfl ?_
    refine ea_iload_n (pc := 19) dX12_minuteOf_19 rfl 2 rfl ?_
    refine ea_iconst (pc := 20) dX12_minuteOf_20 (v := 2) rfl ?_
    refine ea_idiv (pc := 21) dX12_minuteOf_21 (by decide) ?_
    refine ea_iconst (pc := 22) dX12_minuteOf_22 (v := 1) rfl ?_
    refine ea_iadd (pc := 23) dX12_minuteOf_23 ?_
    have z1 := K
    refine ea_callV (pc := 24) (d' := d - 1) (As := [vI x1, vI ((x2 / (2 : Int32)) + (1 : Int32))]) (st := []) dX12_minuteOf_24 kX12_comesAt (sX12_comesAt (d := d - 1) (by omega) hs z1) (by omega) rfl (Nat.le_of_ble_eq_true rfl) ew_1762 ew_1764 ew_52 (ci := 12) rfl (by decide) (hs.1 0 (by decide)).1 (hs.1 0 (by decide)).2.1 ?_
    exact ea_iretE (pc := 27) dX12_minuteOf_27 rfl rfl EX rfl
  · have EX := EX.trans (if_pos c3)
    have K := K.1 c3
    refine ea_aload_n (pc := 6) dX12_minuteOf_6 rfl 0 rfl ?_
    refine ea_iload_n (pc := 7) dX12_minuteOf_7 rfl 1 rfl ?_
    refine ea_iload_n (pc := 8) dX12_minuteOf_8 rfl 2 rfl ?_
    refine ea_iconst (pc := 9) dX12_minuteOf_9 (v := 2) rfl ?_
    refine ea_idiv (pc := 10) dX12_minuteOf_10 (by decide) ?_
    have z2 := K
    refine ea_callV (pc := 11) (d' := d - 1) (As := [vI x1, vI (x2 / (2 : Int32))]) (st := []) dX12_minuteOf_11 kX12_goesAt (sX12_goesAt (d := d - 1) (by omega) hs z2) (by omega) rfl (Nat.le_of_ble_eq_true rfl) ew_1786 ew_1788 ew_57 (ci := 12) rfl (by decide) (hs.1 0 (by decide)).1 (hs.1 0 (by decide)).2.1 ?_
    refine ea_goto (pc := 14) (tgt := 27) dX12_minuteOf_14 rfl ?_
    exact ea_iretE (pc := 27) dX12_minuteOf_27 rfl rfl EX rfl
noncomputable def vX12_isAheadOf (b0 : Nat) (x1 : Int32) (x2 : Int32) (h : ea_H) : Int32 := (if ((ea_i h (b0 + 14) (Int32.toNatClampNeg x1)) - (ea_i h (b0 + 14) (Int32.toNatClampNeg x1)) / (2 : Int32) * (2 : Int32)) = (0 : Int32) then (if ((ea_i h (b0 + 14) (Int32.toNatClampNeg x2)) - (ea_i h (b0 + 14) (Int32.toNatClampNeg x2)) / (2 : Int32) * (2 : Int32)) = (0 : Int32) then (if (((2 : Int32) * (vX12_minuteOf b0 (x1 : Int32) ((ea_i h (b0 + 14) (Int32.toNatClampNeg x1)) : Int32) h)) + (1 : Int32)) < (((2 : Int32) * (vX12_minuteOf b0 (x2 : Int32) ((ea_i h (b0 + 14) (Int32.toNatClampNeg x2)) : Int32) h)) + (1 : Int32)) then (1 : Int32) else (if (((2 : Int32) * (vX12_minuteOf b0 (x1 : Int32) ((ea_i h (b0 + 14) (Int32.toNatClampNeg x1)) : Int32) h)) + (1 : Int32)) = (((2 : Int32) * (vX12_minuteOf b0 (x2 : Int32) ((ea_i h (b0 + 14) (Int32.toNatClampNeg x2)) : Int32) h)) + (1 : Int32)) then (if x2 ≤ x1 then (0 : Int32) else (1 : Int32)) else (0 : Int32))) else (if (((2 : Int32) * (vX12_minuteOf b0 (x1 : Int32) ((ea_i h (b0 + 14) (Int32.toNatClampNeg x1)) : Int32) h)) + (1 : Int32)) < (((2 : Int32) * (vX12_minuteOf b0 (x2 : Int32) ((ea_i h (b0 + 14) (Int32.toNatClampNeg x2)) : Int32) h)) + (0 : Int32)) then (1 : Int32) else (if (((2 : Int32) * (vX12_minuteOf b0 (x1 : Int32) ((ea_i h (b0 + 14) (Int32.toNatClampNeg x1)) : Int32) h)) + (1 : Int32)) = (((2 : Int32) * (vX12_minuteOf b0 (x2 : Int32) ((ea_i h (b0 + 14) (Int32.toNatClampNeg x2)) : Int32) h)) + (0 : Int32)) then (if x2 ≤ x1 then (0 : Int32) else (1 : Int32)) else (0 : Int32)))) else (if ((ea_i h (b0 + 14) (Int32.toNatClampNeg x2)) - (ea_i h (b0 + 14) (Int32.toNatClampNeg x2)) / (2 : Int32) * (2 : Int32)) = (0 : Int32) then (if (((2 : Int32) * (vX12_minuteOf b0 (x1 : Int32) ((ea_i h (b0 + 14) (Int32.toNatClampNeg x1)) : Int32) h)) + (0 : Int32)) < (((2 : Int32) * (vX12_minuteOf b0 (x2 : Int32) ((ea_i h (b0 + 14) (Int32.toNatClampNeg x2)) : Int32) h)) + (1 : Int32)) then (1 : Int32) else (if (((2 : Int32) * (vX12_minuteOf b0 (x1 : Int32) ((ea_i h (b0 + 14) (Int32.toNatClampNeg x1)) : Int32) h)) + (0 : Int32)) = (((2 : Int32) * (vX12_minuteOf b0 (x2 : Int32) ((ea_i h (b0 + 14) (Int32.toNatClampNeg x2)) : Int32) h)) + (1 : Int32)) then (if x2 ≤ x1 then (0 : Int32) else (1 : Int32)) else (0 : Int32))) else (if (((2 : Int32) * (vX12_minuteOf b0 (x1 : Int32) ((ea_i h (b0 + 14) (Int32.toNatClampNeg x1)) : Int32) h)) + (0 : Int32)) < (((2 : Int32) * (vX12_minuteOf b0 (x2 : Int32) ((ea_i h (b0 + 14) (Int32.toNatClampNeg x2)) : Int32) h)) + (0 : Int32)) then (1 : Int32) else (if (((2 : Int32) * (vX12_minuteOf b0 (x1 : Int32) ((ea_i h (b0 + 14) (Int32.toNatClampNeg x1)) : Int32) h)) + (0 : Int32)) = (((2 : Int32) * (vX12_minuteOf b0 (x2 : Int32) ((ea_i h (b0 + 14) (Int32.toNatClampNeg x2)) : Int32) h)) + (0 : Int32)) then (if x2 ≤ x1 then (0 : Int32) else (1 : Int32)) else (0 : Int32)))))
def okX12_isAheadOf (b0 : Nat) (x1 : Int32) (x2 : Int32) (h : ea_H) : Prop := vp_in x1 70 ∧ ((okX12_minuteOf b0 (x1 : Int32) ((ea_i h (b0 + 14) (Int32.toNatClampNeg x1)) : Int32) h) ∧ (vp_in x1 70 ∧ ((((ea_i h (b0 + 14) (Int32.toNatClampNeg x1)) - (ea_i h (b0 + 14) (Int32.toNatClampNeg x1)) / (2 : Int32) * (2 : Int32)) = (0 : Int32) → vp_in x2 70 ∧ ((okX12_minuteOf b0 (x2 : Int32) ((ea_i h (b0 + 14) (Int32.toNatClampNeg x2)) : Int32) h) ∧ (vp_in x2 70))) ∧ (¬ ((ea_i h (b0 + 14) (Int32.toNatClampNeg x1)) - (ea_i h (b0 + 14) (Int32.toNatClampNeg x1)) / (2 : Int32) * (2 : Int32)) = (0 : Int32) → vp_in x2 70 ∧ ((okX12_minuteOf b0 (x2 : Int32) ((ea_i h (b0 + 14) (Int32.toNatClampNeg x2)) : Int32) h) ∧ (vp_in x2 70))))))
theorem bo_vX12_isAheadOf (b0 : Nat) (x1 : Int32) (x2 : Int32) (h : ea_H) : vX12_isAheadOf b0 x1 x2 h = 0 ∨ vX12_isAheadOf b0 x1 x2 h = 1 := (ea_itB (ea_itB (ea_itB (Or.inr rfl) (ea_itB (ea_itB (Or.inl rfl) (Or.inr rfl)) (Or.inl rfl))) (ea_itB (Or.inr rfl) (ea_itB (ea_itB (Or.inl rfl) (Or.inr rfl)) (Or.inl rfl)))) (ea_itB (ea_itB (Or.inr rfl) (ea_itB (ea_itB (Or.inl rfl) (Or.inr rfl)) (Or.inl rfl))) (ea_itB (Or.inr rfl) (ea_itB (ea_itB (Or.inl rfl) (Or.inr rfl)) (Or.inl rfl)))))
theorem sX12_isAheadOf {d : Nat} {b0 : Nat} {x1 : Int32} {x2 : Int32} {h : ea_H} (hd : 3 ≤ d) (hs : ShM b0 h) (K : okX12_isAheadOf b0 x1 x2 h) : ea_Met mX12_isAheadOf d [vR (some (b0 + 0)), vI x1, vI x2] h (some (vI (vX12_isAheadOf b0 x1 x2 h))) h := by
  obtain ⟨X, EX⟩ : ∃ z, z = vX12_isAheadOf b0 x1 x2 h := ⟨_, rfl⟩
  rw [← EX]
  unfold vX12_isAheadOf at EX
  unfold okX12_isAheadOf at K
  refine ea_enter rfl (Nat.le_of_ble_eq_true rfl) ?_
  refine ea_iconst (pc := 0) dX12_isAheadOf_0 (v := 2) rfl ?_
  refine ea_aload_n (pc := 1) dX12_isAheadOf_1 rfl 0 rfl ?_
  refine ea_iload_n (pc := 2) dX12_isAheadOf_2 rfl 1 rfl ?_
  refine ea_aload_n (pc := 3) dX12_isAheadOf_3 rfl 0 rfl ?_
  refine ea_getR (pc := 4) dX12_isAheadOf_4 ec_12 (k := 18) (Nat.le_of_ble_eq_true rfl) rfl (Or.inl ew_1363) (hs.1 0 (by decide)).1 (hs.1 0 (by decide)).2.1 (hs.2 0 18 rfl) ?_
  refine ea_iload_n (pc := 7) dX12_isAheadOf_7 rfl 1 rfl ?_
  obtain ⟨z1, K⟩ := K
  refine ea_iald (pc := 8) dX12_isAheadOf_8 (hs.1 14 (by decide)).1 (hs.1 14 (by decide)).2.1 (ea_vpl (hs.1 14 (by decide)).2.2 z1) ?_
  obtain ⟨z2, K⟩ := K
  refine ea_callV (pc := 9) (d' := d - 1) (As := [vI x1, vI (ea_i h (b0 + 14) (Int32.toNatClampNeg x1))]) (st := [vI 2]) dX12_isAheadOf_9 kX12_minuteOf (sX12_minuteOf (d := d - 1) (by omega) hs z2) (by omega) rfl (Nat.le_of_ble_eq_true rfl) ew_1782 ew_1784 ew_56 (ci := 12) rfl (by decide) (hs.1 0 (by decide)).1 (hs.1 0 (by decide)).2.1 ?_
  refine ea_imul (pc := 12) dX12_isAheadOf_12 ?_
  refine ea_aload_n (pc := 13) dX12_isAheadOf_13 rfl 0 rfl ?_
  refine ea_getR (pc := 14) dX12_isAheadOf_14 ec_12 (k := 18) (Nat.le_of_ble_eq_true rfl) rfl (Or.inl ew_1363) (hs.1 0 (by decide)).1 (hs.1 0 (by decide)).2.1 (hs.2 0 18 rfl) ?_
  refine ea_iload_n (pc := 17) dX12_isAheadOf_17 rfl 1 rfl ?_
  obtain ⟨z3, K⟩ := K
  refine ea_iald (pc := 18) dX12_isAheadOf_18 (hs.1 14 (by decide)).1 (hs.1 14 (by decide)).2.1 (ea_vpl (hs.1 14 (by decide)).2.2 z3) ?_
  refine ea_iconst (pc := 19) dX12_isAheadOf_19 (v := 2) rfl ?_
  refine ea_irem (pc := 20) dX12_isAheadOf_20 (by decide) ?_
  refine ea_if_ne (pc := 21) (tgt := 28) dX12_isAheadOf_21 rfl (fun c24 => ?_) (fun c24 => ?_)
  · have EX := EX.trans (if_neg c24)
    have K := K.2 c24
    refine ea_iconst (pc := 28) dX12_isAheadOf_28 (v := 0) rfl ?_
    refine ea_iadd (pc := 29) dX12_isAheadOf_29 ?_
    refine ea_istore_n (pc := 30) (lv' := [(0, vR (some (b0 + 0))), (1, vI x1), (2, vI x2), (3, vI (((2 : Int32) * (vX12_minuteOf b0 (x1 : Int32) ((ea_i h (b0 + 14) (Int32.toNatClampNeg x1)) : Int32) h)) + (0 : Int32)))]) dX12_isAheadOf_30 rfl (Nat.le_of_ble_eq_true rfl) [1, 2, 3, 0] rfl ?_
    refine ea_iconst (pc := 31) dX12_isAheadOf_31 (v := 2) rfl ?_
    refine ea_aload_n (pc := 32) dX12_isAheadOf_32 rfl 0 rfl ?_
    refine ea_iload_n (pc := 33) dX12_isAheadOf_33 rfl 2 rfl ?_
    refine ea_aload_n (pc := 34) dX12_isAheadOf_34 rfl 0 rfl ?_
    refine ea_getR (pc := 35) dX12_isAheadOf_35 ec_12 (k := 18) (Nat.le_of_ble_eq_true rfl) rfl (Or.inl ew_1363) (hs.1 0 (by decide)).1 (hs.1 0 (by decide)).2.1 (hs.2 0 18 rfl) ?_
    refine ea_iload_n (pc := 38) dX12_isAheadOf_38 rfl 2 rfl ?_
    obtain ⟨z4, K⟩ := K
    refine ea_iald (pc := 39) dX12_isAheadOf_39 (hs.1 14 (by decide)).1 (hs.1 14 (by decide)).2.1 (ea_vpl (hs.1 14 (by decide)).2.2 z4) ?_
    obtain ⟨z5, K⟩ := K
    refine ea_callV (pc := 40) (d' := d - 1) (As := [vI x2, vI (ea_i h (b0 + 14) (Int32.toNatClampNeg x2))]) (st := [vI 2]) dX12_isAheadOf_40 kX12_minuteOf (sX12_minuteOf (d := d - 1) (by omega) hs z5) (by omega) rfl (Nat.le_of_ble_eq_true rfl) ew_1782 ew_1784 ew_56 (ci := 12) rfl (by decide) (hs.1 0 (by decide)).1 (hs.1 0 (by decide)).2.1 ?_
    refine ea_imul (pc := 43) dX12_isAheadOf_43 ?_
    refine ea_aload_n (pc := 44) dX12_isAheadOf_44 rfl 0 rfl ?_
    refine ea_getR (pc := 45) dX12_isAheadOf_45 ec_12 (k := 18) (Nat.le_of_ble_eq_true rfl) rfl (Or.inl ew_1363) (hs.1 0 (by decide)).1 (hs.1 0 (by decide)).2.1 (hs.2 0 18 rfl) ?_
    refine ea_iload_n (pc := 48) dX12_isAheadOf_48 rfl 2 rfl ?_
    have z6 := K
    refine ea_iald (pc := 49) dX12_isAheadOf_49 (hs.1 14 (by decide)).1 (hs.1 14 (by decide)).2.1 (ea_vpl (hs.1 14 (by decide)).2.2 z6) ?_
    refine ea_iconst (pc := 50) dX12_isAheadOf_50 (v := 2) rfl ?_
    refine ea_irem (pc := 51) dX12_isAheadOf_51 (by decide) ?_
    refine ea_if_ne (pc := 52) (tgt := 59) dX12_isAheadOf_52 rfl (fun c13 => ?_) (fun c13 => ?_)
    · have EX := EX.trans (if_neg c13)
      refine ea_iconst (pc := 59) dX12_isAheadOf_59 (v := 0) rfl ?_
      refine ea_iadd (pc := 60) dX12_isAheadOf_60 ?_
      refine ea_istore (pc := 61) (lv' := [(1, vI x1), (2, vI x2), (3, vI (((2 : Int32) * (vX12_minuteOf b0 (x1 : Int32) ((ea_i h (b0 + 14) (Int32.toNatClampNeg x1)) : Int32) h)) + (0 : Int32))), (4, vI (((2 : Int32) * (vX12_minuteOf b0 (x2 : Int32) ((ea_i h (b0 + 14) (Int32.toNatClampNeg x2)) : Int32) h)) + (0 : Int32)))]) dX12_isAheadOf_61 (Nat.le_of_ble_eq_true rfl) [2, 3, 4, 0] rfl ?_
      refine ea_iload_n (pc := 63) dX12_isAheadOf_63 rfl 2 rfl ?_
      refine ea_iload (pc := 64) dX12_isAheadOf_64 3 rfl ?_
      refine ea_icmp_lt (pc := 66) (tgt := 80) dX12_isAheadOf_66 rfl (fun c9 => ?_) (fun c9 => ?_)
      · have EX := EX.trans (if_pos c9)
        refine ea_iconst (pc := 80) dX12_isAheadOf_80 (v := 1) rfl ?_
        refine ea_goto (pc := 81) (tgt := 85) dX12_isAheadOf_81 rfl ?_
        exact ea_iretE (pc := 85) dX12_isAheadOf_85 rfl (ea_bn (Or.inr rfl)) EX rfl
      · have EX := EX.trans (if_neg c9)
        refine ea_iload_n (pc := 69) dX12_isAheadOf_69 rfl 2 rfl ?_
        refine ea_iload (pc := 70) dX12_isAheadOf_70 3 rfl ?_
        refine ea_icmp_ne (pc := 72) (tgt := 84) dX12_isAheadOf_72 rfl (fun c8 => ?_) (fun c8 => ?_)
        · have EX := EX.trans (if_neg c8)
          refine ea_iconst (pc := 84) dX12_isAheadOf_84 (v := 0) rfl ?_
          exact ea_iretE (pc := 85) dX12_isAheadOf_85 rfl (ea_bn (Or.inl rfl)) EX rfl
        · have EX := EX.trans (if_pos c8)
          refine ea_iload_n (pc := 75) dX12_isAheadOf_75 rfl 0 rfl ?_
          refine ea_iload_n (pc := 76) dX12_isAheadOf_76 rfl 1 rfl ?_
          refine ea_icmp_ge (pc := 77) (tgt := 84) dX12_isAheadOf_77 rfl (fun c7 => ?_) (fun c7 => ?_)
          · have EX := EX.trans (if_pos c7)
            refine ea_iconst (pc := 84) dX12_isAheadOf_84 (v := 0) rfl ?_
            exact ea_iretE (pc := 85) dX12_isAheadOf_85 rfl (ea_bn (Or.inl rfl)) EX rfl
          · have EX := EX.trans (if_neg c7)
            refine ea_iconst (pc := 80) dX12_isAheadOf_80 (v := 1) rfl ?_
            refine ea_goto (pc := 81) (tgt := 85) dX12_isAheadOf_81 rfl ?_
            exact ea_iretE (pc := 85) dX12_isAheadOf_85 rfl (ea_bn (Or.inr rfl)) EX rfl
    · have EX := EX.trans (if_pos c13)
      refine ea_iconst (pc := 55) dX12_isAheadOf_55 (v := 1) rfl ?_
      refine ea_goto (pc := 56) (tgt := 60) dX12_isAheadOf_56 rfl ?_
      refine ea_iadd (pc := 60) dX12_isAheadOf_60 ?_
      refine ea_istore (pc := 61) (lv' := [(1, vI x1), (2, vI x2), (3, vI (((2 : Int32) * (vX12_minuteOf b0 (x1 : Int32) ((ea_i h (b0 + 14) (Int32.toNatClampNeg x1)) : Int32) h)) + (0 : Int32))), (4, vI (((2 : Int32) * (vX12_minuteOf b0 (x2 : Int32) ((ea_i h (b0 + 14) (Int32.toNatClampNeg x2)) : Int32) h)) + (1 : Int32)))]) dX12_isAheadOf_61 (Nat.le_of_ble_eq_true rfl) [2, 3, 4, 0] rfl ?_
      refine ea_iload_n (pc := 63) dX12_isAheadOf_63 rfl 2 rfl ?_
      refine ea_iload (pc := 64) dX12_isAheadOf_64 3 rfl ?_
      refine ea_icmp_lt (pc := 66) (tgt := 80) dX12_isAheadOf_66 rfl (fun c12 => ?_) (fun c12 => ?_)
      · have EX := EX.trans (if_pos c12)
        refine ea_iconst (pc := 80) dX12_isAheadOf_80 (v := 1) rfl ?_
        refine ea_goto (pc := 81) (tgt := 85) dX12_isAheadOf_81 rfl ?_
        exact ea_iretE (pc := 85) dX12_isAheadOf_85 rfl (ea_bn (Or.inr rfl)) EX rfl
      · have EX := EX.trans (if_neg c12)
        refine ea_iload_n (pc := 69) dX12_isAheadOf_69 rfl 2 rfl ?_
        refine ea_iload (pc := 70) dX12_isAheadOf_70 3 rfl ?_
        refine ea_icmp_ne (pc := 72) (tgt := 84) dX12_isAheadOf_72 rfl (fun c11 => ?_) (fun c11 => ?_)
        · have EX := EX.trans (if_neg c11)
          refine ea_iconst (pc := 84) dX12_isAheadOf_84 (v := 0) rfl ?_
          exact ea_iretE (pc := 85) dX12_isAheadOf_85 rfl (ea_bn (Or.inl rfl)) EX rfl
        · have EX := EX.trans (if_pos c11)
          refine ea_iload_n (pc := 75) dX12_isAheadOf_75 rfl 0 rfl ?_
          refine ea_iload_n (pc := 76) dX12_isAheadOf_76 rfl 1 rfl ?_
          refine ea_icmp_ge (pc := 77) (tgt := 84) dX12_isAheadOf_77 rfl (fun c10 => ?_) (fun c10 => ?_)
          · have EX := EX.trans (if_pos c10)
            refine ea_iconst (pc := 84) dX12_isAheadOf_84 (v := 0) rfl ?_
            exact ea_iretE (pc := 85) dX12_isAheadOf_85 rfl (ea_bn (Or.inl rfl)) EX rfl
          · have EX := EX.trans (if_neg c10)
            refine ea_iconst (pc := 80) dX12_isAheadOf_80 (v := 1) rfl ?_
            refine ea_goto (pc := 81) (tgt := 85) dX12_isAheadOf_81 rfl ?_
            exact ea_iretE (pc := 85) dX12_isAheadOf_85 rfl (ea_bn (Or.inr rfl)) EX rfl
  · have EX := EX.trans (if_pos c24)
    have K := K.1 c24
    refine ea_iconst (pc := 24) dX12_isAheadOf_24 (v := 1) rfl ?_
    refine ea_goto (pc := 25) (tgt := 29) dX12_isAheadOf_25 rfl ?_
    refine ea_iadd (pc := 29) dX12_isAheadOf_29 ?_
    refine ea_istore_n (pc := 30) (lv' := [(0, vR (some (b0 + 0))), (1, vI x1), (2, vI x2), (3, vI (((2 : Int32) * (vX12_minuteOf b0 (x1 : Int32) ((ea_i h (b0 + 14) (Int32.toNatClampNeg x1)) : Int32) h)) + (1 : Int32)))]) dX12_isAheadOf_30 rfl (Nat.le_of_ble_eq_true rfl) [1, 2, 3, 0] rfl ?_
    refine ea_iconst (pc := 31) dX12_isAheadOf_31 (v := 2) rfl ?_
    refine ea_aload_n (pc := 32) dX12_isAheadOf_32 rfl 0 rfl ?_
    refine ea_iload_n (pc := 33) dX12_isAheadOf_33 rfl 2 rfl ?_
    refine ea_aload_n (pc := 34) dX12_isAheadOf_34 rfl 0 rfl ?_
    refine ea_getR (pc := 35) dX12_isAheadOf_35 ec_12 (k := 18) (Nat.le_of_ble_eq_true rfl) rfl (Or.inl ew_1363) (hs.1 0 (by decide)).1 (hs.1 0 (by decide)).2.1 (hs.2 0 18 rfl) ?_
    refine ea_iload_n (pc := 38) dX12_isAheadOf_38 rfl 2 rfl ?_
    obtain ⟨z14, K⟩ := K
    refine ea_iald (pc := 39) dX12_isAheadOf_39 (hs.1 14 (by decide)).1 (hs.1 14 (by decide)).2.1 (ea_vpl (hs.1 14 (by decide)).2.2 z14) ?_
    obtain ⟨z15, K⟩ := K
    refine ea_callV (pc := 40) (d' := d - 1) (As := [vI x2, vI (ea_i h (b0 + 14) (Int32.toNatClampNeg x2))]) (st := [vI 2]) dX12_isAheadOf_40 kX12_minuteOf (sX12_minuteOf (d := d - 1) (by omega) hs z15) (by omega) rfl (Nat.le_of_ble_eq_true rfl) ew_1782 ew_1784 ew_56 (ci := 12) rfl (by decide) (hs.1 0 (by decide)).1 (hs.1 0 (by decide)).2.1 ?_
    refine ea_imul (pc := 43) dX12_isAheadOf_43 ?_
    refine ea_aload_n (pc := 44) dX12_isAheadOf_44 rfl 0 rfl ?_
    refine ea_getR (pc := 45) dX12_isAheadOf_45 ec_12 (k := 18) (Nat.le_of_ble_eq_true rfl) rfl (Or.inl ew_1363) (hs.1 0 (by decide)).1 (hs.1 0 (by decide)).2.1 (hs.2 0 18 rfl) ?_
    refine ea_iload_n (pc := 48) dX12_isAheadOf_48 rfl 2 rfl ?_
    have z16 := K
    refine ea_iald (pc := 49) dX12_isAheadOf_49 (hs.1 14 (by decide)).1 (hs.1 14 (by decide)).2.1 (ea_vpl (hs.1 14 (by decide)).2.2 z16) ?_
    refine ea_iconst (pc := 50) dX12_isAheadOf_50 (v := 2) rfl ?_
    refine ea_irem (pc := 51) dX12_isAheadOf_51 (by decide) ?_
    refine ea_if_ne (pc := 52) (tgt := 59) dX12_isAheadOf_52 rfl (fun c23 => ?_) (fun c23 => ?_)
    · have EX := EX.trans (if_neg c23)
      refine ea_iconst (pc := 59) dX12_isAheadOf_59 (v := 0) rfl ?_
      refine ea_iadd (pc := 60) dX12_isAheadOf_60 ?_
      refine ea_istore (pc := 61) (lv' := [(1, vI x1), (2, vI x2), (3, vI (((2 : Int32) * (vX12_minuteOf b0 (x1 : Int32) ((ea_i h (b0 + 14) (Int32.toNatClampNeg x1)) : Int32) h)) + (1 : Int32))), (4, vI (((2 : Int32) * (vX12_minuteOf b0 (x2 : Int32) ((ea_i h (b0 + 14) (Int32.toNatClampNeg x2)) : Int32) h)) + (0 : Int32)))]) dX12_isAheadOf_61 (Nat.le_of_ble_eq_true rfl) [2, 3, 4, 0] rfl ?_
      refine ea_iload_n (pc := 63) dX12_isAheadOf_63 rfl 2 rfl ?_
      refine ea_iload (pc := 64) dX12_isAheadOf_64 3 rfl ?_
      refine ea_icmp_lt (pc := 66) (tgt := 80) dX12_isAheadOf_66 rfl (fun c19 => ?_) (fun c19 => ?_)
      · have EX := EX.trans (if_pos c19)
        refine ea_iconst (pc := 80) dX12_isAheadOf_80 (v := 1) rfl ?_
        refine ea_goto (pc := 81) (tgt := 85) dX12_isAheadOf_81 rfl ?_
        exact ea_iretE (pc := 85) dX12_isAheadOf_85 rfl (ea_bn (Or.inr rfl)) EX rfl
      · have EX := EX.trans (if_neg c19)
        refine ea_iload_n (pc := 69) dX12_isAheadOf_69 rfl 2 rfl ?_
        refine ea_iload (pc := 70) dX12_isAheadOf_70 3 rfl ?_
        refine ea_icmp_ne (pc := 72) (tgt := 84) dX12_isAheadOf_72 rfl (fun c18 => ?_) (fun c18 => ?_)
        · have EX := EX.trans (if_neg c18)
          refine ea_iconst (pc := 84) dX12_isAheadOf_84 (v := 0) rfl ?_
          exact ea_iretE (pc := 85) dX12_isAheadOf_85 rfl (ea_bn (Or.inl rfl)) EX rfl
        · have EX := EX.trans (if_pos c18)
          refine ea_iload_n (pc := 75) dX12_isAheadOf_75 rfl 0 rfl ?_
          refine ea_iload_n (pc := 76) dX12_isAheadOf_76 rfl 1 rfl ?_
          refine ea_icmp_ge (pc := 77) (tgt := 84) dX12_isAheadOf_77 rfl (fun c17 => ?_) (fun c17 => ?_)
          · have EX := EX.trans (if_pos c17)
            refine ea_iconst (pc := 84) dX12_isAheadOf_84 (v := 0) rfl ?_
            exact ea_iretE (pc := 85) dX12_isAheadOf_85 rfl (ea_bn (Or.inl rfl)) EX rfl
          · have EX := EX.trans (if_neg c17)
            refine ea_iconst (pc := 80) dX12_isAheadOf_80 (v := 1) rfl ?_
            refine ea_goto (pc := 81) (tgt := 85) dX12_isAheadOf_81 rfl ?_
            exact ea_iretE (pc := 85) dX12_isAheadOf_85 rfl (ea_bn (Or.inr rfl)) EX rfl
    · have EX := EX.trans (if_pos c23)
      refine ea_iconst (pc := 55) dX12_isAheadOf_55 (v := 1) rfl ?_
      refine ea_goto (pc := 56) (tgt := 60) dX12_isAheadOf_56 rfl ?_
      refine ea_iadd (pc := 60) dX12_isAheadOf_60 ?_
      refine ea_istore (pc := 61) (lv' := [(1, vI x1), (2, vI x2), (3, vI (((2 : Int32) * (vX12_minuteOf b0 (x1 : Int32) ((ea_i h (b0 + 14) (Int32.toNatClampNeg x1)) : Int32) h)) + (1 : Int32))), (4, vI (((2 : Int32) * (vX12_minuteOf b0 (x2 : Int32) ((ea_i h (b0 + 14) (Int32.toNatClampNeg x2)) : Int32) h)) + (1 : Int32)))]) dX12_isAheadOf_61 (Nat.le_of_ble_eq_true rfl) [2, 3, 4, 0] rfl ?_
      refine ea_iload_n (pc := 63) dX12_isAheadOf_63 rfl 2 rfl ?_
      refine ea_iload (pc := 64) dX12_isAheadOf_64 3 rfl ?_
      refine ea_icmp_lt (pc := 66) (tgt := 80) dX12_isAheadOf_66 rfl (fun c22 => ?_) (fun c22 => ?_)
      · have EX := EX.trans (if_pos c22)
        refine ea_iconst (pc := 80) dX12_isAheadOf_80 (v := 1) rfl ?_
        refine ea_goto (pc := 81) (tgt := 85) dX12_isAheadOf_81 rfl ?_
        exact ea_iretE (pc := 85) dX12_isAheadOf_85 rfl (ea_bn (Or.inr rfl)) EX rfl
      · have EX := EX.trans (if_neg c22)
        refine ea_iload_n (pc := 69) dX12_isAheadOf_69 rfl 2 rfl ?_
        refine ea_iload (pc := 70) dX12_isAheadOf_70 3 rfl ?_
        refine ea_icmp_ne (pc := 72) (tgt := 84) dX12_isAheadOf_72 rfl (fun c21 => ?_) (fun c21 => ?_)
        · have EX := EX.trans (if_neg c21)
          refine ea_iconst (pc := 84) dX12_isAheadOf_84 (v := 0) rfl ?_
          exact ea_iretE (pc := 85) dX12_isAheadOf_85 rfl (ea_bn (Or.inl rfl)) EX rfl
        · have EX := EX.trans (if_pos c21)
          refine ea_iload_n (pc := 75) dX12_isAheadOf_75 rfl 0 rfl ?_
          refine ea_iload_n (pc := 76) dX12_isAheadOf_76 rfl 1 rfl ?_
          refine ea_icmp_ge (pc := 77) (tgt := 84) dX12_isAheadOf_77 rfl (fun c20 => ?_) (fun c20 => ?_)
          · have EX := EX.trans (if_pos c20)
            refine ea_iconst (pc := 84) dX12_isAheadOf_84 (v := 0) rfl ?_
            exact ea_iretE (pc := 85) dX12_isAheadOf_85 rfl (ea_bn (Or.inl rfl)) EX rfl
          · have EX := EX.trans (if_neg c20)
            refine ea_iconst (pc := 80) dX12_isAheadOf_80 (v := 1) rfl ?_
            refine ea_goto (pc := 81) (tgt := 85) dX12_isAheadOf_81 rfl ?_
            exact ea_iretE (pc := 85) dX12_isAheadOf_85 rfl (ea_bn (Or.inr rfl)) EX rfl
noncomputable def vX12_isMore (b0 : Nat) (x1 : Int32) (h : ea_H) : Int32 := (if ((2 : Int32) * ((ea_i h (b0 + 2) (Int32.toNatClampNeg (x1 / (7 : Int32)))) - (1 : Int32))) ≤ (ea_i h (b0 + 14) (Int32.toNatClampNeg x1)) then (0 : Int32) else (if (10079 : Int32) < (vX12_minuteOf b0 (x1 : Int32) ((ea_i h (b0 + 14) (Int32.toNatClampNeg x1)) : Int32) h) then (0 : Int32) else (1 : Int32)))
def okX12_isMore (b0 : Nat) (x1 : Int32) (h : ea_H) : Prop := vp_in x1 70 ∧ (vp_in (x1 / (7 : Int32)) 10 ∧ ((((2 : Int32) * ((ea_i h (b0 + 2) (Int32.toNatClampNeg (x1 / (7 : Int32)))) - (1 : Int32))) ≤ (ea_i h (b0 + 14) (Int32.toNatClampNeg x1)) → True) ∧ (¬ ((2 : Int32) * ((ea_i h (b0 + 2) (Int32.toNatClampNeg (x1 / (7 : Int32)))) - (1 : Int32))) ≤ (ea_i h (b0 + 14) (Int32.toNatClampNeg x1)) → vp_in x1 70 ∧ ((okX12_minuteOf b0 (x1 : Int32) ((ea_i h (b0 + 14) (Int32.toNatClampNeg x1)) : Int32) h)))))
theorem bo_vX12_isMore (b0 : Nat) (x1 : Int32) (h : ea_H) : vX12_isMore b0 x1 h = 0 ∨ vX12_isMore b0 x1 h = 1 := (ea_itB (Or.inl rfl) (ea_itB (Or.inl rfl) (Or.inr rfl)))
theorem sX12_isMore {d : Nat} {b0 : Nat} {x1 : Int32} {h : ea_H} (hd : 3 ≤ d) (hs : ShM b0 h) (K : okX12_isMore b0 x1 h) : ea_Met mX12_isMore d [vR (some (b0 + 0)), vI x1] h (some (vI (vX12_isMore b0 x1 h))) h := by
  obtain ⟨X, EX⟩ : ∃ z, z = vX12_isMore b0 x1 h := ⟨_, rfl⟩
  rw [← EX]
  unfold vX12_isMore at EX
  unfold okX12_isMore at K
  refine ea_enter rfl (Nat.le_of_ble_eq_true rfl) ?_
  refine ea_aload_n (pc := 0) dX12_isMore_0 rfl 0 rfl ?_
  refine ea_getR (pc := 1) dX12_isMore_1 ec_12 (k := 18) (Nat.le_of_ble_eq_true rfl) rfl (Or.inl ew_1363) (hs.1 0 (by decide)).1 (hs.1 0 (by decide)).2.1 (hs.2 0 18 rfl) ?_
  refine ea_iload_n (pc := 4) dX12_isMore_4 rfl 1 rfl ?_
  obtain ⟨z1, K⟩ := K
  refine ea_iald (pc := 5) dX12_isMore_5 (hs.1 14 (by decide)).1 (hs.1 14 (by decide)).2.1 (ea_vpl (hs.1 14 (by decide)).2.2 z1) ?_
  refine ea_iconst (pc := 6) dX12_isMore_6 (v := 2) rfl ?_
  refine ea_aload_n (pc := 7) dX12_isMore_7 rfl 0 rfl ?_
  refine ea_getR (pc := 8) dX12_isMore_8 ec_12 (k := 4) (Nat.le_of_ble_eq_true rfl) rfl (Or.inl ew_1349) (hs.1 0 (by decide)).1 (hs.1 0 (by decide)).2.1 (hs.2 0 4 rfl) ?_
  refine ea_iload_n (pc := 11) dX12_isMore_11 rfl 1 rfl ?_
  refine ea_bipush (pc := 12) dX12_isMore_12 (v := 7) rfl ?_
  refine ea_idiv (pc := 14) dX12_isMore_14 (by decide) ?_
  obtain ⟨z2, K⟩ := K
  refine ea_iald (pc := 15) dX12_isMore_15 (hs.1 2 (by decide)).1 (hs.1 2 (by decide)).2.1 (ea_vpl (hs.1 2 (by decide)).2.2 z2) ?_
  refine ea_iconst (pc := 16) dX12_isMore_16 (v := 1) rfl ?_
  refine ea_isub (pc := 17) dX12_isMore_17 ?_
  refine ea_imul (pc := 18) dX12_isMore_18 ?_
  refine ea_icmp_ge (pc := 19) (tgt := 43) dX12_isMore_19 rfl (fun c6 => ?_) (fun c6 => ?_)
  · have EX := EX.trans (if_pos c6)
    refine ea_iconst (pc := 43) dX12_isMore_43 (v := 0) rfl ?_
    exact ea_iretE (pc := 44) dX12_isMore_44 rfl (ea_bn (Or.inl rfl)) EX rfl
  · have EX := EX.trans (if_neg c6)
    have K := K.2 c6
    refine ea_aload_n (pc := 22) dX12_isMore_22 rfl 0 rfl ?_
    refine ea_iload_n (pc := 23) dX12_isMore_23 rfl 1 rfl ?_
    refine ea_aload_n (pc := 24) dX12_isMore_24 rfl 0 rfl ?_
    refine ea_getR (pc := 25) dX12_isMore_25 ec_12 (k := 18) (Nat.le_of_ble_eq_true rfl) rfl (Or.inl ew_1363) (hs.1 0 (by decide)).1 (hs.1 0 (by decide)).2.1 (hs.2 0 18 rfl) ?_
    refine ea_iload_n (pc := 28) dX12_isMore_28 rfl 1 rfl ?_
    obtain ⟨z3, K⟩ := K
    refine ea_iald (pc := 29) dX12_isMore_29 (hs.1 14 (by decide)).1 (hs.1 14 (by decide)).2.1 (ea_vpl (hs.1 14 (by decide)).2.2 z3) ?_
    have z4 := K
    refine ea_callV (pc := 30) (d' := d - 1) (As := [vI x1, vI (ea_i h (b0 + 14) (Int32.toNatClampNeg x1))]) (st := []) dX12_isMore_30 kX12_minuteOf (sX12_minuteOf (d := d - 1) (by omega) hs z4) (by omega) rfl (Nat.le_of_ble_eq_true rfl) ew_1782 ew_1784 ew_56 (ci := 12) rfl (by decide) (hs.1 0 (by decide)).1 (hs.1 0 (by decide)).2.1 ?_
    refine ea_sipush (pc := 33) dX12_isMore_33 (v := 10079) rfl ?_
    refine ea_icmp_gt (pc := 36) (tgt := 43) dX12_isMore_36 rfl (fun c5 => ?_) (fun c5 => ?_)
    · have EX := EX.trans (if_pos c5)
      refine ea_iconst (pc := 43) dX12_isMore_43 (v := 0) rfl ?_
      exact ea_iretE (pc := 44) dX12_isMore_44 rfl (ea_bn (Or.inl rfl)) EX rfl
    · have EX := EX.trans (if_neg c5)
      refine ea_iconst (pc := 39) dX12_isMore_39 (v := 1) rfl ?_
      refine ea_goto (pc := 40) (tgt := 44) dX12_isMore_40 rfl ?_
      exact ea_iretE (pc := 44) dX12_isMore_44 rfl (ea_bn (Or.inr rfl)) EX rfl
noncomputable def vX12_townOf (b0 : Nat) (x1 : Int32) (x2 : Int32) (h : ea_H) : Int32 := (ea_i h (b0 + 3) (Int32.toNatClampNeg (((8 : Int32) * (x1 / (7 : Int32))) + x2)))
def okX12_townOf (b0 : Nat) (x1 : Int32) (x2 : Int32) (h : ea_H) : Prop := vp_in (((8 : Int32) * (x1 / (7 : Int32))) + x2) 80
theorem sX12_townOf {d : Nat} {b0 : Nat} {x1 : Int32} {x2 : Int32} {h : ea_H} (hd : 1 ≤ d) (hs : ShM b0 h) (K : okX12_townOf b0 x1 x2 h) : ea_Met mX12_townOf d [vR (some (b0 + 0)), vI x1, vI x2] h (some (vI (vX12_townOf b0 x1 x2 h))) h := by
  obtain ⟨X, EX⟩ : ∃ z, z = vX12_townOf b0 x1 x2 h := ⟨_, rfl⟩
  rw [← EX]
  unfold vX12_townOf at EX
  unfold okX12_townOf at K
  refine ea_enter rfl (Nat.le_of_ble_eq_true rfl) ?_
  refine ea_aload_n (pc := 0) dX12_townOf_0 rfl 0 rfl ?_
  refine ea_getR (pc := 1) dX12_townOf_1 ec_12 (k := 5) (Nat.le_of_ble_eq_true rfl) rfl (Or.inl ew_1350) (hs.1 0 (by decide)).1 (hs.1 0 (by decide)).2.1 (hs.2 0 5 rfl) ?_
  refine ea_bipush (pc := 4) dX12_townOf_4 (v := 8) rfl ?_
  refine ea_iload_n (pc := 6) dX12_townOf_6 rfl 1 rfl ?_
  refine ea_bipush (pc := 7) dX12_townOf_7 (v := 7) rfl ?_
  refine ea_idiv (pc := 9) dX12_townOf_9 (by decide) ?_
  refine ea_imul (pc := 10) dX12_townOf_10 ?_
  refine ea_iload_n (pc := 11) dX12_townOf_11 rfl 2 rfl ?_
  refine ea_iadd (pc := 12) dX12_townOf_12 ?_
  have z1 := K
  refine ea_iald (pc := 13) dX12_townOf_13 (hs.1 3 (by decide)).1 (hs.1 3 (by decide)).2.1 (ea_vpl (hs.1 3 (by decide)).2.2 z1) ?_
  exact ea_iretE (pc := 14) dX12_townOf_14 rfl rfl EX rfl
noncomputable def vX12_isBetter (b0 : Nat) (x1 : Int32) (x2 : Int32) (x3 : Int32) (h : ea_H) : Int32 := (if (ea_i h (b0 + 15) (Int32.toNatClampNeg (((12 : Int32) * x1) + x3))) = (ea_i h (b0 + 15) (Int32.toNatClampNeg (((12 : Int32) * x2) + x3))) then (if (ea_i h (b0 + 16) (Int32.toNatClampNeg (((12 : Int32) * x1) + x3))) = (ea_i h (b0 + 16) (Int32.toNatClampNeg (((12 : Int32) * x2) + x3))) then (if (ea_i h (b0 + 12) (Int32.toNatClampNeg x1)) = (ea_i h (b0 + 12) (Int32.toNatClampNeg x2)) then (if (ea_i h (b0 + 13) (Int32.toNatClampNeg x2)) ≤ (ea_i h (b0 + 13) (Int32.toNatClampNeg x1)) then (0 : Int32) else (1 : Int32)) else (if (ea_i h (b0 + 12) (Int32.toNatClampNeg x2)) ≤ (ea_i h (b0 + 12) (Int32.toNatClampNeg x1)) then (0 : Int32) else (1 : Int32))) else (if (ea_i h (b0 + 16) (Int32.toNatClampNeg (((12 : Int32) * x2) + x3))) ≤ (ea_i h (b0 + 16) (Int32.toNatClampNeg (((12 : Int32) * x1) + x3))) then (0 : Int32) else (1 : Int32))) else (if (ea_i h (b0 + 15) (Int32.toNatClampNeg (((12 : Int32) * x2) + x3))) ≤ (ea_i h (b0 + 15) (Int32.toNatClampNeg (((12 : Int32) * x1) + x3))) then (0 : Int32) else (1 : Int32)))
def okX12_isBetter (b0 : Nat) (x1 : Int32) (x2 : Int32) (x3 : Int32) (h : ea_H) : Prop := vp_in (((12 : Int32) * x1) + x3) 12000 ∧ (vp_in (((12 : Int32) * x2) + x3) 12000 ∧ (((ea_i h (b0 + 15) (Int32.toNatClampNeg (((12 : Int32) * x1) + x3))) = (ea_i h (b0 + 15) (Int32.toNatClampNeg (((12 : Int32) * x2) + x3))) → vp_in (((12 : Int32) * x1) + x3) 12000 ∧ (vp_in (((12 : Int32) * x2) + x3) 12000 ∧ (((ea_i h (b0 + 16) (Int32.toNatClampNeg (((12 : Int32) * x1) + x3))) = (ea_i h (b0 + 16) (Int32.toNatClampNeg (((12 : Int32) * x2) + x3))) → vp_in x1 1000 ∧ (vp_in x2 1000 ∧ (((ea_i h (b0 + 12) (Int32.toNatClampNeg x1)) = (ea_i h (b0 + 12) (Int32.toNatClampNeg x2)) → vp_in x1 1000 ∧ (vp_in x2 1000)) ∧ (¬ (ea_i h (b0 + 12) (Int32.toNatClampNeg x1)) = (ea_i h (b0 + 12) (Int32.toNatClampNeg x2)) → vp_in x1 1000 ∧ (vp_in x2 1000))))) ∧ (¬ (ea_i h (b0 + 16) (Int32.toNatClampNeg (((12 : Int32) * x1) + x3))) = (ea_i h (b0 + 16) (Int32.toNatClampNeg (((12 : Int32) * x2) + x3))) → vp_in (((12 : Int32) * x1) + x3) 12000 ∧ (vp_in (((12 : Int32) * x2) + x3) 12000))))) ∧ (¬ (ea_i h (b0 + 15) (Int32.toNatClampNeg (((12 : Int32) * x1) + x3))) = (ea_i h (b0 + 15) (Int32.toNatClampNeg (((12 : Int32) * x2) + x3))) → vp_in (((12 : Int32) * x1) + x3) 12000 ∧ (vp_in (((12 : Int32) * x2) + x3) 12000))))
theorem bo_vX12_isBetter (b0 : Nat) (x1 : Int32) (x2 : Int32) (x3 : Int32) (h : ea_H) : vX12_isBetter b0 x1 x2 x3 h = 0 ∨ vX12_isBetter b0 x1 x2 x3 h = 1 := (ea_itB (ea_itB (ea_itB (ea_itB (Or.inl rfl) (Or.inr rfl)) (ea_itB (Or.inl rfl) (Or.inr rfl))) (ea_itB (Or.inl rfl) (Or.inr rfl))) (ea_itB (Or.inl rfl) (Or.inr rfl)))
theorem sX12_isBetter {d : Nat} {b0 : Nat} {x1 : Int32} {x2 : Int32} {x3 : Int32} {h : ea_H} (hd : 1 ≤ d) (hs : ShM b0 h) (K : okX12_isBetter b0 x1 x2 x3 h) : ea_Met mX12_isBetter d [vR (some (b0 + 0)), vI x1, vI x2, vI x3] h (some (vI (vX12_isBetter b0 x1 x2 x3 h))) h := by
  obtain ⟨X, EX⟩ : ∃ z, z = vX12_isBetter b0 x1 x2 x3 h := ⟨_, rfl⟩
  rw [← EX]
  unfold vX12_isBetter at EX
  unfold okX12_isBetter at K
  refine ea_enter rfl (Nat.le_of_ble_eq_true rfl) ?_
  refine ea_bipush (pc := 0) dX12_isBetter_0 (v := 12) rfl ?_
  refine ea_iload_n (pc := 2) dX12_isBetter_2 rfl 1 rfl ?_
  refine ea_imul (pc := 3) dX12_isBetter_3 ?_
  refine ea_iload_n (pc := 4) dX12_isBetter_4 rfl 3 rfl ?_
  refine ea_iadd (pc := 5) dX12_isBetter_5 ?_
  refine ea_istore (pc := 6) (lv' := [(0, vR (some (b0 + 0))), (1, vI x1), (2, vI x2), (3, vI x3), (4, vI (((12 : Int32) * x1) + x3))]) dX12_isBetter_6 (Nat.le_of_ble_eq_true rfl) [1, 2, 3, 4, 0] rfl ?_
  refine ea_bipush (pc := 8) dX12_isBetter_8 (v := 12) rfl ?_
  refine ea_iload_n (pc := 10) dX12_isBetter_10 rfl 2 rfl ?_
  refine ea_imul (pc := 11) dX12_isBetter_11 ?_
  refine ea_iload_n (pc := 12) dX12_isBetter_12 rfl 3 rfl ?_
  refine ea_iadd (pc := 13) dX12_isBetter_13 ?_
  refine ea_istore (pc := 14) (lv' := [(0, vR (some (b0 + 0))), (1, vI x1), (2, vI x2), (4, vI (((12 : Int32) * x1) + x3)), (5, vI (((12 : Int32) * x2) + x3))]) dX12_isBetter_14 (Nat.le_of_ble_eq_true rfl) [1, 2, 3, 5, 0] rfl ?_
  refine ea_aload_n (pc := 16) dX12_isBetter_16 rfl 0 rfl ?_
  refine ea_getR (pc := 17) dX12_isBetter_17 ec_12 (k := 19) (Nat.le_of_ble_eq_true rfl) rfl (Or.inl ew_1364) (hs.1 0 (by decide)).1 (hs.1 0 (by decide)).2.1 (hs.2 0 19 rfl) ?_
  refine ea_iload (pc := 20) dX12_isBetter_20 3 rfl ?_
  obtain ⟨z1, K⟩ := K
  refine ea_iald (pc := 22) dX12_isBetter_22 (hs.1 15 (by decide)).1 (hs.1 15 (by decide)).2.1 (ea_vpl (hs.1 15 (by decide)).2.2 z1) ?_
  refine ea_aload_n (pc := 23) dX12_isBetter_23 rfl 0 rfl ?_
  refine ea_getR (pc := 24) dX12_isBetter_24 ec_12 (k := 19) (Nat.le_of_ble_eq_true rfl) rfl (Or.inl ew_1364) (hs.1 0 (by decide)).1 (hs.1 0 (by decide)).2.1 (hs.2 0 19 rfl) ?_
  refine ea_iload (pc := 27) dX12_isBetter_27 4 rfl ?_
  obtain ⟨z2, K⟩ := K
  refine ea_iald (pc := 29) dX12_isBetter_29 (hs.1 15 (by decide)).1 (hs.1 15 (by decide)).2.1 (ea_vpl (hs.1 15 (by decide)).2.2 z2) ?_
  refine ea_icmp_eq (pc := 30) (tgt := 56) dX12_isBetter_30 rfl (fun c21 => ?_) (fun c21 => ?_)
  · have EX := EX.trans (if_pos c21)
    have K := K.1 c21
    refine ea_aload_n (pc := 56) dX12_isBetter_56 rfl 0 rfl ?_
    refine ea_getR (pc := 57) dX12_isBetter_57 ec_12 (k := 20) (Nat.le_of_ble_eq_true rfl) rfl (Or.inl ew_1365) (hs.1 0 (by decide)).1 (hs.1 0 (by decide)).2.1 (hs.2 0 20 rfl) ?_
    refine ea_iload (pc := 60) dX12_isBetter_60 3 rfl ?_
    obtain ⟨z3, K⟩ := K
    refine ea_iald (pc := 62) dX12_isBetter_62 (hs.1 16 (by decide)).1 (hs.1 16 (by decide)).2.1 (ea_vpl (hs.1 16 (by decide)).2.2 z3) ?_
    refine ea_aload_n (pc := 63) dX12_isBetter_63 rfl 0 rfl ?_
    refine ea_getR (pc := 64) dX12_isBetter_64 ec_12 (k := 20) (Nat.le_of_ble_eq_true rfl) rfl (Or.inl ew_1365) (hs.1 0 (by decide)).1 (hs.1 0 (by decide)).2.1 (hs.2 0 20 rfl) ?_
    refine ea_iload (pc := 67) dX12_isBetter_67 4 rfl ?_
    obtain ⟨z4, K⟩ := K
    refine ea_iald (pc := 69) dX12_isBetter_69 (hs.1 16 (by decide)).1 (hs.1 16 (by decide)).2.1 (ea_vpl (hs.1 16 (by decide)).2.2 z4) ?_
    refine ea_icmp_eq (pc := 70) (tgt := 96) dX12_isBetter_70 rfl (fun c17 => ?_) (fun c17 => ?_)
    · have EX := EX.trans (if_pos c17)
      have K := K.1 c17
      refine ea_aload_n (pc := 96) dX12_isBetter_96 rfl 0 rfl ?_
      refine ea_getR (pc := 97) dX12_isBetter_97 ec_12 (k := 16) (Nat.le_of_ble_eq_true rfl) rfl (Or.inl ew_1361) (hs.1 0 (by decide)).1 (hs.1 0 (by decide)).2.1 (hs.2 0 16 rfl) ?_
      refine ea_iload_n (pc := 100) dX12_isBetter_100 rfl 1 rfl ?_
      obtain ⟨z5, K⟩ := K
      refine ea_iald (pc := 101) dX12_isBetter_101 (hs.1 12 (by decide)).1 (hs.1 12 (by decide)).2.1 (ea_vpl (hs.1 12 (by decide)).2.2 z5) ?_
      refine ea_aload_n (pc := 102) dX12_isBetter_102 rfl 0 rfl ?_
      refine ea_getR (pc := 103) dX12_isBetter_103 ec_12 (k := 16) (Nat.le_of_ble_eq_true rfl) rfl (Or.inl ew_1361) (hs.1 0 (by decide)).1 (hs.1 0 (by decide)).2.1 (hs.2 0 16 rfl) ?_
      refine ea_iload_n (pc := 106) dX12_isBetter_106 rfl 2 rfl ?_
      obtain ⟨z6, K⟩ := K
      refine ea_iald (pc := 107) dX12_isBetter_107 (hs.1 12 (by decide)).1 (hs.1 12 (by decide)).2.1 (ea_vpl (hs.1 12 (by decide)).2.2 z6) ?_
      refine ea_icmp_eq (pc := 108) (tgt := 132) dX12_isBetter_108 rfl (fun c13 => ?_) (fun c13 => ?_)
      · have EX := EX.trans (if_pos c13)
        have K := K.1 c13
        refine ea_aload_n (pc := 132) dX12_isBetter_132 rfl 0 rfl ?_
        refine ea_getR (pc := 133) dX12_isBetter_133 ec_12 (k := 17) (Nat.le_of_ble_eq_true rfl) rfl (Or.inl ew_1362) (hs.1 0 (by decide)).1 (hs.1 0 (by decide)).2.1 (hs.2 0 17 rfl) ?_
        refine ea_iload_n (pc := 136) dX12_isBetter_136 rfl 1 rfl ?_
        obtain ⟨z7, K⟩ := K
        refine ea_iald (pc := 137) dX12_isBetter_137 (hs.1 13 (by decide)).1 (hs.1 13 (by decide)).2.1 (ea_vpl (hs.1 13 (by decide)).2.2 z7) ?_
        refine ea_aload_n (pc := 138) dX12_isBetter_138 rfl 0 rfl ?_
        refine ea_getR (pc := 139) dX12_isBetter_139 ec_12 (k := 17) (Nat.le_of_ble_eq_true rfl) rfl (Or.inl ew_1362) (hs.1 0 (by decide)).1 (hs.1 0 (by decide)).2.1 (hs.2 0 17 rfl) ?_
        refine ea_iload_n (pc := 142) dX12_isBetter_142 rfl 2 rfl ?_
        have z8 := K
        refine ea_iald (pc := 143) dX12_isBetter_143 (hs.1 13 (by decide)).1 (hs.1 13 (by decide)).2.1 (ea_vpl (hs.1 13 (by decide)).2.2 z8) ?_
        refine ea_icmp_ge (pc := 144) (tgt := 151) dX12_isBetter_144 rfl (fun c9 => ?_) (fun c9 => ?_)
        · have EX := EX.trans (if_pos c9)
          refine ea_iconst (pc := 151) dX12_isBetter_151 (v := 0) rfl ?_
          exact ea_iretE (pc := 152) dX12_isBetter_152 rfl (ea_bn (Or.inl rfl)) EX rfl
        · have EX := EX.trans (if_neg c9)
          refine ea_iconst (pc := 147) dX12_isBetter_147 (v := 1) rfl ?_
          refine ea_goto (pc := 148) (tgt := 152) dX12_isBetter_148 rfl ?_
          exact ea_iretE (pc := 152) dX12_isBetter_152 rfl (ea_bn (Or.inr rfl)) EX rfl
      · have EX := EX.trans (if_neg c13)
        have K := K.2 c13
        refine ea_aload_n (pc := 111) dX12_isBetter_111 rfl 0 rfl ?_
        refine ea_getR (pc := 112) dX12_isBetter_112 ec_12 (k := 16) (Nat.le_of_ble_eq_true rfl) rfl (Or.inl ew_1361) (hs.1 0 (by decide)).1 (hs.1 0 (by decide)).2.1 (hs.2 0 16 rfl) ?_
        refine ea_iload_n (pc := 115) dX12_isBetter_115 rfl 1 rfl ?_
        obtain ⟨z10, K⟩ := K
        refine ea_iald (pc := 116) dX12_isBetter_116 (hs.1 12 (by decide)).1 (hs.1 12 (by decide)).2.1 (ea_vpl (hs.1 12 (by decide)).2.2 z10) ?_
        refine ea_aload_n (pc := 117) dX12_isBetter_117 rfl 0 rfl ?_
        refine ea_getR (pc := 118) dX12_isBetter_118 ec_12 (k := 16) (Nat.le_of_ble_eq_true rfl) rfl (Or.inl ew_1361) (hs.1 0 (by decide)).1 (hs.1 0 (by decide)).2.1 (hs.2 0 16 rfl) ?_
        refine ea_iload_n (pc := 121) dX12_isBetter_121 rfl 2 rfl ?_
        have z11 := K
        refine ea_iald (pc := 122) dX12_isBetter_122 (hs.1 12 (by decide)).1 (hs.1 12 (by decide)).2.1 (ea_vpl (hs.1 12 (by decide)).2.2 z11) ?_
        refine ea_icmp_ge (pc := 123) (tgt := 130) dX12_isBetter_123 rfl (fun c12 => ?_) (fun c12 => ?_)
        · have EX := EX.trans (if_pos c12)
          refine ea_iconst (pc := 130) dX12_isBetter_130 (v := 0) rfl ?_
          exact ea_iretE (pc := 131) dX12_isBetter_131 rfl (ea_bn (Or.inl rfl)) EX rfl
        · have EX := EX.trans (if_neg c12)
          refine ea_iconst (pc := 126) dX12_isBetter_126 (v := 1) rfl ?_
          refine ea_goto (pc := 127) (tgt := 131) dX12_isBetter_127 rfl ?_
          exact ea_iretE (pc := 131) dX12_isBetter_131 rfl (ea_bn (Or.inr rfl)) EX rfl
    · have EX := EX.trans (if_neg c17)
      have K := K.2 c17
      refine ea_aload_n (pc := 73) dX12_isBetter_73 rfl 0 rfl ?_
      refine ea_getR (pc := 74) dX12_isBetter_74 ec_12 (k := 20) (Nat.le_of_ble_eq_true rfl) rfl (Or.inl ew_1365) (hs.1 0 (by decide)).1 (hs.1 0 (by decide)).2.1 (hs.2 0 20 rfl) ?_
      refine ea_iload (pc := 77) dX12_isBetter_77 3 rfl ?_
      obtain ⟨z14, K⟩ := K
      refine ea_iald (pc := 79) dX12_isBetter_79 (hs.1 16 (by decide)).1 (hs.1 16 (by decide)).2.1 (ea_vpl (hs.1 16 (by decide)).2.2 z14) ?_
      refine ea_aload_n (pc := 80) dX12_isBetter_80 rfl 0 rfl ?_
      refine ea_getR (pc := 81) dX12_isBetter_81 ec_12 (k := 20) (Nat.le_of_ble_eq_true rfl) rfl (Or.inl ew_1365) (hs.1 0 (by decide)).1 (hs.1 0 (by decide)).2.1 (hs.2 0 20 rfl) ?_
      refine ea_iload (pc := 84) dX12_isBetter_84 4 rfl ?_
      have z15 := K
      refine ea_iald (pc := 86) dX12_isBetter_86 (hs.1 16 (by decide)).1 (hs.1 16 (by decide)).2.1 (ea_vpl (hs.1 16 (by decide)).2.2 z15) ?_
      refine ea_icmp_ge (pc := 87) (tgt := 94) dX12_isBetter_87 rfl (fun c16 => ?_) (fun c16 => ?_)
      · have EX := EX.trans (if_pos c16)
        refine ea_iconst (pc := 94) dX12_isBetter_94 (v := 0) rfl ?_
        exact ea_iretE (pc := 95) dX12_isBetter_95 rfl (ea_bn (Or.inl rfl)) EX rfl
      · have EX := EX.trans (if_neg c16)
        refine ea_iconst (pc := 90) dX12_isBetter_90 (v := 1) rfl ?_
        refine ea_goto (pc := 91) (tgt := 95) dX12_isBetter_91 rfl ?_
        exact ea_iretE (pc := 95) dX12_isBetter_95 rfl (ea_bn (Or.inr rfl)) EX rfl
  · have EX := EX.trans (if_neg c21)
    have K := K.2 c21
    refine ea_aload_n (pc := 33) dX12_isBetter_33 rfl 0 rfl ?_
    refine ea_getR (pc := 34) dX12_isBetter_34 ec_12 (k := 19) (Nat.le_of_ble_eq_true rfl) rfl (Or.inl ew_1364) (hs.1 0 (by decide)).1 (hs.1 0 (by decide)).2.1 (hs.2 0 19 rfl) ?_
    refine ea_iload (pc := 37) dX12_isBetter_37 3 rfl ?_
    obtain ⟨z18, K⟩ := K
    refine ea_iald (pc := 39) dX12_isBetter_39 (hs.1 15 (by decide)).1 (hs.1 15 (by decide)).2.1 (ea_vpl (hs.1 15 (by decide)).2.2 z18) ?_
    refine ea_aload_n (pc := 40) dX12_isBetter_40 rfl 0 rfl ?_
    refine ea_getR (pc := 41) dX12_isBetter_41 ec_12 (k := 19) (Nat.le_of_ble_eq_true rfl) rfl (Or.inl ew_1364) (hs.1 0 (by decide)).1 (hs.1 0 (by decide)).2.1 (hs.2 0 19 rfl) ?_
    refine ea_iload (pc := 44) dX12_isBetter_44 4 rfl ?_
    have z19 := K
    refine ea_iald (pc := 46) dX12_isBetter_46 (hs.1 15 (by decide)).1 (hs.1 15 (by decide)).2.1 (ea_vpl (hs.1 15 (by decide)).2.2 z19) ?_
    refine ea_icmp_ge (pc := 47) (tgt := 54) dX12_isBetter_47 rfl (fun c20 => ?_) (fun c20 => ?_)
    · have EX := EX.trans (if_pos c20)
      refine ea_iconst (pc := 54) dX12_isBetter_54 (v := 0) rfl ?_
      exact ea_iretE (pc := 55) dX12_isBetter_55 rfl (ea_bn (Or.inl rfl)) EX rfl
    · have EX := EX.trans (if_neg c20)
      refine ea_iconst (pc := 50) dX12_isBetter_50 (v := 1) rfl ?_
      refine ea_goto (pc := 51) (tgt := 55) dX12_isBetter_51 rfl ?_
      exact ea_iretE (pc := 55) dX12_isBetter_55 rfl (ea_bn (Or.inr rfl)) EX rfl
noncomputable def vX12_end (b0 : Nat) (x1 : Int32) (h : ea_H) : Int32 := (if (vX12_isIn (x1 : Int32) (0 : Int32) ((ea_i h (b0 + 0) 52) : Int32) h) = (0 : Int32) then (0 : Int32) else (1 : Int32))
noncomputable def wX12_end (b0 : Nat) (x1 : Int32) (h : ea_H) : ea_H := (if (vX12_isIn (x1 : Int32) (0 : Int32) ((ea_i h (b0 + 0) 52) : Int32) h) = (0 : Int32) then h else (ea_wi h (b0 + 0) 52 x1))
theorem bo_vX12_end (b0 : Nat) (x1 : Int32) (h : ea_H) : vX12_end b0 x1 h = 0 ∨ vX12_end b0 x1 h = 1 := (ea_itB (Or.inl rfl) (Or.inr rfl))
theorem shX12_end {b0 : Nat} {x1 : Int32} {h : ea_H} (hs : ShM b0 h) : ShM b0 (wX12_end b0 x1 h) := (ShM_it hs (ShM_wi hs))
theorem sX12_end {d : Nat} {b0 : Nat} {x1 : Int32} {h : ea_H} (hd : 2 ≤ d) (hs : ShM b0 h) : ea_Met mX12_end d [vR (some (b0 + 0)), vI x1] h (some (vI (vX12_end b0 x1 h))) (wX12_end b0 x1 h) := by
  obtain ⟨X, EX⟩ : ∃ z, z = vX12_end b0 x1 h := ⟨_, rfl⟩
  rw [← EX]
  unfold vX12_end at EX
  obtain ⟨Y, EY⟩ : ∃ z, z = wX12_end b0 x1 h := ⟨_, rfl⟩
  rw [← EY]
  unfold wX12_end at EY
  refine ea_enter rfl (Nat.le_of_ble_eq_true rfl) ?_
  refine ea_iload_n (pc := 0) dX12_end_0 rfl 1 rfl ?_
  refine ea_iconst (pc := 1) dX12_end_1 (v := 0) rfl ?_
  refine ea_aload_n (pc := 2) dX12_end_2 rfl 0 rfl ?_
  refine ea_getI (pc := 3) dX12_end_3 ec_12 (k := 52) (Nat.le_of_ble_eq_true rfl) rfl (Or.inl ew_1397) (hs.1 0 (by decide)).1 (hs.1 0 (by decide)).2.1 ?_
  refine ea_callS (pc := 6) (d' := d - 1) (As := [vI x1, vI 0, vI (ea_i h (b0 + 0) 52)]) (st := []) dX12_end_6 kX12_isIn (sX12_isIn (d := d - 1) (by omega)) (by omega) rfl (Nat.le_of_ble_eq_true rfl) ew_1712 ew_1713 ?_
  refine ea_if_ne (pc := 9) (tgt := 14) dX12_end_9 rfl (fun c3 => ?_) (fun c3 => ?_)
  · have EX := EX.trans (if_neg c3)
    have EY := EY.trans (if_neg c3)
    refine ea_aload_n (pc := 14) dX12_end_14 rfl 0 rfl ?_
    refine ea_iload_n (pc := 15) dX12_end_15 rfl 1 rfl ?_
    refine ea_putI (pc := 16) dX12_end_16 ec_12 (k := 52) (Nat.le_of_ble_eq_true rfl) rfl (Or.inl ⟨rfl, Or.inl ew_1397⟩) rfl rfl (hs.1 0 (by decide)).1 (hs.1 0 (by decide)).2.1 ?_
    have hs2 : ShM b0 (ea_wi h (b0 + 0) 52 x1) := ShM_wi hs
    refine ea_iconst (pc := 19) dX12_end_19 (v := 1) rfl ?_
    exact ea_iretE (pc := 20) dX12_end_20 rfl (ea_bn (Or.inr rfl)) EX EY
  · have EX := EX.trans (if_pos c3)
    have EY := EY.trans (if_pos c3)
    refine ea_iconst (pc := 12) dX12_end_12 (v := 0) rfl ?_
    exact ea_iretE (pc := 13) dX12_end_13 rfl (ea_bn (Or.inl rfl)) EX EY
noncomputable def vX12_see (b0 : Nat) (x1 : Int32) (h : ea_H) : Int32 := (if (ea_i h (b0 + 0) 52) ≤ x1 then ((-1) : Int32) else (ea_i h (b0 + 36) (Int32.toNatClampNeg x1)))
def okX12_see (b0 : Nat) (x1 : Int32) (h : ea_H) : Prop := ((ea_i h (b0 + 0) 52) ≤ x1 → True) ∧ (¬ (ea_i h (b0 + 0) 52) ≤ x1 → vp_in x1 600)
theorem sX12_see {d : Nat} {b0 : Nat} {x1 : Int32} {h : ea_H} (hd : 1 ≤ d) (hs : ShM b0 h) (K : okX12_see b0 x1 h) : ea_Met mX12_see d [vR (some (b0 + 0)), vI x1] h (some (vI (vX12_see b0 x1 h))) h := by
  obtain ⟨X, EX⟩ : ∃ z, z = vX12_see b0 x1 h := ⟨_, rfl⟩
  rw [← EX]
  unfold vX12_see at EX
  unfold okX12_see at K
  refine ea_enter rfl (Nat.le_of_ble_eq_true rfl) ?_
  refine ea_iload_n (pc := 0) dX12_see_0 rfl 1 rfl ?_
  refine ea_aload_n (pc := 1) dX12_see_1 rfl 0 rfl ?_
  refine ea_getI (pc := 2) dX12_see_2 ec_12 (k := 52) (Nat.le_of_ble_eq_true rfl) rfl (Or.inl ew_1397) (hs.1 0 (by decide)).1 (hs.1 0 (by decide)).2.1 ?_
  refine ea_icmp_ge (pc := 5) (tgt := 17) dX12_see_5 rfl (fun c2 => ?_) (fun c2 => ?_)
  · have EX := EX.trans (if_pos c2)
    refine ea_iconst (pc := 17) dX12_see_17 (v := (-1)) rfl ?_
    exact ea_iretE (pc := 18) dX12_see_18 rfl rfl EX rfl
  · have EX := EX.trans (if_neg c2)
    have K := K.2 c2
    refine ea_aload_n (pc := 8) dX12_see_8 rfl 0 rfl ?_
    refine ea_getR (pc := 9) dX12_see_9 ec_12 (k := 41) (Nat.le_of_ble_eq_true rfl) rfl (Or.inl ew_1386) (hs.1 0 (by decide)).1 (hs.1 0 (by decide)).2.1 (hs.2 0 41 rfl) ?_
    refine ea_iload_n (pc := 12) dX12_see_12 rfl 1 rfl ?_
    have z1 := K
    refine ea_iald (pc := 13) dX12_see_13 (hs.1 36 (by decide)).1 (hs.1 36 (by decide)).2.1 (ea_vpl (hs.1 36 (by decide)).2.2 z1) ?_
    refine ea_goto (pc := 14) (tgt := 18) dX12_see_14 rfl ?_
    exact ea_iretE (pc := 18) dX12_see_18 rfl rfl EX rfl
noncomputable def vX12_isLetter (x0 : Int32) (h : ea_H) : Int32 := (if (vX12_isIn (x0 : Int32) (97 : Int32) (122 : Int32) h) = (0 : Int32) then (if (vX12_isIn (x0 : Int32) (65 : Int32) (90 : Int32) h) = (0 : Int32) then (0 : Int32) else (1 : Int32)) else (1 : Int32))
theorem bo_vX12_isLetter (x0 : Int32) (h : ea_H) : vX12_isLetter x0 h = 0 ∨ vX12_isLetter x0 h = 1 := (ea_itB (ea_itB (Or.inl rfl) (Or.inr rfl)) (Or.inr rfl))
theorem sX12_isLetter {d : Nat} {x0 : Int32} {h : ea_H} (hd : 2 ≤ d) : ea_Met mX12_isLetter d [vI x0] h (some (vI (vX12_isLetter x0 h))) h := by
  obtain ⟨X, EX⟩ : ∃ z, z = vX12_isLetter x0 h := ⟨_, rfl⟩
  rw [← EX]
  unfold vX12_isLetter at EX
  refine ea_enter rfl (Nat.le_of_ble_eq_true rfl) ?_
  refine ea_iload_n (pc := 0) dX12_isLetter_0 rfl 0 rfl ?_
  refine ea_bipush (pc := 1) dX12_isLetter_1 (v := 97) rfl ?_
  refine ea_bipush (pc := 3) dX12_isLetter_3 (v := 122) rfl ?_
  refine ea_callS (pc := 5) (d' := d - 1) (As := [vI x0, vI 97, vI 122]) (st := []) dX12_isLetter_5 kX12_isIn (sX12_isIn (d := d - 1) (by omega)) (by omega) rfl (Nat.le_of_ble_eq_true rfl) ew_1712 ew_1713 ?_
  refine ea_if_ne (pc := 8) (tgt := 22) dX12_isLetter_8 rfl (fun c4 => ?_) (fun c4 => ?_)
  · have EX := EX.trans (if_neg c4)
    refine ea_iconst (pc := 22) dX12_isLetter_22 (v := 1) rfl ?_
    refine ea_goto (pc := 23) (tgt := 27) dX12_isLetter_23 rfl ?_
    exact ea_iretE (pc := 27) dX12_isLetter_27 rfl (ea_bn (Or.inr rfl)) EX rfl
  · have EX := EX.trans (if_pos c4)
    refine ea_iload_n (pc := 11) dX12_isLetter_11 rfl 0 rfl ?_
    refine ea_bipush (pc := 12) dX12_isLetter_12 (v := 65) rfl ?_
    refine ea_bipush (pc := 14) dX12_isLetter_14 (v := 90) rfl ?_
    refine ea_callS (pc := 16) (d' := d - 1) (As := [vI x0, vI 65, vI 90]) (st := []) dX12_isLetter_16 kX12_isIn (sX12_isIn (d := d - 1) (by omega)) (by omega) rfl (Nat.le_of_ble_eq_true rfl) ew_1712 ew_1713 ?_
    refine ea_if_eq (pc := 19) (tgt := 26) dX12_isLetter_19 rfl (fun c3 => ?_) (fun c3 => ?_)
    · have EX := EX.trans (if_pos c3)
      refine ea_iconst (pc := 26) dX12_isLetter_26 (v := 0) rfl ?_
      exact ea_iretE (pc := 27) dX12_isLetter_27 rfl (ea_bn (Or.inl rfl)) EX rfl
    · have EX := EX.trans (if_neg c3)
      refine ea_iconst (pc := 22) dX12_isLetter_22 (v := 1) rfl ?_
      refine ea_goto (pc := 23) (tgt := 27) dX12_isLetter_23 rfl ?_
      exact ea_iretE (pc := 27) dX12_isLetter_27 rfl (ea_bn (Or.inr rfl)) EX rfl
noncomputable def vX12_isDigit (x0 : Int32) (h : ea_H) : Int32 := (vX12_isIn (x0 : Int32) (48 : Int32) (57 : Int32) h)
theorem bo_vX12_isDigit (x0 : Int32) (h : ea_H) : vX12_isDigit x0 h = 0 ∨ vX12_isDigit x0 h = 1 := (bo_vX12_isIn _ _ _ _)
theorem sX12_isDigit {d : Nat} {x0 : Int32} {h : ea_H} (hd : 2 ≤ d) : ea_Met mX12_isDigit d [vI x0] h (some (vI (vX12_isDigit x0 h))) h := by
  obtain ⟨X, EX⟩ : ∃ z, z = vX12_isDigit x0 h := ⟨_, rfl⟩
  rw [← EX]
  unfold vX12_isDigit at EX
  refine ea_enter rfl (Nat.le_of_ble_eq_true rfl) ?_
  refine ea_iload_n (pc := 0) dX12_isDigit_0 rfl 0 rfl ?_
  refine ea_bipush (pc := 1) dX12_isDigit_1 (v := 48) rfl ?_
  refine ea_bipush (pc := 3) dX12_isDigit_3 (v := 57) rfl ?_
  refine ea_callS (pc := 5) (d' := d - 1) (As := [vI x0, vI 48, vI 57]) (st := []) dX12_isDigit_5 kX12_isIn (sX12_isIn (d := d - 1) (by omega)) (by omega) rfl (Nat.le_of_ble_eq_true rfl) ew_1712 ew_1713 ?_
  exact ea_iretE (pc := 8) dX12_isDigit_8 rfl (ea_bn (bo_vX12_isIn ..)) EX rfl
noncomputable def vX12_bad (b0 : Nat) (x1 : Int32) (h : ea_H) : Int32 := (0 : Int32)
noncomputable def wX12_bad (b0 : Nat) (x1 : Int32) (h : ea_H) : ea_H := (ea_wi (ea_wi h (b0 + 0) 57 x1) (b0 + 0) 58 (ea_i (ea_wi h (b0 + 0) 57 x1) (b0 + 0) 55))
theorem bo_vX12_bad (b0 : Nat) (x1 : Int32) (h : ea_H) : vX12_bad b0 x1 h = 0 ∨ vX12_bad b0 x1 h = 1 := (Or.inl rfl)
theorem shX12_bad {b0 : Nat} {x1 : Int32} {h : ea_H} (hs : ShM b0 h) : ShM b0 (wX12_bad b0 x1 h) := (ShM_wi (ShM_wi hs))
theorem sX12_bad {d : Nat} {b0 : Nat} {x1 : Int32} {h : ea_H} (hd : 1 ≤ d) (hs : ShM b0 h) : ea_Met mX12_bad d [vR (some (b0 + 0)), vI x1] h (some (vI (vX12_bad b0 x1 h))) (wX12_bad b0 x1 h) := by
  obtain ⟨X, EX⟩ : ∃ z, z = vX12_bad b0 x1 h := ⟨_, rfl⟩
  rw [← EX]
  unfold vX12_bad at EX
  obtain ⟨Y, EY⟩ : ∃ z, z = wX12_bad b0 x1 h := ⟨_, rfl⟩
  rw [← EY]
  unfold wX12_bad at EY
  refine ea_enter rfl (Nat.le_of_ble_eq_true rfl) ?_
  refine ea_aload_n (pc := 0) dX12_bad_0 rfl 0 rfl ?_
  refine ea_iload_n (pc := 1) dX12_bad_1 rfl 1 rfl ?_
  refine ea_putI (pc := 2) dX12_bad_2 ec_12 (k := 57) (Nat.le_of_ble_eq_true rfl) rfl (Or.inl ⟨rfl, Or.inl ew_1402⟩) rfl rfl (hs.1 0 (by decide)).1 (hs.1 0 (by decide)).2.1 ?_
  have hs1 : ShM b0 (ea_wi h (b0 + 0) 57 x1) := ShM_wi hs
  refine ea_aload_n (pc := 5) dX12_bad_5 rfl 0 rfl ?_
  refine ea_aload_n (pc := 6) dX12_bad_6 rfl 0 rfl ?_
  refine ea_getI (pc := 7) dX12_bad_7 ec_12 (k := 55) (Nat.le_of_ble_eq_true rfl) rfl (Or.inl ew_1400) (hs1.1 0 (by decide)).1 (hs1.1 0 (by decide)).2.1 ?_
  refine ea_putI (pc := 10) dX12_bad_10 ec_12 (k := 58) (Nat.le_of_ble_eq_true rfl) rfl (Or.inl ⟨rfl, Or.inl ew_1403⟩) rfl rfl (hs1.1 0 (by decide)).1 (hs1.1 0 (by decide)).2.1 ?_
  have hs2 : ShM b0 (ea_wi (ea_wi h (b0 + 0) 57 x1) (b0 + 0) 58 (ea_i (ea_wi h (b0 + 0) 57 x1) (b0 + 0) 55)) := ShM_wi hs1
  refine ea_iconst (pc := 13) dX12_bad_13 (v := 0) rfl ?_
  exact ea_iretE (pc := 14) dX12_bad_14 rfl (ea_bn (Or.inl rfl)) EX EY
noncomputable def wX12_lay (b0 : Nat) (x1 : Int32) (x2 : Int32) (h : ea_H) : ea_H := (ea_wi (ea_wi (ea_wi h (b0 + 35) (Int32.toNatClampNeg ((2 : Int32) * (ea_i h (b0 + 0) 45))) x1) (b0 + 35) (Int32.toNatClampNeg (((2 : Int32) * (ea_i (ea_wi h (b0 + 35) (Int32.toNatClampNeg ((2 : Int32) * (ea_i h (b0 + 0) 45))) x1) (b0 + 0) 45)) + (1 : Int32))) x2) (b0 + 0) 45 ((ea_i (ea_wi (ea_wi h (b0 + 35) (Int32.toNatClampNeg ((2 : Int32) * (ea_i h (b0 + 0) 45))) x1) (b0 + 35) (Int32.toNatClampNeg (((2 : Int32) * (ea_i (ea_wi h (b0 + 35) (Int32.toNatClampNeg ((2 : Int32) * (ea_i h (b0 + 0) 45))) x1) (b0 + 0) 45)) + (1 : Int32))) x2) (b0 + 0) 45) + (1 : Int32)))
def okX12_lay (b0 : Nat) (x1 : Int32) (x2 : Int32) (h : ea_H) : Prop := vp_in ((2 : Int32) * (ea_i h (b0 + 0) 45)) 1220 ∧ (vp_in (((2 : Int32) * (ea_i (ea_wi h (b0 + 35) (Int32.toNatClampNeg ((2 : Int32) * (ea_i h (b0 + 0) 45))) x1) (b0 + 0) 45)) + (1 : Int32)) 1220)
theorem shX12_lay {b0 : Nat} {x1 : Int32} {x2 : Int32} {h : ea_H} (hs : ShM b0 h) : ShM b0 (wX12_lay b0 x1 x2 h) := (ShM_wi (ShM_wi (ShM_wi hs)))
theorem sX12_lay {d : Nat} {b0 : Nat} {x1 : Int32} {x2 : Int32} {h : ea_H} (hd : 1 ≤ d) (hs : ShM b0 h) (K : okX12_lay b0 x1 x2 h) : ea_Met mX12_lay d [vR (some (b0 + 0)), vI x1, vI x2] h none (wX12_lay b0 x1 x2 h) := by
  obtain ⟨Y, EY⟩ : ∃ z, z = wX12_lay b0 x1 x2 h := ⟨_, rfl⟩
  rw [← EY]
  unfold wX12_lay at EY
  unfold okX12_lay at K
  refine ea_enter rfl (Nat.le_of_ble_eq_true rfl) ?_
  refine ea_aload_n (pc := 0) dX12_lay_0 rfl 0 rfl ?_
  refine ea_getR (pc := 1) dX12_lay_1 ec_12 (k := 40) (Nat.le_of_ble_eq_true rfl) rfl (Or.inl ew_1385) (hs.1 0 (by decide)).1 (hs.1 0 (by decide)).2.1 (hs.2 0 40 rfl) ?_
  refine ea_iconst (pc := 4) dX12_lay_4 (v := 2) rfl ?_
  refine ea_aload_n (pc := 5) dX12_lay_5 rfl 0 rfl ?_
  refine ea_getI (pc := 6) dX12_lay_6 ec_12 (k := 45) (Nat.le_of_ble_eq_true rfl) rfl (Or.inl ew_1390) (hs.1 0 (by decide)).1 (hs.1 0 (by decide)).2.1 ?_
  refine ea_imul (pc := 9) dX12_lay_9 ?_
  refine ea_iload_n (pc := 10) dX12_lay_10 rfl 1 rfl ?_
  obtain ⟨z1, K⟩ := K
  refine ea_iast (pc := 11) dX12_lay_11 (hs.1 35 (by decide)).1 (hs.1 35 (by decide)).2.1 (ea_vpl (hs.1 35 (by decide)).2.2 z1) ?_
  have hs2 : ShM b0 (ea_wi h (b0 + 35) (Int32.toNatClampNeg ((2 : Int32) * (ea_i h (b0 + 0) 45))) x1) := ShM_wi hs
  refine ea_aload_n (pc := 12) dX12_lay_12 rfl 0 rfl ?_
  refine ea_getR (pc := 13) dX12_lay_13 ec_12 (k := 40) (Nat.le_of_ble_eq_true rfl) rfl (Or.inl ew_1385) (hs2.1 0 (by decide)).1 (hs2.1 0 (by decide)).2.1 (hs2.2 0 40 rfl) ?_
  refine ea_iconst (pc := 16) dX12_lay_16 (v := 2) rfl ?_
  refine ea_aload_n (pc := 17) dX12_lay_17 rfl 0 rfl ?_
  refine ea_getI (pc := 18) dX12_lay_18 ec_12 (k := 45) (Nat.le_of_ble_eq_true rfl) rfl (Or.inl ew_1390) (hs2.1 0 (by decide)).1 (hs2.1 0 (by decide)).2.1 ?_
  refine ea_imul (pc := 21) dX12_lay_21 ?_
  refine ea_iconst (pc := 22) dX12_lay_22 (v := 1) rfl ?_
  refine ea_iadd (pc := 23) dX12_lay_23 ?_
  refine ea_iload_n (pc := 24) dX12_lay_24 rfl 2 rfl ?_
  have z3 := K
  refine ea_iast (pc := 25) dX12_lay_25 (hs2.1 35 (by decide)).1 (hs2.1 35 (by decide)).2.1 (ea_vpl (hs2.1 35 (by decide)).2.2 z3) ?_
  have hs4 : ShM b0 (ea_wi (ea_wi h (b0 + 35) (Int32.toNatClampNeg ((2 : Int32) * (ea_i h (b0 + 0) 45))) x1) (b0 + 35) (Int32.toNatClampNeg (((2 : Int32) * (ea_i (ea_wi h (b0 + 35) (Int32.toNatClampNeg ((2 : Int32) * (ea_i h (b0 + 0) 45))) x1) (b0 + 0) 45)) + (1 : Int32))) x2) := ShM_wi hs2
  refine ea_aload_n (pc := 26) dX12_lay_26 rfl 0 rfl ?_
  refine ea_dup (pc := 27) dX12_lay_27 rfl ?_
  refine ea_getI (pc := 28) dX12_lay_28 ec_12 (k := 45) (Nat.le_of_ble_eq_true rfl) rfl (Or.inl ew_1390) (hs4.1 0 (by decide)).1 (hs4.1 0 (by decide)).2.1 ?_
  refine ea_iconst (pc := 31) dX12_lay_31 (v := 1) rfl ?_
  refine ea_iadd (pc := 32) dX12_lay_32 ?_
  refine ea_putI (pc := 33) dX12_lay_33 ec_12 (k := 45) (Nat.le_of_ble_eq_true rfl) rfl (Or.inl ⟨rfl, Or.inl ew_1390⟩) rfl rfl (hs4.1 0 (by decide)).1 (hs4.1 0 (by decide)).2.1 ?_
  have hs5 : ShM b0 (ea_wi (ea_wi (ea_wi h (b0 + 35) (Int32.toNatClampNeg ((2 : Int32) * (ea_i h (b0 + 0) 45))) x1) (b0 + 35) (Int32.toNatClampNeg (((2 : Int32) * (ea_i (ea_wi h (b0 + 35) (Int32.toNatClampNeg ((2 : Int32) * (ea_i h (b0 + 0) 45))) x1) (b0 + 0) 45)) + (1 : Int32))) x2) (b0 + 0) 45 ((ea_i (ea_wi (ea_wi h (b0 + 35) (Int32.toNatClampNeg ((2 : Int32) * (ea_i h (b0 + 0) 45))) x1) (b0 + 35) (Int32.toNatClampNeg (((2 : Int32) * (ea_i (ea_wi h (b0 + 35) (Int32.toNatClampNeg ((2 : Int32) * (ea_i h (b0 + 0) 45))) x1) (b0 + 0) 45)) + (1 : Int32))) x2) (b0 + 0) 45) + (1 : Int32))) := ShM_wi hs4
  exact ea_vretE (pc := 36) dX12_lay_36 rfl EY
noncomputable def vX12_fault (b0 : Nat) (x1 : Int32) (h : ea_H) : Int32 := (if x1 = (0 : Int32) then (ea_i h (b0 + 0) 59) else (if x1 = (1 : Int32) then (ea_i h (b0 + 0) 62) else ((-1) : Int32)))
theorem sX12_fault {d : Nat} {b0 : Nat} {x1 : Int32} {h : ea_H} (hd : 1 ≤ d) (hs : ShM b0 h) : ea_Met mX12_fault d [vR (some (b0 + 0)), vI x1] h (some (vI (vX12_fault b0 x1 h))) h := by
  obtain ⟨X, EX⟩ : ∃ z, z = vX12_fault b0 x1 h := ⟨_, rfl⟩
  rw [← EX]
  unfold vX12_fault at EX
  refine ea_enter rfl (Nat.le_of_ble_eq_true rfl) ?_
  refine ea_iload_n (pc := 0) dX12_fault_0 rfl 1 rfl ?_
  refine ea_if_ne (pc := 1) (tgt := 11) dX12_fault_1 rfl (fun c2 => ?_) (fun c2 => ?_)
  · have EX := EX.trans (if_neg c2)
    refine ea_iload_n (pc := 11) dX12_fault_11 rfl 1 rfl ?_
    refine ea_iconst (pc := 12) dX12_fault_12 (v := 1) rfl ?_
    refine ea_icmp_ne (pc := 13) (tgt := 23) dX12_fault_13 rfl (fun c1 => ?_) (fun c1 => ?_)
    · have EX := EX.trans (if_neg c1)
      refine ea_iconst (pc := 23) dX12_fault_23 (v := (-1)) rfl ?_
      exact ea_iretE (pc := 24) dX12_fault_24 rfl rfl EX rfl
    · have EX := EX.trans (if_pos c1)
      refine ea_aload_n (pc := 16) dX12_fault_16 rfl 0 rfl ?_
      refine ea_getI (pc := 17) dX12_fault_17 ec_12 (k := 62) (Nat.le_of_ble_eq_true rfl) rfl (Or.inl ew_1407) (hs.1 0 (by decide)).1 (hs.1 0 (by decide)).2.1 ?_
      refine ea_goto (pc := 20) (tgt := 24) dX12_fault_20 rfl ?_
      exact ea_iretE (pc := 24) dX12_fault_24 rfl rfl EX rfl
  · have EX := EX.trans (if_pos c2)
    refine ea_aload_n (pc := 4) dX12_fault_4 rfl 0 rfl ?_
    refine ea_getI (pc := 5) dX12_fault_5 ec_12 (k := 59) (Nat.le_of_ble_eq_true rfl) rfl (Or.inl ew_1404) (hs.1 0 (by decide)).1 (hs.1 0 (by decide)).2.1 ?_
    refine ea_goto (pc := 8) (tgt := 24) dX12_fault_8 rfl ?_
    exact ea_iretE (pc := 24) dX12_fault_24 rfl rfl EX rfl
noncomputable def vX12_isLetterOf (b0 : Nat) (x1 : Int32) (h : ea_H) : Int32 := (vX12_isIn (x1 : Int32) (0 : Int32) (((ea_i h (b0 + 0) 63) - (1 : Int32)) : Int32) h)
theorem bo_vX12_isLetterOf (b0 : Nat) (x1 : Int32) (h : ea_H) : vX12_isLetterOf b0 x1 h = 0 ∨ vX12_isLetterOf b0 x1 h = 1 := (bo_vX12_isIn _ _ _ _)
theorem sX12_isLetterOf {d : Nat} {b0 : Nat} {x1 : Int32} {h : ea_H} (hd : 2 ≤ d) (hs : ShM b0 h) : ea_Met mX12_isLetterOf d [vR (some (b0 + 0)), vI x1] h (some (vI (vX12_isLetterOf b0 x1 h))) h := by
  obtain ⟨X, EX⟩ : ∃ z, z = vX12_isLetterOf b0 x1 h := ⟨_, rfl⟩
  rw [← EX]
  unfold vX12_isLetterOf at EX
  refine ea_enter rfl (Nat.le_of_ble_eq_true rfl) ?_
  refine ea_iload_n (pc := 0) dX12_isLetterOf_0 rfl 1 rfl ?_
  refine ea_iconst (pc := 1) dX12_isLetterOf_1 (v := 0) rfl ?_
  refine ea_aload_n (pc := 2) dX12_isLetterOf_2 rfl 0 rfl ?_
  refine ea_getI (pc := 3) dX12_isLetterOf_3 ec_12 (k := 63) (Nat.le_of_ble_eq_true rfl) rfl (Or.inl ew_1408) (hs.1 0 (by decide)).1 (hs.1 0 (by decide)).2.1 ?_
  refine ea_iconst (pc := 6) dX12_isLetterOf_6 (v := 1) rfl ?_
  refine ea_isub (pc := 7) dX12_isLetterOf_7 ?_
  refine ea_callS (pc := 8) (d' := d - 1) (As := [vI x1, vI 0, vI ((ea_i h (b0 + 0) 63) - (1 : Int32))]) (st := []) dX12_isLetterOf_8 kX12_isIn (sX12_isIn (d := d - 1) (by omega)) (by omega) rfl (Nat.le_of_ble_eq_true rfl) ew_1712 ew_1713 ?_
  exact ea_iretE (pc := 11) dX12_isLetterOf_11 rfl (ea_bn (bo_vX12_isIn ..)) EX rfl
noncomputable def vX12_both (x0 : Int32) (x1 : Int32) (x2 : Int32) (h : ea_H) : Int32 := (if Int32.toInt x0 = 8 then (x1 + x2) else (if Int32.toInt x0 = 9 then (x1 - x2) else (if Int32.toInt x0 = 10 then (x1 * x2) else (if Int32.toInt x0 = 11 then (x1 ||| x2) else (if Int32.toInt x0 = 12 then (if x2 ≤ x1 then (0 : Int32) else (1 : Int32)) else (if Int32.toInt x0 = 13 then (if x1 = x2 then (1 : Int32) else (0 : Int32)) else (if Int32.toInt x0 = 14 then (if x1 ≤ x2 then (0 : Int32) else (1 : Int32)) else (if Int32.toInt x0 = 15 then (x1 ||| x2) else (if Int32.toInt x0 = 16 then (x1 &&& x2) else (x1 ||| x2))))))))))
theorem sX12_both {d : Nat} {x0 : Int32} {x1 : Int32} {x2 : Int32} {h : ea_H} (hd : 1 ≤ d) : ea_Met mX12_both d [vI x0, vI x1, vI x2] h (some (vI (vX12_both x0 x1 x2 h))) h := by
  obtain ⟨X, EX⟩ : ∃ z, z = vX12_both x0 x1 x2 h := ⟨_, rfl⟩
  rw [← EX]
  unfold vX12_both at EX
  refine ea_enter rfl (Nat.le_of_ble_eq_true rfl) ?_
  refine ea_iload_n (pc := 0) dX12_both_0 rfl 0 rfl ?_
  by_cases qc1_0 : Int32.toInt x0 = 8
  · have EX := EX.trans (if_pos qc1_0)
    refine ea_tswIn (pc := 1) (tgt := 52) dX12_both_1 (by rw [qc1_0]; decide) (by rw [qc1_0]; decide) (by rw [qc1_0]; rfl) rfl ?_
    refine ea_iload_n (pc := 52) dX12_both_52 rfl 1 rfl ?_
    refine ea_iload_n (pc := 53) dX12_both_53 rfl 2 rfl ?_
    refine ea_iadd (pc := 54) dX12_both_54 ?_
    exact ea_iretE (pc := 55) dX12_both_55 rfl rfl EX rfl
  have EX := EX.trans (if_neg qc1_0)
  by_cases qc1_1 : Int32.toInt x0 = 9
  · have EX := EX.trans (if_pos qc1_1)
    refine ea_tswIn (pc := 1) (tgt := 56) dX12_both_1 (by rw [qc1_1]; decide) (by rw [qc1_1]; decide) (by rw [qc1_1]; rfl) rfl ?_
    refine ea_iload_n (pc := 56) dX12_both_56 rfl 1 rfl ?_
    refine ea_iload_n (pc := 57) dX12_both_57 rfl 2 rfl ?_
    refine ea_isub (pc := 58) dX12_both_58 ?_
    exact ea_iretE (pc := 59) dX12_both_59 rfl rfl EX rfl
  have EX := EX.trans (if_neg qc1_1)
  by_cases qc1_2 : Int32.toInt x0 = 10
  · have EX := EX.trans (if_pos qc1_2)
    refine ea_tswIn (pc := 1) (tgt := 60) dX12_both_1 (by rw [qc1_2]; decide) (by rw [qc1_2]; decide) (by rw [qc1_2]; rfl) rfl ?_
    refine ea_iload_n (pc := 60) dX12_both_60 rfl 1 rfl ?_
    refine ea_iload_n (pc := 61) dX12_both_61 rfl 2 rfl ?_
    refine ea_imul (pc := 62) dX12_both_62 ?_
    exact ea_iretE (pc := 63) dX12_both_63 rfl rfl EX rfl
  have EX := EX.trans (if_neg qc1_2)
  by_cases qc1_3 : Int32.toInt x0 = 11
  · have EX := EX.trans (if_pos qc1_3)
    refine ea_tswIn (pc := 1) (tgt := 101) dX12_both_1 (by rw [qc1_3]; decide) (by rw [qc1_3]; decide) (by rw [qc1_3]; rfl) rfl ?_
    refine ea_iload_n (pc := 101) dX12_both_101 rfl 1 rfl ?_
    refine ea_iload_n (pc := 102) dX12_both_102 rfl 2 rfl ?_
    refine ea_ior (pc := 103) dX12_both_103 ?_
    exact ea_iretE (pc := 104) dX12_both_104 rfl rfl EX rfl
  have EX := EX.trans (if_neg qc1_3)
  by_cases qc1_4 : Int32.toInt x0 = 12
  · have EX := EX.trans (if_pos qc1_4)
    refine ea_tswIn (pc := 1) (tgt := 64) dX12_both_1 (by rw [qc1_4]; decide) (by rw [qc1_4]; decide) (by rw [qc1_4]; rfl) rfl ?_
    refine ea_iload_n (pc := 64) dX12_both_64 rfl 1 rfl ?_
    refine ea_iload_n (pc := 65) dX12_both_65 rfl 2 rfl ?_
    refine ea_icmp_ge (pc := 66) (tgt := 73) dX12_both_66 rfl (fun c1 => ?_) (fun c1 => ?_)
    · have EX := EX.trans (if_pos c1)
      refine ea_iconst (pc := 73) dX12_both_73 (v := 0) rfl ?_
      exact ea_iretE (pc := 74) dX12_both_74 rfl rfl EX rfl
    · have EX := EX.trans (if_neg c1)
      refine ea_iconst (pc := 69) dX12_both_69 (v := 1) rfl ?_
      refine ea_goto (pc := 70) (tgt := 74) dX12_both_70 rfl ?_
      exact ea_iretE (pc := 74) dX12_both_74 rfl rfl EX rfl
  have EX := EX.trans (if_neg qc1_4)
  by_cases qc1_5 : Int32.toInt x0 = 13
  · have EX := EX.trans (if_pos qc1_5)
    refine ea_tswIn (pc := 1) (tgt := 75) dX12_both_1 (by rw [qc1_5]; decide) (by rw [qc1_5]; decide) (by rw [qc1_5]; rfl) rfl ?_
    refine ea_iload_n (pc := 75) dX12_both_75 rfl 1 rfl ?_
    refine ea_iload_n (pc := 76) dX12_both_76 rfl 2 rfl ?_
    refine ea_icmp_ne (pc := 77) (tgt := 84) dX12_both_77 rfl (fun c2 => ?_) (fun c2 => ?_)
    · have EX := EX.trans (if_neg c2)
      refine ea_iconst (pc := 84) dX12_both_84 (v := 0) rfl ?_
      exact ea_iretE (pc := 85) dX12_both_85 rfl rfl EX rfl
    · have EX := EX.trans (if_pos c2)
      refine ea_iconst (pc := 80) dX12_both_80 (v := 1) rfl ?_
      refine ea_goto (pc := 81) (tgt := 85) dX12_both_81 rfl ?_
      exact ea_iretE (pc := 85) dX12_both_85 rfl rfl EX rfl
  have EX := EX.trans (if_neg qc1_5)
  by_cases qc1_6 : Int32.toInt x0 = 14
  · have EX := EX.trans (if_pos qc1_6)
    refine ea_tswIn (pc := 1) (tgt := 86) dX12_both_1 (by rw [qc1_6]; decide) (by rw [qc1_6]; decide) (by rw [qc1_6]; rfl) rfl ?_
    refine ea_iload_n (pc := 86) dX12_both_86 rfl 1 rfl ?_
    refine ea_iload_n (pc := 87) dX12_both_87 rfl 2 rfl ?_
    refine ea_icmp_le (pc := 88) (tgt := 95) dX12_both_88 rfl (fun c3 => ?_) (fun c3 => ?_)
    · have EX := EX.trans (if_pos c3)
      refine ea_iconst (pc := 95) dX12_both_95 (v := 0) rfl ?_
      exact ea_iretE (pc := 96) dX12_both_96 rfl rfl EX rfl
    · have EX := EX.trans (if_neg c3)
      refine ea_iconst (pc := 91) dX12_both_91 (v := 1) rfl ?_
      refine ea_goto (pc := 92) (tgt := 96) dX12_both_92 rfl ?_
      exact ea_iretE (pc := 96) dX12_both_96 rfl rfl EX rfl
  have EX := EX.trans (if_neg qc1_6)
  by_cases qc1_7 : Int32.toInt x0 = 15
  · have EX := EX.trans (if_pos qc1_7)
    refine ea_tswIn (pc := 1) (tgt := 101) dX12_both_1 (by rw [qc1_7]; decide) (by rw [qc1_7]; decide) (by rw [qc1_7]; rfl) rfl ?_
    refine ea_iload_n (pc := 101) dX12_both_101 rfl 1 rfl ?_
    refine ea_iload_n (pc := 102) dX12_both_102 rfl 2 rfl ?_
    refine ea_ior (pc := 103) dX12_both_103 ?_
    exact ea_iretE (pc := 104) dX12_both_104 rfl rfl EX rfl
  have EX := EX.trans (if_neg qc1_7)
  by_cases qc1_8 : Int32.toInt x0 = 16
  · have EX := EX.trans (if_pos qc1_8)
    refine ea_tswIn (pc := 1) (tgt := 97) dX12_both_1 (by rw [qc1_8]; decide) (by rw [qc1_8]; decide) (by rw [qc1_8]; rfl) rfl ?_
    refine ea_iload_n (pc := 97) dX12_both_97 rfl 1 rfl ?_
    refine ea_iload_n (pc := 98) dX12_both_98 rfl 2 rfl ?_
    refine ea_iand (pc := 99) dX12_both_99 ?_
    exact ea_iretE (pc := 100) dX12_both_100 rfl rfl EX rfl
  have EX := EX.trans (if_neg qc1_8)
  refine ea_tswOut (pc := 1) (tgt := 101) dX12_both_1 (ea_sw_8_16 qc1_0 qc1_1 qc1_2 qc1_3 qc1_4 qc1_5 qc1_6 qc1_7 qc1_8) rfl ?_
  refine ea_iload_n (pc := 101) dX12_both_101 rfl 1 rfl ?_
  refine ea_iload_n (pc := 102) dX12_both_102 rfl 2 rfl ?_
  refine ea_ior (pc := 103) dX12_both_103 ?_
  exact ea_iretE (pc := 104) dX12_both_104 rfl rfl EX rfl
noncomputable def vX12_isFree (b0 : Nat) (x1 : Int32) (x2 : Int32) (h : ea_H) : Int32 := (if (ea_i h (b0 + 38) (Int32.toNatClampNeg x1)) = (2 : Int32) then (if (ea_i h (b0 + 25) (Int32.toNatClampNeg x2)) < (ea_i h (b0 + 46) (Int32.toNatClampNeg x1)) then (0 : Int32) else (1 : Int32)) else (0 : Int32))
def okX12_isFree (b0 : Nat) (x1 : Int32) (x2 : Int32) (h : ea_H) : Prop := vp_in x1 120 ∧ (((ea_i h (b0 + 38) (Int32.toNatClampNeg x1)) = (2 : Int32) → vp_in x1 120 ∧ (vp_in x2 6)) ∧ (¬ (ea_i h (b0 + 38) (Int32.toNatClampNeg x1)) = (2 : Int32) → True))
theorem bo_vX12_isFree (b0 : Nat) (x1 : Int32) (x2 : Int32) (h : ea_H) : vX12_isFree b0 x1 x2 h = 0 ∨ vX12_isFree b0 x1 x2 h = 1 := (ea_itB (ea_itB (Or.inl rfl) (Or.inr rfl)) (Or.inl rfl))
theorem sX12_isFree {d : Nat} {b0 : Nat} {x1 : Int32} {x2 : Int32} {h : ea_H} (hd : 1 ≤ d) (hs : ShM b0 h) (K : okX12_isFree b0 x1 x2 h) : ea_Met mX12_isFree d [vR (some (b0 + 0)), vI x1, vI x2] h (some (vI (vX12_isFree b0 x1 x2 h))) h := by
  obtain ⟨X, EX⟩ : ∃ z, z = vX12_isFree b0 x1 x2 h := ⟨_, rfl⟩
  rw [← EX]
  unfold vX12_isFree at EX
  unfold okX12_isFree at K
  refine ea_enter rfl (Nat.le_of_ble_eq_true rfl) ?_
  refine ea_aload_n (pc := 0) dX12_isFree_0 rfl 0 rfl ?_
  refine ea_getR (pc := 1) dX12_isFree_1 ec_12 (k := 64) (Nat.le_of_ble_eq_true rfl) rfl (Or.inl ew_1409) (hs.1 0 (by decide)).1 (hs.1 0 (by decide)).2.1 (hs.2 0 64 rfl) ?_
  refine ea_iload_n (pc := 4) dX12_isFree_4 rfl 1 rfl ?_
  obtain ⟨z1, K⟩ := K
  refine ea_iald (pc := 5) dX12_isFree_5 (hs.1 38 (by decide)).1 (hs.1 38 (by decide)).2.1 (ea_vpl (hs.1 38 (by decide)).2.2 z1) ?_
  refine ea_iconst (pc := 6) dX12_isFree_6 (v := 2) rfl ?_
  refine ea_icmp_ne (pc := 7) (tgt := 29) dX12_isFree_7 rfl (fun c5 => ?_) (fun c5 => ?_)
  · have EX := EX.trans (if_neg c5)
    refine ea_iconst (pc := 29) dX12_isFree_29 (v := 0) rfl ?_
    exact ea_iretE (pc := 30) dX12_isFree_30 rfl (ea_bn (Or.inl rfl)) EX rfl
  · have EX := EX.trans (if_pos c5)
    have K := K.1 c5
    refine ea_aload_n (pc := 10) dX12_isFree_10 rfl 0 rfl ?_
    refine ea_getR (pc := 11) dX12_isFree_11 ec_12 (k := 72) (Nat.le_of_ble_eq_true rfl) rfl (Or.inl ew_1417) (hs.1 0 (by decide)).1 (hs.1 0 (by decide)).2.1 (hs.2 0 72 rfl) ?_
    refine ea_iload_n (pc := 14) dX12_isFree_14 rfl 1 rfl ?_
    obtain ⟨z2, K⟩ := K
    refine ea_iald (pc := 15) dX12_isFree_15 (hs.1 46 (by decide)).1 (hs.1 46 (by decide)).2.1 (ea_vpl (hs.1 46 (by decide)).2.2 z2) ?_
    refine ea_aload_n (pc := 16) dX12_isFree_16 rfl 0 rfl ?_
    refine ea_getR (pc := 17) dX12_isFree_17 ec_12 (k := 30) (Nat.le_of_ble_eq_true rfl) rfl (Or.inl ew_1375) (hs.1 0 (by decide)).1 (hs.1 0 (by decide)).2.1 (hs.2 0 30 rfl) ?_
    refine ea_iload_n (pc := 20) dX12_isFree_20 rfl 2 rfl ?_
    have z3 := K
    refine ea_iald (pc := 21) dX12_isFree_21 (hs.1 25 (by decide)).1 (hs.1 25 (by decide)).2.1 (ea_vpl (hs.1 25 (by decide)).2.2 z3) ?_
    refine ea_icmp_gt (pc := 22) (tgt := 29) dX12_isFree_22 rfl (fun c4 => ?_) (fun c4 => ?_)
    · have EX := EX.trans (if_pos c4)
      refine ea_iconst (pc := 29) dX12_isFree_29 (v := 0) rfl ?_
      exact ea_iretE (pc := 30) dX12_isFree_30 rfl (ea_bn (Or.inl rfl)) EX rfl
    · have EX := EX.trans (if_neg c4)
      refine ea_iconst (pc := 25) dX12_isFree_25 (v := 1) rfl ?_
      refine ea_goto (pc := 26) (tgt := 30) dX12_isFree_26 rfl ?_
      exact ea_iretE (pc := 30) dX12_isFree_30 rfl (ea_bn (Or.inr rfl)) EX rfl
noncomputable def vX12_isOwed (b0 : Nat) (x1 : Int32) (h : ea_H) : Int32 := (if (ea_i h (b0 + 38) (Int32.toNatClampNeg x1)) = (0 : Int32) then (1 : Int32) else (if (ea_i h (b0 + 38) (Int32.toNatClampNeg x1)) = (3 : Int32) then (1 : Int32) else (0 : Int32)))
def okX12_isOwed (b0 : Nat) (x1 : Int32) (h : ea_H) : Prop := vp_in x1 120 ∧ (((ea_i h (b0 + 38) (Int32.toNatClampNeg x1)) = (0 : Int32) → True) ∧ (¬ (ea_i h (b0 + 38) (Int32.toNatClampNeg x1)) = (0 : Int32) → vp_in x1 120))
theorem bo_vX12_isOwed (b0 : Nat) (x1 : Int32) (h : ea_H) : vX12_isOwed b0 x1 h = 0 ∨ vX12_isOwed b0 x1 h = 1 := (ea_itB (Or.inr rfl) (ea_itB (Or.inr rfl) (Or.inl rfl)))
theorem sX12_isOwed {d : Nat} {b0 : Nat} {x1 : Int32} {h : ea_H} (hd : 1 ≤ d) (hs : ShM b0 h) (K : okX12_isOwed b0 x1 h) : ea_Met mX12_isOwed d [vR (some (b0 + 0)), vI x1] h (some (vI (vX12_isOwed b0 x1 h))) h := by
  obtain ⟨X, EX⟩ : ∃ z, z = vX12_isOwed b0 x1 h := ⟨_, rfl⟩
  rw [← EX]
  unfold vX12_isOwed at EX
  unfold okX12_isOwed at K
  refine ea_enter rfl (Nat.le_of_ble_eq_true rfl) ?_
  refine ea_aload_n (pc := 0) dX12_isOwed_0 rfl 0 rfl ?_
  refine ea_getR (pc := 1) dX12_isOwed_1 ec_12 (k := 64) (Nat.le_of_ble_eq_true rfl) rfl (Or.inl ew_1409) (hs.1 0 (by decide)).1 (hs.1 0 (by decide)).2.1 (hs.2 0 64 rfl) ?_
  refine ea_iload_n (pc := 4) dX12_isOwed_4 rfl 1 rfl ?_
  obtain ⟨z1, K⟩ := K
  refine ea_iald (pc := 5) dX12_isOwed_5 (hs.1 38 (by decide)).1 (hs.1 38 (by decide)).2.1 (ea_vpl (hs.1 38 (by decide)).2.2 z1) ?_
  refine ea_if_eq (pc := 6) (tgt := 19) dX12_isOwed_6 rfl (fun c4 => ?_) (fun c4 => ?_)
  · have EX := EX.trans (if_pos c4)
    refine ea_iconst (pc := 19) dX12_isOwed_19 (v := 1) rfl ?_
    refine ea_goto (pc := 20) (tgt := 24) dX12_isOwed_20 rfl ?_
    exact ea_iretE (pc := 24) dX12_isOwed_24 rfl (ea_bn (Or.inr rfl)) EX rfl
  · have EX := EX.trans (if_neg c4)
    have K := K.2 c4
    refine ea_aload_n (pc := 9) dX12_isOwed_9 rfl 0 rfl ?_
    refine ea_getR (pc := 10) dX12_isOwed_10 ec_12 (k := 64) (Nat.le_of_ble_eq_true rfl) rfl (Or.inl ew_1409) (hs.1 0 (by decide)).1 (hs.1 0 (by decide)).2.1 (hs.2 0 64 rfl) ?_
    refine ea_iload_n (pc := 13) dX12_isOwed_13 rfl 1 rfl ?_
    have z2 := K
    refine ea_iald (pc := 14) dX12_isOwed_14 (hs.1 38 (by decide)).1 (hs.1 38 (by decide)).2.1 (ea_vpl (hs.1 38 (by decide)).2.2 z2) ?_
    refine ea_iconst (pc := 15) dX12_isOwed_15 (v := 3) rfl ?_
    refine ea_icmp_ne (pc := 16) (tgt := 23) dX12_isOwed_16 rfl (fun c3 => ?_) (fun c3 => ?_)
    · have EX := EX.trans (if_neg c3)
      refine ea_iconst (pc := 23) dX12_isOwed_23 (v := 0) rfl ?_
      exact ea_iretE (pc := 24) dX12_isOwed_24 rfl (ea_bn (Or.inl rfl)) EX rfl
    · have EX := EX.trans (if_pos c3)
      refine ea_iconst (pc := 19) dX12_isOwed_19 (v := 1) rfl ?_
      refine ea_goto (pc := 20) (tgt := 24) dX12_isOwed_20 rfl ?_
      exact ea_iretE (pc := 24) dX12_isOwed_24 rfl (ea_bn (Or.inr rfl)) EX rfl
noncomputable def vX12_owed (b0 : Nat) (x1 : Int32) (h : ea_H) : Int32 := (if (vX12_isOwed b0 (x1 : Int32) h) = (0 : Int32) then (0 : Int32) else (ea_i h (b0 + 48) (Int32.toNatClampNeg x1)))
def okX12_owed (b0 : Nat) (x1 : Int32) (h : ea_H) : Prop := (okX12_isOwed b0 (x1 : Int32) h) ∧ (((vX12_isOwed b0 (x1 : Int32) h) = (0 : Int32) → True) ∧ (¬ (vX12_isOwed b0 (x1 : Int32) h) = (0 : Int32) → vp_in x1 120))
theorem sX12_owed {d : Nat} {b0 : Nat} {x1 : Int32} {h : ea_H} (hd : 2 ≤ d) (hs : ShM b0 h) (K : okX12_owed b0 x1 h) : ea_Met mX12_owed d [vR (some (b0 + 0)), vI x1] h (some (vI (vX12_owed b0 x1 h))) h := by
  obtain ⟨X, EX⟩ : ∃ z, z = vX12_owed b0 x1 h := ⟨_, rfl⟩
  rw [← EX]
  unfold vX12_owed at EX
  unfold okX12_owed at K
  refine ea_enter rfl (Nat.le_of_ble_eq_true rfl) ?_
  refine ea_aload_n (pc := 0) dX12_owed_0 rfl 0 rfl ?_
  refine ea_iload_n (pc := 1) dX12_owed_1 rfl 1 rfl ?_
  obtain ⟨z1, K⟩ := K
  refine ea_callV (pc := 2) (d' := d - 1) (As := [vI x1]) (st := []) dX12_owed_2 kX12_isOwed (sX12_isOwed (d := d - 1) (by omega) hs z1) (by omega) rfl (Nat.le_of_ble_eq_true rfl) ew_2031 ew_2033 ew_91 (ci := 12) rfl (by decide) (hs.1 0 (by decide)).1 (hs.1 0 (by decide)).2.1 ?_
  refine ea_if_eq (pc := 5) (tgt := 17) dX12_owed_5 rfl (fun c3 => ?_) (fun c3 => ?_)
  · have EX := EX.trans (if_pos c3)
    refine ea_iconst (pc := 17) dX12_owed_17 (v := 0) rfl ?_
    exact ea_iretE (pc := 18) dX12_owed_18 rfl rfl EX rfl
  · have EX := EX.trans (if_neg c3)
    have K := K.2 c3
    refine ea_aload_n (pc := 8) dX12_owed_8 rfl 0 rfl ?_
    refine ea_getR (pc := 9) dX12_owed_9 ec_12 (k := 74) (Nat.le_of_ble_eq_true rfl) rfl (Or.inl ew_1419) (hs.1 0 (by decide)).1 (hs.1 0 (by decide)).2.1 (hs.2 0 74 rfl) ?_
    refine ea_iload_n (pc := 12) dX12_owed_12 rfl 1 rfl ?_
    have z2 := K
    refine ea_iald (pc := 13) dX12_owed_13 (hs.1 48 (by decide)).1 (hs.1 48 (by decide)).2.1 (ea_vpl (hs.1 48 (by decide)).2.2 z2) ?_
    refine ea_goto (pc := 14) (tgt := 18) dX12_owed_14 rfl ?_
    exact ea_iretE (pc := 18) dX12_owed_18 rfl rfl EX rfl
noncomputable def vX12_of (b0 : Nat) (x1 : Int32) (x2 : Int32) (h : ea_H) : Int32 := (if (vX12_isLetterOf b0 (x1 : Int32) h) = (0 : Int32) then ((-1) : Int32) else (if Int32.toInt x2 = 0 then (ea_i h (b0 + 38) (Int32.toNatClampNeg x1)) else (if Int32.toInt x2 = 1 then (ea_i h (b0 + 39) (Int32.toNatClampNeg x1)) else (if Int32.toInt x2 = 2 then (ea_i h (b0 + 40) (Int32.toNatClampNeg x1)) else (if Int32.toInt x2 = 3 then (ea_i h (b0 + 41) (Int32.toNatClampNeg x1)) else (if Int32.toInt x2 = 4 then (ea_i h (b0 + 42) (Int32.toNatClampNeg x1)) else (if Int32.toInt x2 = 5 then (ea_i h (b0 + 43) (Int32.toNatClampNeg x1)) else (if Int32.toInt x2 = 6 then (ea_i h (b0 + 44) (Int32.toNatClampNeg x1)) else (if Int32.toInt x2 = 7 then (ea_i h (b0 + 55) (Int32.toNatClampNeg x1)) else (if Int32.toInt x2 = 8 then (ea_i h (b0 + 56) (Int32.toNatClampNeg x1)) else (if Int32.toInt x2 = 9 then (if (ea_i h (b0 + 52) (Int32.toNatClampNeg x1)) = (0 : Int32) then (0 : Int32) else (1 : Int32)) else (if Int32.toInt x2 = 10 then (if (ea_i h (b0 + 55) (Int32.toNatClampNeg x1)) = (1 : Int32) then (if (ea_i h (b0 + 61) (Int32.toNatClampNeg x1)) = (0 : Int32) then (0 : Int32) else (1 : Int32)) else (0 : Int32)) else (if Int32.toInt x2 = 11 then (if (ea_i h (b0 + 55) (Int32.toNatClampNeg x1)) = (1 : Int32) then (ea_i h (b0 + 57) (Int32.toNatClampNeg x1)) else ((-1) : Int32)) else (if Int32.toInt x2 = 12 then (ea_i h (b0 + 58) (Int32.toNatClampNeg x1)) else ((-1) : Int32)))))))))))))))
def okX12_of (b0 : Nat) (x1 : Int32) (x2 : Int32) (h : ea_H) : Prop := ((vX12_isLetterOf b0 (x1 : Int32) h) = (0 : Int32) → True) ∧ (¬ (vX12_isLetterOf b0 (x1 : Int32) h) = (0 : Int32) → (Int32.toInt x2 = 0 → vp_in x1 120) ∧ (¬ Int32.toInt x2 = 0 → (Int32.toInt x2 = 1 → vp_in x1 120) ∧ (¬ Int32.toInt x2 = 1 → (Int32.toInt x2 = 2 → vp_in x1 120) ∧ (¬ Int32.toInt x2 = 2 → (Int32.toInt x2 = 3 → vp_in x1 120) ∧ (¬ Int32.toInt x2 = 3 → (Int32.toInt x2 = 4 → vp_in x1 120) ∧ (¬ Int32.toInt x2 = 4 → (Int32.toInt x2 = 5 → vp_in x1 120) ∧ (¬ Int32.toInt x2 = 5 → (Int32.toInt x2 = 6 → vp_in x1 120) ∧ (¬ Int32.toInt x2 = 6 → (Int32.toInt x2 = 7 → vp_in x1 120) ∧ (¬ Int32.toInt x2 = 7 → (Int32.toInt x2 = 8 → vp_in x1 120) ∧ (¬ Int32.toInt x2 = 8 → (Int32.toInt x2 = 9 → vp_in x1 120) ∧ (¬ Int32.toInt x2 = 9 → (Int32.toInt x2 = 10 → vp_in x1 120 ∧ (((ea_i h (b0 + 55) (Int32.toNatClampNeg x1)) = (1 : Int32) → vp_in x1 120) ∧ (¬ (ea_i h (b0 + 55) (Int32.toNatClampNeg x1)) = (1 : Int32) → True))) ∧ (¬ Int32.toInt x2 = 10 → (Int32.toInt x2 = 11 → vp_in x1 120 ∧ (((ea_i h (b0 + 55) (Int32.toNatClampNeg x1)) = (1 : Int32) → vp_in x1 120) ∧ (¬ (ea_i h (b0 + 55) (Int32.toNatClampNeg x1)) = (1 : Int32) → True))) ∧ (¬ Int32.toInt x2 = 11 → (Int32.toInt x2 = 12 → vp_in x1 120) ∧ (¬ Int32.toInt x2 = 12 → True))))))))))))))
theorem sX12_of {d : Nat} {b0 : Nat} {x1 : Int32} {x2 : Int32} {h : ea_H} (hd : 3 ≤ d) (hs : ShM b0 h) (K : okX12_of b0 x1 x2 h) : ea_Met mX12_of d [vR (some (b0 + 0)), vI x1, vI x2] h (some (vI (vX12_of b0 x1 x2 h))) h := by
  obtain ⟨X, EX⟩ : ∃ z, z = vX12_of b0 x1 x2 h := ⟨_, rfl⟩
  rw [← EX]
  unfold vX12_of at EX
  unfold okX12_of at K
  refine ea_enter rfl (Nat.le_of_ble_eq_true rfl) ?_
  refine ea_aload_n (pc := 0) dX12_of_0 rfl 0 rfl ?_
  refine ea_iload_n (pc := 1) dX12_of_1 rfl 1 rfl ?_
  refine ea_callV (pc := 2) (d' := d - 1) (As := [vI x1]) (st := []) dX12_of_2 kX12_isLetterOf (sX12_isLetterOf (d := d - 1) (by omega) hs) (by omega) rfl (Nat.le_of_ble_eq_true rfl) ew_2019 ew_2021 ew_89 (ci := 12) rfl (by decide) (hs.1 0 (by decide)).1 (hs.1 0 (by decide)).2.1 ?_
  refine ea_if_ne (pc := 5) (tgt := 10) dX12_of_5 rfl (fun c21 => ?_) (fun c21 => ?_)
  · have EX := EX.trans (if_neg c21)
    have K := K.2 c21
    refine ea_iload_n (pc := 10) dX12_of_10 rfl 2 rfl ?_
    by_cases qc11_0 : Int32.toInt x2 = 0
    · have EX := EX.trans (if_pos qc11_0)
      have K := K.1 qc11_0
      refine ea_tswIn (pc := 11) (tgt := 76) dX12_of_11 (by rw [qc11_0]; decide) (by rw [qc11_0]; decide) (by rw [qc11_0]; rfl) rfl ?_
      refine ea_aload_n (pc := 76) dX12_of_76 rfl 0 rfl ?_
      refine ea_getR (pc := 77) dX12_of_77 ec_12 (k := 64) (Nat.le_of_ble_eq_true rfl) rfl (Or.inl ew_1409) (hs.1 0 (by decide)).1 (hs.1 0 (by decide)).2.1 (hs.2 0 64 rfl) ?_
      refine ea_iload_n (pc := 80) dX12_of_80 rfl 1 rfl ?_
      have z2 := K
      refine ea_iald (pc := 81) dX12_of_81 (hs.1 38 (by decide)).1 (hs.1 38 (by decide)).2.1 (ea_vpl (hs.1 38 (by decide)).2.2 z2) ?_
      exact ea_iretE (pc := 82) dX12_of_82 rfl rfl EX rfl
    have EX := EX.trans (if_neg qc11_0)
    have K := K.2 qc11_0
    by_cases qc11_1 : Int32.toInt x2 = 1
    · have EX := EX.trans (if_pos qc11_1)
      have K := K.1 qc11_1
      refine ea_tswIn (pc := 11) (tgt := 83) dX12_of_11 (by rw [qc11_1]; decide) (by rw [qc11_1]; decide) (by rw [qc11_1]; rfl) rfl ?_
      refine ea_aload_n (pc := 83) dX12_of_83 rfl 0 rfl ?_
      refine ea_getR (pc := 84) dX12_of_84 ec_12 (k := 65) (Nat.le_of_ble_eq_true rfl) rfl (Or.inl ew_1410) (hs.1 0 (by decide)).1 (hs.1 0 (by decide)).2.1 (hs.2 0 65 rfl) ?_
      refine ea_iload_n (pc := 87) dX12_of_87 rfl 1 rfl ?_
      have z3 := K
      refine ea_iald (pc := 88) dX12_of_88 (hs.1 39 (by decide)).1 (hs.1 39 (by decide)).2.1 (ea_vpl (hs.1 39 (by decide)).2.2 z3) ?_
      exact ea_iretE (pc := 89) dX12_of_89 rfl rfl EX rfl
    have EX := EX.trans (if_neg qc11_1)
    have K := K.2 qc11_1
    by_cases qc11_2 : Int32.toInt x2 = 2
    · have EX := EX.trans (if_pos qc11_2)
      have K := K.1 qc11_2
      refine ea_tswIn (pc := 11) (tgt := 90) dX12_of_11 (by rw [qc11_2]; decide) (by rw [qc11_2]; decide) (by rw [qc11_2]; rfl) rfl ?_
      refine ea_aload_n (pc := 90) dX12_of_90 rfl 0 rfl ?_
      refine ea_getR (pc := 91) dX12_of_91 ec_12 (k := 66) (Nat.le_of_ble_eq_true rfl) rfl (Or.inl ew_1411) (hs.1 0 (by decide)).1 (hs.1 0 (by decide)).2.1 (hs.2 0 66 rfl) ?_
      refine ea_iload_n (pc := 94) dX12_of_94 rfl 1 rfl ?_
      have z4 := K
      refine ea_iald (pc := 95) dX12_of_95 (hs.1 40 (by decide)).1 (hs.1 40 (by decide)).2.1 (ea_vpl (hs.1 40 (by decide)).2.2 z4) ?_
      exact ea_iretE (pc := 96) dX12_of_96 rfl rfl EX rfl
    have EX := EX.trans (if_neg qc11_2)
    have K := K.2 qc11_2
    by_cases qc11_3 : Int32.toInt x2 = 3
    · have EX := EX.trans (if_pos qc11_3)
      have K := K.1 qc11_3
      refine ea_tswIn (pc := 11) (tgt := 97) dX12_of_11 (by rw [qc11_3]; decide) (by rw [qc11_3]; decide) (by rw [qc11_3]; rfl) rfl ?_
      refine ea_aload_n (pc := 97) dX12_of_97 rfl 0 rfl ?_
      refine ea_getR (pc := 98) dX12_of_98 ec_12 (k := 67) (Nat.le_of_ble_eq_true rfl) rfl (Or.inl ew_1412) (hs.1 0 (by decide)).1 (hs.1 0 (by decide)).2.1 (hs.2 0 67 rfl) ?_
      refine ea_iload_n (pc := 101) dX12_of_101 rfl 1 rfl ?_
      have z5 := K
      refine ea_iald (pc := 102) dX12_of_102 (hs.1 41 (by decide)).1 (hs.1 41 (by decide)).2.1 (ea_vpl (hs.1 41 (by decide)).2.2 z5) ?_
      exact ea_iretE (pc := 103) dX12_of_103 rfl rfl EX rfl
    have EX := EX.trans (if_neg qc11_3)
    have K := K.2 qc11_3
    by_cases qc11_4 : Int32.toInt x2 = 4
    · have EX := EX.trans (if_pos qc11_4)
      have K := K.1 qc11_4
      refine ea_tswIn (pc := 11) (tgt := 104) dX12_of_11 (by rw [qc11_4]; decide) (by rw [qc11_4]; decide) (by rw [qc11_4]; rfl) rfl ?_
      refine ea_aload_n (pc := 104) dX12_of_104 rfl 0 rfl ?_
      refine ea_getR (pc := 105) dX12_of_105 ec_12 (k := 68) (Nat.le_of_ble_eq_true rfl) rfl (Or.inl ew_1413) (hs.1 0 (by decide)).1 (hs.1 0 (by decide)).2.1 (hs.2 0 68 rfl) ?_
      refine ea_iload_n (pc := 108) dX12_of_108 rfl 1 rfl ?_
      have z6 := K
      refine ea_iald (pc := 109) dX12_of_109 (hs.1 42 (by decide)).1 (hs.1 42 (by decide)).2.1 (ea_vpl (hs.1 42 (by decide)).2.2 z6) ?_
      exact ea_iretE (pc := 110) dX12_of_110 rfl rfl EX rfl
    have EX := EX.trans (if_neg qc11_4)
    have K := K.2 qc11_4
    by_cases qc11_5 : Int32.toInt x2 = 5
    · have EX := EX.trans (if_pos qc11_5)
      have K := K.1 qc11_5
      refine ea_tswIn (pc := 11) (tgt := 111) dX12_of_11 (by rw [qc11_5]; decide) (by rw [qc11_5]; decide) (by rw [qc11_5]; rfl) rfl ?_
      refine ea_aload_n (pc := 111) dX12_of_111 rfl 0 rfl ?_
      refine ea_getR (pc := 112) dX12_of_112 ec_12 (k := 69) (Nat.le_of_ble_eq_true rfl) rfl (Or.inl ew_1414) (hs.1 0 (by decide)).1 (hs.1 0 (by decide)).2.1 (hs.2 0 69 rfl) ?_
      refine ea_iload_n (pc := 115) dX12_of_115 rfl 1 rfl ?_
      have z7 := K
      refine ea_iald (pc := 116) dX12_of_116 (hs.1 43 (by decide)).1 (hs.1 43 (by decide)).2.1 (ea_vpl (hs.1 43 (by decide)).2.2 z7) ?_
      exact ea_iretE (pc := 117) dX12_of_117 rfl rfl EX rfl
    have EX := EX.trans (if_neg qc11_5)
    have K := K.2 qc11_5
    by_cases qc11_6 : Int32.toInt x2 = 6
    · have EX := EX.trans (if_pos qc11_6)
      have K := K.1 qc11_6
      refine ea_tswIn (pc := 11) (tgt := 118) dX12_of_11 (by rw [qc11_6]; decide) (by rw [qc11_6]; decide) (by rw [qc11_6]; rfl) rfl ?_
      refine ea_aload_n (pc := 118) dX12_of_118 rfl 0 rfl ?_
      refine ea_getR (pc := 119) dX12_of_119 ec_12 (k := 70) (Nat.le_of_ble_eq_true rfl) rfl (Or.inl ew_1415) (hs.1 0 (by decide)).1 (hs.1 0 (by decide)).2.1 (hs.2 0 70 rfl) ?_
      refine ea_iload_n (pc := 122) dX12_of_122 rfl 1 rfl ?_
      have z8 := K
      refine ea_iald (pc := 123) dX12_of_123 (hs.1 44 (by decide)).1 (hs.1 44 (by decide)).2.1 (ea_vpl (hs.1 44 (by decide)).2.2 z8) ?_
      exact ea_iretE (pc := 124) dX12_of_124 rfl rfl EX rfl
    have EX := EX.trans (if_neg qc11_6)
    have K := K.2 qc11_6
    by_cases qc11_7 : Int32.toInt x2 = 7
    · have EX := EX.trans (if_pos qc11_7)
      have K := K.1 qc11_7
      refine ea_tswIn (pc := 11) (tgt := 125) dX12_of_11 (by rw [qc11_7]; decide) (by rw [qc11_7]; decide) (by rw [qc11_7]; rfl) rfl ?_
      refine ea_aload_n (pc := 125) dX12_of_125 rfl 0 rfl ?_
      refine ea_getR (pc := 126) dX12_of_126 ec_12 (k := 81) (Nat.le_of_ble_eq_true rfl) rfl (Or.inl ew_1426) (hs.1 0 (by decide)).1 (hs.1 0 (by decide)).2.1 (hs.2 0 81 rfl) ?_
      refine ea_iload_n (pc := 129) dX12_of_129 rfl 1 rfl ?_
      have z9 := K
      refine ea_iald (pc := 130) dX12_of_130 (hs.1 55 (by decide)).1 (hs.1 55 (by decide)).2.1 (ea_vpl (hs.1 55 (by decide)).2.2 z9) ?_
      exact ea_iretE (pc := 131) dX12_of_131 rfl rfl EX rfl
    have EX := EX.trans (if_neg qc11_7)
    have K := K.2 qc11_7
    by_cases qc11_8 : Int32.toInt x2 = 8
    · have EX := EX.trans (if_pos qc11_8)
      have K := K.1 qc11_8
      refine ea_tswIn (pc := 11) (tgt := 132) dX12_of_11 (by rw [qc11_8]; decide) (by rw [qc11_8]; decide) (by rw [qc11_8]; rfl) rfl ?_
      refine ea_aload_n (pc := 132) dX12_of_132 rfl 0 rfl ?_
      refine ea_getR (pc := 133) dX12_of_133 ec_12 (k := 82) (Nat.le_of_ble_eq_true rfl) rfl (Or.inl ew_1427) (hs.1 0 (by decide)).1 (hs.1 0 (by decide)).2.1 (hs.2 0 82 rfl) ?_
      refine ea_iload_n (pc := 136) dX12_of_136 rfl 1 rfl ?_
      have z10 := K
      refine ea_iald (pc := 137) dX12_of_137 (hs.1 56 (by decide)).1 (hs.1 56 (by decide)).2.1 (ea_vpl (hs.1 56 (by decide)).2.2 z10) ?_
      exact ea_iretE (pc := 138) dX12_of_138 rfl rfl EX rfl
    have EX := EX.trans (if_neg qc11_8)
    have K := K.2 qc11_8
    by_cases qc11_9 : Int32.toInt x2 = 9
    · have EX := EX.trans (if_pos qc11_9)
      have K := K.1 qc11_9
      refine ea_tswIn (pc := 11) (tgt := 139) dX12_of_11 (by rw [qc11_9]; decide) (by rw [qc11_9]; decide) (by rw [qc11_9]; rfl) rfl ?_
      refine ea_aload_n (pc := 139) dX12_of_139 rfl 0 rfl ?_
      refine ea_getR (pc := 140) dX12_of_140 ec_12 (k := 78) (Nat.le_of_ble_eq_true rfl) rfl (Or.inl ew_1423) (hs.1 0 (by decide)).1 (hs.1 0 (by decide)).2.1 (hs.2 0 78 rfl) ?_
      refine ea_iload_n (pc := 143) dX12_of_143 rfl 1 rfl ?_
      have z11 := K
      refine ea_zald (pc := 144) dX12_of_144 (hs.1 52 (by decide)).1 (hs.1 52 (by decide)).2.1 (ea_vpl (hs.1 52 (by decide)).2.2 z11) ?_
      refine ea_if_eq (pc := 145) (tgt := 152) dX12_of_145 rfl (fun c12 => ?_) (fun c12 => ?_)
      · have EX := EX.trans (if_pos c12)
        refine ea_iconst (pc := 152) dX12_of_152 (v := 0) rfl ?_
        exact ea_iretE (pc := 153) dX12_of_153 rfl rfl EX rfl
      · have EX := EX.trans (if_neg c12)
        refine ea_iconst (pc := 148) dX12_of_148 (v := 1) rfl ?_
        refine ea_goto (pc := 149) (tgt := 153) dX12_of_149 rfl ?_
        exact ea_iretE (pc := 153) dX12_of_153 rfl rfl EX rfl
    have EX := EX.trans (if_neg qc11_9)
    have K := K.2 qc11_9
    by_cases qc11_10 : Int32.toInt x2 = 10
    · have EX := EX.trans (if_pos qc11_10)
      have K := K.1 qc11_10
      refine ea_tswIn (pc := 11) (tgt := 154) dX12_of_11 (by rw [qc11_10]; decide) (by rw [qc11_10]; decide) (by rw [qc11_10]; rfl) rfl ?_
      refine ea_aload_n (pc := 154) dX12_of_154 rfl 0 rfl ?_
      refine ea_getR (pc := 155) dX12_of_155 ec_12 (k := 81) (Nat.le_of_ble_eq_true rfl) rfl (Or.inl ew_1426) (hs.1 0 (by decide)).1 (hs.1 0 (by decide)).2.1 (hs.2 0 81 rfl) ?_
      refine ea_iload_n (pc := 158) dX12_of_158 rfl 1 rfl ?_
      obtain ⟨z13, K⟩ := K
      refine ea_iald (pc := 159) dX12_of_159 (hs.1 55 (by decide)).1 (hs.1 55 (by decide)).2.1 (ea_vpl (hs.1 55 (by decide)).2.2 z13) ?_
      refine ea_iconst (pc := 160) dX12_of_160 (v := 1) rfl ?_
      refine ea_icmp_ne (pc := 161) (tgt := 177) dX12_of_161 rfl (fun c16 => ?_) (fun c16 => ?_)
      · have EX := EX.trans (if_neg c16)
        refine ea_iconst (pc := 177) dX12_of_177 (v := 0) rfl ?_
        exact ea_iretE (pc := 178) dX12_of_178 rfl rfl EX rfl
      · have EX := EX.trans (if_pos c16)
        have K := K.1 c16
        refine ea_aload_n (pc := 164) dX12_of_164 rfl 0 rfl ?_
        refine ea_getR (pc := 165) dX12_of_165 ec_12 (k := 87) (Nat.le_of_ble_eq_true rfl) rfl (Or.inl ew_1432) (hs.1 0 (by decide)).1 (hs.1 0 (by decide)).2.1 (hs.2 0 87 rfl) ?_
        refine ea_iload_n (pc := 168) dX12_of_168 rfl 1 rfl ?_
        have z14 := K
        refine ea_zald (pc := 169) dX12_of_169 (hs.1 61 (by decide)).1 (hs.1 61 (by decide)).2.1 (ea_vpl (hs.1 61 (by decide)).2.2 z14) ?_
        refine ea_if_eq (pc := 170) (tgt := 177) dX12_of_170 rfl (fun c15 => ?_) (fun c15 => ?_)
        · have EX := EX.trans (if_pos c15)
          refine ea_iconst (pc := 177) dX12_of_177 (v := 0) rfl ?_
          exact ea_iretE (pc := 178) dX12_of_178 rfl rfl EX rfl
        · have EX := EX.trans (if_neg c15)
          refine ea_iconst (pc := 173) dX12_of_173 (v := 1) rfl ?_
          refine ea_goto (pc := 174) (tgt := 178) dX12_of_174 rfl ?_
          exact ea_iretE (pc := 178) dX12_of_178 rfl rfl EX rfl
    have EX := EX.trans (if_neg qc11_10)
    have K := K.2 qc11_10
    by_cases qc11_11 : Int32.toInt x2 = 11
    · have EX := EX.trans (if_pos qc11_11)
      have K := K.1 qc11_11
      refine ea_tswIn (pc := 11) (tgt := 179) dX12_of_11 (by rw [qc11_11]; decide) (by rw [qc11_11]; decide) (by rw [qc11_11]; rfl) rfl ?_
      refine ea_aload_n (pc := 179) dX12_of_179 rfl 0 rfl ?_
      refine ea_getR (pc := 180) dX12_of_180 ec_12 (k := 81) (Nat.le_of_ble_eq_true rfl) rfl (Or.inl ew_1426) (hs.1 0 (by decide)).1 (hs.1 0 (by decide)).2.1 (hs.2 0 81 rfl) ?_
      refine ea_iload_n (pc := 183) dX12_of_183 rfl 1 rfl ?_
      obtain ⟨z17, K⟩ := K
      refine ea_iald (pc := 184) dX12_of_184 (hs.1 55 (by decide)).1 (hs.1 55 (by decide)).2.1 (ea_vpl (hs.1 55 (by decide)).2.2 z17) ?_
      refine ea_iconst (pc := 185) dX12_of_185 (v := 1) rfl ?_
      refine ea_icmp_ne (pc := 186) (tgt := 198) dX12_of_186 rfl (fun c19 => ?_) (fun c19 => ?_)
      · have EX := EX.trans (if_neg c19)
        refine ea_iconst (pc := 198) dX12_of_198 (v := (-1)) rfl ?_
        exact ea_iretE (pc := 199) dX12_of_199 rfl rfl EX rfl
      · have EX := EX.trans (if_pos c19)
        have K := K.1 c19
        refine ea_aload_n (pc := 189) dX12_of_189 rfl 0 rfl ?_
        refine ea_getR (pc := 190) dX12_of_190 ec_12 (k := 83) (Nat.le_of_ble_eq_true rfl) rfl (Or.inl ew_1428) (hs.1 0 (by decide)).1 (hs.1 0 (by decide)).2.1 (hs.2 0 83 rfl) ?_
        refine ea_iload_n (pc := 193) dX12_of_193 rfl 1 rfl ?_
        have z18 := K
        refine ea_iald (pc := 194) dX12_of_194 (hs.1 57 (by decide)).1 (hs.1 57 (by decide)).2.1 (ea_vpl (hs.1 57 (by decide)).2.2 z18) ?_
        refine ea_goto (pc := 195) (tgt := 199) dX12_of_195 rfl ?_
        exact ea_iretE (pc := 199) dX12_of_199 rfl rfl EX rfl
    have EX := EX.trans (if_neg qc11_11)
    have K := K.2 qc11_11
    by_cases qc11_12 : Int32.toInt x2 = 12
    · have EX := EX.trans (if_pos qc11_12)
      have K := K.1 qc11_12
      refine ea_tswIn (pc := 11) (tgt := 200) dX12_of_11 (by rw [qc11_12]; decide) (by rw [qc11_12]; decide) (by rw [qc11_12]; rfl) rfl ?_
      refine ea_aload_n (pc := 200) dX12_of_200 rfl 0 rfl ?_
      refine ea_getR (pc := 201) dX12_of_201 ec_12 (k := 84) (Nat.le_of_ble_eq_true rfl) rfl (Or.inl ew_1429) (hs.1 0 (by decide)).1 (hs.1 0 (by decide)).2.1 (hs.2 0 84 rfl) ?_
      refine ea_iload_n (pc := 204) dX12_of_204 rfl 1 rfl ?_
      have z20 := K
      refine ea_iald (pc := 205) dX12_of_205 (hs.1 58 (by decide)).1 (hs.1 58 (by decide)).2.1 (ea_vpl (hs.1 58 (by decide)).2.2 z20) ?_
      exact ea_iretE (pc := 206) dX12_of_206 rfl rfl EX rfl
    have EX := EX.trans (if_neg qc11_12)
    have K := K.2 qc11_12
    refine ea_tswOut (pc := 11) (tgt := 207) dX12_of_11 (ea_sw_0_12 qc11_0 qc11_1 qc11_2 qc11_3 qc11_4 qc11_5 qc11_6 qc11_7 qc11_8 qc11_9 qc11_10 qc11_11 qc11_12) rfl ?_
    refine ea_iconst (pc := 207) dX12_of_207 (v := (-1)) rfl ?_
    exact ea_iretE (pc := 208) dX12_of_208 rfl rfl EX rfl
  · have EX := EX.trans (if_pos c21)
    refine ea_iconst (pc := 8) dX12_of_8 (v := (-1)) rfl ?_
    exact ea_iretE (pc := 9) dX12_of_9 rfl rfl EX rfl
noncomputable def vX12_charge (b0 : Nat) (x1 : Int32) (x2 : Int32) (h : ea_H) : Int32 := (if (vX12_isLetterOf b0 (x1 : Int32) h) = (0 : Int32) then ((-1) : Int32) else (if Int32.toInt x2 = 0 then (ea_i h (b0 + 48) (Int32.toNatClampNeg x1)) else (if Int32.toInt x2 = 1 then (ea_i h (b0 + 47) (Int32.toNatClampNeg x1)) else (if Int32.toInt x2 = 2 then (if (ea_i h (b0 + 53) (Int32.toNatClampNeg x1)) = (0 : Int32) then (ea_i h (b0 + 49) (Int32.toNatClampNeg x1)) else ((-1) : Int32)) else (if Int32.toInt x2 = 3 then (vX12_owed b0 (x1 : Int32) h) else (if Int32.toInt x2 = 4 then (if (vX12_isOwed b0 (x1 : Int32) h) = (0 : Int32) then (ea_i h (b0 + 48) (Int32.toNatClampNeg x1)) else (0 : Int32)) else (if Int32.toInt x2 = 5 then (if (ea_i h (b0 + 53) (Int32.toNatClampNeg x1)) = (0 : Int32) then (0 : Int32) else (1 : Int32)) else ((-1) : Int32))))))))
def okX12_charge (b0 : Nat) (x1 : Int32) (x2 : Int32) (h : ea_H) : Prop := ((vX12_isLetterOf b0 (x1 : Int32) h) = (0 : Int32) → True) ∧ (¬ (vX12_isLetterOf b0 (x1 : Int32) h) = (0 : Int32) → (Int32.toInt x2 = 0 → vp_in x1 120) ∧ (¬ Int32.toInt x2 = 0 → (Int32.toInt x2 = 1 → vp_in x1 120) ∧ (¬ Int32.toInt x2 = 1 → (Int32.toInt x2 = 2 → vp_in x1 120 ∧ (((ea_i h (b0 + 53) (Int32.toNatClampNeg x1)) = (0 : Int32) → vp_in x1 120) ∧ (¬ (ea_i h (b0 + 53) (Int32.toNatClampNeg x1)) = (0 : Int32) → True))) ∧ (¬ Int32.toInt x2 = 2 → (Int32.toInt x2 = 3 → (okX12_owed b0 (x1 : Int32) h)) ∧ (¬ Int32.toInt x2 = 3 → (Int32.toInt x2 = 4 → (okX12_isOwed b0 (x1 : Int32) h) ∧ (((vX12_isOwed b0 (x1 : Int32) h) = (0 : Int32) → vp_in x1 120) ∧ (¬ (vX12_isOwed b0 (x1 : Int32) h) = (0 : Int32) → True))) ∧ (¬ Int32.toInt x2 = 4 → (Int32.toInt x2 = 5 → vp_in x1 120) ∧ (¬ Int32.toInt x2 = 5 → True)))))))
theorem sX12_charge {d : Nat} {b0 : Nat} {x1 : Int32} {x2 : Int32} {h : ea_H} (hd : 3 ≤ d) (hs : ShM b0 h) (K : okX12_charge b0 x1 x2 h) : ea_Met mX12_charge d [vR (some (b0 + 0)), vI x1, vI x2] h (some (vI (vX12_charge b0 x1 x2 h))) h := by
  obtain ⟨X, EX⟩ : ∃ z, z = vX12_charge b0 x1 x2 h := ⟨_, rfl⟩
  rw [← EX]
  unfold vX12_charge at EX
  unfold okX12_charge at K
  refine ea_enter rfl (Nat.le_of_ble_eq_true rfl) ?_
  refine ea_aload_n (pc := 0) dX12_charge_0 rfl 0 rfl ?_
  refine ea_iload_n (pc := 1) dX12_charge_1 rfl 1 rfl ?_
  refine ea_callV (pc := 2) (d' := d - 1) (As := [vI x1]) (st := []) dX12_charge_2 kX12_isLetterOf (sX12_isLetterOf (d := d - 1) (by omega) hs) (by omega) rfl (Nat.le_of_ble_eq_true rfl) ew_2019 ew_2021 ew_89 (ci := 12) rfl (by decide) (hs.1 0 (by decide)).1 (hs.1 0 (by decide)).2.1 ?_
  refine ea_if_ne (pc := 5) (tgt := 10) dX12_charge_5 rfl (fun c13 => ?_) (fun c13 => ?_)
  · have EX := EX.trans (if_neg c13)
    have K := K.2 c13
    refine ea_iload_n (pc := 10) dX12_charge_10 rfl 2 rfl ?_
    by_cases qc11_0 : Int32.toInt x2 = 0
    · have EX := EX.trans (if_pos qc11_0)
      have K := K.1 qc11_0
      refine ea_tswIn (pc := 11) (tgt := 48) dX12_charge_11 (by rw [qc11_0]; decide) (by rw [qc11_0]; decide) (by rw [qc11_0]; rfl) rfl ?_
      refine ea_aload_n (pc := 48) dX12_charge_48 rfl 0 rfl ?_
      refine ea_getR (pc := 49) dX12_charge_49 ec_12 (k := 74) (Nat.le_of_ble_eq_true rfl) rfl (Or.inl ew_1419) (hs.1 0 (by decide)).1 (hs.1 0 (by decide)).2.1 (hs.2 0 74 rfl) ?_
      refine ea_iload_n (pc := 52) dX12_charge_52 rfl 1 rfl ?_
      have z2 := K
      refine ea_iald (pc := 53) dX12_charge_53 (hs.1 48 (by decide)).1 (hs.1 48 (by decide)).2.1 (ea_vpl (hs.1 48 (by decide)).2.2 z2) ?_
      exact ea_iretE (pc := 54) dX12_charge_54 rfl rfl EX rfl
    have EX := EX.trans (if_neg qc11_0)
    have K := K.2 qc11_0
    by_cases qc11_1 : Int32.toInt x2 = 1
    · have EX := EX.trans (if_pos qc11_1)
      have K := K.1 qc11_1
      refine ea_tswIn (pc := 11) (tgt := 55) dX12_charge_11 (by rw [qc11_1]; decide) (by rw [qc11_1]; decide) (by rw [qc11_1]; rfl) rfl ?_
      refine ea_aload_n (pc := 55) dX12_charge_55 rfl 0 rfl ?_
      refine ea_getR (pc := 56) dX12_charge_56 ec_12 (k := 73) (Nat.le_of_ble_eq_true rfl) rfl (Or.inl ew_1418) (hs.1 0 (by decide)).1 (hs.1 0 (by decide)).2.1 (hs.2 0 73 rfl) ?_
      refine ea_iload_n (pc := 59) dX12_charge_59 rfl 1 rfl ?_
      have z3 := K
      refine ea_iald (pc := 60) dX12_charge_60 (hs.1 47 (by decide)).1 (hs.1 47 (by decide)).2.1 (ea_vpl (hs.1 47 (by decide)).2.2 z3) ?_
      exact ea_iretE (pc := 61) dX12_charge_61 rfl rfl EX rfl
    have EX := EX.trans (if_neg qc11_1)
    have K := K.2 qc11_1
    by_cases qc11_2 : Int32.toInt x2 = 2
    · have EX := EX.trans (if_pos qc11_2)
      have K := K.1 qc11_2
      refine ea_tswIn (pc := 11) (tgt := 62) dX12_charge_11 (by rw [qc11_2]; decide) (by rw [qc11_2]; decide) (by rw [qc11_2]; rfl) rfl ?_
      refine ea_aload_n (pc := 62) dX12_charge_62 rfl 0 rfl ?_
      refine ea_getR (pc := 63) dX12_charge_63 ec_12 (k := 79) (Nat.le_of_ble_eq_true rfl) rfl (Or.inl ew_1424) (hs.1 0 (by decide)).1 (hs.1 0 (by decide)).2.1 (hs.2 0 79 rfl) ?_
      refine ea_iload_n (pc := 66) dX12_charge_66 rfl 1 rfl ?_
      obtain ⟨z4, K⟩ := K
      refine ea_zald (pc := 67) dX12_charge_67 (hs.1 53 (by decide)).1 (hs.1 53 (by decide)).2.1 (ea_vpl (hs.1 53 (by decide)).2.2 z4) ?_
      refine ea_if_eq (pc := 68) (tgt := 75) dX12_charge_68 rfl (fun c6 => ?_) (fun c6 => ?_)
      · have EX := EX.trans (if_pos c6)
        have K := K.1 c6
        refine ea_aload_n (pc := 75) dX12_charge_75 rfl 0 rfl ?_
        refine ea_getR (pc := 76) dX12_charge_76 ec_12 (k := 75) (Nat.le_of_ble_eq_true rfl) rfl (Or.inl ew_1420) (hs.1 0 (by decide)).1 (hs.1 0 (by decide)).2.1 (hs.2 0 75 rfl) ?_
        refine ea_iload_n (pc := 79) dX12_charge_79 rfl 1 rfl ?_
        have z5 := K
        refine ea_iald (pc := 80) dX12_charge_80 (hs.1 49 (by decide)).1 (hs.1 49 (by decide)).2.1 (ea_vpl (hs.1 49 (by decide)).2.2 z5) ?_
        exact ea_iretE (pc := 81) dX12_charge_81 rfl rfl EX rfl
      · have EX := EX.trans (if_neg c6)
        refine ea_iconst (pc := 71) dX12_charge_71 (v := (-1)) rfl ?_
        refine ea_goto (pc := 72) (tgt := 81) dX12_charge_72 rfl ?_
        exact ea_iretE (pc := 81) dX12_charge_81 rfl rfl EX rfl
    have EX := EX.trans (if_neg qc11_2)
    have K := K.2 qc11_2
    by_cases qc11_3 : Int32.toInt x2 = 3
    · have EX := EX.trans (if_pos qc11_3)
      have K := K.1 qc11_3
      refine ea_tswIn (pc := 11) (tgt := 82) dX12_charge_11 (by rw [qc11_3]; decide) (by rw [qc11_3]; decide) (by rw [qc11_3]; rfl) rfl ?_
      refine ea_aload_n (pc := 82) dX12_charge_82 rfl 0 rfl ?_
      refine ea_iload_n (pc := 83) dX12_charge_83 rfl 1 rfl ?_
      have z7 := K
      refine ea_callV (pc := 84) (d' := d - 1) (As := [vI x1]) (st := []) dX12_charge_84 kX12_owed (sX12_owed (d := d - 1) (by omega) hs z7) (by omega) rfl (Nat.le_of_ble_eq_true rfl) ew_2027 ew_2029 ew_90 (ci := 12) rfl (by decide) (hs.1 0 (by decide)).1 (hs.1 0 (by decide)).2.1 ?_
      exact ea_iretE (pc := 87) dX12_charge_87 rfl rfl EX rfl
    have EX := EX.trans (if_neg qc11_3)
    have K := K.2 qc11_3
    by_cases qc11_4 : Int32.toInt x2 = 4
    · have EX := EX.trans (if_pos qc11_4)
      have K := K.1 qc11_4
      refine ea_tswIn (pc := 11) (tgt := 88) dX12_charge_11 (by rw [qc11_4]; decide) (by rw [qc11_4]; decide) (by rw [qc11_4]; rfl) rfl ?_
      refine ea_aload_n (pc := 88) dX12_charge_88 rfl 0 rfl ?_
      refine ea_iload_n (pc := 89) dX12_charge_89 rfl 1 rfl ?_
      obtain ⟨z8, K⟩ := K
      refine ea_callV (pc := 90) (d' := d - 1) (As := [vI x1]) (st := []) dX12_charge_90 kX12_isOwed (sX12_isOwed (d := d - 1) (by omega) hs z8) (by omega) rfl (Nat.le_of_ble_eq_true rfl) ew_2031 ew_2033 ew_91 (ci := 12) rfl (by decide) (hs.1 0 (by decide)).1 (hs.1 0 (by decide)).2.1 ?_
      refine ea_if_eq (pc := 93) (tgt := 100) dX12_charge_93 rfl (fun c10 => ?_) (fun c10 => ?_)
      · have EX := EX.trans (if_pos c10)
        have K := K.1 c10
        refine ea_aload_n (pc := 100) dX12_charge_100 rfl 0 rfl ?_
        refine ea_getR (pc := 101) dX12_charge_101 ec_12 (k := 74) (Nat.le_of_ble_eq_true rfl) rfl (Or.inl ew_1419) (hs.1 0 (by decide)).1 (hs.1 0 (by decide)).2.1 (hs.2 0 74 rfl) ?_
        refine ea_iload_n (pc := 104) dX12_charge_104 rfl 1 rfl ?_
        have z9 := K
        refine ea_iald (pc := 105) dX12_charge_105 (hs.1 48 (by decide)).1 (hs.1 48 (by decide)).2.1 (ea_vpl (hs.1 48 (by decide)).2.2 z9) ?_
        exact ea_iretE (pc := 106) dX12_charge_106 rfl rfl EX rfl
      · have EX := EX.trans (if_neg c10)
        refine ea_iconst (pc := 96) dX12_charge_96 (v := 0) rfl ?_
        refine ea_goto (pc := 97) (tgt := 106) dX12_charge_97 rfl ?_
        exact ea_iretE (pc := 106) dX12_charge_106 rfl rfl EX rfl
    have EX := EX.trans (if_neg qc11_4)
    have K := K.2 qc11_4
    by_cases qc11_5 : Int32.toInt x2 = 5
    · have EX := EX.trans (if_pos qc11_5)
      have K := K.1 qc11_5
      refine ea_tswIn (pc := 11) (tgt := 107) dX12_charge_11 (by rw [qc11_5]; decide) (by rw [qc11_5]; decide) (by rw [qc11_5]; rfl) rfl ?_
      refine ea_aload_n (pc := 107) dX12_charge_107 rfl 0 rfl ?_
      refine ea_getR (pc := 108) dX12_charge_108 ec_12 (k := 79) (Nat.le_of_ble_eq_true rfl) rfl (Or.inl ew_1424) (hs.1 0 (by decide)).1 (hs.1 0 (by decide)).2.1 (hs.2 0 79 rfl) ?_
      refine ea_iload_n (pc := 111) dX12_charge_111 rfl 1 rfl ?_
      have z11 := K
      refine ea_zald (pc := 112) dX12_charge_112 (hs.1 53 (by decide)).1 (hs.1 53 (by decide)).2.1 (ea_vpl (hs.1 53 (by decide)).2.2 z11) ?_
      refine ea_if_eq (pc := 113) (tgt := 120) dX12_charge_113 rfl (fun c12 => ?_) (fun c12 => ?_)
      · have EX := EX.trans (if_pos c12)
        refine ea_iconst (pc := 120) dX12_charge_120 (v := 0) rfl ?_
        exact ea_iretE (pc := 121) dX12_charge_121 rfl rfl EX rfl
      · have EX := EX.trans (if_neg c12)
        refine ea_iconst (pc := 116) dX12_charge_116 (v := 1) rfl ?_
        refine ea_goto (pc := 117) (tgt := 121) dX12_charge_117 rfl ?_
        exact ea_iretE (pc := 121) dX12_charge_121 rfl rfl EX rfl
    have EX := EX.trans (if_neg qc11_5)
    have K := K.2 qc11_5
    refine ea_tswOut (pc := 11) (tgt := 122) dX12_charge_11 (ea_sw_0_5 qc11_0 qc11_1 qc11_2 qc11_3 qc11_4 qc11_5) rfl ?_
    refine ea_iconst (pc := 122) dX12_charge_122 (v := (-1)) rfl ?_
    exact ea_iretE (pc := 123) dX12_charge_123 rfl rfl EX rfl
  · have EX := EX.trans (if_pos c13)
    refine ea_iconst (pc := 8) dX12_charge_8 (v := (-1)) rfl ?_
    exact ea_iretE (pc := 9) dX12_charge_9 rfl rfl EX rfl
noncomputable def vX12_lead (b0 : Nat) (x1 : Int32) (x2 : Int32) (x3 : Int32) (h : ea_H) : Int32 := (if (vX12_isLetterOf b0 (x1 : Int32) h) = (0 : Int32) then ((-1) : Int32) else (if (vX12_isIn (x2 : Int32) (0 : Int32) (((ea_i h (b0 + 50) (Int32.toNatClampNeg x1)) - (1 : Int32)) : Int32) h) = (0 : Int32) then ((-1) : Int32) else (if x3 = (0 : Int32) then (ea_i h (b0 + 62) (Int32.toNatClampNeg (((1000 : Int32) * x1) + x2))) else (if x3 = (1 : Int32) then (ea_i h (b0 + 63) (Int32.toNatClampNeg (((1000 : Int32) * x1) + x2))) else (if x3 = (2 : Int32) then (ea_i h (b0 + 64) (Int32.toNatClampNeg (((1000 : Int32) * x1) + x2))) else ((-1) : Int32))))))
def okX12_lead (b0 : Nat) (x1 : Int32) (x2 : Int32) (x3 : Int32) (h : ea_H) : Prop := ((vX12_isLetterOf b0 (x1 : Int32) h) = (0 : Int32) → True) ∧ (¬ (vX12_isLetterOf b0 (x1 : Int32) h) = (0 : Int32) → vp_in x1 120 ∧ (((vX12_isIn (x2 : Int32) (0 : Int32) (((ea_i h (b0 + 50) (Int32.toNatClampNeg x1)) - (1 : Int32)) : Int32) h) = (0 : Int32) → True) ∧ (¬ (vX12_isIn (x2 : Int32) (0 : Int32) (((ea_i h (b0 + 50) (Int32.toNatClampNeg x1)) - (1 : Int32)) : Int32) h) = (0 : Int32) → (x3 = (0 : Int32) → vp_in (((1000 : Int32) * x1) + x2) 120000) ∧ (¬ x3 = (0 : Int32) → (x3 = (1 : Int32) → vp_in (((1000 : Int32) * x1) + x2) 120000) ∧ (¬ x3 = (1 : Int32) → (x3 = (2 : Int32) → vp_in (((1000 : Int32) * x1) + x2) 120000) ∧ (¬ x3 = (2 : Int32) → True))))))
theorem sX12_lead {d : Nat} {b0 : Nat} {x1 : Int32} {x2 : Int32} {x3 : Int32} {h : ea_H} (hd : 3 ≤ d) (hs : ShM b0 h) (K : okX12_lead b0 x1 x2 x3 h) : ea_Met mX12_lead d [vR (some (b0 + 0)), vI x1, vI x2, vI x3] h (some (vI (vX12_lead b0 x1 x2 x3 h))) h := by
  obtain ⟨X, EX⟩ : ∃ z, z = vX12_lead b0 x1 x2 x3 h := ⟨_, rfl⟩
  rw [← EX]
  unfold vX12_lead at EX
  unfold okX12_lead at K
  refine ea_enter rfl (Nat.le_of_ble_eq_true rfl) ?_
  refine ea_aload_n (pc := 0) dX12_lead_0 rfl 0 rfl ?_
  refine ea_iload_n (pc := 1) dX12_lead_1 rfl 1 rfl ?_
  refine ea_callV (pc := 2) (d' := d - 1) (As := [vI x1]) (st := []) dX12_lead_2 kX12_isLetterOf (sX12_isLetterOf (d := d - 1) (by omega) hs) (by omega) rfl (Nat.le_of_ble_eq_true rfl) ew_2019 ew_2021 ew_89 (ci := 12) rfl (by decide) (hs.1 0 (by decide)).1 (hs.1 0 (by decide)).2.1 ?_
  refine ea_if_eq (pc := 5) (tgt := 24) dX12_lead_5 rfl (fun c11 => ?_) (fun c11 => ?_)
  · have EX := EX.trans (if_pos c11)
    refine ea_iconst (pc := 24) dX12_lead_24 (v := (-1)) rfl ?_
    exact ea_iretE (pc := 25) dX12_lead_25 rfl rfl EX rfl
  · have EX := EX.trans (if_neg c11)
    have K := K.2 c11
    refine ea_iload_n (pc := 8) dX12_lead_8 rfl 2 rfl ?_
    refine ea_iconst (pc := 9) dX12_lead_9 (v := 0) rfl ?_
    refine ea_aload_n (pc := 10) dX12_lead_10 rfl 0 rfl ?_
    refine ea_getR (pc := 11) dX12_lead_11 ec_12 (k := 76) (Nat.le_of_ble_eq_true rfl) rfl (Or.inl ew_1421) (hs.1 0 (by decide)).1 (hs.1 0 (by decide)).2.1 (hs.2 0 76 rfl) ?_
    refine ea_iload_n (pc := 14) dX12_lead_14 rfl 1 rfl ?_
    obtain ⟨z2, K⟩ := K
    refine ea_iald (pc := 15) dX12_lead_15 (hs.1 50 (by decide)).1 (hs.1 50 (by decide)).2.1 (ea_vpl (hs.1 50 (by decide)).2.2 z2) ?_
    refine ea_iconst (pc := 16) dX12_lead_16 (v := 1) rfl ?_
    refine ea_isub (pc := 17) dX12_lead_17 ?_
    refine ea_callS (pc := 18) (d' := d - 1) (As := [vI x2, vI 0, vI ((ea_i h (b0 + 50) (Int32.toNatClampNeg x1)) - (1 : Int32))]) (st := []) dX12_lead_18 kX12_isIn (sX12_isIn (d := d - 1) (by omega)) (by omega) rfl (Nat.le_of_ble_eq_true rfl) ew_1712 ew_1713 ?_
    refine ea_if_ne (pc := 21) (tgt := 26) dX12_lead_21 rfl (fun c10 => ?_) (fun c10 => ?_)
    · have EX := EX.trans (if_neg c10)
      have K := K.2 c10
      refine ea_sipush (pc := 26) dX12_lead_26 (v := 1000) rfl ?_
      refine ea_iload_n (pc := 29) dX12_lead_29 rfl 1 rfl ?_
      refine ea_imul (pc := 30) dX12_lead_30 ?_
      refine ea_iload_n (pc := 31) dX12_lead_31 rfl 2 rfl ?_
      refine ea_iadd (pc := 32) dX12_lead_32 ?_
      refine ea_istore (pc := 33) (lv' := [(0, vR (some (b0 + 0))), (3, vI x3), (4, vI (((1000 : Int32) * x1) + x2))]) dX12_lead_33 (Nat.le_of_ble_eq_true rfl) [1, 4, 0] rfl ?_
      refine ea_iload_n (pc := 35) dX12_lead_35 rfl 1 rfl ?_
      refine ea_if_ne (pc := 36) (tgt := 49) dX12_lead_36 rfl (fun c9 => ?_) (fun c9 => ?_)
      · have EX := EX.trans (if_neg c9)
        have K := K.2 c9
        refine ea_iload_n (pc := 49) dX12_lead_49 rfl 1 rfl ?_
        refine ea_iconst (pc := 50) dX12_lead_50 (v := 1) rfl ?_
        refine ea_icmp_ne (pc := 51) (tgt := 64) dX12_lead_51 rfl (fun c7 => ?_) (fun c7 => ?_)
        · have EX := EX.trans (if_neg c7)
          have K := K.2 c7
          refine ea_iload_n (pc := 64) dX12_lead_64 rfl 1 rfl ?_
          refine ea_iconst (pc := 65) dX12_lead_65 (v := 2) rfl ?_
          refine ea_icmp_ne (pc := 66) (tgt := 79) dX12_lead_66 rfl (fun c5 => ?_) (fun c5 => ?_)
          · have EX := EX.trans (if_neg c5)
            refine ea_iconst (pc := 79) dX12_lead_79 (v := (-1)) rfl ?_
            exact ea_iretE (pc := 80) dX12_lead_80 rfl rfl EX rfl
          · have EX := EX.trans (if_pos c5)
            have K := K.1 c5
            refine ea_aload_n (pc := 69) dX12_lead_69 rfl 0 rfl ?_
            refine ea_getR (pc := 70) dX12_lead_70 ec_12 (k := 90) (Nat.le_of_ble_eq_true rfl) rfl (Or.inl ew_1435) (hs.1 0 (by decide)).1 (hs.1 0 (by decide)).2.1 (hs.2 0 90 rfl) ?_
            refine ea_iload (pc := 73) dX12_lead_73 2 rfl ?_
            have z4 := K
            refine ea_iald (pc := 75) dX12_lead_75 (hs.1 64 (by decide)).1 (hs.1 64 (by decide)).2.1 (ea_vpl (hs.1 64 (by decide)).2.2 z4) ?_
            refine ea_goto (pc := 76) (tgt := 80) dX12_lead_76 rfl ?_
            exact ea_iretE (pc := 80) dX12_lead_80 rfl rfl EX rfl
        · have EX := EX.trans (if_pos c7)
          have K := K.1 c7
          refine ea_aload_n (pc := 54) dX12_lead_54 rfl 0 rfl ?_
          refine ea_getR (pc := 55) dX12_lead_55 ec_12 (k := 89) (Nat.le_of_ble_eq_true rfl) rfl (Or.inl ew_1434) (hs.1 0 (by decide)).1 (hs.1 0 (by decide)).2.1 (hs.2 0 89 rfl) ?_
          refine ea_iload (pc := 58) dX12_lead_58 2 rfl ?_
          have z6 := K
          refine ea_iald (pc := 60) dX12_lead_60 (hs.1 63 (by decide)).1 (hs.1 63 (by decide)).2.1 (ea_vpl (hs.1 63 (by decide)).2.2 z6) ?_
          refine ea_goto (pc := 61) (tgt := 80) dX12_lead_61 rfl ?_
          exact ea_iretE (pc := 80) dX12_lead_80 rfl rfl EX rfl
      · have EX := EX.trans (if_pos c9)
        have K := K.1 c9
        refine ea_aload_n (pc := 39) dX12_lead_39 rfl 0 rfl ?_
        refine ea_getR (pc := 40) dX12_lead_40 ec_12 (k := 88) (Nat.le_of_ble_eq_true rfl) rfl (Or.inl ew_1433) (hs.1 0 (by decide)).1 (hs.1 0 (by decide)).2.1 (hs.2 0 88 rfl) ?_
        refine ea_iload (pc := 43) dX12_lead_43 2 rfl ?_
        have z8 := K
        refine ea_iald (pc := 45) dX12_lead_45 (hs.1 62 (by decide)).1 (hs.1 62 (by decide)).2.1 (ea_vpl (hs.1 62 (by decide)).2.2 z8) ?_
        refine ea_goto (pc := 46) (tgt := 80) dX12_lead_46 rfl ?_
        exact ea_iretE (pc := 80) dX12_lead_80 rfl rfl EX rfl
    · have EX := EX.trans (if_pos c10)
      refine ea_iconst (pc := 24) dX12_lead_24 (v := (-1)) rfl ?_
      exact ea_iretE (pc := 25) dX12_lead_25 rfl rfl EX rfl
noncomputable def vX12_sorter (b0 : Nat) (x1 : Int32) (x2 : Int32) (h : ea_H) : Int32 := (if (vX12_isIn (x1 : Int32) (1 : Int32) (99 : Int32) h) = (0 : Int32) then ((-1) : Int32) else (if (vX12_isIn (x2 : Int32) (0 : Int32) (4095 : Int32) h) = (0 : Int32) then ((-1) : Int32) else (if (ea_i h (b0 + 0) 92) = (8 : Int32) then ((-1) : Int32) else ((ea_i (ea_wi (ea_wi (ea_wi h (b0 + 66) (Int32.toNatClampNeg (ea_i h (b0 + 0) 92)) x1) (b0 + 67) (Int32.toNatClampNeg (ea_i (ea_wi h (b0 + 66) (Int32.toNatClampNeg (ea_i h (b0 + 0) 92)) x1) (b0 + 0) 92)) x2) (b0 + 0) 92 ((ea_i (ea_wi (ea_wi h (b0 + 66) (Int32.toNatClampNeg (ea_i h (b0 + 0) 92)) x1) (b0 + 67) (Int32.toNatClampNeg (ea_i (ea_wi h (b0 + 66) (Int32.toNatClampNeg (ea_i h (b0 + 0) 92)) x1) (b0 + 0) 92)) x2) (b0 + 0) 92) + (1 : Int32))) (b0 + 0) 92) - (1 : Int32)))))
noncomputable def wX12_sorter (b0 : Nat) (x1 : Int32) (x2 : Int32) (h : ea_H) : ea_H := (if (vX12_isIn (x1 : Int32) (1 : Int32) (99 : Int32) h) = (0 : Int32) then h else (if (vX12_isIn (x2 : Int32) (0 : Int32) (4095 : Int32) h) = (0 : Int32) then h else (if (ea_i h (b0 + 0) 92) = (8 : Int32) then h else (ea_wi (ea_wi (ea_wi h (b0 + 66) (Int32.toNatClampNeg (ea_i h (b0 + 0) 92)) x1) (b0 + 67) (Int32.toNatClampNeg (ea_i (ea_wi h (b0 + 66) (Int32.toNatClampNeg (ea_i h (b0 + 0) 92)) x1) (b0 + 0) 92)) x2) (b0 + 0) 92 ((ea_i (ea_wi (ea_wi h (b0 + 66) (Int32.toNatClampNeg (ea_i h (b0 + 0) 92)) x1) (b0 + 67) (Int32.toNatClampNeg (ea_i (ea_wi h (b0 + 66) (Int32.toNatClampNeg (ea_i h (b0 + 0) 92)) x1) (b0 + 0) 92)) x2) (b0 + 0) 92) + (1 : Int32))))))
def okX12_sorter (b0 : Nat) (x1 : Int32) (x2 : Int32) (h : ea_H) : Prop := ((vX12_isIn (x1 : Int32) (1 : Int32) (99 : Int32) h) = (0 : Int32) → True) ∧ (¬ (vX12_isIn (x1 : Int32) (1 : Int32) (99 : Int32) h) = (0 : Int32) → ((vX12_isIn (x2 : Int32) (0 : Int32) (4095 : Int32) h) = (0 : Int32) → True) ∧ (¬ (vX12_isIn (x2 : Int32) (0 : Int32) (4095 : Int32) h) = (0 : Int32) → ((ea_i h (b0 + 0) 92) = (8 : Int32) → True) ∧ (¬ (ea_i h (b0 + 0) 92) = (8 : Int32) → vp_in (ea_i h (b0 + 0) 92) 8 ∧ (vp_in (ea_i (ea_wi h (b0 + 66) (Int32.toNatClampNeg (ea_i h (b0 + 0) 92)) x1) (b0 + 0) 92) 8))))
theorem shX12_sorter {b0 : Nat} {x1 : Int32} {x2 : Int32} {h : ea_H} (hs : ShM b0 h) : ShM b0 (wX12_sorter b0 x1 x2 h) := (ShM_it hs (ShM_it hs (ShM_it hs (ShM_wi (ShM_wi (ShM_wi hs))))))
theorem sX12_sorter {d : Nat} {b0 : Nat} {x1 : Int32} {x2 : Int32} {h : ea_H} (hd : 2 ≤ d) (hs : ShM b0 h) (K : okX12_sorter b0 x1 x2 h) : ea_Met mX12_sorter d [vR (some (b0 + 0)), vI x1, vI x2] h (some (vI (vX12_sorter b0 x1 x2 h))) (wX12_sorter b0 x1 x2 h) := by
  obtain ⟨X, EX⟩ : ∃ z, z = vX12_sorter b0 x1 x2 h := ⟨_, rfl⟩
  rw [← EX]
  unfold vX12_sorter at EX
  obtain ⟨Y, EY⟩ : ∃ z, z = wX12_sorter b0 x1 x2 h := ⟨_, rfl⟩
  rw [← EY]
  unfold wX12_sorter at EY
  unfold okX12_sorter at K
  refine ea_enter rfl (Nat.le_of_ble_eq_true rfl) ?_
  refine ea_iload_n (pc := 0) dX12_sorter_0 rfl 1 rfl ?_
  refine ea_iconst (pc := 1) dX12_sorter_1 (v := 1) rfl ?_
  refine ea_bipush (pc := 2) dX12_sorter_2 (v := 99) rfl ?_
  refine ea_callS (pc := 4) (d' := d - 1) (As := [vI x1, vI 1, vI 99]) (st := []) dX12_sorter_4 kX12_isIn (sX12_isIn (d := d - 1) (by omega)) (by omega) rfl (Nat.le_of_ble_eq_true rfl) ew_1712 ew_1713 ?_
  refine ea_if_eq (pc := 7) (tgt := 30) dX12_sorter_7 rfl (fun c10 => ?_) (fun c10 => ?_)
  · have EX := EX.trans (if_pos c10)
    have EY := EY.trans (if_pos c10)
    refine ea_iconst (pc := 30) dX12_sorter_30 (v := (-1)) rfl ?_
    exact ea_iretE (pc := 31) dX12_sorter_31 rfl rfl EX EY
  · have EX := EX.trans (if_neg c10)
    have EY := EY.trans (if_neg c10)
    have K := K.2 c10
    refine ea_iload_n (pc := 10) dX12_sorter_10 rfl 2 rfl ?_
    refine ea_iconst (pc := 11) dX12_sorter_11 (v := 0) rfl ?_
    refine ea_sipush (pc := 12) dX12_sorter_12 (v := 4095) rfl ?_
    refine ea_callS (pc := 15) (d' := d - 1) (As := [vI x2, vI 0, vI 4095]) (st := []) dX12_sorter_15 kX12_isIn (sX12_isIn (d := d - 1) (by omega)) (by omega) rfl (Nat.le_of_ble_eq_true rfl) ew_1712 ew_1713 ?_
    refine ea_if_eq (pc := 18) (tgt := 30) dX12_sorter_18 rfl (fun c9 => ?_) (fun c9 => ?_)
    · have EX := EX.trans (if_pos c9)
      have EY := EY.trans (if_pos c9)
      refine ea_iconst (pc := 30) dX12_sorter_30 (v := (-1)) rfl ?_
      exact ea_iretE (pc := 31) dX12_sorter_31 rfl rfl EX EY
    · have EX := EX.trans (if_neg c9)
      have EY := EY.trans (if_neg c9)
      have K := K.2 c9
      refine ea_aload_n (pc := 21) dX12_sorter_21 rfl 0 rfl ?_
      refine ea_getI (pc := 22) dX12_sorter_22 ec_12 (k := 92) (Nat.le_of_ble_eq_true rfl) rfl (Or.inl ew_1437) (hs.1 0 (by decide)).1 (hs.1 0 (by decide)).2.1 ?_
      refine ea_bipush (pc := 25) dX12_sorter_25 (v := 8) rfl ?_
      refine ea_icmp_ne (pc := 27) (tgt := 32) dX12_sorter_27 rfl (fun c8 => ?_) (fun c8 => ?_)
      · have EX := EX.trans (if_neg c8)
        have EY := EY.trans (if_neg c8)
        have K := K.2 c8
        refine ea_aload_n (pc := 32) dX12_sorter_32 rfl 0 rfl ?_
        refine ea_getR (pc := 33) dX12_sorter_33 ec_12 (k := 93) (Nat.le_of_ble_eq_true rfl) rfl (Or.inl ew_1438) (hs.1 0 (by decide)).1 (hs.1 0 (by decide)).2.1 (hs.2 0 93 rfl) ?_
        refine ea_aload_n (pc := 36) dX12_sorter_36 rfl 0 rfl ?_
        refine ea_getI (pc := 37) dX12_sorter_37 ec_12 (k := 92) (Nat.le_of_ble_eq_true rfl) rfl (Or.inl ew_1437) (hs.1 0 (by decide)).1 (hs.1 0 (by decide)).2.1 ?_
        refine ea_iload_n (pc := 40) dX12_sorter_40 rfl 1 rfl ?_
        obtain ⟨z3, K⟩ := K
        refine ea_iast (pc := 41) dX12_sorter_41 (hs.1 66 (by decide)).1 (hs.1 66 (by decide)).2.1 (ea_vpl (hs.1 66 (by decide)).2.2 z3) ?_
        have hs4 : ShM b0 (ea_wi h (b0 + 66) (Int32.toNatClampNeg (ea_i h (b0 + 0) 92)) x1) := ShM_wi hs
        refine ea_aload_n (pc := 42) dX12_sorter_42 rfl 0 rfl ?_
        refine ea_getR (pc := 43) dX12_sorter_43 ec_12 (k := 94) (Nat.le_of_ble_eq_true rfl) rfl (Or.inl ew_1439) (hs4.1 0 (by decide)).1 (hs4.1 0 (by decide)).2.1 (hs4.2 0 94 rfl) ?_
        refine ea_aload_n (pc := 46) dX12_sorter_46 rfl 0 rfl ?_
        refine ea_getI (pc := 47) dX12_sorter_47 ec_12 (k := 92) (Nat.le_of_ble_eq_true rfl) rfl (Or.inl ew_1437) (hs4.1 0 (by decide)).1 (hs4.1 0 (by decide)).2.1 ?_
        refine ea_iload_n (pc := 50) dX12_sorter_50 rfl 2 rfl ?_
        have z5 := K
        refine ea_iast (pc := 51) dX12_sorter_51 (hs4.1 67 (by decide)).1 (hs4.1 67 (by decide)).2.1 (ea_vpl (hs4.1 67 (by decide)).2.2 z5) ?_
        have hs6 : ShM b0 (ea_wi (ea_wi h (b0 + 66) (Int32.toNatClampNeg (ea_i h (b0 + 0) 92)) x1) (b0 + 67) (Int32.toNatClampNeg (ea_i (ea_wi h (b0 + 66) (Int32.toNatClampNeg (ea_i h (b0 + 0) 92)) x1) (b0 + 0) 92)) x2) := ShM_wi hs4
        refine ea_aload_n (pc := 52) dX12_sorter_52 rfl 0 rfl ?_
        refine ea_dup (pc := 53) dX12_sorter_53 rfl ?_
        refine ea_getI (pc := 54) dX12_sorter_54 ec_12 (k := 92) (Nat.le_of_ble_eq_true rfl) rfl (Or.inl ew_1437) (hs6.1 0 (by decide)).1 (hs6.1 0 (by decide)).2.1 ?_
        refine ea_iconst (pc := 57) dX12_sorter_57 (v := 1) rfl ?_
        refine ea_iadd (pc := 58) dX12_sorter_58 ?_
        refine ea_putI (pc := 59) dX12_sorter_59 ec_12 (k := 92) (Nat.le_of_ble_eq_true rfl) rfl (Or.inl ⟨rfl, Or.inl ew_1437⟩) rfl rfl (hs6.1 0 (by decide)).1 (hs6.1 0 (by decide)).2.1 ?_
        have hs7 : ShM b0 (ea_wi (ea_wi (ea_wi h (b0 + 66) (Int32.toNatClampNeg (ea_i h (b0 + 0) 92)) x1) (b0 + 67) (Int32.toNatClampNeg (ea_i (ea_wi h (b0 + 66) (Int32.toNatClampNeg (ea_i h (b0 + 0) 92)) x1) (b0 + 0) 92)) x2) (b0 + 0) 92 ((ea_i (ea_wi (ea_wi h (b0 + 66) (Int32.toNatClampNeg (ea_i h (b0 + 0) 92)) x1) (b0 + 67) (Int32.toNatClampNeg (ea_i (ea_wi h (b0 + 66) (Int32.toNatClampNeg (ea_i h (b0 + 0) 92)) x1) (b0 + 0) 92)) x2) (b0 + 0) 92) + (1 : Int32))) := ShM_wi hs6
        refine ea_aload_n (pc := 62) dX12_sorter_62 rfl 0 rfl ?_
        refine ea_getI (pc := 63) dX12_sorter_63 ec_12 (k := 92) (Nat.le_of_ble_eq_true rfl) rfl (Or.inl ew_1437) (hs7.1 0 (by decide)).1 (hs7.1 0 (by decide)).2.1 ?_
        refine ea_iconst (pc := 66) dX12_sorter_66 (v := 1) rfl ?_
        refine ea_isub (pc := 67) dX12_sorter_67 ?_
        exact ea_iretE (pc := 68) dX12_sorter_68 rfl rfl EX EY
      · have EX := EX.trans (if_pos c8)
        have EY := EY.trans (if_pos c8)
        refine ea_iconst (pc := 30) dX12_sorter_30 (v := (-1)) rfl ?_
        exact ea_iretE (pc := 31) dX12_sorter_31 rfl rfl EX EY
noncomputable def vX12_seat (b0 : Nat) (x1 : Int32) (x2 : Int32) (h : ea_H) : Int32 := (if (vX12_isIn (x1 : Int32) (0 : Int32) (((ea_i h (b0 + 0) 92) - (1 : Int32)) : Int32) h) = (0 : Int32) then (0 : Int32) else (if x2 = ((-1) : Int32) then (1 : Int32) else (if (vX12_isTrain b0 (x2 : Int32) h) = (0 : Int32) then (0 : Int32) else (1 : Int32))))
noncomputable def wX12_seat (b0 : Nat) (x1 : Int32) (x2 : Int32) (h : ea_H) : ea_H := (if (vX12_isIn (x1 : Int32) (0 : Int32) (((ea_i h (b0 + 0) 92) - (1 : Int32)) : Int32) h) = (0 : Int32) then h else (if x2 = ((-1) : Int32) then (ea_wi h (b0 + 68) (Int32.toNatClampNeg x1) x2) else (if (vX12_isTrain b0 (x2 : Int32) h) = (0 : Int32) then h else (ea_wi h (b0 + 68) (Int32.toNatClampNeg x1) x2))))
def okX12_seat (b0 : Nat) (x1 : Int32) (x2 : Int32) (h : ea_H) : Prop := ((vX12_isIn (x1 : Int32) (0 : Int32) (((ea_i h (b0 + 0) 92) - (1 : Int32)) : Int32) h) = (0 : Int32) → True) ∧ (¬ (vX12_isIn (x1 : Int32) (0 : Int32) (((ea_i h (b0 + 0) 92) - (1 : Int32)) : Int32) h) = (0 : Int32) → (x2 = ((-1) : Int32) → vp_in x1 8) ∧ (¬ x2 = ((-1) : Int32) → ((vX12_isTrain b0 (x2 : Int32) h) = (0 : Int32) → True) ∧ (¬ (vX12_isTrain b0 (x2 : Int32) h) = (0 : Int32) → vp_in x1 8)))
theorem bo_vX12_seat (b0 : Nat) (x1 : Int32) (x2 : Int32) (h : ea_H) : vX12_seat b0 x1 x2 h = 0 ∨ vX12_seat b0 x1 x2 h = 1 := (ea_itB (Or.inl rfl) (ea_itB (Or.inr rfl) (ea_itB (Or.inl rfl) (Or.inr rfl))))
theorem shX12_seat {b0 : Nat} {x1 : Int32} {x2 : Int32} {h : ea_H} (hs : ShM b0 h) : ShM b0 (wX12_seat b0 x1 x2 h) := (ShM_it hs (ShM_it (ShM_wi hs) (ShM_it hs (ShM_wi hs))))
theorem sX12_seat {d : Nat} {b0 : Nat} {x1 : Int32} {x2 : Int32} {h : ea_H} (hd : 3 ≤ d) (hs : ShM b0 h) (K : okX12_seat b0 x1 x2 h) : ea_Met mX12_seat d [vR (some (b0 + 0)), vI x1, vI x2] h (some (vI (vX12_seat b0 x1 x2 h))) (wX12_seat b0 x1 x2 h) := by
  obtain ⟨X, EX⟩ : ∃ z, z = vX12_seat b0 x1 x2 h := ⟨_, rfl⟩
  rw [← EX]
  unfold vX12_seat at EX
  obtain ⟨Y, EY⟩ : ∃ z, z = wX12_seat b0 x1 x2 h := ⟨_, rfl⟩
  rw [← EY]
  unfold wX12_seat at EY
  unfold okX12_seat at K
  refine ea_enter rfl (Nat.le_of_ble_eq_true rfl) ?_
  refine ea_iload_n (pc := 0) dX12_seat_0 rfl 1 rfl ?_
  refine ea_iconst (pc := 1) dX12_seat_1 (v := 0) rfl ?_
  refine ea_aload_n (pc := 2) dX12_seat_2 rfl 0 rfl ?_
  refine ea_getI (pc := 3) dX12_seat_3 ec_12 (k := 92) (Nat.le_of_ble_eq_true rfl) rfl (Or.inl ew_1437) (hs.1 0 (by decide)).1 (hs.1 0 (by decide)).2.1 ?_
  refine ea_iconst (pc := 6) dX12_seat_6 (v := 1) rfl ?_
  refine ea_isub (pc := 7) dX12_seat_7 ?_
  refine ea_callS (pc := 8) (d' := d - 1) (As := [vI x1, vI 0, vI ((ea_i h (b0 + 0) 92) - (1 : Int32))]) (st := []) dX12_seat_8 kX12_isIn (sX12_isIn (d := d - 1) (by omega)) (by omega) rfl (Nat.le_of_ble_eq_true rfl) ew_1712 ew_1713 ?_
  refine ea_if_eq (pc := 11) (tgt := 27) dX12_seat_11 rfl (fun c9 => ?_) (fun c9 => ?_)
  · have EX := EX.trans (if_pos c9)
    have EY := EY.trans (if_pos c9)
    refine ea_iconst (pc := 27) dX12_seat_27 (v := 0) rfl ?_
    exact ea_iretE (pc := 28) dX12_seat_28 rfl (ea_bn (Or.inl rfl)) EX EY
  · have EX := EX.trans (if_neg c9)
    have EY := EY.trans (if_neg c9)
    have K := K.2 c9
    refine ea_iload_n (pc := 14) dX12_seat_14 rfl 2 rfl ?_
    refine ea_iconst (pc := 15) dX12_seat_15 (v := (-1)) rfl ?_
    refine ea_icmp_eq (pc := 16) (tgt := 29) dX12_seat_16 rfl (fun c8 => ?_) (fun c8 => ?_)
    · have EX := EX.trans (if_pos c8)
      have EY := EY.trans (if_pos c8)
      have K := K.1 c8
      refine ea_aload_n (pc := 29) dX12_seat_29 rfl 0 rfl ?_
      refine ea_getR (pc := 30) dX12_seat_30 ec_12 (k := 95) (Nat.le_of_ble_eq_true rfl) rfl (Or.inl ew_1440) (hs.1 0 (by decide)).1 (hs.1 0 (by decide)).2.1 (hs.2 0 95 rfl) ?_
      refine ea_iload_n (pc := 33) dX12_seat_33 rfl 1 rfl ?_
      refine ea_iload_n (pc := 34) dX12_seat_34 rfl 2 rfl ?_
      have z2 := K
      refine ea_iast (pc := 35) dX12_seat_35 (hs.1 68 (by decide)).1 (hs.1 68 (by decide)).2.1 (ea_vpl (hs.1 68 (by decide)).2.2 z2) ?_
      have hs3 : ShM b0 (ea_wi h (b0 + 68) (Int32.toNatClampNeg x1) x2) := ShM_wi hs
      refine ea_iconst (pc := 36) dX12_seat_36 (v := 1) rfl ?_
      exact ea_iretE (pc := 37) dX12_seat_37 rfl (ea_bn (Or.inr rfl)) EX EY
    · have EX := EX.trans (if_neg c8)
      have EY := EY.trans (if_neg c8)
      have K := K.2 c8
      refine ea_aload_n (pc := 19) dX12_seat_19 rfl 0 rfl ?_
      refine ea_iload_n (pc := 20) dX12_seat_20 rfl 2 rfl ?_
      refine ea_callV (pc := 21) (d' := d - 1) (As := [vI x2]) (st := []) dX12_seat_21 kX12_isTrain (sX12_isTrain (d := d - 1) (by omega) hs) (by omega) rfl (Nat.le_of_ble_eq_true rfl) ew_1736 ew_1738 ew_50 (ci := 12) rfl (by decide) (hs.1 0 (by decide)).1 (hs.1 0 (by decide)).2.1 ?_
      refine ea_if_ne (pc := 24) (tgt := 29) dX12_seat_24 rfl (fun c7 => ?_) (fun c7 => ?_)
      · have EX := EX.trans (if_neg c7)
        have EY := EY.trans (if_neg c7)
        have K := K.2 c7
        refine ea_aload_n (pc := 29) dX12_seat_29 rfl 0 rfl ?_
        refine ea_getR (pc := 30) dX12_seat_30 ec_12 (k := 95) (Nat.le_of_ble_eq_true rfl) rfl (Or.inl ew_1440) (hs.1 0 (by decide)).1 (hs.1 0 (by decide)).2.1 (hs.2 0 95 rfl) ?_
        refine ea_iload_n (pc := 33) dX12_seat_33 rfl 1 rfl ?_
        refine ea_iload_n (pc := 34) dX12_seat_34 rfl 2 rfl ?_
        have z5 := K
        refine ea_iast (pc := 35) dX12_seat_35 (hs.1 68 (by decide)).1 (hs.1 68 (by decide)).2.1 (ea_vpl (hs.1 68 (by decide)).2.2 z5) ?_
        have hs6 : ShM b0 (ea_wi h (b0 + 68) (Int32.toNatClampNeg x1) x2) := ShM_wi hs
        refine ea_iconst (pc := 36) dX12_seat_36 (v := 1) rfl ?_
        exact ea_iretE (pc := 37) dX12_seat_37 rfl (ea_bn (Or.inr rfl)) EX EY
      · have EX := EX.trans (if_pos c7)
        have EY := EY.trans (if_pos c7)
        refine ea_iconst (pc := 27) dX12_seat_27 (v := 0) rfl ?_
        exact ea_iretE (pc := 28) dX12_seat_28 rfl (ea_bn (Or.inl rfl)) EX EY
noncomputable def vX12_code (x0 : Int32) (h : ea_H) : Int32 := (((10 : Int32) * (x0 - x0 / (7 : Int32) * (7 : Int32))) + (x0 / (7 : Int32)))
theorem sX12_code {d : Nat} {x0 : Int32} {h : ea_H} (hd : 1 ≤ d) : ea_Met mX12_code d [vI x0] h (some (vI (vX12_code x0 h))) h := by
  obtain ⟨X, EX⟩ : ∃ z, z = vX12_code x0 h := ⟨_, rfl⟩
  rw [← EX]
  unfold vX12_code at EX
  refine ea_enter rfl (Nat.le_of_ble_eq_true rfl) ?_
  refine ea_bipush (pc := 0) dX12_code_0 (v := 10) rfl ?_
  refine ea_iload_n (pc := 2) dX12_code_2 rfl 0 rfl ?_
  refine ea_bipush (pc := 3) dX12_code_3 (v := 7) rfl ?_
  refine ea_irem (pc := 5) dX12_code_5 (by decide) ?_
  refine ea_imul (pc := 6) dX12_code_6 ?_
  refine ea_iload_n (pc := 7) dX12_code_7 rfl 0 rfl ?_
  refine ea_bipush (pc := 8) dX12_code_8 (v := 7) rfl ?_
  refine ea_idiv (pc := 10) dX12_code_10 (by decide) ?_
  refine ea_iadd (pc := 11) dX12_code_11 ?_
  exact ea_iretE (pc := 12) dX12_code_12 rfl rfl EX rfl
noncomputable def vX12_isAboard (b0 : Nat) (x1 : Int32) (x2 : Int32) (h : ea_H) : Int32 := (if (ea_i h (b0 + 55) (Int32.toNatClampNeg x1)) = (1 : Int32) then (if (ea_i h (b0 + 56) (Int32.toNatClampNeg x1)) = (vX12_code (x2 : Int32) h) then (1 : Int32) else (0 : Int32)) else (0 : Int32))
def okX12_isAboard (b0 : Nat) (x1 : Int32) (x2 : Int32) (h : ea_H) : Prop := vp_in x1 120 ∧ (((ea_i h (b0 + 55) (Int32.toNatClampNeg x1)) = (1 : Int32) → vp_in x1 120) ∧ (¬ (ea_i h (b0 + 55) (Int32.toNatClampNeg x1)) = (1 : Int32) → True))
theorem bo_vX12_isAboard (b0 : Nat) (x1 : Int32) (x2 : Int32) (h : ea_H) : vX12_isAboard b0 x1 x2 h = 0 ∨ vX12_isAboard b0 x1 x2 h = 1 := (ea_itB (ea_itB (Or.inr rfl) (Or.inl rfl)) (Or.inl rfl))
theorem sX12_isAboard {d : Nat} {b0 : Nat} {x1 : Int32} {x2 : Int32} {h : ea_H} (hd : 2 ≤ d) (hs : ShM b0 h) (K : okX12_isAboard b0 x1 x2 h) : ea_Met mX12_isAboard d [vR (some (b0 + 0)), vI x1, vI x2] h (some (vI (vX12_isAboard b0 x1 x2 h))) h := by
  obtain ⟨X, EX⟩ : ∃ z, z = vX12_isAboard b0 x1 x2 h := ⟨_, rfl⟩
  rw [← EX]
  unfold vX12_isAboard at EX
  unfold okX12_isAboard at K
  refine ea_enter rfl (Nat.le_of_ble_eq_true rfl) ?_
  refine ea_aload_n (pc := 0) dX12_isAboard_0 rfl 0 rfl ?_
  refine ea_getR (pc := 1) dX12_isAboard_1 ec_12 (k := 81) (Nat.le_of_ble_eq_true rfl) rfl (Or.inl ew_1426) (hs.1 0 (by decide)).1 (hs.1 0 (by decide)).2.1 (hs.2 0 81 rfl) ?_
  refine ea_iload_n (pc := 4) dX12_isAboard_4 rfl 1 rfl ?_
  obtain ⟨z1, K⟩ := K
  refine ea_iald (pc := 5) dX12_isAboard_5 (hs.1 55 (by decide)).1 (hs.1 55 (by decide)).2.1 (ea_vpl (hs.1 55 (by decide)).2.2 z1) ?_
  refine ea_iconst (pc := 6) dX12_isAboard_6 (v := 1) rfl ?_
  refine ea_icmp_ne (pc := 7) (tgt := 27) dX12_isAboard_7 rfl (fun c5 => ?_) (fun c5 => ?_)
  · have EX := EX.trans (if_neg c5)
    refine ea_iconst (pc := 27) dX12_isAboard_27 (v := 0) rfl ?_
    exact ea_iretE (pc := 28) dX12_isAboard_28 rfl (ea_bn (Or.inl rfl)) EX rfl
  · have EX := EX.trans (if_pos c5)
    have K := K.1 c5
    refine ea_aload_n (pc := 10) dX12_isAboard_10 rfl 0 rfl ?_
    refine ea_getR (pc := 11) dX12_isAboard_11 ec_12 (k := 82) (Nat.le_of_ble_eq_true rfl) rfl (Or.inl ew_1427) (hs.1 0 (by decide)).1 (hs.1 0 (by decide)).2.1 (hs.2 0 82 rfl) ?_
    refine ea_iload_n (pc := 14) dX12_isAboard_14 rfl 1 rfl ?_
    have z2 := K
    refine ea_iald (pc := 15) dX12_isAboard_15 (hs.1 56 (by decide)).1 (hs.1 56 (by decide)).2.1 (ea_vpl (hs.1 56 (by decide)).2.2 z2) ?_
    refine ea_iload_n (pc := 16) dX12_isAboard_16 rfl 2 rfl ?_
    refine ea_callS (pc := 17) (d' := d - 1) (As := [vI x2]) (st := [vI (ea_i h (b0 + 56) (Int32.toNatClampNeg x1))]) dX12_isAboard_17 kX12_code (sX12_code (d := d - 1) (by omega)) (by omega) rfl (Nat.le_of_ble_eq_true rfl) ew_2071 ew_2072 ?_
    refine ea_icmp_ne (pc := 20) (tgt := 27) dX12_isAboard_20 rfl (fun c4 => ?_) (fun c4 => ?_)
    · have EX := EX.trans (if_neg c4)
      refine ea_iconst (pc := 27) dX12_isAboard_27 (v := 0) rfl ?_
      exact ea_iretE (pc := 28) dX12_isAboard_28 rfl (ea_bn (Or.inl rfl)) EX rfl
    · have EX := EX.trans (if_pos c4)
      refine ea_iconst (pc := 23) dX12_isAboard_23 (v := 1) rfl ?_
      refine ea_goto (pc := 24) (tgt := 28) dX12_isAboard_24 rfl ?_
      exact ea_iretE (pc := 28) dX12_isAboard_28 rfl (ea_bn (Or.inr rfl)) EX rfl
noncomputable def vX12_isOf (b0 : Nat) (x1 : Int32) (x2 : Int32) (x3 : Int32) (h : ea_H) : Int32 := (if (ea_i h (b0 + 39) (Int32.toNatClampNeg x1)) = x2 then (if (ea_i h (b0 + 40) (Int32.toNatClampNeg x1)) = x3 then (1 : Int32) else (0 : Int32)) else (0 : Int32))
def okX12_isOf (b0 : Nat) (x1 : Int32) (x2 : Int32) (x3 : Int32) (h : ea_H) : Prop := vp_in x1 120 ∧ (((ea_i h (b0 + 39) (Int32.toNatClampNeg x1)) = x2 → vp_in x1 120) ∧ (¬ (ea_i h (b0 + 39) (Int32.toNatClampNeg x1)) = x2 → True))
theorem bo_vX12_isOf (b0 : Nat) (x1 : Int32) (x2 : Int32) (x3 : Int32) (h : ea_H) : vX12_isOf b0 x1 x2 x3 h = 0 ∨ vX12_isOf b0 x1 x2 x3 h = 1 := (ea_itB (ea_itB (Or.inr rfl) (Or.inl rfl)) (Or.inl rfl))
theorem sX12_isOf {d : Nat} {b0 : Nat} {x1 : Int32} {x2 : Int32} {x3 : Int32} {h : ea_H} (hd : 1 ≤ d) (hs : ShM b0 h) (K : okX12_isOf b0 x1 x2 x3 h) : ea_Met mX12_isOf d [vR (some (b0 + 0)), vI x1, vI x2, vI x3] h (some (vI (vX12_isOf b0 x1 x2 x3 h))) h := by
  obtain ⟨X, EX⟩ : ∃ z, z = vX12_isOf b0 x1 x2 x3 h := ⟨_, rfl⟩
  rw [← EX]
  unfold vX12_isOf at EX
  unfold okX12_isOf at K
  refine ea_enter rfl (Nat.le_of_ble_eq_true rfl) ?_
  refine ea_aload_n (pc := 0) dX12_isOf_0 rfl 0 rfl ?_
  refine ea_getR (pc := 1) dX12_isOf_1 ec_12 (k := 65) (Nat.le_of_ble_eq_true rfl) rfl (Or.inl ew_1410) (hs.1 0 (by decide)).1 (hs.1 0 (by decide)).2.1 (hs.2 0 65 rfl) ?_
  refine ea_iload_n (pc := 4) dX12_isOf_4 rfl 1 rfl ?_
  obtain ⟨z1, K⟩ := K
  refine ea_iald (pc := 5) dX12_isOf_5 (hs.1 39 (by decide)).1 (hs.1 39 (by decide)).2.1 (ea_vpl (hs.1 39 (by decide)).2.2 z1) ?_
  refine ea_iload_n (pc := 6) dX12_isOf_6 rfl 2 rfl ?_
  refine ea_icmp_ne (pc := 7) (tgt := 24) dX12_isOf_7 rfl (fun c4 => ?_) (fun c4 => ?_)
  · have EX := EX.trans (if_neg c4)
    refine ea_iconst (pc := 24) dX12_isOf_24 (v := 0) rfl ?_
    exact ea_iretE (pc := 25) dX12_isOf_25 rfl (ea_bn (Or.inl rfl)) EX rfl
  · have EX := EX.trans (if_pos c4)
    have K := K.1 c4
    refine ea_aload_n (pc := 10) dX12_isOf_10 rfl 0 rfl ?_
    refine ea_getR (pc := 11) dX12_isOf_11 ec_12 (k := 66) (Nat.le_of_ble_eq_true rfl) rfl (Or.inl ew_1411) (hs.1 0 (by decide)).1 (hs.1 0 (by decide)).2.1 (hs.2 0 66 rfl) ?_
    refine ea_iload_n (pc := 14) dX12_isOf_14 rfl 1 rfl ?_
    have z2 := K
    refine ea_iald (pc := 15) dX12_isOf_15 (hs.1 40 (by decide)).1 (hs.1 40 (by decide)).2.1 (ea_vpl (hs.1 40 (by decide)).2.2 z2) ?_
    refine ea_iload_n (pc := 16) dX12_isOf_16 rfl 3 rfl ?_
    refine ea_icmp_ne (pc := 17) (tgt := 24) dX12_isOf_17 rfl (fun c3 => ?_) (fun c3 => ?_)
    · have EX := EX.trans (if_neg c3)
      refine ea_iconst (pc := 24) dX12_isOf_24 (v := 0) rfl ?_
      exact ea_iretE (pc := 25) dX12_isOf_25 rfl (ea_bn (Or.inl rfl)) EX rfl
    · have EX := EX.trans (if_pos c3)
      refine ea_iconst (pc := 20) dX12_isOf_20 (v := 1) rfl ?_
      refine ea_goto (pc := 21) (tgt := 25) dX12_isOf_21 rfl ?_
      exact ea_iretE (pc := 25) dX12_isOf_25 rfl (ea_bn (Or.inr rfl)) EX rfl
noncomputable def vX12_nobody (b0 : Nat) (x1 : Int32) (h : ea_H) : Int32 := (if (vX12_isLetterOf b0 (x1 : Int32) h) = (0 : Int32) then (0 : Int32) else (if (ea_i h (b0 + 54) (Int32.toNatClampNeg x1)) = (0 : Int32) then (if (ea_i h (b0 + 55) (Int32.toNatClampNeg x1)) ≤ (1 : Int32) then (1 : Int32) else (0 : Int32)) else (0 : Int32)))
noncomputable def wX12_nobody (b0 : Nat) (x1 : Int32) (h : ea_H) : ea_H := (if (vX12_isLetterOf b0 (x1 : Int32) h) = (0 : Int32) then h else (if (ea_i h (b0 + 54) (Int32.toNatClampNeg x1)) = (0 : Int32) then (if (ea_i h (b0 + 55) (Int32.toNatClampNeg x1)) ≤ (1 : Int32) then (ea_wi h (b0 + 54) (Int32.toNatClampNeg x1) 1) else h) else h))
def okX12_nobody (b0 : Nat) (x1 : Int32) (h : ea_H) : Prop := ((vX12_isLetterOf b0 (x1 : Int32) h) = (0 : Int32) → True) ∧ (¬ (vX12_isLetterOf b0 (x1 : Int32) h) = (0 : Int32) → vp_in x1 120 ∧ (((ea_i h (b0 + 54) (Int32.toNatClampNeg x1)) = (0 : Int32) → vp_in x1 120 ∧ (((ea_i h (b0 + 55) (Int32.toNatClampNeg x1)) ≤ (1 : Int32) → vp_in x1 120) ∧ (¬ (ea_i h (b0 + 55) (Int32.toNatClampNeg x1)) ≤ (1 : Int32) → True))) ∧ (¬ (ea_i h (b0 + 54) (Int32.toNatClampNeg x1)) = (0 : Int32) → True)))
theorem bo_vX12_nobody (b0 : Nat) (x1 : Int32) (h : ea_H) : vX12_nobody b0 x1 h = 0 ∨ vX12_nobody b0 x1 h = 1 := (ea_itB (Or.inl rfl) (ea_itB (ea_itB (Or.inr rfl) (Or.inl rfl)) (Or.inl rfl)))
theorem shX12_nobody {b0 : Nat} {x1 : Int32} {h : ea_H} (hs : ShM b0 h) : ShM b0 (wX12_nobody b0 x1 h) := (ShM_it hs (ShM_it (ShM_it (ShM_wi hs) hs) hs))
theorem sX12_nobody {d : Nat} {b0 : Nat} {x1 : Int32} {h : ea_H} (hd : 3 ≤ d) (hs : ShM b0 h) (K : okX12_nobody b0 x1 h) : ea_Met mX12_nobody d [vR (some (b0 + 0)), vI x1] h (some (vI (vX12_nobody b0 x1 h))) (wX12_nobody b0 x1 h) := by
  obtain ⟨X, EX⟩ : ∃ z, z = vX12_nobody b0 x1 h := ⟨_, rfl⟩
  rw [← EX]
  unfold vX12_nobody at EX
  obtain ⟨Y, EY⟩ : ∃ z, z = wX12_nobody b0 x1 h := ⟨_, rfl⟩
  rw [← EY]
  unfold wX12_nobody at EY
  unfold okX12_nobody at K
  refine ea_enter rfl (Nat.le_of_ble_eq_true rfl) ?_
  refine ea_aload_n (pc := 0) dX12_nobody_0 rfl 0 rfl ?_
  refine ea_iload_n (pc := 1) dX12_nobody_1 rfl 1 rfl ?_
  refine ea_callV (pc := 2) (d' := d - 1) (As := [vI x1]) (st := []) dX12_nobody_2 kX12_isLetterOf (sX12_isLetterOf (d := d - 1) (by omega) hs) (by omega) rfl (Nat.le_of_ble_eq_true rfl) ew_2019 ew_2021 ew_89 (ci := 12) rfl (by decide) (hs.1 0 (by decide)).1 (hs.1 0 (by decide)).2.1 ?_
  refine ea_if_eq (pc := 5) (tgt := 27) dX12_nobody_5 rfl (fun c8 => ?_) (fun c8 => ?_)
  · have EX := EX.trans (if_pos c8)
    have EY := EY.trans (if_pos c8)
    refine ea_iconst (pc := 27) dX12_nobody_27 (v := 0) rfl ?_
    exact ea_iretE (pc := 28) dX12_nobody_28 rfl (ea_bn (Or.inl rfl)) EX EY
  · have EX := EX.trans (if_neg c8)
    have EY := EY.trans (if_neg c8)
    have K := K.2 c8
    refine ea_aload_n (pc := 8) dX12_nobody_8 rfl 0 rfl ?_
    refine ea_getR (pc := 9) dX12_nobody_9 ec_12 (k := 80) (Nat.le_of_ble_eq_true rfl) rfl (Or.inl ew_1425) (hs.1 0 (by decide)).1 (hs.1 0 (by decide)).2.1 (hs.2 0 80 rfl) ?_
    refine ea_iload_n (pc := 12) dX12_nobody_12 rfl 1 rfl ?_
    obtain ⟨z2, K⟩ := K
    refine ea_zald (pc := 13) dX12_nobody_13 (hs.1 54 (by decide)).1 (hs.1 54 (by decide)).2.1 (ea_vpl (hs.1 54 (by decide)).2.2 z2) ?_
    refine ea_if_ne (pc := 14) (tgt := 27) dX12_nobody_14 rfl (fun c7 => ?_) (fun c7 => ?_)
    · have EX := EX.trans (if_neg c7)
      have EY := EY.trans (if_neg c7)
      refine ea_iconst (pc := 27) dX12_nobody_27 (v := 0) rfl ?_
      exact ea_iretE (pc := 28) dX12_nobody_28 rfl (ea_bn (Or.inl rfl)) EX EY
    · have EX := EX.trans (if_pos c7)
      have EY := EY.trans (if_pos c7)
      have K := K.1 c7
      refine ea_aload_n (pc := 17) dX12_nobody_17 rfl 0 rfl ?_
      refine ea_getR (pc := 18) dX12_nobody_18 ec_12 (k := 81) (Nat.le_of_ble_eq_true rfl) rfl (Or.inl ew_1426) (hs.1 0 (by decide)).1 (hs.1 0 (by decide)).2.1 (hs.2 0 81 rfl) ?_
      refine ea_iload_n (pc := 21) dX12_nobody_21 rfl 1 rfl ?_
      obtain ⟨z3, K⟩ := K
      refine ea_iald (pc := 22) dX12_nobody_22 (hs.1 55 (by decide)).1 (hs.1 55 (by decide)).2.1 (ea_vpl (hs.1 55 (by decide)).2.2 z3) ?_
      refine ea_iconst (pc := 23) dX12_nobody_23 (v := 1) rfl ?_
      refine ea_icmp_le (pc := 24) (tgt := 29) dX12_nobody_24 rfl (fun c6 => ?_) (fun c6 => ?_)
      · have EX := EX.trans (if_pos c6)
        have EY := EY.trans (if_pos c6)
        have K := K.1 c6
        refine ea_aload_n (pc := 29) dX12_nobody_29 rfl 0 rfl ?_
        refine ea_getR (pc := 30) dX12_nobody_30 ec_12 (k := 80) (Nat.le_of_ble_eq_true rfl) rfl (Or.inl ew_1425) (hs.1 0 (by decide)).1 (hs.1 0 (by decide)).2.1 (hs.2 0 80 rfl) ?_
        refine ea_iload_n (pc := 33) dX12_nobody_33 rfl 1 rfl ?_
        refine ea_iconst (pc := 34) dX12_nobody_34 (v := 1) rfl ?_
        have z4 := K
        refine ea_zast (pc := 35) dX12_nobody_35 (y := 1) (ea_bn (Or.inr rfl)) (hs.1 54 (by decide)).1 (hs.1 54 (by decide)).2.1 (ea_vpl (hs.1 54 (by decide)).2.2 z4) ?_
        have hs5 : ShM b0 (ea_wi h (b0 + 54) (Int32.toNatClampNeg x1) 1) := ShM_wi hs
        refine ea_iconst (pc := 36) dX12_nobody_36 (v := 1) rfl ?_
        exact ea_iretE (pc := 37) dX12_nobody_37 rfl (ea_bn (Or.inr rfl)) EX EY
      · have EX := EX.trans (if_neg c6)
        have EY := EY.trans (if_neg c6)
        refine ea_iconst (pc := 27) dX12_nobody_27 (v := 0) rfl ?_
        exact ea_iretE (pc := 28) dX12_nobody_28 rfl (ea_bn (Or.inl rfl)) EX EY
noncomputable def vX12_robbery (b0 : Nat) (x1 : Int32) (x2 : Int32) (h : ea_H) : Int32 := (if (vX12_isIn (x1 : Int32) (0 : Int32) (((ea_i h (b0 + 0) 100) - (1 : Int32)) : Int32) h) = (0 : Int32) then ((-1) : Int32) else (if Int32.toInt x2 = 0 then (ea_i h (b0 + 73) (Int32.toNatClampNeg x1)) else (if Int32.toInt x2 = 1 then (ea_i h (b0 + 74) (Int32.toNatClampNeg x1)) else (if Int32.toInt x2 = 2 then (ea_i h (b0 + 75) (Int32.toNatClampNeg x1)) else (if Int32.toInt x2 = 3 then (ea_i h (b0 + 76) (Int32.toNatClampNeg x1)) else (if (vX12_isIn (x2 : Int32) (10 : Int32) (((9 : Int32) + (ea_i h (b0 + 75) (Int32.toNatClampNeg x1))) : Int32) h) = (0 : Int32) then ((-1) : Int32) else (ea_i h (b0 + 77) (Int32.toNatClampNeg ((((120 : Int32) * x1) + x2) - (10 : Int32))))))))))
def okX12_robbery (b0 : Nat) (x1 : Int32) (x2 : Int32) (h : ea_H) : Prop := ((vX12_isIn (x1 : Int32) (0 : Int32) (((ea_i h (b0 + 0) 100) - (1 : Int32)) : Int32) h) = (0 : Int32) → True) ∧ (¬ (vX12_isIn (x1 : Int32) (0 : Int32) (((ea_i h (b0 + 0) 100) - (1 : Int32)) : Int32) h) = (0 : Int32) → (Int32.toInt x2 = 0 → vp_in x1 20) ∧ (¬ Int32.toInt x2 = 0 → (Int32.toInt x2 = 1 → vp_in x1 20) ∧ (¬ Int32.toInt x2 = 1 → (Int32.toInt x2 = 2 → vp_in x1 20) ∧ (¬ Int32.toInt x2 = 2 → (Int32.toInt x2 = 3 → vp_in x1 20) ∧ (¬ Int32.toInt x2 = 3 → vp_in x1 20 ∧ (((vX12_isIn (x2 : Int32) (10 : Int32) (((9 : Int32) + (ea_i h (b0 + 75) (Int32.toNatClampNeg x1))) : Int32) h) = (0 : Int32) → True) ∧ (¬ (vX12_isIn (x2 : Int32) (10 : Int32) (((9 : Int32) + (ea_i h (b0 + 75) (Int32.toNatClampNeg x1))) : Int32) h) = (0 : Int32) → vp_in ((((120 : Int32) * x1) + x2) - (10 : Int32)) 2400)))))))
theorem sX12_robbery {d : Nat} {b0 : Nat} {x1 : Int32} {x2 : Int32} {h : ea_H} (hd : 2 ≤ d) (hs : ShM b0 h) (K : okX12_robbery b0 x1 x2 h) : ea_Met mX12_robbery d [vR (some (b0 + 0)), vI x1, vI x2] h (some (vI (vX12_robbery b0 x1 x2 h))) h := by
  obtain ⟨X, EX⟩ : ∃ z, z = vX12_robbery b0 x1 x2 h := ⟨_, rfl⟩
  rw [← EX]
  unfold vX12_robbery at EX
  unfold okX12_robbery at K
  refine ea_enter rfl (Nat.le_of_ble_eq_true rfl) ?_
  refine ea_iload_n (pc := 0) dX12_robbery_0 rfl 1 rfl ?_
  refine ea_iconst (pc := 1) dX12_robbery_1 (v := 0) rfl ?_
  refine ea_aload_n (pc := 2) dX12_robbery_2 rfl 0 rfl ?_
  refine ea_getI (pc := 3) dX12_robbery_3 ec_12 (k := 100) (Nat.le_of_ble_eq_true rfl) rfl (Or.inl ew_1445) (hs.1 0 (by decide)).1 (hs.1 0 (by decide)).2.1 ?_
  refine ea_iconst (pc := 6) dX12_robbery_6 (v := 1) rfl ?_
  refine ea_isub (pc := 7) dX12_robbery_7 ?_
  refine ea_callS (pc := 8) (d' := d - 1) (As := [vI x1, vI 0, vI ((ea_i h (b0 + 0) 100) - (1 : Int32))]) (st := []) dX12_robbery_8 kX12_isIn (sX12_isIn (d := d - 1) (by omega)) (by omega) rfl (Nat.le_of_ble_eq_true rfl) ew_1712 ew_1713 ?_
  refine ea_if_ne (pc := 11) (tgt := 16) dX12_robbery_11 rfl (fun c10 => ?_) (fun c10 => ?_)
  · have EX := EX.trans (if_neg c10)
    have K := K.2 c10
    refine ea_iload_n (pc := 16) dX12_robbery_16 rfl 2 rfl ?_
    by_cases qc17_0 : Int32.toInt x2 = 0
    · have EX := EX.trans (if_pos qc17_0)
      have K := K.1 qc17_0
      refine ea_tswIn (pc := 17) (tgt := 48) dX12_robbery_17 (by rw [qc17_0]; decide) (by rw [qc17_0]; decide) (by rw [qc17_0]; rfl) rfl ?_
      refine ea_aload_n (pc := 48) dX12_robbery_48 rfl 0 rfl ?_
      refine ea_getR (pc := 49) dX12_robbery_49 ec_12 (k := 101) (Nat.le_of_ble_eq_true rfl) rfl (Or.inl ew_1446) (hs.1 0 (by decide)).1 (hs.1 0 (by decide)).2.1 (hs.2 0 101 rfl) ?_
      refine ea_iload_n (pc := 52) dX12_robbery_52 rfl 1 rfl ?_
      have z6 := K
      refine ea_iald (pc := 53) dX12_robbery_53 (hs.1 73 (by decide)).1 (hs.1 73 (by decide)).2.1 (ea_vpl (hs.1 73 (by decide)).2.2 z6) ?_
      exact ea_iretE (pc := 54) dX12_robbery_54 rfl rfl EX rfl
    have EX := EX.trans (if_neg qc17_0)
    have K := K.2 qc17_0
    by_cases qc17_1 : Int32.toInt x2 = 1
    · have EX := EX.trans (if_pos qc17_1)
      have K := K.1 qc17_1
      refine ea_tswIn (pc := 17) (tgt := 55) dX12_robbery_17 (by rw [qc17_1]; decide) (by rw [qc17_1]; decide) (by rw [qc17_1]; rfl) rfl ?_
      refine ea_aload_n (pc := 55) dX12_robbery_55 rfl 0 rfl ?_
      refine ea_getR (pc := 56) dX12_robbery_56 ec_12 (k := 102) (Nat.le_of_ble_eq_true rfl) rfl (Or.inl ew_1447) (hs.1 0 (by decide)).1 (hs.1 0 (by decide)).2.1 (hs.2 0 102 rfl) ?_
      refine ea_iload_n (pc := 59) dX12_robbery_59 rfl 1 rfl ?_
      have z7 := K
      refine ea_iald (pc := 60) dX12_robbery_60 (hs.1 74 (by decide)).1 (hs.1 74 (by decide)).2.1 (ea_vpl (hs.1 74 (by decide)).2.2 z7) ?_
      exact ea_iretE (pc := 61) dX12_robbery_61 rfl rfl EX rfl
    have EX := EX.trans (if_neg qc17_1)
    have K := K.2 qc17_1
    by_cases qc17_2 : Int32.toInt x2 = 2
    · have EX := EX.trans (if_pos qc17_2)
      have K := K.1 qc17_2
      refine ea_tswIn (pc := 17) (tgt := 62) dX12_robbery_17 (by rw [qc17_2]; decide) (by rw [qc17_2]; decide) (by rw [qc17_2]; rfl) rfl ?_
      refine ea_aload_n (pc := 62) dX12_robbery_62 rfl 0 rfl ?_
      refine ea_getR (pc := 63) dX12_robbery_63 ec_12 (k := 103) (Nat.le_of_ble_eq_true rfl) rfl (Or.inl ew_1448) (hs.1 0 (by decide)).1 (hs.1 0 (by decide)).2.1 (hs.2 0 103 rfl) ?_
      refine ea_iload_n (pc := 66) dX12_robbery_66 rfl 1 rfl ?_
      have z8 := K
      refine ea_iald (pc := 67) dX12_robbery_67 (hs.1 75 (by decide)).1 (hs.1 75 (by decide)).2.1 (ea_vpl (hs.1 75 (by decide)).2.2 z8) ?_
      exact ea_iretE (pc := 68) dX12_robbery_68 rfl rfl EX rfl
    have EX := EX.trans (if_neg qc17_2)
    have K := K.2 qc17_2
    by_cases qc17_3 : Int32.toInt x2 = 3
    · have EX := EX.trans (if_pos qc17_3)
      have K := K.1 qc17_3
      refine ea_tswIn (pc := 17) (tgt := 69) dX12_robbery_17 (by rw [qc17_3]; decide) (by rw [qc17_3]; decide) (by rw [qc17_3]; rfl) rfl ?_
      refine ea_aload_n (pc := 69) dX12_robbery_69 rfl 0 rfl ?_
      refine ea_getR (pc := 70) dX12_robbery_70 ec_12 (k := 104) (Nat.le_of_ble_eq_true rfl) rfl (Or.inl ew_1449) (hs.1 0 (by decide)).1 (hs.1 0 (by decide)).2.1 (hs.2 0 104 rfl) ?_
      refine ea_iload_n (pc := 73) dX12_robbery_73 rfl 1 rfl ?_
      have z9 := K
      refine ea_iald (pc := 74) dX12_robbery_74 (hs.1 76 (by decide)).1 (hs.1 76 (by decide)).2.1 (ea_vpl (hs.1 76 (by decide)).2.2 z9) ?_
      exact ea_iretE (pc := 75) dX12_robbery_75 rfl rfl EX rfl
    have EX := EX.trans (if_neg qc17_3)
    have K := K.2 qc17_3
    refine ea_tswOut (pc := 17) (tgt := 76) dX12_robbery_17 (ea_sw_0_3 qc17_0 qc17_1 qc17_2 qc17_3) rfl ?_
    refine ea_iload_n (pc := 76) dX12_robbery_76 rfl 2 rfl ?_
    refine ea_bipush (pc := 77) dX12_robbery_77 (v := 10) rfl ?_
    refine ea_bipush (pc := 79) dX12_robbery_79 (v := 9) rfl ?_
    refine ea_aload_n (pc := 81) dX12_robbery_81 rfl 0 rfl ?_
    refine ea_getR (pc := 82) dX12_robbery_82 ec_12 (k := 103) (Nat.le_of_ble_eq_true rfl) rfl (Or.inl ew_1448) (hs.1 0 (by decide)).1 (hs.1 0 (by decide)).2.1 (hs.2 0 103 rfl) ?_
    refine ea_iload_n (pc := 85) dX12_robbery_85 rfl 1 rfl ?_
    obtain ⟨z2, K⟩ := K
    refine ea_iald (pc := 86) dX12_robbery_86 (hs.1 75 (by decide)).1 (hs.1 75 (by decide)).2.1 (ea_vpl (hs.1 75 (by decide)).2.2 z2) ?_
    refine ea_iadd (pc := 87) dX12_robbery_87 ?_
    refine ea_callS (pc := 88) (d' := d - 1) (As := [vI x2, vI 10, vI ((9 : Int32) + (ea_i h (b0 + 75) (Int32.toNatClampNeg x1)))]) (st := []) dX12_robbery_88 kX12_isIn (sX12_isIn (d := d - 1) (by omega)) (by omega) rfl (Nat.le_of_ble_eq_true rfl) ew_1712 ew_1713 ?_
    refine ea_if_eq (pc := 91) (tgt := 111) dX12_robbery_91 rfl (fun c5 => ?_) (fun c5 => ?_)
    · have EX := EX.trans (if_pos c5)
      refine ea_iconst (pc := 111) dX12_robbery_111 (v := (-1)) rfl ?_
      exact ea_iretE (pc := 112) dX12_robbery_112 rfl rfl EX rfl
    · have EX := EX.trans (if_neg c5)
      have K := K.2 c5
      refine ea_aload_n (pc := 94) dX12_robbery_94 rfl 0 rfl ?_
      refine ea_getR (pc := 95) dX12_robbery_95 ec_12 (k := 105) (Nat.le_of_ble_eq_true rfl) rfl (Or.inl ew_1450) (hs.1 0 (by decide)).1 (hs.1 0 (by decide)).2.1 (hs.2 0 105 rfl) ?_
      refine ea_bipush (pc := 98) dX12_robbery_98 (v := 120) rfl ?_
      refine ea_iload_n (pc := 100) dX12_robbery_100 rfl 1 rfl ?_
      refine ea_imul (pc := 101) dX12_robbery_101 ?_
      refine ea_iload_n (pc := 102) dX12_robbery_102 rfl 2 rfl ?_
      refine ea_iadd (pc := 103) dX12_robbery_103 ?_
      refine ea_bipush (pc := 104) dX12_robbery_104 (v := 10) rfl ?_
      refine ea_isub (pc := 106) dX12_robbery_106 ?_
      have z4 := K
      refine ea_iald (pc := 107) dX12_robbery_107 (hs.1 77 (by decide)).1 (hs.1 77 (by decide)).2.1 (ea_vpl (hs.1 77 (by decide)).2.2 z4) ?_
      refine ea_goto (pc := 108) (tgt := 112) dX12_robbery_108 rfl ?_
      exact ea_iretE (pc := 112) dX12_robbery_112 rfl rfl EX rfl
  · have EX := EX.trans (if_pos c10)
    refine ea_iconst (pc := 14) dX12_robbery_14 (v := (-1)) rfl ?_
    exact ea_iretE (pc := 15) dX12_robbery_15 rfl rfl EX rfl
noncomputable def vX12_set (b0 : Nat) (x1 : Int32) (h : ea_H) : Int32 := (if (vX12_isTrain b0 (x1 : Int32) h) = (0 : Int32) then (0 : Int32) else (1 : Int32))
noncomputable def wX12_set (b0 : Nat) (x1 : Int32) (h : ea_H) : ea_H := (if (vX12_isTrain b0 (x1 : Int32) h) = (0 : Int32) then h else (ea_wi h (b0 + 80) (Int32.toNatClampNeg x1) (ea_i h (b0 + 0) 0)))
def okX12_set (b0 : Nat) (x1 : Int32) (h : ea_H) : Prop := ((vX12_isTrain b0 (x1 : Int32) h) = (0 : Int32) → True) ∧ (¬ (vX12_isTrain b0 (x1 : Int32) h) = (0 : Int32) → vp_in x1 10)
theorem bo_vX12_set (b0 : Nat) (x1 : Int32) (h : ea_H) : vX12_set b0 x1 h = 0 ∨ vX12_set b0 x1 h = 1 := (ea_itB (Or.inl rfl) (Or.inr rfl))
theorem shX12_set {b0 : Nat} {x1 : Int32} {h : ea_H} (hs : ShM b0 h) : ShM b0 (wX12_set b0 x1 h) := (ShM_it hs (ShM_wi hs))
theorem sX12_set {d : Nat} {b0 : Nat} {x1 : Int32} {h : ea_H} (hd : 3 ≤ d) (hs : ShM b0 h) (K : okX12_set b0 x1 h) : ea_Met mX12_set d [vR (some (b0 + 0)), vI x1] h (some (vI (vX12_set b0 x1 h))) (wX12_set b0 x1 h) := by
  obtain ⟨X, EX⟩ : ∃ z, z = vX12_set b0 x1 h := ⟨_, rfl⟩
  rw [← EX]
  unfold vX12_set at EX
  obtain ⟨Y, EY⟩ : ∃ z, z = wX12_set b0 x1 h := ⟨_, rfl⟩
  rw [← EY]
  unfold wX12_set at EY
  unfold okX12_set at K
  refine ea_enter rfl (Nat.le_of_ble_eq_true rfl) ?_
  refine ea_aload_n (pc := 0) dX12_set_0 rfl 0 rfl ?_
  refine ea_iload_n (pc := 1) dX12_set_1 rfl 1 rfl ?_
  refine ea_callV (pc := 2) (d' := d - 1) (As := [vI x1]) (st := []) dX12_set_2 kX12_isTrain (sX12_isTrain (d := d - 1) (by omega) hs) (by omega) rfl (Nat.le_of_ble_eq_true rfl) ew_1736 ew_1738 ew_50 (ci := 12) rfl (by decide) (hs.1 0 (by decide)).1 (hs.1 0 (by decide)).2.1 ?_
  refine ea_if_ne (pc := 5) (tgt := 10) dX12_set_5 rfl (fun c4 => ?_) (fun c4 => ?_)
  · have EX := EX.trans (if_neg c4)
    have EY := EY.trans (if_neg c4)
    have K := K.2 c4
    refine ea_aload_n (pc := 10) dX12_set_10 rfl 0 rfl ?_
    refine ea_getR (pc := 11) dX12_set_11 ec_12 (k := 108) (Nat.le_of_ble_eq_true rfl) rfl (Or.inl ew_1453) (hs.1 0 (by decide)).1 (hs.1 0 (by decide)).2.1 (hs.2 0 108 rfl) ?_
    refine ea_iload_n (pc := 14) dX12_set_14 rfl 1 rfl ?_
    refine ea_aload_n (pc := 15) dX12_set_15 rfl 0 rfl ?_
    refine ea_getI (pc := 16) dX12_set_16 ec_12 (k := 0) (Nat.le_of_ble_eq_true rfl) rfl (Or.inl ew_1345) (hs.1 0 (by decide)).1 (hs.1 0 (by decide)).2.1 ?_
    have z2 := K
    refine ea_iast (pc := 19) dX12_set_19 (hs.1 80 (by decide)).1 (hs.1 80 (by decide)).2.1 (ea_vpl (hs.1 80 (by decide)).2.2 z2) ?_
    have hs3 : ShM b0 (ea_wi h (b0 + 80) (Int32.toNatClampNeg x1) (ea_i h (b0 + 0) 0)) := ShM_wi hs
    refine ea_iconst (pc := 20) dX12_set_20 (v := 1) rfl ?_
    exact ea_iretE (pc := 21) dX12_set_21 rfl (ea_bn (Or.inr rfl)) EX EY
  · have EX := EX.trans (if_pos c4)
    have EY := EY.trans (if_pos c4)
    refine ea_iconst (pc := 8) dX12_set_8 (v := 0) rfl ?_
    exact ea_iretE (pc := 9) dX12_set_9 rfl (ea_bn (Or.inl rfl)) EX EY
noncomputable def vX12_shows (b0 : Nat) (x1 : Int32) (x2 : Int32) (x3 : Int32) (h : ea_H) : Int32 := ((ea_i h (b0 + 80) (Int32.toNatClampNeg x1)) + (Int64.toInt32 (((Int32.toInt64 (x3 - (ea_i h (b0 + 80) (Int32.toNatClampNeg x1)))) * ((3600 : Int64) + (Int32.toInt64 x2))) / (3600 : Int64))))
def okX12_shows (b0 : Nat) (x1 : Int32) (x2 : Int32) (x3 : Int32) (h : ea_H) : Prop := vp_in x1 10 ∧ (vp_in x1 10)
theorem sX12_shows {d : Nat} {b0 : Nat} {x1 : Int32} {x2 : Int32} {x3 : Int32} {h : ea_H} (hd : 1 ≤ d) (hs : ShM b0 h) (K : okX12_shows b0 x1 x2 x3 h) : ea_Met mX12_shows d [vR (some (b0 + 0)), vI x1, vI x2, vI x3] h (some (vI (vX12_shows b0 x1 x2 x3 h))) h := by
  obtain ⟨X, EX⟩ : ∃ z, z = vX12_shows b0 x1 x2 x3 h := ⟨_, rfl⟩
  rw [← EX]
  unfold vX12_shows at EX
  unfold okX12_shows at K
  refine ea_enter rfl (Nat.le_of_ble_eq_true rfl) ?_
  refine ea_aload_n (pc := 0) dX12_shows_0 rfl 0 rfl ?_
  refine ea_getR (pc := 1) dX12_shows_1 ec_12 (k := 108) (Nat.le_of_ble_eq_true rfl) rfl (Or.inl ew_1453) (hs.1 0 (by decide)).1 (hs.1 0 (by decide)).2.1 (hs.2 0 108 rfl) ?_
  refine ea_iload_n (pc := 4) dX12_shows_4 rfl 1 rfl ?_
  obtain ⟨z1, K⟩ := K
  refine ea_iald (pc := 5) dX12_shows_5 (hs.1 80 (by decide)).1 (hs.1 80 (by decide)).2.1 (ea_vpl (hs.1 80 (by decide)).2.2 z1) ?_
  refine ea_iload_n (pc := 6) dX12_shows_6 rfl 3 rfl ?_
  refine ea_aload_n (pc := 7) dX12_shows_7 rfl 0 rfl ?_
  refine ea_getR (pc := 8) dX12_shows_8 ec_12 (k := 108) (Nat.le_of_ble_eq_true rfl) rfl (Or.inl ew_1453) (hs.1 0 (by decide)).1 (hs.1 0 (by decide)).2.1 (hs.2 0 108 rfl) ?_
  refine ea_iload_n (pc := 11) dX12_shows_11 rfl 1 rfl ?_
  have z2 := K
  refine ea_iald (pc := 12) dX12_shows_12 (hs.1 80 (by decide)).1 (hs.1 80 (by decide)).2.1 (ea_vpl (hs.1 80 (by decide)).2.2 z2) ?_
  refine ea_isub (pc := 13) dX12_shows_13 ?_
  refine ea_i2l (pc := 14) dX12_shows_14 ?_
  refine ea_ldc2 (pc := 15) dX12_shows_15 ew_2154 ?_
  refine ea_iload_n (pc := 18) dX12_shows_18 rfl 2 rfl ?_
  refine ea_i2l (pc := 19) dX12_shows_19 ?_
  refine ea_ladd (pc := 20) dX12_shows_20 ?_
  refine ea_lmul (pc := 21) dX12_shows_21 ?_
  refine ea_ldc2 (pc := 22) dX12_shows_22 ew_2154 ?_
  refine ea_ldiv (pc := 25) dX12_shows_25 (by decide) ?_
  refine ea_l2i (pc := 26) dX12_shows_26 ?_
  refine ea_iadd (pc := 27) dX12_shows_27 ?_
  exact ea_iretE (pc := 28) dX12_shows_28 rfl rfl EX rfl
noncomputable def vX12_clock (b0 : Nat) (x1 : Int32) (x2 : Int32) (h : ea_H) : Int32 := (if (vX12_isTrain b0 (x1 : Int32) h) = (0 : Int32) then ((-1000) : Int32) else (if x2 = (0 : Int32) then (ea_i h (b0 + 78) (Int32.toNatClampNeg x1)) else (if x2 = (1 : Int32) then (ea_i h (b0 + 79) (Int32.toNatClampNeg x1)) else (if x2 = (2 : Int32) then (ea_i h (b0 + 80) (Int32.toNatClampNeg x1)) else ((-1000) : Int32)))))
def okX12_clock (b0 : Nat) (x1 : Int32) (x2 : Int32) (h : ea_H) : Prop := ((vX12_isTrain b0 (x1 : Int32) h) = (0 : Int32) → True) ∧ (¬ (vX12_isTrain b0 (x1 : Int32) h) = (0 : Int32) → (x2 = (0 : Int32) → vp_in x1 10) ∧ (¬ x2 = (0 : Int32) → (x2 = (1 : Int32) → vp_in x1 10) ∧ (¬ x2 = (1 : Int32) → (x2 = (2 : Int32) → vp_in x1 10) ∧ (¬ x2 = (2 : Int32) → True))))
theorem sX12_clock {d : Nat} {b0 : Nat} {x1 : Int32} {x2 : Int32} {h : ea_H} (hd : 3 ≤ d) (hs : ShM b0 h) (K : okX12_clock b0 x1 x2 h) : ea_Met mX12_clock d [vR (some (b0 + 0)), vI x1, vI x2] h (some (vI (vX12_clock b0 x1 x2 h))) h := by
  obtain ⟨X, EX⟩ : ∃ z, z = vX12_clock b0 x1 x2 h := ⟨_, rfl⟩
  rw [← EX]
  unfold vX12_clock at EX
  unfold okX12_clock at K
  refine ea_enter rfl (Nat.le_of_ble_eq_true rfl) ?_
  refine ea_aload_n (pc := 0) dX12_clock_0 rfl 0 rfl ?_
  refine ea_iload_n (pc := 1) dX12_clock_1 rfl 1 rfl ?_
  refine ea_callV (pc := 2) (d' := d - 1) (As := [vI x1]) (st := []) dX12_clock_2 kX12_isTrain (sX12_isTrain (d := d - 1) (by omega) hs) (by omega) rfl (Nat.le_of_ble_eq_true rfl) ew_1736 ew_1738 ew_50 (ci := 12) rfl (by decide) (hs.1 0 (by decide)).1 (hs.1 0 (by decide)).2.1 ?_
  refine ea_if_ne (pc := 5) (tgt := 14) dX12_clock_5 rfl (fun c8 => ?_) (fun c8 => ?_)
  · have EX := EX.trans (if_neg c8)
    have K := K.2 c8
    refine ea_iload_n (pc := 14) dX12_clock_14 rfl 2 rfl ?_
    refine ea_if_ne (pc := 15) (tgt := 27) dX12_clock_15 rfl (fun c7 => ?_) (fun c7 => ?_)
    · have EX := EX.trans (if_neg c7)
      have K := K.2 c7
      refine ea_iload_n (pc := 27) dX12_clock_27 rfl 2 rfl ?_
      refine ea_iconst (pc := 28) dX12_clock_28 (v := 1) rfl ?_
      refine ea_icmp_ne (pc := 29) (tgt := 41) dX12_clock_29 rfl (fun c5 => ?_) (fun c5 => ?_)
      · have EX := EX.trans (if_neg c5)
        have K := K.2 c5
        refine ea_iload_n (pc := 41) dX12_clock_41 rfl 2 rfl ?_
        refine ea_iconst (pc := 42) dX12_clock_42 (v := 2) rfl ?_
        refine ea_icmp_ne (pc := 43) (tgt := 55) dX12_clock_43 rfl (fun c3 => ?_) (fun c3 => ?_)
        · have EX := EX.trans (if_neg c3)
          refine ea_sipush (pc := 55) dX12_clock_55 (v := (-1000)) rfl ?_
          exact ea_iretE (pc := 58) dX12_clock_58 rfl rfl EX rfl
        · have EX := EX.trans (if_pos c3)
          have K := K.1 c3
          refine ea_aload_n (pc := 46) dX12_clock_46 rfl 0 rfl ?_
          refine ea_getR (pc := 47) dX12_clock_47 ec_12 (k := 108) (Nat.le_of_ble_eq_true rfl) rfl (Or.inl ew_1453) (hs.1 0 (by decide)).1 (hs.1 0 (by decide)).2.1 (hs.2 0 108 rfl) ?_
          refine ea_iload_n (pc := 50) dX12_clock_50 rfl 1 rfl ?_
          have z2 := K
          refine ea_iald (pc := 51) dX12_clock_51 (hs.1 80 (by decide)).1 (hs.1 80 (by decide)).2.1 (ea_vpl (hs.1 80 (by decide)).2.2 z2) ?_
          refine ea_goto (pc := 52) (tgt := 58) dX12_clock_52 rfl ?_
          exact ea_iretE (pc := 58) dX12_clock_58 rfl rfl EX rfl
      · have EX := EX.trans (if_pos c5)
        have K := K.1 c5
        refine ea_aload_n (pc := 32) dX12_clock_32 rfl 0 rfl ?_
        refine ea_getR (pc := 33) dX12_clock_33 ec_12 (k := 107) (Nat.le_of_ble_eq_true rfl) rfl (Or.inl ew_1452) (hs.1 0 (by decide)).1 (hs.1 0 (by decide)).2.1 (hs.2 0 107 rfl) ?_
        refine ea_iload_n (pc := 36) dX12_clock_36 rfl 1 rfl ?_
        have z4 := K
        refine ea_iald (pc := 37) dX12_clock_37 (hs.1 79 (by decide)).1 (hs.1 79 (by decide)).2.1 (ea_vpl (hs.1 79 (by decide)).2.2 z4) ?_
        refine ea_goto (pc := 38) (tgt := 58) dX12_clock_38 rfl ?_
        exact ea_iretE (pc := 58) dX12_clock_58 rfl rfl EX rfl
    · have EX := EX.trans (if_pos c7)
      have K := K.1 c7
      refine ea_aload_n (pc := 18) dX12_clock_18 rfl 0 rfl ?_
      refine ea_getR (pc := 19) dX12_clock_19 ec_12 (k := 106) (Nat.le_of_ble_eq_true rfl) rfl (Or.inl ew_1451) (hs.1 0 (by decide)).1 (hs.1 0 (by decide)).2.1 (hs.2 0 106 rfl) ?_
      refine ea_iload_n (pc := 22) dX12_clock_22 rfl 1 rfl ?_
      have z6 := K
      refine ea_iald (pc := 23) dX12_clock_23 (hs.1 78 (by decide)).1 (hs.1 78 (by decide)).2.1 (ea_vpl (hs.1 78 (by decide)).2.2 z6) ?_
      refine ea_goto (pc := 24) (tgt := 58) dX12_clock_24 rfl ?_
      exact ea_iretE (pc := 58) dX12_clock_58 rfl rfl EX rfl
  · have EX := EX.trans (if_pos c8)
    refine ea_sipush (pc := 8) dX12_clock_8 (v := (-1000)) rfl ?_
    refine ea_goto (pc := 11) (tgt := 58) dX12_clock_11 rfl ?_
    exact ea_iretE (pc := 58) dX12_clock_58 rfl rfl EX rfl
noncomputable def gX12_spreads (b0 : Nat) : Nat → Nat → Int32 → Int32 → Int32 → Int32 → Int32 → ea_H → Option (Unit × ea_H)
  | 0, _, _, _, _, _, _, _ => none
  | f + 1, lbl, x1, x2, x3, x4, x5, h =>
    if lbl = 0 then (gX12_spreads b0 f 2 (x1 : Int32) (x2 : Int32) (0 : Int32) 0 0 h) else
    if lbl = 2 then (if (12 : Int32) ≤ x3 then (gX12_spreads b0 f 34 0 (x2 : Int32) (1 : Int32) 0 0 h) else (if x3 = x1 then (gd (vp_in x3 12) (ea_let (ea_wi h (b0 + 9) (Int32.toNatClampNeg x3) 0) fun H6 => (gX12_spreads b0 f 2 (x1 : Int32) (x2 : Int32) ((x3 + (1 : Int32)) : Int32) 0 0 H6))) else (gd (vp_in x3 12) (ea_let (ea_wi h (b0 + 9) (Int32.toNatClampNeg x3) 1000000) fun H3 => (gX12_spreads b0 f 2 (x1 : Int32) (x2 : Int32) ((x3 + (1 : Int32)) : Int32) 0 0 H3))))) else
    if lbl = 34 then (if x3 = (0 : Int32) then (some ((), h)) else (gX12_spreads b0 f 43 0 (x2 : Int32) (0 : Int32) (x2 : Int32) 0 h)) else
    if lbl = 43 then (if (ea_i h (b0 + 0) 1) ≤ x4 then (gX12_spreads b0 f 34 0 (x2 : Int32) (x3 : Int32) 0 0 h) else (gX12_spreads b0 f 55 0 (x2 : Int32) (x3 : Int32) (x4 : Int32) (x2 : Int32) h)) else
    if lbl = 55 then (if (ea_i h (b0 + 0) 1) ≤ x5 then (gX12_spreads b0 f 43 0 (x2 : Int32) (x3 : Int32) ((x4 + (1 : Int32)) : Int32) 0 h) else (gd (vp_in (((12 : Int32) * x4) + x5) 144) (if (ea_i h (b0 + 1) (Int32.toNatClampNeg (((12 : Int32) * x4) + x5))) = (0 : Int32) then (gX12_spreads b0 f 55 0 (x2 : Int32) (x3 : Int32) (x4 : Int32) ((x5 + (1 : Int32)) : Int32) h) else (gd (vp_in x4 12) (if (ea_i h (b0 + 9) (Int32.toNatClampNeg x4)) = (1000000 : Int32) then (gX12_spreads b0 f 55 0 (x2 : Int32) (x3 : Int32) (x4 : Int32) ((x5 + (1 : Int32)) : Int32) h) else (gd (vp_in x4 12) (gd (vp_in x5 12) (if ((ea_i h (b0 + 9) (Int32.toNatClampNeg x4)) + (ea_i h (b0 + 1) (Int32.toNatClampNeg (((12 : Int32) * x4) + x5)))) < (ea_i h (b0 + 9) (Int32.toNatClampNeg x5)) then (gd (vp_in x4 12) (gd (vp_in x5 12) (ea_let (ea_wi h (b0 + 9) (Int32.toNatClampNeg x5) ((ea_i h (b0 + 9) (Int32.toNatClampNeg x4)) + (ea_i h (b0 + 1) (Int32.toNatClampNeg (((12 : Int32) * x4) + x5))))) fun H18 => (gX12_spreads b0 f 55 0 (x2 : Int32) (1 : Int32) (x4 : Int32) ((x5 + (1 : Int32)) : Int32) H18)))) else (gX12_spreads b0 f 55 0 (x2 : Int32) (x3 : Int32) (x4 : Int32) ((x5 + (1 : Int32)) : Int32) h))))))))) else none
theorem tX12_spreads {d : Nat} {b0 : Nat} {h0 : ea_H} (hd : 1 ≤ d) : ∀ (f lbl : Nat) (x1 : Int32) (x2 : Int32) (x3 : Int32) (x4 : Int32) (x5 : Int32) (h : ea_H) (r : Unit) (h' : ea_H), gX12_spreads b0 f lbl x1 x2 x3 x4 x5 h = some (r, h') → ShM b0 h → (lbl = 0 → ea_W mX12_spreads d h0 none h' 0 [(0, vR (some (b0 + 0))), (1, vI x1), (2, vI x2)] [] h) ∧ (lbl = 2 → ea_W mX12_spreads d h0 none h' 2 [(0, vR (some (b0 + 0))), (1, vI x1), (2, vI x2), (3, vI x3)] [] h) ∧ (lbl = 34 → ea_W mX12_spreads d h0 none h' 34 [(0, vR (some (b0 + 0))), (2, vI x2), (3, vI x3)] [] h) ∧ (lbl = 43 → ea_W mX12_spreads d h0 none h' 43 [(0, vR (some (b0 + 0))), (2, vI x2), (3, vI x3), (4, vI x4)] [] h) ∧ (lbl = 55 → ea_W mX12_spreads d h0 none h' 55 [(0, vR (some (b0 + 0))), (2, vI x2), (3, vI x3), (4, vI x4), (5, vI x5)] [] h) := by
  intro f
  induction f with
  | zero => intro lbl x1 x2 x3 x4 x5 h r h' E; cases E
  | succ f ih =>
    intro lbl x1 x2 x3 x4 x5 h r h' E hs
    unfold gX12_spreads at E
    refine ⟨?_, ?_⟩
    · intro el
      subst el
      have E := (if_pos rfl).symm.trans E
      refine ea_iconst (pc := 0) dX12_spreads_0 (v := 0) rfl ?_
      refine ea_istore_n (pc := 1) (lv' := [(0, vR (some (b0 + 0))), (1, vI x1), (2, vI x2), (3, vI 0)]) dX12_spreads_1 rfl (Nat.le_of_ble_eq_true rfl) [1, 2, 3, 0] rfl ?_
      exact ((ih 2 (x1 : Int32) (x2 : Int32) (0 : Int32) 0 0 h _ _ E hs).2.1 rfl)
    refine ⟨?_, ?_⟩
    · intro el
      subst el
      have E := (if_neg (by decide)).symm.trans E
      have E := (if_pos rfl).symm.trans E
      refine ea_iload_n (pc := 2) dX12_spreads_2 rfl 3 rfl ?_
      refine ea_bipush (pc := 3) dX12_spreads_3 (v := 12) rfl ?_
      refine ea_icmp_ge (pc := 5) (tgt := 32) dX12_spreads_5 rfl (fun c8 => ?_) (fun c8 => ?_)
      · have E := (if_pos c8).symm.trans E
        refine ea_iconst (pc := 32) dX12_spreads_32 (v := 1) rfl ?_
        refine ea_istore_n (pc := 33) (lv' := [(0, vR (some (b0 + 0))), (2, vI x2), (3, vI 1)]) dX12_spreads_33 rfl (Nat.le_of_ble_eq_true rfl) [1, 3, 0] rfl ?_
        exact ((ih 34 0 (x2 : Int32) (1 : Int32) 0 0 h _ _ E hs).2.2.1 rfl)
      · have E := (if_neg c8).symm.trans E
        refine ea_aload_n (pc := 8) dX12_spreads_8 rfl 0 rfl ?_
        refine ea_getR (pc := 9) dX12_spreads_9 ec_12 (k := 11) (Nat.le_of_ble_eq_true rfl) rfl (Or.inl ew_1356) (hs.1 0 (by decide)).1 (hs.1 0 (by decide)).2.1 (hs.2 0 11 rfl) ?_
        refine ea_iload_n (pc := 12) dX12_spreads_12 rfl 3 rfl ?_
        refine ea_iload_n (pc := 13) dX12_spreads_13 rfl 3 rfl ?_
        refine ea_iload_n (pc := 14) dX12_spreads_14 rfl 1 rfl ?_
        refine ea_icmp_ne (pc := 15) (tgt := 22) dX12_spreads_15 rfl (fun c7 => ?_) (fun c7 => ?_)
        · have E := (if_neg c7).symm.trans E
          refine ea_ldcw (pc := 22) dX12_spreads_22 ew_1727 ?_
          obtain ⟨z1, E⟩ := gd_some E
          refine ea_iast (pc := 25) dX12_spreads_25 (hs.1 9 (by decide)).1 (hs.1 9 (by decide)).2.1 (ea_vpl (hs.1 9 (by decide)).2.2 z1) ?_
          have hs2 : ShM b0 (ea_wi h (b0 + 9) (Int32.toNatClampNeg x3) 1000000) := ShM_wi hs
          obtain ⟨H3, eH3, E⟩ := let_some E
          refine ea_nm eH3 ?_
          have hsH3 : ShM b0 H3 := by rw [eH3]; exact hs2
          refine ea_iinc (pc := 26) (v := 1) (lv' := [(0, vR (some (b0 + 0))), (1, vI x1), (2, vI x2), (3, vI (x3 + (1 : Int32)))]) dX12_spreads_26 3 rfl rfl (Nat.le_of_ble_eq_true rfl) [1, 2, 3, 0] rfl ?_
          refine ea_goto (pc := 29) (tgt := 2) dX12_spreads_29 rfl ?_
          exact ((ih 2 (x1 : Int32) (x2 : Int32) ((x3 + (1 : Int32)) : Int32) 0 0 H3 _ _ E hsH3).2.1 rfl)
        · have E := (if_pos c7).symm.trans E
          refine ea_iconst (pc := 18) dX12_spreads_18 (v := 0) rfl ?_
          refine ea_goto (pc := 19) (tgt := 25) dX12_spreads_19 rfl ?_
          obtain ⟨z4, E⟩ := gd_some E
          refine ea_iast (pc := 25) dX12_spreads_25 (hs.1 9 (by decide)).1 (hs.1 9 (by decide)).2.1 (ea_vpl (hs.1 9 (by decide)).2.2 z4) ?_
          have hs5 : ShM b0 (ea_wi h (b0 + 9) (Int32.toNatClampNeg x3) 0) := ShM_wi hs
          obtain ⟨H6, eH6, E⟩ := let_some E
          refine ea_nm eH6 ?_
          have hsH6 : ShM b0 H6 := by rw [eH6]; exact hs5
          refine ea_iinc (pc := 26) (v := 1) (lv' := [(0, vR (some (b0 + 0))), (1, vI x1), (2, vI x2), (3, vI (x3 + (1 : Int32)))]) dX12_spreads_26 3 rfl rfl (Nat.le_of_ble_eq_true rfl) [1, 2, 3, 0] rfl ?_
          refine ea_goto (pc := 29) (tgt := 2) dX12_spreads_29 rfl ?_
          exact ((ih 2 (x1 : Int32) (x2 : Int32) ((x3 + (1 : Int32)) : Int32) 0 0 H6 _ _ E hsH6).2.1 rfl)
    refine ⟨?_, ?_⟩
    · intro el
      subst el
      have E := (if_neg (by decide)).symm.trans E
      have E := (if_neg (by decide)).symm.trans E
      have E := (if_pos rfl).symm.trans E
      refine ea_iload_n (pc := 34) dX12_spreads_34 rfl 2 rfl ?_
      refine ea_if_eq (pc := 35) (tgt := 154) dX12_spreads_35 rfl (fun c9 => ?_) (fun c9 => ?_)
      · have E := (if_pos c9).symm.trans E
        exact ea_vretO (pc := 154) dX12_spreads_154 rfl E
      · have E := (if_neg c9).symm.trans E
        refine ea_iconst (pc := 38) dX12_spreads_38 (v := 0) rfl ?_
        refine ea_istore_n (pc := 39) (lv' := [(0, vR (some (b0 + 0))), (2, vI x2), (3, vI 0)]) dX12_spreads_39 rfl (Nat.le_of_ble_eq_true rfl) [1, 2, 0] rfl ?_
        refine ea_iload_n (pc := 40) dX12_spreads_40 rfl 1 rfl ?_
        refine ea_istore (pc := 41) (lv' := [(0, vR (some (b0 + 0))), (2, vI x2), (3, vI 0), (4, vI x2)]) dX12_spreads_41 (Nat.le_of_ble_eq_true rfl) [1, 2, 3, 0] rfl ?_
        exact ((ih 43 0 (x2 : Int32) (0 : Int32) (x2 : Int32) 0 h _ _ E hs).2.2.2.1 rfl)
    refine ⟨?_, ?_⟩
    · intro el
      subst el
      have E := (if_neg (by decide)).symm.trans E
      have E := (if_neg (by decide)).symm.trans E
      have E := (if_neg (by decide)).symm.trans E
      have E := (if_pos rfl).symm.trans E
      refine ea_iload (pc := 43) dX12_spreads_43 3 rfl ?_
      refine ea_aload_n (pc := 45) dX12_spreads_45 rfl 0 rfl ?_
      refine ea_getI (pc := 46) dX12_spreads_46 ec_12 (k := 1) (Nat.le_of_ble_eq_true rfl) rfl (Or.inl ew_1346) (hs.1 0 (by decide)).1 (hs.1 0 (by decide)).2.1 ?_
      refine ea_icmp_ge (pc := 49) (tgt := 151) dX12_spreads_49 rfl (fun c10 => ?_) (fun c10 => ?_)
      · have E := (if_pos c10).symm.trans E
        refine ea_goto (pc := 151) (tgt := 34) dX12_spreads_151 rfl ?_
        exact (ea_fewer [0, 1, 2] rfl ((ih 34 0 (x2 : Int32) (x3 : Int32) 0 0 h _ _ E hs).2.2.1 rfl))
      · have E := (if_neg c10).symm.trans E
        refine ea_iload_n (pc := 52) dX12_spreads_52 rfl 1 rfl ?_
        refine ea_istore (pc := 53) (lv' := [(0, vR (some (b0 + 0))), (2, vI x2), (3, vI x3), (4, vI x4), (5, vI x2)]) dX12_spreads_53 (Nat.le_of_ble_eq_true rfl) [1, 2, 3, 4, 0] rfl ?_
        exact ((ih 55 0 (x2 : Int32) (x3 : Int32) (x4 : Int32) (x2 : Int32) h _ _ E hs).2.2.2.2 rfl)
    intro el
    subst el
    have E := (if_neg (by decide)).symm.trans E
    have E := (if_neg (by decide)).symm.trans E
    have E := (if_neg (by decide)).symm.trans E
    have E := (if_neg (by decide)).symm.trans E
    have E := (if_pos rfl).symm.trans E
    refine ea_iload (pc := 55) dX12_spreads_55 4 rfl ?_
    refine ea_aload_n (pc := 57) dX12_spreads_57 rfl 0 rfl ?_
    refine ea_getI (pc := 58) dX12_spreads_58 ec_12 (k := 1) (Nat.le_of_ble_eq_true rfl) rfl (Or.inl ew_1346) (hs.1 0 (by decide)).1 (hs.1 0 (by decide)).2.1 ?_
    refine ea_icmp_ge (pc := 61) (tgt := 145) dX12_spreads_61 rfl (fun c22 => ?_) (fun c22 => ?_)
    · have E := (if_pos c22).symm.trans E
      refine ea_iinc (pc := 145) (v := 1) (lv' := [(0, vR (some (b0 + 0))), (2, vI x2), (3, vI x3), (4, vI (x4 + (1 : Int32)))]) dX12_spreads_145 3 rfl rfl (Nat.le_of_ble_eq_true rfl) [1, 2, 3, 0] rfl ?_
      refine ea_goto (pc := 148) (tgt := 43) dX12_spreads_148 rfl ?_
      exact ((ih 43 0 (x2 : Int32) (x3 : Int32) ((x4 + (1 : Int32)) : Int32) 0 h _ _ E hs).2.2.2.1 rfl)
    · have E := (if_neg c22).symm.trans E
      refine ea_aload_n (pc := 64) dX12_spreads_64 rfl 0 rfl ?_
      refine ea_getR (pc := 65) dX12_spreads_65 ec_12 (k := 3) (Nat.le_of_ble_eq_true rfl) rfl (Or.inl ew_1348) (hs.1 0 (by decide)).1 (hs.1 0 (by decide)).2.1 (hs.2 0 3 rfl) ?_
      refine ea_bipush (pc := 68) dX12_spreads_68 (v := 12) rfl ?_
      refine ea_iload (pc := 70) dX12_spreads_70 3 rfl ?_
      refine ea_imul (pc := 72) dX12_spreads_72 ?_
      refine ea_iload (pc := 73) dX12_spreads_73 4 rfl ?_
      refine ea_iadd (pc := 75) dX12_spreads_75 ?_
      obtain ⟨z11, E⟩ := gd_some E
      refine ea_iald (pc := 76) dX12_spreads_76 (hs.1 1 (by decide)).1 (hs.1 1 (by decide)).2.1 (ea_vpl (hs.1 1 (by decide)).2.2 z11) ?_
      refine ea_istore (pc := 77) (lv' := [(0, vR (some (b0 + 0))), (2, vI x2), (3, vI x3), (4, vI x4), (5, vI x5), (6, vI (ea_i h (b0 + 1) (Int32.toNatClampNeg (((12 : Int32) * x4) + x5))))]) dX12_spreads_77 (Nat.le_of_ble_eq_true rfl) [1, 2, 3, 4, 5, 0] rfl ?_
      refine ea_iload (pc := 79) dX12_spreads_79 5 rfl ?_
      refine ea_if_eq (pc := 81) (tgt := 139) dX12_spreads_81 rfl (fun c21 => ?_) (fun c21 => ?_)
      · have E := (if_pos c21).symm.trans E
        refine ea_iinc (pc := 139) (v := 1) (lv' := [(0, vR (some (b0 + 0))), (2, vI x2), (3, vI x3), (4, vI x4), (5, vI (x5 + (1 : Int32)))]) dX12_spreads_139 4 rfl rfl (Nat.le_of_ble_eq_true rfl) [1, 2, 3, 4, 0] rfl ?_
        refine ea_goto (pc := 142) (tgt := 55) dX12_spreads_142 rfl ?_
        exact ((ih 55 0 (x2 : Int32) (x3 : Int32) (x4 : Int32) ((x5 + (1 : Int32)) : Int32) h _ _ E hs).2.2.2.2 rfl)
      · have E := (if_neg c21).symm.trans E
        refine ea_aload_n (pc := 84) dX12_spreads_84 rfl 0 rfl ?_
        refine ea_getR (pc := 85) dX12_spreads_85 ec_12 (k := 11) (Nat.le_of_ble_eq_true rfl) rfl (Or.inl ew_1356) (hs.1 0 (by decide)).1 (hs.1 0 (by decide)).2.1 (hs.2 0 11 rfl) ?_
        refine ea_iload (pc := 88) dX12_spreads_88 3 rfl ?_
        obtain ⟨z12, E⟩ := gd_some E
        refine ea_iald (pc := 90) dX12_spreads_90 (hs.1 9 (by decide)).1 (hs.1 9 (by decide)).2.1 (ea_vpl (hs.1 9 (by decide)).2.2 z12) ?_
        refine ea_ldcw (pc := 91) dX12_spreads_91 ew_1727 ?_
        refine ea_icmp_eq (pc := 94) (tgt := 139) dX12_spreads_94 rfl (fun c20 => ?_) (fun c20 => ?_)
        · have E := (if_pos c20).symm.trans E
          refine ea_iinc (pc := 139) (v := 1) (lv' := [(0, vR (some (b0 + 0))), (2, vI x2), (3, vI x3), (4, vI x4), (5, vI (x5 + (1 : Int32)))]) dX12_spreads_139 4 rfl rfl (Nat.le_of_ble_eq_true rfl) [1, 2, 3, 4, 0] rfl ?_
          refine ea_goto (pc := 142) (tgt := 55) dX12_spreads_142 rfl ?_
          exact ((ih 55 0 (x2 : Int32) (x3 : Int32) (x4 : Int32) ((x5 + (1 : Int32)) : Int32) h _ _ E hs).2.2.2.2 rfl)
        · have E := (if_neg c20).symm.trans E
          refine ea_aload_n (pc := 97) dX12_spreads_97 rfl 0 rfl ?_
          refine ea_getR (pc := 98) dX12_spreads_98 ec_12 (k := 11) (Nat.le_of_ble_eq_true rfl) rfl (Or.inl ew_1356) (hs.1 0 (by decide)).1 (hs.1 0 (by decide)).2.1 (hs.2 0 11 rfl) ?_
          refine ea_iload (pc := 101) dX12_spreads_101 3 rfl ?_
          obtain ⟨z13, E⟩ := gd_some E
          refine ea_iald (pc := 103) dX12_spreads_103 (hs.1 9 (by decide)).1 (hs.1 9 (by decide)).2.1 (ea_vpl (hs.1 9 (by decide)).2.2 z13) ?_
          refine ea_iload (pc := 104) dX12_spreads_104 5 rfl ?_
          refine ea_iadd (pc := 106) dX12_spreads_106 ?_
          refine ea_aload_n (pc := 107) dX12_spreads_107 rfl 0 rfl ?_
          refine ea_getR (pc := 108) dX12_spreads_108 ec_12 (k := 11) (Nat.le_of_ble_eq_true rfl) rfl (Or.inl ew_1356) (hs.1 0 (by decide)).1 (hs.1 0 (by decide)).2.1 (hs.2 0 11 rfl) ?_
          refine ea_iload (pc := 111) dX12_spreads_111 4 rfl ?_
          obtain ⟨z14, E⟩ := gd_some E
          refine ea_iald (pc := 113) dX12_spreads_113 (hs.1 9 (by decide)).1 (hs.1 9 (by decide)).2.1 (ea_vpl (hs.1 9 (by decide)).2.2 z14) ?_
          refine ea_icmp_lt (pc := 114) (tgt := 120) dX12_spreads_114 rfl (fun c19 => ?_) (fun c19 => ?_)
          · have E := (if_pos c19).symm.trans E
            refine ea_aload_n (pc := 120) dX12_spreads_120 rfl 0 rfl ?_
            refine ea_getR (pc := 121) dX12_spreads_121 ec_12 (k := 11) (Nat.le_of_ble_eq_true rfl) rfl (Or.inl ew_1356) (hs.1 0 (by decide)).1 (hs.1 0 (by decide)).2.1 (hs.2 0 11 rfl) ?_
            refine ea_iload (pc := 124) dX12_spreads_124 4 rfl ?_
            refine ea_aload_n (pc := 126) dX12_spreads_126 rfl 0 rfl ?_
            refine ea_getR (pc := 127) dX12_spreads_127 ec_12 (k := 11) (Nat.le_of_ble_eq_true rfl) rfl (Or.inl ew_1356) (hs.1 0 (by decide)).1 (hs.1 0 (by decide)).2.1 (hs.2 0 11 rfl) ?_
            refine ea_iload (pc := 130) dX12_spreads_130 3 rfl ?_
            obtain ⟨z15, E⟩ := gd_some E
            refine ea_iald (pc := 132) dX12_spreads_132 (hs.1 9 (by decide)).1 (hs.1 9 (by decide)).2.1 (ea_vpl (hs.1 9 (by decide)).2.2 z15) ?_
            refine ea_iload (pc := 133) dX12_spreads_133 5 rfl ?_
            refine ea_iadd (pc := 135) dX12_spreads_135 ?_
            obtain ⟨z16, E⟩ := gd_some E
            refine ea_iast (pc := 136) dX12_spreads_136 (hs.1 9 (by decide)).1 (hs.1 9 (by decide)).2.1 (ea_vpl (hs.1 9 (by decide)).2.2 z16) ?_
            have hs17 : ShM b0 (ea_wi h (b0 + 9) (Int32.toNatClampNeg x5) ((ea_i h (b0 + 9) (Int32.toNatClampNeg x4)) + (ea_i h (b0 + 1) (Int32.toNatClampNeg (((12 : Int32) * x4) + x5))))) := ShM_wi hs
            obtain ⟨H18, eH18, E⟩ := let_some E
            refine ea_nm eH18 ?_
            have hsH18 : ShM b0 H18 := by rw [eH18]; exact hs17
            refine ea_iconst (pc := 137) dX12_spreads_137 (v := 1) rfl ?_
            refine ea_istore_n (pc := 138) (lv' := [(0, vR (some (b0 + 0))), (2, vI x2), (3, vI 1), (4, vI x4), (5, vI x5)]) dX12_spreads_138 rfl (Nat.le_of_ble_eq_true rfl) [1, 2, 0, 3, 4] rfl ?_
            refine ea_iinc (pc := 139) (v := 1) (lv' := [(0, vR (some (b0 + 0))), (2, vI x2), (3, vI 1), (4, vI x4), (5, vI (x5 + (1 : Int32)))]) dX12_spreads_139 4 rfl rfl (Nat.le_of_ble_eq_true rfl) [1, 2, 3, 4, 0] rfl ?_
            refine ea_goto (pc := 142) (tgt := 55) dX12_spreads_142 rfl ?_
            exact ((ih 55 0 (x2 : Int32) (1 : Int32) (x4 : Int32) ((x5 + (1 : Int32)) : Int32) H18 _ _ E hsH18).2.2.2.2 rfl)
          · have E := (if_neg c19).symm.trans E
            refine ea_goto (pc := 117) (tgt := 139) dX12_spreads_117 rfl ?_
            refine ea_iinc (pc := 139) (v := 1) (lv' := [(0, vR (some (b0 + 0))), (2, vI x2), (3, vI x3), (4, vI x4), (5, vI (x5 + (1 : Int32)))]) dX12_spreads_139 4 rfl rfl (Nat.le_of_ble_eq_true rfl) [1, 2, 3, 4, 0] rfl ?_
            refine ea_goto (pc := 142) (tgt := 55) dX12_spreads_142 rfl ?_
            exact ((ih 55 0 (x2 : Int32) (x3 : Int32) (x4 : Int32) ((x5 + (1 : Int32)) : Int32) h _ _ E hs).2.2.2.2 rfl)
noncomputable def qX12_spreads (b0 : Nat) (x1 : Int32) (x2 : Int32) (h : ea_H) : Option (Unit × ea_H) := gX12_spreads b0 1000000000 0 x1 x2 0 0 0 h
def okX12_spreads (b0 : Nat) (x1 : Int32) (x2 : Int32) (h : ea_H) : Prop := ∃ x, qX12_spreads b0 x1 x2 h = some x
noncomputable def wX12_spreads (b0 : Nat) (x1 : Int32) (x2 : Int32) (h : ea_H) : ea_H := ((qX12_spreads b0 x1 x2 h).getD ((), h)).2
theorem sX12_spreads {d : Nat} {b0 : Nat} {x1 : Int32} {x2 : Int32} {h : ea_H} (hd : 1 ≤ d) (hs : ShM b0 h) (K : okX12_spreads b0 x1 x2 h) : ea_Met mX12_spreads d [vR (some (b0 + 0)), vI x1, vI x2] h none (wX12_spreads b0 x1 x2 h) := by
  obtain ⟨⟨x, y⟩, K⟩ := K
  unfold wX12_spreads
  rw [K]
  unfold qX12_spreads at K
  exact ea_enter rfl (Nat.le_of_ble_eq_true rfl) ((tX12_spreads hd 1000000000 0 x1 x2 0 0 0 h x y K hs).1 rfl)
theorem zX12_spreads {b0 : Nat} : ∀ (f lbl : Nat) (x1 : Int32) (x2 : Int32) (x3 : Int32) (x4 : Int32) (x5 : Int32) (h : ea_H) (r : Unit) (h' : ea_H), gX12_spreads b0 f lbl x1 x2 x3 x4 x5 h = some (r, h') → ShM b0 h → ShM b0 h' := by
  intro f
  induction f with
  | zero => intro lbl x1 x2 x3 x4 x5 h r h' E; cases E
  | succ f ih =>
    intro lbl x1 x2 x3 x4 x5 h r h' E hs
    unfold gX12_spreads at E
    by_cases el0 : lbl = 0
    · have E := (if_pos el0).symm.trans E
      exact ih 2 (x1 : Int32) (x2 : Int32) (0 : Int32) 0 0 h _ _ E hs
    have E := (if_neg el0).symm.trans E
    by_cases el1 : lbl = 2
    · have E := (if_pos el1).symm.trans E
      by_cases c8 : (12 : Int32) ≤ x3
      · have E := (if_pos c8).symm.trans E
        exact ih 34 0 (x2 : Int32) (1 : Int32) 0 0 h _ _ E hs
      have E := (if_neg c8).symm.trans E
      by_cases c7 : x3 = x1
      · have E := (if_pos c7).symm.trans E
        obtain ⟨z4, E⟩ := gd_some E
        obtain ⟨H6, eH6, E⟩ := let_some E
        have hsH6 : ShM b0 H6 := by rw [eH6]; exact (ShM_wi hs)
        exact ih 2 (x1 : Int32) (x2 : Int32) ((x3 + (1 : Int32)) : Int32) 0 0 H6 _ _ E hsH6
      have E := (if_neg c7).symm.trans E
      obtain ⟨z1, E⟩ := gd_some E
      obtain ⟨H3, eH3, E⟩ := let_some E
      have hsH3 : ShM b0 H3 := by rw [eH3]; exact (ShM_wi hs)
      exact ih 2 (x1 : Int32) (x2 : Int32) ((x3 + (1 : Int32)) : Int32) 0 0 H3 _ _ E hsH3
    have E := (if_neg el1).symm.trans E
    by_cases el2 : lbl = 34
    · have E := (if_pos el2).symm.trans E
      by_cases c9 : x3 = (0 : Int32)
      · have E := (if_pos c9).symm.trans E
        exact ea_shO E hs
      have E := (if_neg c9).symm.trans E
      exact ih 43 0 (x2 : Int32) (0 : Int32) (x2 : Int32) 0 h _ _ E hs
    have E := (if_neg el2).symm.trans E
    by_cases el3 : lbl = 43
    · have E := (if_pos el3).symm.trans E
      by_cases c10 : (ea_i h (b0 + 0) 1) ≤ x4
      · have E := (if_pos c10).symm.trans E
        exact ih 34 0 (x2 : Int32) (x3 : Int32) 0 0 h _ _ E hs
      have E := (if_neg c10).symm.trans E
      exact ih 55 0 (x2 : Int32) (x3 : Int32) (x4 : Int32) (x2 : Int32) h _ _ E hs
    have E := (if_neg el3).symm.trans E
    by_cases el4 : lbl = 55
    · have E := (if_pos el4).symm.trans E
      by_cases c22 : (ea_i h (b0 + 0) 1) ≤ x5
      · have E := (if_pos c22).symm.trans E
        exact ih 43 0 (x2 : Int32) (x3 : Int32) ((x4 + (1 : Int32)) : Int32) 0 h _ _ E hs
      have E := (if_neg c22).symm.trans E
      obtain ⟨z11, E⟩ := gd_some E
      by_cases c21 : (ea_i h (b0 + 1) (Int32.toNatClampNeg (((12 : Int32) * x4) + x5))) = (0 : Int32)
      · have E := (if_pos c21).symm.trans E
        exact ih 55 0 (x2 : Int32) (x3 : Int32) (x4 : Int32) ((x5 + (1 : Int32)) : Int32) h _ _ E hs
      have E := (if_neg c21).symm.trans E
      obtain ⟨z12, E⟩ := gd_some E
      by_cases c20 : (ea_i h (b0 + 9) (Int32.toNatClampNeg x4)) = (1000000 : Int32)
      · have E := (if_pos c20).symm.trans E
        exact ih 55 0 (x2 : Int32) (x3 : Int32) (x4 : Int32) ((x5 + (1 : Int32)) : Int32) h _ _ E hs
      have E := (if_neg c20).symm.trans E
      obtain ⟨z13, E⟩ := gd_some E
      obtain ⟨z14, E⟩ := gd_some E
      by_cases c19 : ((ea_i h (b0 + 9) (Int32.toNatClampNeg x4)) + (ea_i h (b0 + 1) (Int32.toNatClampNeg (((12 : Int32) * x4) + x5)))) < (ea_i h (b0 + 9) (Int32.toNatClampNeg x5))
      · have E := (if_pos c19).symm.trans E
        obtain ⟨z15, E⟩ := gd_some E
        obtain ⟨z16, E⟩ := gd_some E
        obtain ⟨H18, eH18, E⟩ := let_some E
        have hsH18 : ShM b0 H18 := by rw [eH18]; exact (ShM_wi hs)
        exact ih 55 0 (x2 : Int32) (1 : Int32) (x4 : Int32) ((x5 + (1 : Int32)) : Int32) H18 _ _ E hsH18
      have E := (if_neg c19).symm.trans E
      exact ih 55 0 (x2 : Int32) (x3 : Int32) (x4 : Int32) ((x5 + (1 : Int32)) : Int32) h _ _ E hs
    have E := (if_neg el4).symm.trans E
    cases E
theorem shX12_spreads {b0 : Nat} {x1 : Int32} {x2 : Int32} {h : ea_H} (hs : ShM b0 h) : ShM b0 (wX12_spreads b0 x1 x2 h) := by
  unfold wX12_spreads
  cases K : qX12_spreads b0 x1 x2 h with
  | none => exact hs
  | some x => obtain ⟨x, y⟩ := x; unfold qX12_spreads at K; exact zX12_spreads _ _ _ _ _ _ _ _ _ _ K hs
noncomputable def vX12_milesOf (b0 : Nat) (x1 : Int32) (x2 : Int32) (x3 : Int32) (h : ea_H) : Int32 := (ea_i (wX12_spreads b0 (x1 : Int32) (x3 : Int32) h) (b0 + 9) (Int32.toNatClampNeg x2))
noncomputable def wX12_milesOf (b0 : Nat) (x1 : Int32) (x2 : Int32) (x3 : Int32) (h : ea_H) : ea_H := (wX12_spreads b0 (x1 : Int32) (x3 : Int32) h)
def okX12_milesOf (b0 : Nat) (x1 : Int32) (x2 : Int32) (x3 : Int32) (h : ea_H) : Prop := (okX12_spreads b0 (x1 : Int32) (x3 : Int32) h) ∧ (vp_in x2 12)
theorem shX12_milesOf {b0 : Nat} {x1 : Int32} {x2 : Int32} {x3 : Int32} {h : ea_H} (hs : ShM b0 h) : ShM b0 (wX12_milesOf b0 x1 x2 x3 h) := (shX12_spreads hs)
theorem sX12_milesOf {d : Nat} {b0 : Nat} {x1 : Int32} {x2 : Int32} {x3 : Int32} {h : ea_H} (hd : 2 ≤ d) (hs : ShM b0 h) (K : okX12_milesOf b0 x1 x2 x3 h) : ea_Met mX12_milesOf d [vR (some (b0 + 0)), vI x1, vI x2, vI x3] h (some (vI (vX12_milesOf b0 x1 x2 x3 h))) (wX12_milesOf b0 x1 x2 x3 h) := by
  obtain ⟨X, EX⟩ : ∃ z, z = vX12_milesOf b0 x1 x2 x3 h := ⟨_, rfl⟩
  rw [← EX]
  unfold vX12_milesOf at EX
  obtain ⟨Y, EY⟩ : ∃ z, z = wX12_milesOf b0 x1 x2 x3 h := ⟨_, rfl⟩
  rw [← EY]
  unfold wX12_milesOf at EY
  unfold okX12_milesOf at K
  refine ea_enter rfl (Nat.le_of_ble_eq_true rfl) ?_
  refine ea_aload_n (pc := 0) dX12_milesOf_0 rfl 0 rfl ?_
  refine ea_iload_n (pc := 1) dX12_milesOf_1 rfl 1 rfl ?_
  refine ea_iload_n (pc := 2) dX12_milesOf_2 rfl 3 rfl ?_
  obtain ⟨z1, K⟩ := K
  refine ea_callV (pc := 3) (d' := d - 1) (As := [vI x1, vI x3]) (st := []) dX12_milesOf_3 kX12_spreads (sX12_spreads (d := d - 1) (by omega) hs z1) (by omega) rfl (Nat.le_of_ble_eq_true rfl) ew_1723 ew_1725 ew_49 (ci := 12) rfl (by decide) (hs.1 0 (by decide)).1 (hs.1 0 (by decide)).2.1 ?_
  have hs2 : ShM b0 (wX12_spreads b0 (x1 : Int32) (x3 : Int32) h) := shX12_spreads hs
  refine ea_aload_n (pc := 6) dX12_milesOf_6 rfl 0 rfl ?_
  refine ea_getR (pc := 7) dX12_milesOf_7 ec_12 (k := 11) (Nat.le_of_ble_eq_true rfl) rfl (Or.inl ew_1356) (hs2.1 0 (by decide)).1 (hs2.1 0 (by decide)).2.1 (hs2.2 0 11 rfl) ?_
  refine ea_iload_n (pc := 10) dX12_milesOf_10 rfl 2 rfl ?_
  have z3 := K
  refine ea_iald (pc := 11) dX12_milesOf_11 (hs2.1 9 (by decide)).1 (hs2.1 9 (by decide)).2.1 (ea_vpl (hs2.1 9 (by decide)).2.2 z3) ?_
  exact ea_iretE (pc := 12) dX12_milesOf_12 rfl rfl EX EY
noncomputable def vX12_miles (b0 : Nat) (x1 : Int32) (x2 : Int32) (h : ea_H) : Int32 := (if (vX12_isTown b0 (x1 : Int32) h) = (0 : Int32) then ((-1) : Int32) else (if (vX12_isTown b0 (x2 : Int32) h) = (0 : Int32) then ((-1) : Int32) else (if (vX12_milesOf b0 (x1 : Int32) (x2 : Int32) (0 : Int32) h) = (1000000 : Int32) then ((-1) : Int32) else (vX12_milesOf b0 (x1 : Int32) (x2 : Int32) (0 : Int32) h))))
noncomputable def wX12_miles (b0 : Nat) (x1 : Int32) (x2 : Int32) (h : ea_H) : ea_H := (if (vX12_isTown b0 (x1 : Int32) h) = (0 : Int32) then h else (if (vX12_isTown b0 (x2 : Int32) h) = (0 : Int32) then h else (wX12_milesOf b0 (x1 : Int32) (x2 : Int32) (0 : Int32) h)))
def okX12_miles (b0 : Nat) (x1 : Int32) (x2 : Int32) (h : ea_H) : Prop := ((vX12_isTown b0 (x1 : Int32) h) = (0 : Int32) → True) ∧ (¬ (vX12_isTown b0 (x1 : Int32) h) = (0 : Int32) → ((vX12_isTown b0 (x2 : Int32) h) = (0 : Int32) → True) ∧ (¬ (vX12_isTown b0 (x2 : Int32) h) = (0 : Int32) → (okX12_milesOf b0 (x1 : Int32) (x2 : Int32) (0 : Int32) h)))
theorem shX12_miles {b0 : Nat} {x1 : Int32} {x2 : Int32} {h : ea_H} (hs : ShM b0 h) : ShM b0 (wX12_miles b0 x1 x2 h) := (ShM_it hs (ShM_it hs (shX12_milesOf hs)))
theorem sX12_miles {d : Nat} {b0 : Nat} {x1 : Int32} {x2 : Int32} {h : ea_H} (hd : 3 ≤ d) (hs : ShM b0 h) (K : okX12_miles b0 x1 x2 h) : ea_Met mX12_miles d [vR (some (b0 + 0)), vI x1, vI x2] h (some (vI (vX12_miles b0 x1 x2 h))) (wX12_miles b0 x1 x2 h) := by
  obtain ⟨X, EX⟩ : ∃ z, z = vX12_miles b0 x1 x2 h := ⟨_, rfl⟩
  rw [← EX]
  unfold vX12_miles at EX
  obtain ⟨Y, EY⟩ : ∃ z, z = wX12_miles b0 x1 x2 h := ⟨_, rfl⟩
  rw [← EY]
  unfold wX12_miles at EY
  unfold okX12_miles at K
  refine ea_enter rfl (Nat.le_of_ble_eq_true rfl) ?_
  refine ea_aload_n (pc := 0) dX12_miles_0 rfl 0 rfl ?_
  refine ea_iload_n (pc := 1) dX12_miles_1 rfl 1 rfl ?_
  refine ea_callV (pc := 2) (d' := d - 1) (As := [vI x1]) (st := []) dX12_miles_2 kX12_isTown (sX12_isTown (d := d - 1) (by omega) hs) (by omega) rfl (Nat.le_of_ble_eq_true rfl) ew_1708 ew_1710 ew_47 (ci := 12) rfl (by decide) (hs.1 0 (by decide)).1 (hs.1 0 (by decide)).2.1 ?_
  refine ea_if_eq (pc := 5) (tgt := 16) dX12_miles_5 rfl (fun c7 => ?_) (fun c7 => ?_)
  · have EX := EX.trans (if_pos c7)
    have EY := EY.trans (if_pos c7)
    refine ea_iconst (pc := 16) dX12_miles_16 (v := (-1)) rfl ?_
    exact ea_iretE (pc := 17) dX12_miles_17 rfl rfl EX EY
  · have EX := EX.trans (if_neg c7)
    have EY := EY.trans (if_neg c7)
    have K := K.2 c7
    refine ea_aload_n (pc := 8) dX12_miles_8 rfl 0 rfl ?_
    refine ea_iload_n (pc := 9) dX12_miles_9 rfl 2 rfl ?_
    refine ea_callV (pc := 10) (d' := d - 1) (As := [vI x2]) (st := []) dX12_miles_10 kX12_isTown (sX12_isTown (d := d - 1) (by omega) hs) (by omega) rfl (Nat.le_of_ble_eq_true rfl) ew_1708 ew_1710 ew_47 (ci := 12) rfl (by decide) (hs.1 0 (by decide)).1 (hs.1 0 (by decide)).2.1 ?_
    refine ea_if_ne (pc := 13) (tgt := 18) dX12_miles_13 rfl (fun c6 => ?_) (fun c6 => ?_)
    · have EX := EX.trans (if_neg c6)
      have EY := EY.trans (if_neg c6)
      have K := K.2 c6
      refine ea_aload_n (pc := 18) dX12_miles_18 rfl 0 rfl ?_
      refine ea_iload_n (pc := 19) dX12_miles_19 rfl 1 rfl ?_
      refine ea_iload_n (pc := 20) dX12_miles_20 rfl 2 rfl ?_
      refine ea_iconst (pc := 21) dX12_miles_21 (v := 0) rfl ?_
      have z3 := K
      refine ea_callV (pc := 22) (d' := d - 1) (As := [vI x1, vI x2, vI 0]) (st := []) dX12_miles_22 kX12_milesOf (sX12_milesOf (d := d - 1) (by omega) hs z3) (by omega) rfl (Nat.le_of_ble_eq_true rfl) ew_1719 ew_1721 ew_48 (ci := 12) rfl (by decide) (hs.1 0 (by decide)).1 (hs.1 0 (by decide)).2.1 ?_
      have hs4 : ShM b0 (wX12_milesOf b0 (x1 : Int32) (x2 : Int32) (0 : Int32) h) := shX12_milesOf hs
      refine ea_istore_n (pc := 25) (lv' := [(3, vI (vX12_milesOf b0 (x1 : Int32) (x2 : Int32) (0 : Int32) h))]) dX12_miles_25 rfl (Nat.le_of_ble_eq_true rfl) [0] rfl ?_
      refine ea_iload_n (pc := 26) dX12_miles_26 rfl 0 rfl ?_
      refine ea_ldcw (pc := 27) dX12_miles_27 ew_1727 ?_
      refine ea_icmp_ne (pc := 30) (tgt := 37) dX12_miles_30 rfl (fun c5 => ?_) (fun c5 => ?_)
      · have EX := EX.trans (if_neg c5)
        refine ea_iload_n (pc := 37) dX12_miles_37 rfl 0 rfl ?_
        exact ea_iretE (pc := 38) dX12_miles_38 rfl rfl EX EY
      · have EX := EX.trans (if_pos c5)
        refine ea_iconst (pc := 33) dX12_miles_33 (v := (-1)) rfl ?_
        refine ea_goto (pc := 34) (tgt := 38) dX12_miles_34 rfl ?_
        exact ea_iretE (pc := 38) dX12_miles_38 rfl rfl EX EY
    · have EX := EX.trans (if_pos c6)
      have EY := EY.trans (if_pos c6)
      refine ea_iconst (pc := 16) dX12_miles_16 (v := (-1)) rfl ?_
      exact ea_iretE (pc := 17) dX12_miles_17 rfl rfl EX EY
noncomputable def gX12_stop (b0 : Nat) : Nat → Nat → Int32 → Int32 → Int32 → Int32 → Int32 → Int32 → ea_H → Option (Int32 × ea_H)
  | 0, _, _, _, _, _, _, _, _ => none
  | f + 1, lbl, x1, x2, x3, x4, x5, x6, h =>
    if lbl = 0 then (if (vX12_isTrain b0 (x1 : Int32) h) = (0 : Int32) then (some (((-1) : Int32), h)) else (if (0 : Int32) < (ea_i h (b0 + 0) 0) then (some (((-1) : Int32), h)) else (if (vX12_isTown b0 (x2 : Int32) h) = (0 : Int32) then (some (((-1) : Int32), h)) else (if (vX12_isIn (x3 : Int32) (0 : Int32) (2400 : Int32) h) = (0 : Int32) then (some (((-1) : Int32), h)) else (if (vX12_isIn (x4 : Int32) (x3 : Int32) (2400 : Int32) h) = (0 : Int32) then (some (((-1) : Int32), h)) else (if x5 = (0 : Int32) then (gX12_stop b0 f 57 (x1 : Int32) (x2 : Int32) (x3 : Int32) (x4 : Int32) (x5 : Int32) 0 h) else (if x3 = x4 then (gX12_stop b0 f 57 (x1 : Int32) (x2 : Int32) (x3 : Int32) (x4 : Int32) (x5 : Int32) 0 h) else (some (((-1) : Int32), h))))))))) else
    if lbl = 57 then (gd (vp_in x1 10) (if (ea_i h (b0 + 2) (Int32.toNatClampNeg x1)) = (8 : Int32) then (some (((-1) : Int32), h)) else (gd (vp_in x1 10) (gd (vp_in x1 10) (if (ea_i h (b0 + 2) (Int32.toNatClampNeg x1)) ≤ (0 : Int32) then (gX12_stop b0 f 120 (x1 : Int32) (x2 : Int32) (x3 : Int32) (x4 : Int32) (x5 : Int32) ((((8 : Int32) * x1) + (ea_i h (b0 + 2) (Int32.toNatClampNeg x1))) : Int32) h) else (gd (vp_in ((((8 : Int32) * x1) + (ea_i h (b0 + 2) (Int32.toNatClampNeg x1))) - (1 : Int32)) 80) (if (ea_i h (b0 + 3) (Int32.toNatClampNeg ((((8 : Int32) * x1) + (ea_i h (b0 + 2) (Int32.toNatClampNeg x1))) - (1 : Int32)))) = x2 then (some (((-1) : Int32), h)) else (gd (vp_in ((((8 : Int32) * x1) + (ea_i h (b0 + 2) (Int32.toNatClampNeg x1))) - (1 : Int32)) 80) (if (ea_i h (b0 + 5) (Int32.toNatClampNeg ((((8 : Int32) * x1) + (ea_i h (b0 + 2) (Int32.toNatClampNeg x1))) - (1 : Int32)))) < x3 then (gX12_stop b0 f 120 (x1 : Int32) (x2 : Int32) (x3 : Int32) (x4 : Int32) (x5 : Int32) ((((8 : Int32) * x1) + (ea_i h (b0 + 2) (Int32.toNatClampNeg x1))) : Int32) h) else (some (((-1) : Int32), h))))))))))) else
    if lbl = 120 then (gd (vp_in x6 80) (ea_let (ea_wi h (b0 + 3) (Int32.toNatClampNeg x6) x2) fun H23 => (gd (vp_in x6 80) (ea_let (ea_wi H23 (b0 + 4) (Int32.toNatClampNeg x6) x3) fun H26 => (gd (vp_in x6 80) (ea_let (ea_wi H26 (b0 + 5) (Int32.toNatClampNeg x6) x4) fun H29 => (gd (vp_in x6 80) (gd ((x5 = 0 ∨ x5 = 1)) (ea_let (ea_wi H29 (b0 + 7) (Int32.toNatClampNeg x6) x5) fun H33 => (gd (vp_in x1 10) (gd (vp_in x1 10) (ea_let (ea_wi H33 (b0 + 2) (Int32.toNatClampNeg x1) ((ea_i H33 (b0 + 2) (Int32.toNatClampNeg x1)) + (1 : Int32))) fun H37 => (ea_let (ea_wi H37 (b0 + 0) 12 0) fun H39 => (gd (vp_in x1 10) (some (((ea_i H39 (b0 + 2) (Int32.toNatClampNeg x1)) - (1 : Int32)), H39)))))))))))))))) else none
theorem tX12_stop {d : Nat} {b0 : Nat} {h0 : ea_H} (hd : 3 ≤ d) : ∀ (f lbl : Nat) (x1 : Int32) (x2 : Int32) (x3 : Int32) (x4 : Int32) (x5 : Int32) (x6 : Int32) (h : ea_H) (r : Int32) (h' : ea_H), gX12_stop b0 f lbl x1 x2 x3 x4 x5 x6 h = some (r, h') → ShM b0 h → (lbl = 0 → ea_W mX12_stop d h0 (some (vI r)) h' 0 [(0, vR (some (b0 + 0))), (1, vI x1), (2, vI x2), (3, vI x3), (4, vI x4), (5, vI x5)] [] h) ∧ (lbl = 57 → ea_W mX12_stop d h0 (some (vI r)) h' 57 [(0, vR (some (b0 + 0))), (1, vI x1), (2, vI x2), (3, vI x3), (4, vI x4), (5, vI x5)] [] h) ∧ (lbl = 120 → ea_W mX12_stop d h0 (some (vI r)) h' 120 [(0, vR (some (b0 + 0))), (1, vI x1), (2, vI x2), (3, vI x3), (4, vI x4), (5, vI x5), (6, vI x6)] [] h) := by
  intro f
  induction f with
  | zero => intro lbl x1 x2 x3 x4 x5 x6 h r h' E; cases E
  | succ f ih =>
    intro lbl x1 x2 x3 x4 x5 x6 h r h' E hs
    unfold gX12_stop at E
    refine ⟨?_, ?_⟩
    · intro el
      subst el
      have E := (if_pos rfl).symm.trans E
      refine ea_aload_n (pc := 0) dX12_stop_0 rfl 0 rfl ?_
      refine ea_iload_n (pc := 1) dX12_stop_1 rfl 1 rfl ?_
      refine ea_callV (pc := 2) (d' := d - 1) (As := [vI x1]) (st := []) dX12_stop_2 kX12_isTrain (sX12_isTrain (d := d - 1) (by omega) hs) (by omega) rfl (Nat.le_of_ble_eq_true rfl) ew_1736 ew_1738 ew_50 (ci := 12) rfl (by decide) (hs.1 0 (by decide)).1 (hs.1 0 (by decide)).2.1 ?_
      refine ea_if_eq (pc := 5) (tgt := 68) dX12_stop_5 rfl (fun c11 => ?_) (fun c11 => ?_)
      · have E := (if_pos c11).symm.trans E
        refine ea_iconst (pc := 68) dX12_stop_68 (v := (-1)) rfl ?_
        exact ea_iretO (pc := 69) dX12_stop_69 rfl rfl E
      · have E := (if_neg c11).symm.trans E
        refine ea_aload_n (pc := 8) dX12_stop_8 rfl 0 rfl ?_
        refine ea_getI (pc := 9) dX12_stop_9 ec_12 (k := 0) (Nat.le_of_ble_eq_true rfl) rfl (Or.inl ew_1345) (hs.1 0 (by decide)).1 (hs.1 0 (by decide)).2.1 ?_
        refine ea_if_gt (pc := 12) (tgt := 68) dX12_stop_12 rfl (fun c10 => ?_) (fun c10 => ?_)
        · have E := (if_pos c10).symm.trans E
          refine ea_iconst (pc := 68) dX12_stop_68 (v := (-1)) rfl ?_
          exact ea_iretO (pc := 69) dX12_stop_69 rfl rfl E
        · have E := (if_neg c10).symm.trans E
          refine ea_aload_n (pc := 15) dX12_stop_15 rfl 0 rfl ?_
          refine ea_iload_n (pc := 16) dX12_stop_16 rfl 2 rfl ?_
          refine ea_callV (pc := 17) (d' := d - 1) (As := [vI x2]) (st := []) dX12_stop_17 kX12_isTown (sX12_isTown (d := d - 1) (by omega) hs) (by omega) rfl (Nat.le_of_ble_eq_true rfl) ew_1708 ew_1710 ew_47 (ci := 12) rfl (by decide) (hs.1 0 (by decide)).1 (hs.1 0 (by decide)).2.1 ?_
          refine ea_if_eq (pc := 20) (tgt := 68) dX12_stop_20 rfl (fun c9 => ?_) (fun c9 => ?_)
          · have E := (if_pos c9).symm.trans E
            refine ea_iconst (pc := 68) dX12_stop_68 (v := (-1)) rfl ?_
            exact ea_iretO (pc := 69) dX12_stop_69 rfl rfl E
          · have E := (if_neg c9).symm.trans E
            refine ea_iload_n (pc := 23) dX12_stop_23 rfl 3 rfl ?_
            refine ea_iconst (pc := 24) dX12_stop_24 (v := 0) rfl ?_
            refine ea_sipush (pc := 25) dX12_stop_25 (v := 2400) rfl ?_
            refine ea_callS (pc := 28) (d' := d - 1) (As := [vI x3, vI 0, vI 2400]) (st := []) dX12_stop_28 kX12_isIn (sX12_isIn (d := d - 1) (by omega)) (by omega) rfl (Nat.le_of_ble_eq_true rfl) ew_1712 ew_1713 ?_
            refine ea_if_eq (pc := 31) (tgt := 68) dX12_stop_31 rfl (fun c8 => ?_) (fun c8 => ?_)
            · have E := (if_pos c8).symm.trans E
              refine ea_iconst (pc := 68) dX12_stop_68 (v := (-1)) rfl ?_
              exact ea_iretO (pc := 69) dX12_stop_69 rfl rfl E
            · have E := (if_neg c8).symm.trans E
              refine ea_iload (pc := 34) dX12_stop_34 4 rfl ?_
              refine ea_iload_n (pc := 36) dX12_stop_36 rfl 3 rfl ?_
              refine ea_sipush (pc := 37) dX12_stop_37 (v := 2400) rfl ?_
              refine ea_callS (pc := 40) (d' := d - 1) (As := [vI x4, vI x3, vI 2400]) (st := []) dX12_stop_40 kX12_isIn (sX12_isIn (d := d - 1) (by omega)) (by omega) rfl (Nat.le_of_ble_eq_true rfl) ew_1712 ew_1713 ?_
              refine ea_if_eq (pc := 43) (tgt := 68) dX12_stop_43 rfl (fun c7 => ?_) (fun c7 => ?_)
              · have E := (if_pos c7).symm.trans E
                refine ea_iconst (pc := 68) dX12_stop_68 (v := (-1)) rfl ?_
                exact ea_iretO (pc := 69) dX12_stop_69 rfl rfl E
              · have E := (if_neg c7).symm.trans E
                refine ea_iload (pc := 46) dX12_stop_46 5 rfl ?_
                refine ea_if_eq (pc := 48) (tgt := 57) dX12_stop_48 rfl (fun c6 => ?_) (fun c6 => ?_)
                · have E := (if_pos c6).symm.trans E
                  exact ((ih 57 (x1 : Int32) (x2 : Int32) (x3 : Int32) (x4 : Int32) (x5 : Int32) 0 h _ _ E hs).2.1 rfl)
                · have E := (if_neg c6).symm.trans E
                  refine ea_iload_n (pc := 51) dX12_stop_51 rfl 3 rfl ?_
                  refine ea_iload (pc := 52) dX12_stop_52 4 rfl ?_
                  refine ea_icmp_ne (pc := 54) (tgt := 68) dX12_stop_54 rfl (fun c5 => ?_) (fun c5 => ?_)
                  · have E := (if_neg c5).symm.trans E
                    refine ea_iconst (pc := 68) dX12_stop_68 (v := (-1)) rfl ?_
                    exact ea_iretO (pc := 69) dX12_stop_69 rfl rfl E
                  · have E := (if_pos c5).symm.trans E
                    exact ((ih 57 (x1 : Int32) (x2 : Int32) (x3 : Int32) (x4 : Int32) (x5 : Int32) 0 h _ _ E hs).2.1 rfl)
    refine ⟨?_, ?_⟩
    · intro el
      subst el
      have E := (if_neg (by decide)).symm.trans E
      have E := (if_pos rfl).symm.trans E
      refine ea_aload_n (pc := 57) dX12_stop_57 rfl 0 rfl ?_
      refine ea_getR (pc := 58) dX12_stop_58 ec_12 (k := 4) (Nat.le_of_ble_eq_true rfl) rfl (Or.inl ew_1349) (hs.1 0 (by decide)).1 (hs.1 0 (by decide)).2.1 (hs.2 0 4 rfl) ?_
      refine ea_iload_n (pc := 61) dX12_stop_61 rfl 1 rfl ?_
      obtain ⟨z12, E⟩ := gd_some E
      refine ea_iald (pc := 62) dX12_stop_62 (hs.1 2 (by decide)).1 (hs.1 2 (by decide)).2.1 (ea_vpl (hs.1 2 (by decide)).2.2 z12) ?_
      refine ea_bipush (pc := 63) dX12_stop_63 (v := 8) rfl ?_
      refine ea_icmp_ne (pc := 65) (tgt := 70) dX12_stop_65 rfl (fun c20 => ?_) (fun c20 => ?_)
      · have E := (if_neg c20).symm.trans E
        refine ea_bipush (pc := 70) dX12_stop_70 (v := 8) rfl ?_
        refine ea_iload_n (pc := 72) dX12_stop_72 rfl 1 rfl ?_
        refine ea_imul (pc := 73) dX12_stop_73 ?_
        refine ea_aload_n (pc := 74) dX12_stop_74 rfl 0 rfl ?_
        refine ea_getR (pc := 75) dX12_stop_75 ec_12 (k := 4) (Nat.le_of_ble_eq_true rfl) rfl (Or.inl ew_1349) (hs.1 0 (by decide)).1 (hs.1 0 (by decide)).2.1 (hs.2 0 4 rfl) ?_
        refine ea_iload_n (pc := 78) dX12_stop_78 rfl 1 rfl ?_
        obtain ⟨z13, E⟩ := gd_some E
        refine ea_iald (pc := 79) dX12_stop_79 (hs.1 2 (by decide)).1 (hs.1 2 (by decide)).2.1 (ea_vpl (hs.1 2 (by decide)).2.2 z13) ?_
        refine ea_iadd (pc := 80) dX12_stop_80 ?_
        refine ea_istore (pc := 81) (lv' := [(0, vR (some (b0 + 0))), (1, vI x1), (2, vI x2), (3, vI x3), (4, vI x4), (5, vI x5), (6, vI (((8 : Int32) * x1) + (ea_i h (b0 + 2) (Int32.toNatClampNeg x1))))]) dX12_stop_81 (Nat.le_of_ble_eq_true rfl) [1, 2, 3, 4, 5, 6, 0] rfl ?_
        refine ea_aload_n (pc := 83) dX12_stop_83 rfl 0 rfl ?_
        refine ea_getR (pc := 84) dX12_stop_84 ec_12 (k := 4) (Nat.le_of_ble_eq_true rfl) rfl (Or.inl ew_1349) (hs.1 0 (by decide)).1 (hs.1 0 (by decide)).2.1 (hs.2 0 4 rfl) ?_
        refine ea_iload_n (pc := 87) dX12_stop_87 rfl 1 rfl ?_
        obtain ⟨z14, E⟩ := gd_some E
        refine ea_iald (pc := 88) dX12_stop_88 (hs.1 2 (by decide)).1 (hs.1 2 (by decide)).2.1 (ea_vpl (hs.1 2 (by decide)).2.2 z14) ?_
        refine ea_if_le (pc := 89) (tgt := 120) dX12_stop_89 rfl (fun c19 => ?_) (fun c19 => ?_)
        · have E := (if_pos c19).symm.trans E
          exact ((ih 120 (x1 : Int32) (x2 : Int32) (x3 : Int32) (x4 : Int32) (x5 : Int32) ((((8 : Int32) * x1) + (ea_i h (b0 + 2) (Int32.toNatClampNeg x1))) : Int32) h _ _ E hs).2.2 rfl)
        · have E := (if_neg c19).symm.trans E
          refine ea_aload_n (pc := 92) dX12_stop_92 rfl 0 rfl ?_
          refine ea_getR (pc := 93) dX12_stop_93 ec_12 (k := 5) (Nat.le_of_ble_eq_true rfl) rfl (Or.inl ew_1350) (hs.1 0 (by decide)).1 (hs.1 0 (by decide)).2.1 (hs.2 0 5 rfl) ?_
          refine ea_iload (pc := 96) dX12_stop_96 6 rfl ?_
          refine ea_iconst (pc := 98) dX12_stop_98 (v := 1) rfl ?_
          refine ea_isub (pc := 99) dX12_stop_99 ?_
          obtain ⟨z15, E⟩ := gd_some E
          refine ea_iald (pc := 100) dX12_stop_100 (hs.1 3 (by decide)).1 (hs.1 3 (by decide)).2.1 (ea_vpl (hs.1 3 (by decide)).2.2 z15) ?_
          refine ea_iload_n (pc := 101) dX12_stop_101 rfl 2 rfl ?_
          refine ea_icmp_eq (pc := 102) (tgt := 118) dX12_stop_102 rfl (fun c18 => ?_) (fun c18 => ?_)
          · have E := (if_pos c18).symm.trans E
            refine ea_iconst (pc := 118) dX12_stop_118 (v := (-1)) rfl ?_
            exact ea_iretO (pc := 119) dX12_stop_119 rfl rfl E
          · have E := (if_neg c18).symm.trans E
            refine ea_iload_n (pc := 105) dX12_stop_105 rfl 3 rfl ?_
            refine ea_aload_n (pc := 106) dX12_stop_106 rfl 0 rfl ?_
            refine ea_getR (pc := 107) dX12_stop_107 ec_12 (k := 7) (Nat.le_of_ble_eq_true rfl) rfl (Or.inl ew_1352) (hs.1 0 (by decide)).1 (hs.1 0 (by decide)).2.1 (hs.2 0 7 rfl) ?_
            refine ea_iload (pc := 110) dX12_stop_110 6 rfl ?_
            refine ea_iconst (pc := 112) dX12_stop_112 (v := 1) rfl ?_
            refine ea_isub (pc := 113) dX12_stop_113 ?_
            obtain ⟨z16, E⟩ := gd_some E
            refine ea_iald (pc := 114) dX12_stop_114 (hs.1 5 (by decide)).1 (hs.1 5 (by decide)).2.1 (ea_vpl (hs.1 5 (by decide)).2.2 z16) ?_
            refine ea_icmp_gt (pc := 115) (tgt := 120) dX12_stop_115 rfl (fun c17 => ?_) (fun c17 => ?_)
            · have E := (if_pos c17).symm.trans E
              exact ((ih 120 (x1 : Int32) (x2 : Int32) (x3 : Int32) (x4 : Int32) (x5 : Int32) ((((8 : Int32) * x1) + (ea_i h (b0 + 2) (Int32.toNatClampNeg x1))) : Int32) h _ _ E hs).2.2 rfl)
            · have E := (if_neg c17).symm.trans E
              refine ea_iconst (pc := 118) dX12_stop_118 (v := (-1)) rfl ?_
              exact ea_iretO (pc := 119) dX12_stop_119 rfl rfl E
      · have E := (if_pos c20).symm.trans E
        refine ea_iconst (pc := 68) dX12_stop_68 (v := (-1)) rfl ?_
        exact ea_iretO (pc := 69) dX12_stop_69 rfl rfl E
    intro el
    subst el
    have E := (if_neg (by decide)).symm.trans E
    have E := (if_neg (by decide)).symm.trans E
    have E := (if_pos rfl).symm.trans E
    refine ea_aload_n (pc := 120) dX12_stop_120 rfl 0 rfl ?_
    refine ea_getR (pc := 121) dX12_stop_121 ec_12 (k := 5) (Nat.le_of_ble_eq_true rfl) rfl (Or.inl ew_1350) (hs.1 0 (by decide)).1 (hs.1 0 (by decide)).2.1 (hs.2 0 5 rfl) ?_
    refine ea_iload (pc := 124) dX12_stop_124 6 rfl ?_
    refine ea_iload_n (pc := 126) dX12_stop_126 rfl 2 rfl ?_
    obtain ⟨z21, E⟩ := gd_some E
    refine ea_iast (pc := 127) dX12_stop_127 (hs.1 3 (by decide)).1 (hs.1 3 (by decide)).2.1 (ea_vpl (hs.1 3 (by decide)).2.2 z21) ?_
    have hs22 : ShM b0 (ea_wi h (b0 + 3) (Int32.toNatClampNeg x6) x2) := ShM_wi hs
    obtain ⟨H23, eH23, E⟩ := let_some E
    refine ea_nm eH23 ?_
    have hsH23 : ShM b0 H23 := by rw [eH23]; exact hs22
    refine ea_aload_n (pc := 128) dX12_stop_128 rfl 0 rfl ?_
    refine ea_getR (pc := 129) dX12_stop_129 ec_12 (k := 6) (Nat.le_of_ble_eq_true rfl) rfl (Or.inl ew_1351) (hsH23.1 0 (by decide)).1 (hsH23.1 0 (by decide)).2.1 (hsH23.2 0 6 rfl) ?_
    refine ea_iload (pc := 132) dX12_stop_132 6 rfl ?_
    refine ea_iload_n (pc := 134) dX12_stop_134 rfl 3 rfl ?_
    obtain ⟨z24, E⟩ := gd_some E
    refine ea_iast (pc := 135) dX12_stop_135 (hsH23.1 4 (by decide)).1 (hsH23.1 4 (by decide)).2.1 (ea_vpl (hsH23.1 4 (by decide)).2.2 z24) ?_
    have hs25 : ShM b0 (ea_wi H23 (b0 + 4) (Int32.toNatClampNeg x6) x3) := ShM_wi hsH23
    obtain ⟨H26, eH26, E⟩ := let_some E
    refine ea_nm eH26 ?_
    have hsH26 : ShM b0 H26 := by rw [eH26]; exact hs25
    refine ea_aload_n (pc := 136) dX12_stop_136 rfl 0 rfl ?_
    refine ea_getR (pc := 137) dX12_stop_137 ec_12 (k := 7) (Nat.le_of_ble_eq_true rfl) rfl (Or.inl ew_1352) (hsH26.1 0 (by decide)).1 (hsH26.1 0 (by decide)).2.1 (hsH26.2 0 7 rfl) ?_
    refine ea_iload (pc := 140) dX12_stop_140 6 rfl ?_
    refine ea_iload (pc := 142) dX12_stop_142 4 rfl ?_
    obtain ⟨z27, E⟩ := gd_some E
    refine ea_iast (pc := 144) dX12_stop_144 (hsH26.1 5 (by decide)).1 (hsH26.1 5 (by decide)).2.1 (ea_vpl (hsH26.1 5 (by decide)).2.2 z27) ?_
    have hs28 : ShM b0 (ea_wi H26 (b0 + 5) (Int32.toNatClampNeg x6) x4) := ShM_wi hsH26
    obtain ⟨H29, eH29, E⟩ := let_some E
    refine ea_nm eH29 ?_
    have hsH29 : ShM b0 H29 := by rw [eH29]; exact hs28
    refine ea_aload_n (pc := 145) dX12_stop_145 rfl 0 rfl ?_
    refine ea_getR (pc := 146) dX12_stop_146 ec_12 (k := 9) (Nat.le_of_ble_eq_true rfl) rfl (Or.inl ew_1354) (hsH29.1 0 (by decide)).1 (hsH29.1 0 (by decide)).2.1 (hsH29.2 0 9 rfl) ?_
    refine ea_iload (pc := 149) dX12_stop_149 6 rfl ?_
    refine ea_iload (pc := 151) dX12_stop_151 5 rfl ?_
    obtain ⟨z30, E⟩ := gd_some E
    obtain ⟨z32, E⟩ := gd_some E
    refine ea_zast (pc := 153) dX12_stop_153 (y := x5) (ea_bn z32) (hsH29.1 7 (by decide)).1 (hsH29.1 7 (by decide)).2.1 (ea_vpl (hsH29.1 7 (by decide)).2.2 z30) ?_
    have hs31 : ShM b0 (ea_wi H29 (b0 + 7) (Int32.toNatClampNeg x6) x5) := ShM_wi hsH29
    obtain ⟨H33, eH33, E⟩ := let_some E
    refine ea_nm eH33 ?_
    have hsH33 : ShM b0 H33 := by rw [eH33]; exact hs31
    refine ea_aload_n (pc := 154) dX12_stop_154 rfl 0 rfl ?_
    refine ea_getR (pc := 155) dX12_stop_155 ec_12 (k := 4) (Nat.le_of_ble_eq_true rfl) rfl (Or.inl ew_1349) (hsH33.1 0 (by decide)).1 (hsH33.1 0 (by decide)).2.1 (hsH33.2 0 4 rfl) ?_
    refine ea_iload_n (pc := 158) dX12_stop_158 rfl 1 rfl ?_
    refine ea_dup2 (pc := 159) dX12_stop_159 rfl rfl ?_
    obtain ⟨z34, E⟩ := gd_some E
    refine ea_iald (pc := 160) dX12_stop_160 (hsH33.1 2 (by decide)).1 (hsH33.1 2 (by decide)).2.1 (ea_vpl (hsH33.1 2 (by decide)).2.2 z34) ?_
    refine ea_iconst (pc := 161) dX12_stop_161 (v := 1) rfl ?_
    refine ea_iadd (pc := 162) dX12_stop_162 ?_
    obtain ⟨z35, E⟩ := gd_some E
    refine ea_iast (pc := 163) dX12_stop_163 (hsH33.1 2 (by decide)).1 (hsH33.1 2 (by decide)).2.1 (ea_vpl (hsH33.1 2 (by decide)).2.2 z35) ?_
    have hs36 : ShM b0 (ea_wi H33 (b0 + 2) (Int32.toNatClampNeg x1) ((ea_i H33 (b0 + 2) (Int32.toNatClampNeg x1)) + (1 : Int32))) := ShM_wi hsH33
    obtain ⟨H37, eH37, E⟩ := let_some E
    refine ea_nm eH37 ?_
    have hsH37 : ShM b0 H37 := by rw [eH37]; exact hs36
    refine ea_aload_n (pc := 164) dX12_stop_164 rfl 0 rfl ?_
    refine ea_iconst (pc := 165) dX12_stop_165 (v := 0) rfl ?_
    refine ea_putI (pc := 166) dX12_stop_166 ec_12 (k := 12) (Nat.le_of_ble_eq_true rfl) rfl (Or.inl ⟨rfl, Or.inl ew_1357⟩) (ea_bn (Or.inl rfl)) (ea_bf (Or.inl rfl)) (hsH37.1 0 (by decide)).1 (hsH37.1 0 (by decide)).2.1 ?_
    have hs38 : ShM b0 (ea_wi H37 (b0 + 0) 12 0) := ShM_wi hsH37
    obtain ⟨H39, eH39, E⟩ := let_some E
    refine ea_nm eH39 ?_
    have hsH39 : ShM b0 H39 := by rw [eH39]; exact hs38
    refine ea_aload_n (pc := 169) dX12_stop_169 rfl 0 rfl ?_
    refine ea_getR (pc := 170) dX12_stop_170 ec_12 (k := 4) (Nat.le_of_ble_eq_true rfl) rfl (Or.inl ew_1349) (hsH39.1 0 (by decide)).1 (hsH39.1 0 (by decide)).2.1 (hsH39.2 0 4 rfl) ?_
    refine ea_iload_n (pc := 173) dX12_stop_173 rfl 1 rfl ?_
    obtain ⟨z40, E⟩ := gd_some E
    refine ea_iald (pc := 174) dX12_stop_174 (hsH39.1 2 (by decide)).1 (hsH39.1 2 (by decide)).2.1 (ea_vpl (hsH39.1 2 (by decide)).2.2 z40) ?_
    refine ea_iconst (pc := 175) dX12_stop_175 (v := 1) rfl ?_
    refine ea_isub (pc := 176) dX12_stop_176 ?_
    exact ea_iretO (pc := 177) dX12_stop_177 rfl rfl E
noncomputable def qX12_stop (b0 : Nat) (x1 : Int32) (x2 : Int32) (x3 : Int32) (x4 : Int32) (x5 : Int32) (h : ea_H) : Option (Int32 × ea_H) := gX12_stop b0 1000000000 0 x1 x2 x3 x4 x5 0 h
def okX12_stop (b0 : Nat) (x1 : Int32) (x2 : Int32) (x3 : Int32) (x4 : Int32) (x5 : Int32) (h : ea_H) : Prop := ∃ x, qX12_stop b0 x1 x2 x3 x4 x5 h = some x
noncomputable def vX12_stop (b0 : Nat) (x1 : Int32) (x2 : Int32) (x3 : Int32) (x4 : Int32) (x5 : Int32) (h : ea_H) : Int32 := ((qX12_stop b0 x1 x2 x3 x4 x5 h).getD (0, h)).1
noncomputable def wX12_stop (b0 : Nat) (x1 : Int32) (x2 : Int32) (x3 : Int32) (x4 : Int32) (x5 : Int32) (h : ea_H) : ea_H := ((qX12_stop b0 x1 x2 x3 x4 x5 h).getD (0, h)).2
theorem sX12_stop {d : Nat} {b0 : Nat} {x1 : Int32} {x2 : Int32} {x3 : Int32} {x4 : Int32} {x5 : Int32} {h : ea_H} (hd : 3 ≤ d) (hs : ShM b0 h) (K : okX12_stop b0 x1 x2 x3 x4 x5 h) : ea_Met mX12_stop d [vR (some (b0 + 0)), vI x1, vI x2, vI x3, vI x4, vI x5] h (some (vI (vX12_stop b0 x1 x2 x3 x4 x5 h))) (wX12_stop b0 x1 x2 x3 x4 x5 h) := by
  obtain ⟨⟨x, y⟩, K⟩ := K
  unfold wX12_stop vX12_stop
  rw [K]
  unfold qX12_stop at K
  exact ea_enter rfl (Nat.le_of_ble_eq_true rfl) ((tX12_stop hd 1000000000 0 x1 x2 x3 x4 x5 0 h x y K hs).1 rfl)
theorem zX12_stop {b0 : Nat} : ∀ (f lbl : Nat) (x1 : Int32) (x2 : Int32) (x3 : Int32) (x4 : Int32) (x5 : Int32) (x6 : Int32) (h : ea_H) (r : Int32) (h' : ea_H), gX12_stop b0 f lbl x1 x2 x3 x4 x5 x6 h = some (r, h') → ShM b0 h → ShM b0 h' := by
  intro f
  induction f with
  | zero => intro lbl x1 x2 x3 x4 x5 x6 h r h' E; cases E
  | succ f ih =>
    intro lbl x1 x2 x3 x4 x5 x6 h r h' E hs
    unfold gX12_stop at E
    by_cases el0 : lbl = 0
    · have E := (if_pos el0).symm.trans E
      by_cases c11 : (vX12_isTrain b0 (x1 : Int32) h) = (0 : Int32)
      · have E := (if_pos c11).symm.trans E
        exact ea_shO E hs
      have E := (if_neg c11).symm.trans E
      by_cases c10 : (0 : Int32) < (ea_i h (b0 + 0) 0)
      · have E := (if_pos c10).symm.trans E
        exact ea_shO E hs
      have E := (if_neg c10).symm.trans E
      by_cases c9 : (vX12_isTown b0 (x2 : Int32) h) = (0 : Int32)
      · have E := (if_pos c9).symm.trans E
        exact ea_shO E hs
      have E := (if_neg c9).symm.trans E
      by_cases c8 : (vX12_isIn (x3 : Int32) (0 : Int32) (2400 : Int32) h) = (0 : Int32)
      · have E := (if_pos c8).symm.trans E
        exact ea_shO E hs
      have E := (if_neg c8).symm.trans E
      by_cases c7 : (vX12_isIn (x4 : Int32) (x3 : Int32) (2400 : Int32) h) = (0 : Int32)
      · have E := (if_pos c7).symm.trans E
        exact ea_shO E hs
      have E := (if_neg c7).symm.trans E
      by_cases c6 : x5 = (0 : Int32)
      · have E := (if_pos c6).symm.trans E
        exact ih 57 (x1 : Int32) (x2 : Int32) (x3 : Int32) (x4 : Int32) (x5 : Int32) 0 h _ _ E hs
      have E := (if_neg c6).symm.trans E
      by_cases c5 : x3 = x4
      · have E := (if_pos c5).symm.trans E
        exact ih 57 (x1 : Int32) (x2 : Int32) (x3 : Int32) (x4 : Int32) (x5 : Int32) 0 h _ _ E hs
      have E := (if_neg c5).symm.trans E
      exact ea_shO E hs
    have E := (if_neg el0).symm.trans E
    by_cases el1 : lbl = 57
    · have E := (if_pos el1).symm.trans E
      obtain ⟨z12, E⟩ := gd_some E
      by_cases c20 : (ea_i h (b0 + 2) (Int32.toNatClampNeg x1)) = (8 : Int32)
      · have E := (if_pos c20).symm.trans E
        exact ea_shO E hs
      have E := (if_neg c20).symm.trans E
      obtain ⟨z13, E⟩ := gd_some E
      obtain ⟨z14, E⟩ := gd_some E
      by_cases c19 : (ea_i h (b0 + 2) (Int32.toNatClampNeg x1)) ≤ (0 : Int32)
      · have E := (if_pos c19).symm.trans E
        exact ih 120 (x1 : Int32) (x2 : Int32) (x3 : Int32) (x4 : Int32) (x5 : Int32) ((((8 : Int32) * x1) + (ea_i h (b0 + 2) (Int32.toNatClampNeg x1))) : Int32) h _ _ E hs
      have E := (if_neg c19).symm.trans E
      obtain ⟨z15, E⟩ := gd_some E
      by_cases c18 : (ea_i h (b0 + 3) (Int32.toNatClampNeg ((((8 : Int32) * x1) + (ea_i h (b0 + 2) (Int32.toNatClampNeg x1))) - (1 : Int32)))) = x2
      · have E := (if_pos c18).symm.trans E
        exact ea_shO E hs
      have E := (if_neg c18).symm.trans E
      obtain ⟨z16, E⟩ := gd_some E
      by_cases c17 : (ea_i h (b0 + 5) (Int32.toNatClampNeg ((((8 : Int32) * x1) + (ea_i h (b0 + 2) (Int32.toNatClampNeg x1))) - (1 : Int32)))) < x3
      · have E := (if_pos c17).symm.trans E
        exact ih 120 (x1 : Int32) (x2 : Int32) (x3 : Int32) (x4 : Int32) (x5 : Int32) ((((8 : Int32) * x1) + (ea_i h (b0 + 2) (Int32.toNatClampNeg x1))) : Int32) h _ _ E hs
      have E := (if_neg c17).symm.trans E
      exact ea_shO E hs
    have E := (if_neg el1).symm.trans E
    by_cases el2 : lbl = 120
    · have E := (if_pos el2).symm.trans E
      obtain ⟨z21, E⟩ := gd_some E
      obtain ⟨H23, eH23, E⟩ := let_some E
      have hsH23 : ShM b0 H23 := by rw [eH23]; exact (ShM_wi hs)
      obtain ⟨z24, E⟩ := gd_some E
      obtain ⟨H26, eH26, E⟩ := let_some E
      have hsH26 : ShM b0 H26 := by rw [eH26]; exact (ShM_wi hsH23)
      obtain ⟨z27, E⟩ := gd_some E
      obtain ⟨H29, eH29, E⟩ := let_some E
      have hsH29 : ShM b0 H29 := by rw [eH29]; exact (ShM_wi hsH26)
      obtain ⟨z30, E⟩ := gd_some E
      obtain ⟨z32, E⟩ := gd_some E
      obtain ⟨H33, eH33, E⟩ := let_some E
      have hsH33 : ShM b0 H33 := by rw [eH33]; exact (ShM_wi hsH29)
      obtain ⟨z34, E⟩ := gd_some E
      obtain ⟨z35, E⟩ := gd_some E
      obtain ⟨H37, eH37, E⟩ := let_some E
      have hsH37 : ShM b0 H37 := by rw [eH37]; exact (ShM_wi hsH33)
      obtain ⟨H39, eH39, E⟩ := let_some E
      have hsH39 : ShM b0 H39 := by rw [eH39]; exact (ShM_wi hsH37)
      obtain ⟨z40, E⟩ := gd_some E
      exact ea_shO E hsH39
    have E := (if_neg el2).symm.trans E
    cases E
theorem shX12_stop {b0 : Nat} {x1 : Int32} {x2 : Int32} {x3 : Int32} {x4 : Int32} {x5 : Int32} {h : ea_H} (hs : ShM b0 h) : ShM b0 (wX12_stop b0 x1 x2 x3 x4 x5 h) := by
  unfold wX12_stop
  cases K : qX12_stop b0 x1 x2 x3 x4 x5 h with
  | none => exact hs
  | some x => obtain ⟨x, y⟩ := x; unfold qX12_stop at K; exact zX12_stop _ _ _ _ _ _ _ _ _ _ _ K hs
noncomputable def gX12_going (b0 : Nat) : Nat → Nat → Int32 → Int32 → Int32 → ea_H → Option (Int32 × ea_H)
  | 0, _, _, _, _, _ => none
  | f + 1, lbl, x1, x2, x3, h =>
    if lbl = 0 then (gd (vp_in x1 12) (gX12_going b0 f 7 0 (x2 : Int32) ((ea_i h (b0 + 20) (Int32.toNatClampNeg x1)) : Int32) h)) else
    if lbl = 7 then (if x3 = ((-1) : Int32) then (some (x3, h)) else (gd (vp_in x3 1000) (if x2 ≤ (ea_i h (b0 + 10) (Int32.toNatClampNeg x3)) then (some (x3, h)) else (gd (vp_in x3 1000) (gX12_going b0 f 7 0 (x2 : Int32) ((ea_i h (b0 + 19) (Int32.toNatClampNeg x3)) : Int32) h))))) else none
theorem tX12_going {d : Nat} {b0 : Nat} {h0 : ea_H} (hd : 1 ≤ d) : ∀ (f lbl : Nat) (x1 : Int32) (x2 : Int32) (x3 : Int32) (h : ea_H) (r : Int32) (h' : ea_H), gX12_going b0 f lbl x1 x2 x3 h = some (r, h') → ShM b0 h → (lbl = 0 → ea_W mX12_going d h0 (some (vI r)) h' 0 [(0, vR (some (b0 + 0))), (1, vI x1), (2, vI x2)] [] h) ∧ (lbl = 7 → ea_W mX12_going d h0 (some (vI r)) h' 7 [(0, vR (some (b0 + 0))), (2, vI x2), (3, vI x3)] [] h) := by
  intro f
  induction f with
  | zero => intro lbl x1 x2 x3 h r h' E; cases E
  | succ f ih =>
    intro lbl x1 x2 x3 h r h' E hs
    unfold gX12_going at E
    refine ⟨?_, ?_⟩
    · intro el
      subst el
      have E := (if_pos rfl).symm.trans E
      refine ea_aload_n (pc := 0) dX12_going_0 rfl 0 rfl ?_
      refine ea_getR (pc := 1) dX12_going_1 ec_12 (k := 24) (Nat.le_of_ble_eq_true rfl) rfl (Or.inl ew_1369) (hs.1 0 (by decide)).1 (hs.1 0 (by decide)).2.1 (hs.2 0 24 rfl) ?_
      refine ea_iload_n (pc := 4) dX12_going_4 rfl 1 rfl ?_
      obtain ⟨z1, E⟩ := gd_some E
      refine ea_iald (pc := 5) dX12_going_5 (hs.1 20 (by decide)).1 (hs.1 20 (by decide)).2.1 (ea_vpl (hs.1 20 (by decide)).2.2 z1) ?_
      refine ea_istore_n (pc := 6) (lv' := [(0, vR (some (b0 + 0))), (2, vI x2), (3, vI (ea_i h (b0 + 20) (Int32.toNatClampNeg x1)))]) dX12_going_6 rfl (Nat.le_of_ble_eq_true rfl) [1, 3, 0] rfl ?_
      exact ((ih 7 0 (x2 : Int32) ((ea_i h (b0 + 20) (Int32.toNatClampNeg x1)) : Int32) h _ _ E hs).2 rfl)
    intro el
    subst el
    have E := (if_neg (by decide)).symm.trans E
    have E := (if_pos rfl).symm.trans E
    refine ea_iload_n (pc := 7) dX12_going_7 rfl 2 rfl ?_
    refine ea_iconst (pc := 8) dX12_going_8 (v := (-1)) rfl ?_
    refine ea_icmp_eq (pc := 9) (tgt := 32) dX12_going_9 rfl (fun c5 => ?_) (fun c5 => ?_)
    · have E := (if_pos c5).symm.trans E
      refine ea_iload_n (pc := 32) dX12_going_32 rfl 2 rfl ?_
      exact ea_iretO (pc := 33) dX12_going_33 rfl rfl E
    · have E := (if_neg c5).symm.trans E
      refine ea_aload_n (pc := 12) dX12_going_12 rfl 0 rfl ?_
      refine ea_getR (pc := 13) dX12_going_13 ec_12 (k := 14) (Nat.le_of_ble_eq_true rfl) rfl (Or.inl ew_1359) (hs.1 0 (by decide)).1 (hs.1 0 (by decide)).2.1 (hs.2 0 14 rfl) ?_
      refine ea_iload_n (pc := 16) dX12_going_16 rfl 2 rfl ?_
      obtain ⟨z2, E⟩ := gd_some E
      refine ea_iald (pc := 17) dX12_going_17 (hs.1 10 (by decide)).1 (hs.1 10 (by decide)).2.1 (ea_vpl (hs.1 10 (by decide)).2.2 z2) ?_
      refine ea_iload_n (pc := 18) dX12_going_18 rfl 1 rfl ?_
      refine ea_icmp_ge (pc := 19) (tgt := 32) dX12_going_19 rfl (fun c4 => ?_) (fun c4 => ?_)
      · have E := (if_pos c4).symm.trans E
        refine ea_iload_n (pc := 32) dX12_going_32 rfl 2 rfl ?_
        exact ea_iretO (pc := 33) dX12_going_33 rfl rfl E
      · have E := (if_neg c4).symm.trans E
        refine ea_aload_n (pc := 22) dX12_going_22 rfl 0 rfl ?_
        refine ea_getR (pc := 23) dX12_going_23 ec_12 (k := 23) (Nat.le_of_ble_eq_true rfl) rfl (Or.inl ew_1368) (hs.1 0 (by decide)).1 (hs.1 0 (by decide)).2.1 (hs.2 0 23 rfl) ?_
        refine ea_iload_n (pc := 26) dX12_going_26 rfl 2 rfl ?_
        obtain ⟨z3, E⟩ := gd_some E
        refine ea_iald (pc := 27) dX12_going_27 (hs.1 19 (by decide)).1 (hs.1 19 (by decide)).2.1 (ea_vpl (hs.1 19 (by decide)).2.2 z3) ?_
        refine ea_istore_n (pc := 28) (lv' := [(0, vR (some (b0 + 0))), (2, vI x2), (3, vI (ea_i h (b0 + 19) (Int32.toNatClampNeg x3)))]) dX12_going_28 rfl (Nat.le_of_ble_eq_true rfl) [1, 2, 0] rfl ?_
        refine ea_goto (pc := 29) (tgt := 7) dX12_going_29 rfl ?_
        exact ((ih 7 0 (x2 : Int32) ((ea_i h (b0 + 19) (Int32.toNatClampNeg x3)) : Int32) h _ _ E hs).2 rfl)
noncomputable def qX12_going (b0 : Nat) (x1 : Int32) (x2 : Int32) (h : ea_H) : Option (Int32 × ea_H) := gX12_going b0 1000000000 0 x1 x2 0 h
def okX12_going (b0 : Nat) (x1 : Int32) (x2 : Int32) (h : ea_H) : Prop := ∃ x, qX12_going b0 x1 x2 h = some x
noncomputable def vX12_going (b0 : Nat) (x1 : Int32) (x2 : Int32) (h : ea_H) : Int32 := ((qX12_going b0 x1 x2 h).getD (0, h)).1
noncomputable def wX12_going (b0 : Nat) (x1 : Int32) (x2 : Int32) (h : ea_H) : ea_H := ((qX12_going b0 x1 x2 h).getD (0, h)).2
theorem sX12_going {d : Nat} {b0 : Nat} {x1 : Int32} {x2 : Int32} {h : ea_H} (hd : 1 ≤ d) (hs : ShM b0 h) (K : okX12_going b0 x1 x2 h) : ea_Met mX12_going d [vR (some (b0 + 0)), vI x1, vI x2] h (some (vI (vX12_going b0 x1 x2 h))) (wX12_going b0 x1 x2 h) := by
  obtain ⟨⟨x, y⟩, K⟩ := K
  unfold wX12_going vX12_going
  rw [K]
  unfold qX12_going at K
  exact ea_enter rfl (Nat.le_of_ble_eq_true rfl) ((tX12_going hd 1000000000 0 x1 x2 0 h x y K hs).1 rfl)
theorem zX12_going {b0 : Nat} : ∀ (f lbl : Nat) (x1 : Int32) (x2 : Int32) (x3 : Int32) (h : ea_H) (r : Int32) (h' : ea_H), gX12_going b0 f lbl x1 x2 x3 h = some (r, h') → ShM b0 h → ShM b0 h' := by
  intro f
  induction f with
  | zero => intro lbl x1 x2 x3 h r h' E; cases E
  | succ f ih =>
    intro lbl x1 x2 x3 h r h' E hs
    unfold gX12_going at E
    by_cases el0 : lbl = 0
    · have E := (if_pos el0).symm.trans E
      obtain ⟨z1, E⟩ := gd_some E
      exact ih 7 0 (x2 : Int32) ((ea_i h (b0 + 20) (Int32.toNatClampNeg x1)) : Int32) h _ _ E hs
    have E := (if_neg el0).symm.trans E
    by_cases el1 : lbl = 7
    · have E := (if_pos el1).symm.trans E
      by_cases c5 : x3 = ((-1) : Int32)
      · have E := (if_pos c5).symm.trans E
        exact ea_shO E hs
      have E := (if_neg c5).symm.trans E
      obtain ⟨z2, E⟩ := gd_some E
      by_cases c4 : x2 ≤ (ea_i h (b0 + 10) (Int32.toNatClampNeg x3))
      · have E := (if_pos c4).symm.trans E
        exact ea_shO E hs
      have E := (if_neg c4).symm.trans E
      obtain ⟨z3, E⟩ := gd_some E
      exact ih 7 0 (x2 : Int32) ((ea_i h (b0 + 19) (Int32.toNatClampNeg x3)) : Int32) h _ _ E hs
    have E := (if_neg el1).symm.trans E
    cases E
theorem shX12_going {b0 : Nat} {x1 : Int32} {x2 : Int32} {h : ea_H} (hs : ShM b0 h) : ShM b0 (wX12_going b0 x1 x2 h) := by
  unfold wX12_going
  cases K : qX12_going b0 x1 x2 h with
  | none => exact hs
  | some x => obtain ⟨x, y⟩ := x; unfold qX12_going at K; exact zX12_going _ _ _ _ _ _ _ _ K hs
noncomputable def gX12_goings (b0 : Nat) : Nat → Nat → Int32 → Int32 → Int32 → Int32 → Int32 → Int32 → Int32 → Int32 → Int32 → Int32 → Int32 → Int32 → ea_H → Option (Unit × ea_H)
  | 0, _, _, _, _, _, _, _, _, _, _, _, _, _, _ => none
  | f + 1, lbl, sx0, x1, x10, x11, x12, x2, x3, x4, x5, x6, x7, x8, h =>
    if lbl = 0 then (gd (vp_in x1 1000) (gd (vp_in x1 1000) (gd ((okX12_townOf b0 ((ea_i h (b0 + 12) (Int32.toNatClampNeg x1)) : Int32) ((ea_i h (b0 + 13) (Int32.toNatClampNeg x1)) : Int32) h)) (gX12_goings b0 f 22 0 (x1 : Int32) 0 0 0 ((ea_i h (b0 + 12) (Int32.toNatClampNeg x1)) : Int32) ((vX12_townOf b0 ((ea_i h (b0 + 12) (Int32.toNatClampNeg x1)) : Int32) ((ea_i h (b0 + 13) (Int32.toNatClampNeg x1)) : Int32) h) : Int32) (0 : Int32) 0 0 0 0 h)))) else
    if lbl = 22 then (if (ea_i h (b0 + 0) 1) ≤ x4 then (gd (vp_in x3 12) (gd (vp_in x1 1000) (ea_let (ea_wi h (b0 + 19) (Int32.toNatClampNeg x1) (ea_i h (b0 + 20) (Int32.toNatClampNeg x3))) fun H7 => (gd (vp_in x3 12) (ea_let (ea_wi H7 (b0 + 20) (Int32.toNatClampNeg x3) x1) fun H10 => (gX12_goings b0 f 320 0 (x1 : Int32) 0 0 0 0 0 (0 : Int32) 0 0 0 0 H10)))))) else (gd (vp_in (((12 : Int32) * x1) + x4) 12000) (ea_let (ea_wi h (b0 + 15) (Int32.toNatClampNeg (((12 : Int32) * x1) + x4)) 1000000) fun H13 => (gd (vp_in x1 1000) (gX12_goings b0 f 60 0 (x1 : Int32) 0 0 0 (x2 : Int32) (x3 : Int32) (x4 : Int32) ((((12 : Int32) * x1) + x4) : Int32) (((ea_i H13 (b0 + 13) (Int32.toNatClampNeg x1)) + (1 : Int32)) : Int32) 0 0 H13))))) else
    if lbl = 60 then (gd (vp_in (x2 / (7 : Int32)) 10) (if (ea_i h (b0 + 2) (Int32.toNatClampNeg (x2 / (7 : Int32)))) ≤ x6 then (gX12_goings b0 f 22 0 (x1 : Int32) 0 0 0 (x2 : Int32) (x3 : Int32) ((x4 + (1 : Int32)) : Int32) 0 0 0 0 h) else (gd ((okX12_comesAt b0 (x2 : Int32) (x6 : Int32) h)) (if (vX12_comesAt b0 (x2 : Int32) (x6 : Int32) h) ≤ (10079 : Int32) then (gd ((okX12_townOf b0 (x2 : Int32) (x6 : Int32) h)) (if (vX12_townOf b0 (x2 : Int32) (x6 : Int32) h) = x4 then (gX12_goings b0 f 122 ((-1) : Int32) (x1 : Int32) 0 0 0 (x2 : Int32) (x3 : Int32) (x4 : Int32) (x5 : Int32) (x6 : Int32) ((vX12_comesAt b0 (x2 : Int32) (x6 : Int32) h) : Int32) ((vX12_townOf b0 (x2 : Int32) (x6 : Int32) h) : Int32) h) else (gd ((okX12_going b0 ((vX12_townOf b0 (x2 : Int32) (x6 : Int32) h) : Int32) ((vX12_comesAt b0 (x2 : Int32) (x6 : Int32) h) : Int32) h)) (ea_let (wX12_going b0 ((vX12_townOf b0 (x2 : Int32) (x6 : Int32) h) : Int32) ((vX12_comesAt b0 (x2 : Int32) (x6 : Int32) h) : Int32) h) fun H21 => (gX12_goings b0 f 122 ((vX12_going b0 ((vX12_townOf b0 (x2 : Int32) (x6 : Int32) h) : Int32) ((vX12_comesAt b0 (x2 : Int32) (x6 : Int32) h) : Int32) h) : Int32) (x1 : Int32) 0 0 0 (x2 : Int32) (x3 : Int32) (x4 : Int32) (x5 : Int32) (x6 : Int32) ((vX12_comesAt b0 (x2 : Int32) (x6 : Int32) h) : Int32) ((vX12_townOf b0 (x2 : Int32) (x6 : Int32) h) : Int32) H21))))) else (gX12_goings b0 f 22 0 (x1 : Int32) 0 0 0 (x2 : Int32) (x3 : Int32) ((x4 + (1 : Int32)) : Int32) 0 0 0 0 h))))) else
    if lbl = 122 then (if sx0 = ((-1) : Int32) then (gX12_goings b0 f 147 ((-1) : Int32) (x1 : Int32) 0 0 0 (x2 : Int32) (x3 : Int32) (x4 : Int32) (x5 : Int32) (x6 : Int32) (x7 : Int32) (x8 : Int32) h) else (gd (vp_in (((12 : Int32) * sx0) + x4) 12000) (gX12_goings b0 f 147 ((ea_i h (b0 + 18) (Int32.toNatClampNeg (((12 : Int32) * sx0) + x4))) : Int32) (x1 : Int32) 0 0 0 (x2 : Int32) (x3 : Int32) (x4 : Int32) (x5 : Int32) (x6 : Int32) (x7 : Int32) (x8 : Int32) h))) else
    if lbl = 147 then (if x8 = x4 then (gX12_goings b0 f 165 0 (x1 : Int32) (sx0 : Int32) 0 0 (x2 : Int32) (x3 : Int32) (x4 : Int32) (x5 : Int32) (x6 : Int32) (x7 : Int32) (x8 : Int32) h) else (if sx0 = ((-1) : Int32) then (gX12_goings b0 f 60 0 (x1 : Int32) 0 0 0 (x2 : Int32) (x3 : Int32) (x4 : Int32) (x5 : Int32) ((x6 + (1 : Int32)) : Int32) 0 0 h) else (gX12_goings b0 f 165 0 (x1 : Int32) (sx0 : Int32) 0 0 (x2 : Int32) (x3 : Int32) (x4 : Int32) (x5 : Int32) (x6 : Int32) (x7 : Int32) (x8 : Int32) h))) else
    if lbl = 165 then (if x8 = x4 then (gX12_goings b0 f 190 (x7 : Int32) (x1 : Int32) (x10 : Int32) 0 0 (x2 : Int32) (x3 : Int32) (x4 : Int32) (x5 : Int32) (x6 : Int32) 0 (x8 : Int32) h) else (gd (vp_in (((12 : Int32) * x10) + x4) 12000) (gX12_goings b0 f 190 ((ea_i h (b0 + 15) (Int32.toNatClampNeg (((12 : Int32) * x10) + x4))) : Int32) (x1 : Int32) (x10 : Int32) 0 0 (x2 : Int32) (x3 : Int32) (x4 : Int32) (x5 : Int32) (x6 : Int32) 0 (x8 : Int32) h))) else
    if lbl = 190 then (if x8 = x4 then (gX12_goings b0 f 218 (1 : Int32) (x1 : Int32) 0 (sx0 : Int32) 0 (x2 : Int32) (x3 : Int32) (x4 : Int32) (x5 : Int32) (x6 : Int32) 0 0 h) else (gd (vp_in (((12 : Int32) * x10) + x4) 12000) (gX12_goings b0 f 218 (((ea_i h (b0 + 16) (Int32.toNatClampNeg (((12 : Int32) * x10) + x4))) + (1 : Int32)) : Int32) (x1 : Int32) 0 (sx0 : Int32) 0 (x2 : Int32) (x3 : Int32) (x4 : Int32) (x5 : Int32) (x6 : Int32) 0 0 h))) else
    if lbl = 218 then (gd (vp_in x5 12000) (if (ea_i h (b0 + 15) (Int32.toNatClampNeg x5)) < x11 then (gX12_goings b0 f 60 0 (x1 : Int32) 0 0 0 (x2 : Int32) (x3 : Int32) (x4 : Int32) (x5 : Int32) ((x6 + (1 : Int32)) : Int32) 0 0 h) else (gd (vp_in x5 12000) (if x11 = (ea_i h (b0 + 15) (Int32.toNatClampNeg x5)) then (gd (vp_in x5 12000) (if sx0 < (ea_i h (b0 + 16) (Int32.toNatClampNeg x5)) then (gX12_goings b0 f 259 0 (x1 : Int32) 0 (x11 : Int32) (sx0 : Int32) (x2 : Int32) (x3 : Int32) (x4 : Int32) (x5 : Int32) (x6 : Int32) 0 0 h) else (gX12_goings b0 f 60 0 (x1 : Int32) 0 0 0 (x2 : Int32) (x3 : Int32) (x4 : Int32) (x5 : Int32) ((x6 + (1 : Int32)) : Int32) 0 0 h))) else (gX12_goings b0 f 259 0 (x1 : Int32) 0 (x11 : Int32) (sx0 : Int32) (x2 : Int32) (x3 : Int32) (x4 : Int32) (x5 : Int32) (x6 : Int32) 0 0 h))))) else
    if lbl = 259 then (gd (vp_in x5 12000) (ea_let (ea_wi h (b0 + 15) (Int32.toNatClampNeg x5) x11) fun H41 => (gd (vp_in x5 12000) (ea_let (ea_wi H41 (b0 + 16) (Int32.toNatClampNeg x5) x12) fun H44 => (gd (vp_in x5 12000) (ea_let (ea_wi H44 (b0 + 17) (Int32.toNatClampNeg x5) x6) fun H47 => (gX12_goings b0 f 60 0 (x1 : Int32) 0 0 0 (x2 : Int32) (x3 : Int32) (x4 : Int32) (x5 : Int32) ((x6 + (1 : Int32)) : Int32) 0 0 H47))))))) else
    if lbl = 320 then (if (ea_i h (b0 + 0) 1) ≤ x4 then (some ((), h)) else (gd (vp_in x1 1000) (if (ea_i h (b0 + 19) (Int32.toNatClampNeg x1)) = ((-1) : Int32) then (gX12_goings b0 f 360 ((-1) : Int32) (x1 : Int32) 0 0 0 0 0 (x4 : Int32) 0 0 0 0 h) else (gd (vp_in x1 1000) (gd (vp_in (((12 : Int32) * (ea_i h (b0 + 19) (Int32.toNatClampNeg x1))) + x4) 12000) (gX12_goings b0 f 360 ((ea_i h (b0 + 18) (Int32.toNatClampNeg (((12 : Int32) * (ea_i h (b0 + 19) (Int32.toNatClampNeg x1))) + x4))) : Int32) (x1 : Int32) 0 0 0 0 0 (x4 : Int32) 0 0 0 0 h)))))) else
    if lbl = 360 then (gd (vp_in (((12 : Int32) * x1) + x4) 12000) (if (ea_i h (b0 + 15) (Int32.toNatClampNeg (((12 : Int32) * x1) + x4))) = (1000000 : Int32) then (gd (vp_in (((12 : Int32) * x1) + x4) 12000) (ea_let (ea_wi h (b0 + 18) (Int32.toNatClampNeg (((12 : Int32) * x1) + x4)) sx0) fun H68 => (gX12_goings b0 f 320 0 (x1 : Int32) 0 0 0 0 0 ((x4 + (1 : Int32)) : Int32) 0 0 0 0 H68))) else (if sx0 = ((-1) : Int32) then (gd (vp_in (((12 : Int32) * x1) + x4) 12000) (ea_let (ea_wi h (b0 + 18) (Int32.toNatClampNeg (((12 : Int32) * x1) + x4)) x1) fun H56 => (gX12_goings b0 f 320 0 (x1 : Int32) 0 0 0 0 0 ((x4 + (1 : Int32)) : Int32) 0 0 0 0 H56))) else (gd ((okX12_isBetter b0 (x1 : Int32) (sx0 : Int32) (x4 : Int32) h)) (if (vX12_isBetter b0 (x1 : Int32) (sx0 : Int32) (x4 : Int32) h) = (0 : Int32) then (gd (vp_in (((12 : Int32) * x1) + x4) 12000) (ea_let (ea_wi h (b0 + 18) (Int32.toNatClampNeg (((12 : Int32) * x1) + x4)) sx0) fun H60 => (gX12_goings b0 f 320 0 (x1 : Int32) 0 0 0 0 0 ((x4 + (1 : Int32)) : Int32) 0 0 0 0 H60))) else (gd (vp_in (((12 : Int32) * x1) + x4) 12000) (ea_let (ea_wi h (b0 + 18) (Int32.toNatClampNeg (((12 : Int32) * x1) + x4)) x1) fun H63 => (gX12_goings b0 f 320 0 (x1 : Int32) 0 0 0 0 0 ((x4 + (1 : Int32)) : Int32) 0 0 0 0 H63)))))))) else none
theorem tX12_goings {d : Nat} {b0 : Nat} {h0 : ea_H} (hd : 2 ≤ d) : ∀ (f lbl : Nat) (sx0 : Int32) (x1 : Int32) (x10 : Int32) (x11 : Int32) (x12 : Int32) (x2 : Int32) (x3 : Int32) (x4 : Int32) (x5 : Int32) (x6 : Int32) (x7 : Int32) (x8 : Int32) (h : ea_H) (r : Unit) (h' : ea_H), gX12_goings b0 f lbl sx0 x1 x10 x11 x12 x2 x3 x4 x5 x6 x7 x8 h = some (r, h') → ShM b0 h → (lbl = 0 → ea_W mX12_goings d h0 none h' 0 [(0, vR (some (b0 + 0))), (1, vI x1)] [] h) ∧ (lbl = 22 → ea_W mX12_goings d h0 none h' 22 [(0, vR (some (b0 + 0))), (1, vI x1), (2, vI x2), (3, vI x3), (4, vI x4)] [] h) ∧ (lbl = 60 → ea_W mX12_goings d h0 none h' 60 [(0, vR (some (b0 + 0))), (1, vI x1), (2, vI x2), (3, vI x3), (4, vI x4), (5, vI x5), (6, vI x6)] [] h) ∧ (lbl = 122 → ea_W mX12_goings d h0 none h' 122 [(0, vR (some (b0 + 0))), (1, vI x1), (2, vI x2), (3, vI x3), (4, vI x4), (5, vI x5), (6, vI x6), (7, vI x7), (8, vI x8)] [vI sx0] h) ∧ (lbl = 147 → ea_W mX12_goings d h0 none h' 147 [(0, vR (some (b0 + 0))), (1, vI x1), (2, vI x2), (3, vI x3), (4, vI x4), (5, vI x5), (6, vI x6), (7, vI x7), (8, vI x8)] [vI sx0] h) ∧ (lbl = 165 → ea_W mX12_goings d h0 none h' 165 [(0, vR (some (b0 + 0))), (1, vI x1), (2, vI x2), (3, vI x3), (4, vI x4), (5, vI x5), (6, vI x6), (7, vI x7), (8, vI x8), (10, vI x10)] [] h) ∧ (lbl = 190 → ea_W mX12_goings d h0 none h' 190 [(0, vR (some (b0 + 0))), (1, vI x1), (2, vI x2), (3, vI x3), (4, vI x4), (5, vI x5), (6, vI x6), (8, vI x8), (10, vI x10)] [vI sx0] h) ∧ (lbl = 218 → ea_W mX12_goings d h0 none h' 218 [(0, vR (some (b0 + 0))), (1, vI x1), (2, vI x2), (3, vI x3), (4, vI x4), (5, vI x5), (6, vI x6), (11, vI x11)] [vI sx0] h) ∧ (lbl = 259 → ea_W mX12_goings d h0 none h' 259 [(0, vR (some (b0 + 0))), (1, vI x1), (2, vI x2), (3, vI x3), (4, vI x4), (5, vI x5), (6, vI x6), (11, vI x11), (12, vI x12)] [] h) ∧ (lbl = 320 → ea_W mX12_goings d h0 none h' 320 [(0, vR (some (b0 + 0))), (1, vI x1), (4, vI x4)] [] h) ∧ (lbl = 360 → ea_W mX12_goings d h0 none h' 360 [(0, vR (some (b0 + 0))), (1, vI x1), (4, vI x4)] [vI sx0] h) := by
  intro f
  induction f with
  | zero => intro lbl sx0 x1 x10 x11 x12 x2 x3 x4 x5 x6 x7 x8 h r h' E; cases E
  | succ f ih =>
    intro lbl sx0 x1 x10 x11 x12 x2 x3 x4 x5 x6 x7 x8 h r h' E hs
    unfold gX12_goings at E
    refine ⟨?_, ?_⟩
    · intro el
      subst el
      have E := (if_pos rfl).symm.trans E
      refine ea_aload_n (pc := 0) dX12_goings_0 rfl 0 rfl ?_
      refine ea_getR (pc := 1) dX12_goings_1 ec_12 (k := 16) (Nat.le_of_ble_eq_true rfl) rfl (Or.inl ew_1361) (hs.1 0 (by decide)).1 (hs.1 0 (by decide)).2.1 (hs.2 0 16 rfl) ?_
      refine ea_iload_n (pc := 4) dX12_goings_4 rfl 1 rfl ?_
      obtain ⟨z1, E⟩ := gd_some E
      refine ea_iald (pc := 5) dX12_goings_5 (hs.1 12 (by decide)).1 (hs.1 12 (by decide)).2.1 (ea_vpl (hs.1 12 (by decide)).2.2 z1) ?_
      refine ea_istore_n (pc := 6) (lv' := [(0, vR (some (b0 + 0))), (1, vI x1), (2, vI (ea_i h (b0 + 12) (Int32.toNatClampNeg x1)))]) dX12_goings_6 rfl (Nat.le_of_ble_eq_true rfl) [1, 2, 0] rfl ?_
      refine ea_aload_n (pc := 7) dX12_goings_7 rfl 0 rfl ?_
      refine ea_iload_n (pc := 8) dX12_goings_8 rfl 2 rfl ?_
      refine ea_aload_n (pc := 9) dX12_goings_9 rfl 0 rfl ?_
      refine ea_getR (pc := 10) dX12_goings_10 ec_12 (k := 17) (Nat.le_of_ble_eq_true rfl) rfl (Or.inl ew_1362) (hs.1 0 (by decide)).1 (hs.1 0 (by decide)).2.1 (hs.2 0 17 rfl) ?_
      refine ea_iload_n (pc := 13) dX12_goings_13 rfl 1 rfl ?_
      obtain ⟨z2, E⟩ := gd_some E
      refine ea_iald (pc := 14) dX12_goings_14 (hs.1 13 (by decide)).1 (hs.1 13 (by decide)).2.1 (ea_vpl (hs.1 13 (by decide)).2.2 z2) ?_
      obtain ⟨z3, E⟩ := gd_some E
      refine ea_callV (pc := 15) (d' := d - 1) (As := [vI (ea_i h (b0 + 12) (Int32.toNatClampNeg x1)), vI (ea_i h (b0 + 13) (Int32.toNatClampNeg x1))]) (st := []) dX12_goings_15 kX12_townOf (sX12_townOf (d := d - 1) (by omega) hs z3) (by omega) rfl (Nat.le_of_ble_eq_true rfl) ew_1798 ew_1800 ew_60 (ci := 12) rfl (by decide) (hs.1 0 (by decide)).1 (hs.1 0 (by decide)).2.1 ?_
      refine ea_istore_n (pc := 18) (lv' := [(0, vR (some (b0 + 0))), (1, vI x1), (2, vI (ea_i h (b0 + 12) (Int32.toNatClampNeg x1))), (3, vI (vX12_townOf b0 ((ea_i h (b0 + 12) (Int32.toNatClampNeg x1)) : Int32) ((ea_i h (b0 + 13) (Int32.toNatClampNeg x1)) : Int32) h))]) dX12_goings_18 rfl (Nat.le_of_ble_eq_true rfl) [1, 2, 3, 0] rfl ?_
      refine ea_iconst (pc := 19) dX12_goings_19 (v := 0) rfl ?_
      refine ea_istore (pc := 20) (lv' := [(0, vR (some (b0 + 0))), (1, vI x1), (2, vI (ea_i h (b0 + 12) (Int32.toNatClampNeg x1))), (3, vI (vX12_townOf b0 ((ea_i h (b0 + 12) (Int32.toNatClampNeg x1)) : Int32) ((ea_i h (b0 + 13) (Int32.toNatClampNeg x1)) : Int32) h)), (4, vI 0)]) dX12_goings_20 (Nat.le_of_ble_eq_true rfl) [1, 2, 3, 4, 0] rfl ?_
      exact ((ih 22 0 (x1 : Int32) 0 0 0 ((ea_i h (b0 + 12) (Int32.toNatClampNeg x1)) : Int32) ((vX12_townOf b0 ((ea_i h (b0 + 12) (Int32.toNatClampNeg x1)) : Int32) ((ea_i h (b0 + 13) (Int32.toNatClampNeg x1)) : Int32) h) : Int32) (0 : Int32) 0 0 0 0 h _ _ E hs).2.1 rfl)
    refine ⟨?_, ?_⟩
    · intro el
      subst el
      have E := (if_neg (by decide)).symm.trans E
      have E := (if_pos rfl).symm.trans E
      refine ea_iload (pc := 22) dX12_goings_22 4 rfl ?_
      refine ea_aload_n (pc := 24) dX12_goings_24 rfl 0 rfl ?_
      refine ea_getI (pc := 25) dX12_goings_25 ec_12 (k := 1) (Nat.le_of_ble_eq_true rfl) rfl (Or.inl ew_1346) (hs.1 0 (by decide)).1 (hs.1 0 (by decide)).2.1 ?_
      refine ea_icmp_ge (pc := 28) (tgt := 298) dX12_goings_28 rfl (fun c15 => ?_) (fun c15 => ?_)
      · have E := (if_pos c15).symm.trans E
        refine ea_aload_n (pc := 298) dX12_goings_298 rfl 0 rfl ?_
        refine ea_getR (pc := 299) dX12_goings_299 ec_12 (k := 23) (Nat.le_of_ble_eq_true rfl) rfl (Or.inl ew_1368) (hs.1 0 (by decide)).1 (hs.1 0 (by decide)).2.1 (hs.2 0 23 rfl) ?_
        refine ea_iload_n (pc := 302) dX12_goings_302 rfl 1 rfl ?_
        refine ea_aload_n (pc := 303) dX12_goings_303 rfl 0 rfl ?_
        refine ea_getR (pc := 304) dX12_goings_304 ec_12 (k := 24) (Nat.le_of_ble_eq_true rfl) rfl (Or.inl ew_1369) (hs.1 0 (by decide)).1 (hs.1 0 (by decide)).2.1 (hs.2 0 24 rfl) ?_
        refine ea_iload_n (pc := 307) dX12_goings_307 rfl 3 rfl ?_
        obtain ⟨z4, E⟩ := gd_some E
        refine ea_iald (pc := 308) dX12_goings_308 (hs.1 20 (by decide)).1 (hs.1 20 (by decide)).2.1 (ea_vpl (hs.1 20 (by decide)).2.2 z4) ?_
        obtain ⟨z5, E⟩ := gd_some E
        refine ea_iast (pc := 309) dX12_goings_309 (hs.1 19 (by decide)).1 (hs.1 19 (by decide)).2.1 (ea_vpl (hs.1 19 (by decide)).2.2 z5) ?_
        have hs6 : ShM b0 (ea_wi h (b0 + 19) (Int32.toNatClampNeg x1) (ea_i h (b0 + 20) (Int32.toNatClampNeg x3))) := ShM_wi hs
        obtain ⟨H7, eH7, E⟩ := let_some E
        refine ea_nm eH7 ?_
        have hsH7 : ShM b0 H7 := by rw [eH7]; exact hs6
        refine ea_aload_n (pc := 310) dX12_goings_310 rfl 0 rfl ?_
        refine ea_getR (pc := 311) dX12_goings_311 ec_12 (k := 24) (Nat.le_of_ble_eq_true rfl) rfl (Or.inl ew_1369) (hsH7.1 0 (by decide)).1 (hsH7.1 0 (by decide)).2.1 (hsH7.2 0 24 rfl) ?_
        refine ea_iload_n (pc := 314) dX12_goings_314 rfl 3 rfl ?_
        refine ea_iload_n (pc := 315) dX12_goings_315 rfl 1 rfl ?_
        obtain ⟨z8, E⟩ := gd_some E
        refine ea_iast (pc := 316) dX12_goings_316 (hsH7.1 20 (by decide)).1 (hsH7.1 20 (by decide)).2.1 (ea_vpl (hsH7.1 20 (by decide)).2.2 z8) ?_
        have hs9 : ShM b0 (ea_wi H7 (b0 + 20) (Int32.toNatClampNeg x3) x1) := ShM_wi hsH7
        obtain ⟨H10, eH10, E⟩ := let_some E
        refine ea_nm eH10 ?_
        have hsH10 : ShM b0 H10 := by rw [eH10]; exact hs9
        refine ea_iconst (pc := 317) dX12_goings_317 (v := 0) rfl ?_
        refine ea_istore (pc := 318) (lv' := [(0, vR (some (b0 + 0))), (1, vI x1), (4, vI 0)]) dX12_goings_318 (Nat.le_of_ble_eq_true rfl) [1, 2, 0] rfl ?_
        exact ((ih 320 0 (x1 : Int32) 0 0 0 0 0 (0 : Int32) 0 0 0 0 H10 _ _ E hsH10).2.2.2.2.2.2.2.2.2.1 rfl)
      · have E := (if_neg c15).symm.trans E
        refine ea_bipush (pc := 31) dX12_goings_31 (v := 12) rfl ?_
        refine ea_iload_n (pc := 33) dX12_goings_33 rfl 1 rfl ?_
        refine ea_imul (pc := 34) dX12_goings_34 ?_
        refine ea_iload (pc := 35) dX12_goings_35 4 rfl ?_
        refine ea_iadd (pc := 37) dX12_goings_37 ?_
        refine ea_istore (pc := 38) (lv' := [(0, vR (some (b0 + 0))), (1, vI x1), (2, vI x2), (3, vI x3), (4, vI x4), (5, vI (((12 : Int32) * x1) + x4))]) dX12_goings_38 (Nat.le_of_ble_eq_true rfl) [1, 2, 3, 4, 5, 0] rfl ?_
        refine ea_aload_n (pc := 40) dX12_goings_40 rfl 0 rfl ?_
        refine ea_getR (pc := 41) dX12_goings_41 ec_12 (k := 19) (Nat.le_of_ble_eq_true rfl) rfl (Or.inl ew_1364) (hs.1 0 (by decide)).1 (hs.1 0 (by decide)).2.1 (hs.2 0 19 rfl) ?_
        refine ea_iload (pc := 44) dX12_goings_44 5 rfl ?_
        refine ea_ldcw (pc := 46) dX12_goings_46 ew_1727 ?_
        obtain ⟨z11, E⟩ := gd_some E
        refine ea_iast (pc := 49) dX12_goings_49 (hs.1 15 (by decide)).1 (hs.1 15 (by decide)).2.1 (ea_vpl (hs.1 15 (by decide)).2.2 z11) ?_
        have hs12 : ShM b0 (ea_wi h (b0 + 15) (Int32.toNatClampNeg (((12 : Int32) * x1) + x4)) 1000000) := ShM_wi hs
        obtain ⟨H13, eH13, E⟩ := let_some E
        refine ea_nm eH13 ?_
        have hsH13 : ShM b0 H13 := by rw [eH13]; exact hs12
        refine ea_aload_n (pc := 50) dX12_goings_50 rfl 0 rfl ?_
        refine ea_getR (pc := 51) dX12_goings_51 ec_12 (k := 17) (Nat.le_of_ble_eq_true rfl) rfl (Or.inl ew_1362) (hsH13.1 0 (by decide)).1 (hsH13.1 0 (by decide)).2.1 (hsH13.2 0 17 rfl) ?_
        refine ea_iload_n (pc := 54) dX12_goings_54 rfl 1 rfl ?_
        obtain ⟨z14, E⟩ := gd_some E
        refine ea_iald (pc := 55) dX12_goings_55 (hsH13.1 13 (by decide)).1 (hsH13.1 13 (by decide)).2.1 (ea_vpl (hsH13.1 13 (by decide)).2.2 z14) ?_
        refine ea_iconst (pc := 56) dX12_goings_56 (v := 1) rfl ?_
        refine ea_iadd (pc := 57) dX12_goings_57 ?_
        refine ea_istore (pc := 58) (lv' := [(0, vR (some (b0 + 0))), (1, vI x1), (2, vI x2), (3, vI x3), (4, vI x4), (5, vI (((12 : Int32) * x1) + x4)), (6, vI ((ea_i H13 (b0 + 13) (Int32.toNatClampNeg x1)) + (1 : Int32)))]) dX12_goings_58 (Nat.le_of_ble_eq_true rfl) [1, 2, 3, 4, 5, 6, 0] rfl ?_
        exact ((ih 60 0 (x1 : Int32) 0 0 0 (x2 : Int32) (x3 : Int32) (x4 : Int32) ((((12 : Int32) * x1) + x4) : Int32) (((ea_i H13 (b0 + 13) (Int32.toNatClampNeg x1)) + (1 : Int32)) : Int32) 0 0 H13 _ _ E hsH13).2.2.1 rfl)
    refine ⟨?_, ?_⟩
    · intro el
      subst el
      have E := (if_neg (by decide)).symm.trans E
      have E := (if_neg (by decide)).symm.trans E
      have E := (if_pos rfl).symm.trans E
      refine ea_iload (pc := 60) dX12_goings_60 6 rfl ?_
      refine ea_aload_n (pc := 62) dX12_goings_62 rfl 0 rfl ?_
      refine ea_getR (pc := 63) dX12_goings_63 ec_12 (k := 4) (Nat.le_of_ble_eq_true rfl) rfl (Or.inl ew_1349) (hs.1 0 (by decide)).1 (hs.1 0 (by decide)).2.1 (hs.2 0 4 rfl) ?_
      refine ea_iload_n (pc := 66) dX12_goings_66 rfl 2 rfl ?_
      refine ea_bipush (pc := 67) dX12_goings_67 (v := 7) rfl ?_
      refine ea_idiv (pc := 69) dX12_goings_69 (by decide) ?_
      obtain ⟨z16, E⟩ := gd_some E
      refine ea_iald (pc := 70) dX12_goings_70 (hs.1 2 (by decide)).1 (hs.1 2 (by decide)).2.1 (ea_vpl (hs.1 2 (by decide)).2.2 z16) ?_
      refine ea_icmp_ge (pc := 71) (tgt := 292) dX12_goings_71 rfl (fun c24 => ?_) (fun c24 => ?_)
      · have E := (if_pos c24).symm.trans E
        refine ea_iinc (pc := 292) (v := 1) (lv' := [(0, vR (some (b0 + 0))), (1, vI x1), (2, vI x2), (3, vI x3), (4, vI (x4 + (1 : Int32)))]) dX12_goings_292 4 rfl rfl (Nat.le_of_ble_eq_true rfl) [1, 2, 3, 4, 0] rfl ?_
        refine ea_goto (pc := 295) (tgt := 22) dX12_goings_295 rfl ?_
        exact ((ih 22 0 (x1 : Int32) 0 0 0 (x2 : Int32) (x3 : Int32) ((x4 + (1 : Int32)) : Int32) 0 0 0 0 h _ _ E hs).2.1 rfl)
      · have E := (if_neg c24).symm.trans E
        refine ea_aload_n (pc := 74) dX12_goings_74 rfl 0 rfl ?_
        refine ea_iload_n (pc := 75) dX12_goings_75 rfl 2 rfl ?_
        refine ea_iload (pc := 76) dX12_goings_76 6 rfl ?_
        obtain ⟨z17, E⟩ := gd_some E
        refine ea_callV (pc := 78) (d' := d - 1) (As := [vI x2, vI x6]) (st := []) dX12_goings_78 kX12_comesAt (sX12_comesAt (d := d - 1) (by omega) hs z17) (by omega) rfl (Nat.le_of_ble_eq_true rfl) ew_1762 ew_1764 ew_52 (ci := 12) rfl (by decide) (hs.1 0 (by decide)).1 (hs.1 0 (by decide)).2.1 ?_
        refine ea_istore (pc := 81) (lv' := [(0, vR (some (b0 + 0))), (1, vI x1), (2, vI x2), (3, vI x3), (4, vI x4), (5, vI x5), (6, vI x6), (7, vI (vX12_comesAt b0 (x2 : Int32) (x6 : Int32) h))]) dX12_goings_81 (Nat.le_of_ble_eq_true rfl) [1, 2, 3, 4, 5, 6, 7, 0] rfl ?_
        refine ea_iload (pc := 83) dX12_goings_83 7 rfl ?_
        refine ea_sipush (pc := 85) dX12_goings_85 (v := 10079) rfl ?_
        refine ea_icmp_le (pc := 88) (tgt := 94) dX12_goings_88 rfl (fun c23 => ?_) (fun c23 => ?_)
        · have E := (if_pos c23).symm.trans E
          refine ea_aload_n (pc := 94) dX12_goings_94 rfl 0 rfl ?_
          refine ea_iload_n (pc := 95) dX12_goings_95 rfl 2 rfl ?_
          refine ea_iload (pc := 96) dX12_goings_96 6 rfl ?_
          obtain ⟨z18, E⟩ := gd_some E
          refine ea_callV (pc := 98) (d' := d - 1) (As := [vI x2, vI x6]) (st := []) dX12_goings_98 kX12_townOf (sX12_townOf (d := d - 1) (by omega) hs z18) (by omega) rfl (Nat.le_of_ble_eq_true rfl) ew_1798 ew_1800 ew_60 (ci := 12) rfl (by decide) (hs.1 0 (by decide)).1 (hs.1 0 (by decide)).2.1 ?_
          refine ea_istore (pc := 101) (lv' := [(0, vR (some (b0 + 0))), (1, vI x1), (2, vI x2), (3, vI x3), (4, vI x4), (5, vI x5), (6, vI x6), (7, vI (vX12_comesAt b0 (x2 : Int32) (x6 : Int32) h)), (8, vI (vX12_townOf b0 (x2 : Int32) (x6 : Int32) h))]) dX12_goings_101 (Nat.le_of_ble_eq_true rfl) [1, 2, 3, 4, 5, 6, 7, 8, 0] rfl ?_
          refine ea_iload (pc := 103) dX12_goings_103 8 rfl ?_
          refine ea_iload (pc := 105) dX12_goings_105 4 rfl ?_
          refine ea_icmp_ne (pc := 107) (tgt := 114) dX12_goings_107 rfl (fun c22 => ?_) (fun c22 => ?_)
          · have E := (if_neg c22).symm.trans E
            refine ea_aload_n (pc := 114) dX12_goings_114 rfl 0 rfl ?_
            refine ea_iload (pc := 115) dX12_goings_115 8 rfl ?_
            refine ea_iload (pc := 117) dX12_goings_117 7 rfl ?_
            obtain ⟨z19, E⟩ := gd_some E
            refine ea_callV (pc := 119) (d' := d - 1) (As := [vI (vX12_townOf b0 (x2 : Int32) (x6 : Int32) h), vI (vX12_comesAt b0 (x2 : Int32) (x6 : Int32) h)]) (st := []) dX12_goings_119 kX12_going (sX12_going (d := d - 1) (by omega) hs z19) (by omega) rfl (Nat.le_of_ble_eq_true rfl) ew_1802 ew_1804 ew_61 (ci := 12) rfl (by decide) (hs.1 0 (by decide)).1 (hs.1 0 (by decide)).2.1 ?_
            have hs20 : ShM b0 (wX12_going b0 ((vX12_townOf b0 (x2 : Int32) (x6 : Int32) h) : Int32) ((vX12_comesAt b0 (x2 : Int32) (x6 : Int32) h) : Int32) h) := shX12_going hs
            obtain ⟨H21, eH21, E⟩ := let_some E
            refine ea_nm eH21 ?_
            have hsH21 : ShM b0 H21 := by rw [eH21]; exact hs20
            exact ((ih 122 ((vX12_going b0 ((vX12_townOf b0 (x2 : Int32) (x6 : Int32) h) : Int32) ((vX12_comesAt b0 (x2 : Int32) (x6 : Int32) h) : Int32) h) : Int32) (x1 : Int32) 0 0 0 (x2 : Int32) (x3 : Int32) (x4 : Int32) (x5 : Int32) (x6 : Int32) ((vX12_comesAt b0 (x2 : Int32) (x6 : Int32) h) : Int32) ((vX12_townOf b0 (x2 : Int32) (x6 : Int32) h) : Int32) H21 _ _ E hsH21).2.2.2.1 rfl)
          · have E := (if_pos c22).symm.trans E
            refine ea_iconst (pc := 110) dX12_goings_110 (v := (-1)) rfl ?_
            refine ea_goto (pc := 111) (tgt := 122) dX12_goings_111 rfl ?_
            exact ((ih 122 ((-1) : Int32) (x1 : Int32) 0 0 0 (x2 : Int32) (x3 : Int32) (x4 : Int32) (x5 : Int32) (x6 : Int32) ((vX12_comesAt b0 (x2 : Int32) (x6 : Int32) h) : Int32) ((vX12_townOf b0 (x2 : Int32) (x6 : Int32) h) : Int32) h _ _ E hs).2.2.2.1 rfl)
        · have E := (if_neg c23).symm.trans E
          refine ea_goto (pc := 91) (tgt := 292) dX12_goings_91 rfl ?_
          refine ea_iinc (pc := 292) (v := 1) (lv' := [(0, vR (some (b0 + 0))), (1, vI x1), (2, vI x2), (3, vI x3), (4, vI (x4 + (1 : Int32)))]) dX12_goings_292 4 rfl rfl (Nat.le_of_ble_eq_true rfl) [1, 2, 3, 4, 0] rfl ?_
          refine ea_goto (pc := 295) (tgt := 22) dX12_goings_295 rfl ?_
          exact ((ih 22 0 (x1 : Int32) 0 0 0 (x2 : Int32) (x3 : Int32) ((x4 + (1 : Int32)) : Int32) 0 0 0 0 h _ _ E hs).2.1 rfl)
    refine ⟨?_, ?_⟩
    · intro el
      subst el
      have E := (if_neg (by decide)).symm.trans E
      have E := (if_neg (by decide)).symm.trans E
      have E := (if_neg (by decide)).symm.trans E
      have E := (if_pos rfl).symm.trans E
      refine ea_istore (pc := 122) (lv' := [(0, vR (some (b0 + 0))), (1, vI x1), (2, vI x2), (3, vI x3), (4, vI x4), (5, vI x5), (6, vI x6), (7, vI x7), (8, vI x8), (9, vI sx0)]) dX12_goings_122 (Nat.le_of_ble_eq_true rfl) [1, 2, 3, 4, 5, 6, 7, 8, 9, 0] rfl ?_
      refine ea_iload (pc := 124) dX12_goings_124 9 rfl ?_
      refine ea_iconst (pc := 126) dX12_goings_126 (v := (-1)) rfl ?_
      refine ea_icmp_ne (pc := 127) (tgt := 134) dX12_goings_127 rfl (fun c26 => ?_) (fun c26 => ?_)
      · have E := (if_neg c26).symm.trans E
        refine ea_aload_n (pc := 134) dX12_goings_134 rfl 0 rfl ?_
        refine ea_getR (pc := 135) dX12_goings_135 ec_12 (k := 22) (Nat.le_of_ble_eq_true rfl) rfl (Or.inl ew_1367) (hs.1 0 (by decide)).1 (hs.1 0 (by decide)).2.1 (hs.2 0 22 rfl) ?_
        refine ea_bipush (pc := 138) dX12_goings_138 (v := 12) rfl ?_
        refine ea_iload (pc := 140) dX12_goings_140 9 rfl ?_
        refine ea_imul (pc := 142) dX12_goings_142 ?_
        refine ea_iload (pc := 143) dX12_goings_143 4 rfl ?_
        refine ea_iadd (pc := 145) dX12_goings_145 ?_
        obtain ⟨z25, E⟩ := gd_some E
        refine ea_iald (pc := 146) dX12_goings_146 (hs.1 18 (by decide)).1 (hs.1 18 (by decide)).2.1 (ea_vpl (hs.1 18 (by decide)).2.2 z25) ?_
        exact (ea_fewer [0, 1, 2, 3, 4, 5, 6, 7, 8] rfl ((ih 147 ((ea_i h (b0 + 18) (Int32.toNatClampNeg (((12 : Int32) * sx0) + x4))) : Int32) (x1 : Int32) 0 0 0 (x2 : Int32) (x3 : Int32) (x4 : Int32) (x5 : Int32) (x6 : Int32) (x7 : Int32) (x8 : Int32) h _ _ E hs).2.2.2.2.1 rfl))
      · have E := (if_pos c26).symm.trans E
        refine ea_iconst (pc := 130) dX12_goings_130 (v := (-1)) rfl ?_
        refine ea_goto (pc := 131) (tgt := 147) dX12_goings_131 rfl ?_
        exact (ea_fewer [0, 1, 2, 3, 4, 5, 6, 7, 8] rfl ((ih 147 ((-1) : Int32) (x1 : Int32) 0 0 0 (x2 : Int32) (x3 : Int32) (x4 : Int32) (x5 : Int32) (x6 : Int32) (x7 : Int32) (x8 : Int32) h _ _ E hs).2.2.2.2.1 rfl))
    refine ⟨?_, ?_⟩
    · intro el
      subst el
      have E := (if_neg (by decide)).symm.trans E
      have E := (if_neg (by decide)).symm.trans E
      have E := (if_neg (by decide)).symm.trans E
      have E := (if_neg (by decide)).symm.trans E
      have E := (if_pos rfl).symm.trans E
      refine ea_istore (pc := 147) (lv' := [(0, vR (some (b0 + 0))), (1, vI x1), (2, vI x2), (3, vI x3), (4, vI x4), (5, vI x5), (6, vI x6), (7, vI x7), (8, vI x8), (10, vI sx0)]) dX12_goings_147 (Nat.le_of_ble_eq_true rfl) [1, 2, 3, 4, 5, 6, 7, 8, 9, 0] rfl ?_
      refine ea_iload (pc := 149) dX12_goings_149 8 rfl ?_
      refine ea_iload (pc := 151) dX12_goings_151 4 rfl ?_
      refine ea_icmp_eq (pc := 153) (tgt := 165) dX12_goings_153 rfl (fun c28 => ?_) (fun c28 => ?_)
      · have E := (if_pos c28).symm.trans E
        exact ((ih 165 0 (x1 : Int32) (sx0 : Int32) 0 0 (x2 : Int32) (x3 : Int32) (x4 : Int32) (x5 : Int32) (x6 : Int32) (x7 : Int32) (x8 : Int32) h _ _ E hs).2.2.2.2.2.1 rfl)
      · have E := (if_neg c28).symm.trans E
        refine ea_iload (pc := 156) dX12_goings_156 9 rfl ?_
        refine ea_iconst (pc := 158) dX12_goings_158 (v := (-1)) rfl ?_
        refine ea_icmp_ne (pc := 159) (tgt := 165) dX12_goings_159 rfl (fun c27 => ?_) (fun c27 => ?_)
        · have E := (if_neg c27).symm.trans E
          exact ((ih 165 0 (x1 : Int32) (sx0 : Int32) 0 0 (x2 : Int32) (x3 : Int32) (x4 : Int32) (x5 : Int32) (x6 : Int32) (x7 : Int32) (x8 : Int32) h _ _ E hs).2.2.2.2.2.1 rfl)
        · have E := (if_pos c27).symm.trans E
          refine ea_goto (pc := 162) (tgt := 286) dX12_goings_162 rfl ?_
          refine ea_iinc (pc := 286) (v := 1) (lv' := [(0, vR (some (b0 + 0))), (1, vI x1), (2, vI x2), (3, vI x3), (4, vI x4), (5, vI x5), (6, vI (x6 + (1 : Int32)))]) dX12_goings_286 6 rfl rfl (Nat.le_of_ble_eq_true rfl) [1, 2, 3, 4, 5, 6, 0] rfl ?_
          refine ea_goto (pc := 289) (tgt := 60) dX12_goings_289 rfl ?_
          exact ((ih 60 0 (x1 : Int32) 0 0 0 (x2 : Int32) (x3 : Int32) (x4 : Int32) (x5 : Int32) ((x6 + (1 : Int32)) : Int32) 0 0 h _ _ E hs).2.2.1 rfl)
    refine ⟨?_, ?_⟩
    · intro el
      subst el
      have E := (if_neg (by decide)).symm.trans E
      have E := (if_neg (by decide)).symm.trans E
      have E := (if_neg (by decide)).symm.trans E
      have E := (if_neg (by decide)).symm.trans E
      have E := (if_neg (by decide)).symm.trans E
      have E := (if_pos rfl).symm.trans E
      refine ea_iload (pc := 165) dX12_goings_165 8 rfl ?_
      refine ea_iload (pc := 167) dX12_goings_167 4 rfl ?_
      refine ea_icmp_ne (pc := 169) (tgt := 177) dX12_goings_169 rfl (fun c30 => ?_) (fun c30 => ?_)
      · have E := (if_neg c30).symm.trans E
        refine ea_aload_n (pc := 177) dX12_goings_177 rfl 0 rfl ?_
        refine ea_getR (pc := 178) dX12_goings_178 ec_12 (k := 19) (Nat.le_of_ble_eq_true rfl) rfl (Or.inl ew_1364) (hs.1 0 (by decide)).1 (hs.1 0 (by decide)).2.1 (hs.2 0 19 rfl) ?_
        refine ea_bipush (pc := 181) dX12_goings_181 (v := 12) rfl ?_
        refine ea_iload (pc := 183) dX12_goings_183 9 rfl ?_
        refine ea_imul (pc := 185) dX12_goings_185 ?_
        refine ea_iload (pc := 186) dX12_goings_186 4 rfl ?_
        refine ea_iadd (pc := 188) dX12_goings_188 ?_
        obtain ⟨z29, E⟩ := gd_some E
        refine ea_iald (pc := 189) dX12_goings_189 (hs.1 15 (by decide)).1 (hs.1 15 (by decide)).2.1 (ea_vpl (hs.1 15 (by decide)).2.2 z29) ?_
        exact (ea_fewer [0, 1, 2, 3, 4, 5, 6, 8, 9] rfl ((ih 190 ((ea_i h (b0 + 15) (Int32.toNatClampNeg (((12 : Int32) * x10) + x4))) : Int32) (x1 : Int32) (x10 : Int32) 0 0 (x2 : Int32) (x3 : Int32) (x4 : Int32) (x5 : Int32) (x6 : Int32) 0 (x8 : Int32) h _ _ E hs).2.2.2.2.2.2.1 rfl))
      · have E := (if_pos c30).symm.trans E
        refine ea_iload (pc := 172) dX12_goings_172 7 rfl ?_
        refine ea_goto (pc := 174) (tgt := 190) dX12_goings_174 rfl ?_
        exact (ea_fewer [0, 1, 2, 3, 4, 5, 6, 8, 9] rfl ((ih 190 (x7 : Int32) (x1 : Int32) (x10 : Int32) 0 0 (x2 : Int32) (x3 : Int32) (x4 : Int32) (x5 : Int32) (x6 : Int32) 0 (x8 : Int32) h _ _ E hs).2.2.2.2.2.2.1 rfl))
    refine ⟨?_, ?_⟩
    · intro el
      subst el
      have E := (if_neg (by decide)).symm.trans E
      have E := (if_neg (by decide)).symm.trans E
      have E := (if_neg (by decide)).symm.trans E
      have E := (if_neg (by decide)).symm.trans E
      have E := (if_neg (by decide)).symm.trans E
      have E := (if_neg (by decide)).symm.trans E
      have E := (if_pos rfl).symm.trans E
      refine ea_istore (pc := 190) (lv' := [(0, vR (some (b0 + 0))), (1, vI x1), (2, vI x2), (3, vI x3), (4, vI x4), (5, vI x5), (6, vI x6), (8, vI x8), (10, vI x10), (11, vI sx0)]) dX12_goings_190 (Nat.le_of_ble_eq_true rfl) [1, 2, 3, 4, 5, 6, 7, 8, 9, 0] rfl ?_
      refine ea_iload (pc := 192) dX12_goings_192 7 rfl ?_
      refine ea_iload (pc := 194) dX12_goings_194 4 rfl ?_
      refine ea_icmp_ne (pc := 196) (tgt := 203) dX12_goings_196 rfl (fun c32 => ?_) (fun c32 => ?_)
      · have E := (if_neg c32).symm.trans E
        refine ea_aload_n (pc := 203) dX12_goings_203 rfl 0 rfl ?_
        refine ea_getR (pc := 204) dX12_goings_204 ec_12 (k := 20) (Nat.le_of_ble_eq_true rfl) rfl (Or.inl ew_1365) (hs.1 0 (by decide)).1 (hs.1 0 (by decide)).2.1 (hs.2 0 20 rfl) ?_
        refine ea_bipush (pc := 207) dX12_goings_207 (v := 12) rfl ?_
        refine ea_iload (pc := 209) dX12_goings_209 8 rfl ?_
        refine ea_imul (pc := 211) dX12_goings_211 ?_
        refine ea_iload (pc := 212) dX12_goings_212 4 rfl ?_
        refine ea_iadd (pc := 214) dX12_goings_214 ?_
        obtain ⟨z31, E⟩ := gd_some E
        refine ea_iald (pc := 215) dX12_goings_215 (hs.1 16 (by decide)).1 (hs.1 16 (by decide)).2.1 (ea_vpl (hs.1 16 (by decide)).2.2 z31) ?_
        refine ea_iconst (pc := 216) dX12_goings_216 (v := 1) rfl ?_
        refine ea_iadd (pc := 217) dX12_goings_217 ?_
        exact (ea_fewer [0, 1, 2, 3, 4, 5, 6, 9] rfl ((ih 218 (((ea_i h (b0 + 16) (Int32.toNatClampNeg (((12 : Int32) * x10) + x4))) + (1 : Int32)) : Int32) (x1 : Int32) 0 (sx0 : Int32) 0 (x2 : Int32) (x3 : Int32) (x4 : Int32) (x5 : Int32) (x6 : Int32) 0 0 h _ _ E hs).2.2.2.2.2.2.2.1 rfl))
      · have E := (if_pos c32).symm.trans E
        refine ea_iconst (pc := 199) dX12_goings_199 (v := 1) rfl ?_
        refine ea_goto (pc := 200) (tgt := 218) dX12_goings_200 rfl ?_
        exact (ea_fewer [0, 1, 2, 3, 4, 5, 6, 9] rfl ((ih 218 (1 : Int32) (x1 : Int32) 0 (sx0 : Int32) 0 (x2 : Int32) (x3 : Int32) (x4 : Int32) (x5 : Int32) (x6 : Int32) 0 0 h _ _ E hs).2.2.2.2.2.2.2.1 rfl))
    refine ⟨?_, ?_⟩
    · intro el
      subst el
      have E := (if_neg (by decide)).symm.trans E
      have E := (if_neg (by decide)).symm.trans E
      have E := (if_neg (by decide)).symm.trans E
      have E := (if_neg (by decide)).symm.trans E
      have E := (if_neg (by decide)).symm.trans E
      have E := (if_neg (by decide)).symm.trans E
      have E := (if_neg (by decide)).symm.trans E
      have E := (if_pos rfl).symm.trans E
      refine ea_istore (pc := 218) (lv' := [(0, vR (some (b0 + 0))), (1, vI x1), (2, vI x2), (3, vI x3), (4, vI x4), (5, vI x5), (6, vI x6), (11, vI x11), (12, vI sx0)]) dX12_goings_218 (Nat.le_of_ble_eq_true rfl) [1, 2, 3, 4, 5, 6, 7, 8, 0] rfl ?_
      refine ea_iload (pc := 220) dX12_goings_220 7 rfl ?_
      refine ea_aload_n (pc := 222) dX12_goings_222 rfl 0 rfl ?_
      refine ea_getR (pc := 223) dX12_goings_223 ec_12 (k := 19) (Nat.le_of_ble_eq_true rfl) rfl (Or.inl ew_1364) (hs.1 0 (by decide)).1 (hs.1 0 (by decide)).2.1 (hs.2 0 19 rfl) ?_
      refine ea_iload (pc := 226) dX12_goings_226 5 rfl ?_
      obtain ⟨z33, E⟩ := gd_some E
      refine ea_iald (pc := 228) dX12_goings_228 (hs.1 15 (by decide)).1 (hs.1 15 (by decide)).2.1 (ea_vpl (hs.1 15 (by decide)).2.2 z33) ?_
      refine ea_icmp_gt (pc := 229) (tgt := 286) dX12_goings_229 rfl (fun c38 => ?_) (fun c38 => ?_)
      · have E := (if_pos c38).symm.trans E
        refine ea_iinc (pc := 286) (v := 1) (lv' := [(0, vR (some (b0 + 0))), (1, vI x1), (2, vI x2), (3, vI x3), (4, vI x4), (5, vI x5), (6, vI (x6 + (1 : Int32)))]) dX12_goings_286 6 rfl rfl (Nat.le_of_ble_eq_true rfl) [1, 2, 3, 4, 5, 6, 0] rfl ?_
        refine ea_goto (pc := 289) (tgt := 60) dX12_goings_289 rfl ?_
        exact ((ih 60 0 (x1 : Int32) 0 0 0 (x2 : Int32) (x3 : Int32) (x4 : Int32) (x5 : Int32) ((x6 + (1 : Int32)) : Int32) 0 0 h _ _ E hs).2.2.1 rfl)
      · have E := (if_neg c38).symm.trans E
        refine ea_iload (pc := 232) dX12_goings_232 7 rfl ?_
        refine ea_aload_n (pc := 234) dX12_goings_234 rfl 0 rfl ?_
        refine ea_getR (pc := 235) dX12_goings_235 ec_12 (k := 19) (Nat.le_of_ble_eq_true rfl) rfl (Or.inl ew_1364) (hs.1 0 (by decide)).1 (hs.1 0 (by decide)).2.1 (hs.2 0 19 rfl) ?_
        refine ea_iload (pc := 238) dX12_goings_238 5 rfl ?_
        obtain ⟨z34, E⟩ := gd_some E
        refine ea_iald (pc := 240) dX12_goings_240 (hs.1 15 (by decide)).1 (hs.1 15 (by decide)).2.1 (ea_vpl (hs.1 15 (by decide)).2.2 z34) ?_
        refine ea_icmp_ne (pc := 241) (tgt := 259) dX12_goings_241 rfl (fun c37 => ?_) (fun c37 => ?_)
        · have E := (if_neg c37).symm.trans E
          exact ((ih 259 0 (x1 : Int32) 0 (x11 : Int32) (sx0 : Int32) (x2 : Int32) (x3 : Int32) (x4 : Int32) (x5 : Int32) (x6 : Int32) 0 0 h _ _ E hs).2.2.2.2.2.2.2.2.1 rfl)
        · have E := (if_pos c37).symm.trans E
          refine ea_iload (pc := 244) dX12_goings_244 8 rfl ?_
          refine ea_aload_n (pc := 246) dX12_goings_246 rfl 0 rfl ?_
          refine ea_getR (pc := 247) dX12_goings_247 ec_12 (k := 20) (Nat.le_of_ble_eq_true rfl) rfl (Or.inl ew_1365) (hs.1 0 (by decide)).1 (hs.1 0 (by decide)).2.1 (hs.2 0 20 rfl) ?_
          refine ea_iload (pc := 250) dX12_goings_250 5 rfl ?_
          obtain ⟨z35, E⟩ := gd_some E
          refine ea_iald (pc := 252) dX12_goings_252 (hs.1 16 (by decide)).1 (hs.1 16 (by decide)).2.1 (ea_vpl (hs.1 16 (by decide)).2.2 z35) ?_
          refine ea_icmp_lt (pc := 253) (tgt := 259) dX12_goings_253 rfl (fun c36 => ?_) (fun c36 => ?_)
          · have E := (if_pos c36).symm.trans E
            exact ((ih 259 0 (x1 : Int32) 0 (x11 : Int32) (sx0 : Int32) (x2 : Int32) (x3 : Int32) (x4 : Int32) (x5 : Int32) (x6 : Int32) 0 0 h _ _ E hs).2.2.2.2.2.2.2.2.1 rfl)
          · have E := (if_neg c36).symm.trans E
            refine ea_goto (pc := 256) (tgt := 286) dX12_goings_256 rfl ?_
            refine ea_iinc (pc := 286) (v := 1) (lv' := [(0, vR (some (b0 + 0))), (1, vI x1), (2, vI x2), (3, vI x3), (4, vI x4), (5, vI x5), (6, vI (x6 + (1 : Int32)))]) dX12_goings_286 6 rfl rfl (Nat.le_of_ble_eq_true rfl) [1, 2, 3, 4, 5, 6, 0] rfl ?_
            refine ea_goto (pc := 289) (tgt := 60) dX12_goings_289 rfl ?_
            exact ((ih 60 0 (x1 : Int32) 0 0 0 (x2 : Int32) (x3 : Int32) (x4 : Int32) (x5 : Int32) ((x6 + (1 : Int32)) : Int32) 0 0 h _ _ E hs).2.2.1 rfl)
    refine ⟨?_, ?_⟩
    · intro el
      subst el
      have E := (if_neg (by decide)).symm.trans E
      have E := (if_neg (by decide)).symm.trans E
      have E := (if_neg (by decide)).symm.trans E
      have E := (if_neg (by decide)).symm.trans E
      have E := (if_neg (by decide)).symm.trans E
      have E := (if_neg (by decide)).symm.trans E
      have E := (if_neg (by decide)).symm.trans E
      have E := (if_neg (by decide)).symm.trans E
      have E := (if_pos rfl).symm.trans E
      refine ea_aload_n (pc := 259) dX12_goings_259 rfl 0 rfl ?_
      refine ea_getR (pc := 260) dX12_goings_260 ec_12 (k := 19) (Nat.le_of_ble_eq_true rfl) rfl (Or.inl ew_1364) (hs.1 0 (by decide)).1 (hs.1 0 (by decide)).2.1 (hs.2 0 19 rfl) ?_
      refine ea_iload (pc := 263) dX12_goings_263 5 rfl ?_
      refine ea_iload (pc := 265) dX12_goings_265 7 rfl ?_
      obtain ⟨z39, E⟩ := gd_some E
      refine ea_iast (pc := 267) dX12_goings_267 (hs.1 15 (by decide)).1 (hs.1 15 (by decide)).2.1 (ea_vpl (hs.1 15 (by decide)).2.2 z39) ?_
      have hs40 : ShM b0 (ea_wi h (b0 + 15) (Int32.toNatClampNeg x5) x11) := ShM_wi hs
      obtain ⟨H41, eH41, E⟩ := let_some E
      refine ea_nm eH41 ?_
      have hsH41 : ShM b0 H41 := by rw [eH41]; exact hs40
      refine ea_aload_n (pc := 268) dX12_goings_268 rfl 0 rfl ?_
      refine ea_getR (pc := 269) dX12_goings_269 ec_12 (k := 20) (Nat.le_of_ble_eq_true rfl) rfl (Or.inl ew_1365) (hsH41.1 0 (by decide)).1 (hsH41.1 0 (by decide)).2.1 (hsH41.2 0 20 rfl) ?_
      refine ea_iload (pc := 272) dX12_goings_272 5 rfl ?_
      refine ea_iload (pc := 274) dX12_goings_274 8 rfl ?_
      obtain ⟨z42, E⟩ := gd_some E
      refine ea_iast (pc := 276) dX12_goings_276 (hsH41.1 16 (by decide)).1 (hsH41.1 16 (by decide)).2.1 (ea_vpl (hsH41.1 16 (by decide)).2.2 z42) ?_
      have hs43 : ShM b0 (ea_wi H41 (b0 + 16) (Int32.toNatClampNeg x5) x12) := ShM_wi hsH41
      obtain ⟨H44, eH44, E⟩ := let_some E
      refine ea_nm eH44 ?_
      have hsH44 : ShM b0 H44 := by rw [eH44]; exact hs43
      refine ea_aload_n (pc := 277) dX12_goings_277 rfl 0 rfl ?_
      refine ea_getR (pc := 278) dX12_goings_278 ec_12 (k := 21) (Nat.le_of_ble_eq_true rfl) rfl (Or.inl ew_1366) (hsH44.1 0 (by decide)).1 (hsH44.1 0 (by decide)).2.1 (hsH44.2 0 21 rfl) ?_
      refine ea_iload (pc := 281) dX12_goings_281 5 rfl ?_
      refine ea_iload (pc := 283) dX12_goings_283 6 rfl ?_
      obtain ⟨z45, E⟩ := gd_some E
      refine ea_iast (pc := 285) dX12_goings_285 (hsH44.1 17 (by decide)).1 (hsH44.1 17 (by decide)).2.1 (ea_vpl (hsH44.1 17 (by decide)).2.2 z45) ?_
      have hs46 : ShM b0 (ea_wi H44 (b0 + 17) (Int32.toNatClampNeg x5) x6) := ShM_wi hsH44
      obtain ⟨H47, eH47, E⟩ := let_some E
      refine ea_nm eH47 ?_
      have hsH47 : ShM b0 H47 := by rw [eH47]; exact hs46
      refine ea_iinc (pc := 286) (v := 1) (lv' := [(0, vR (some (b0 + 0))), (1, vI x1), (2, vI x2), (3, vI x3), (4, vI x4), (5, vI x5), (6, vI (x6 + (1 : Int32)))]) dX12_goings_286 6 rfl rfl (Nat.le_of_ble_eq_true rfl) [1, 2, 3, 4, 5, 6, 0] rfl ?_
      refine ea_goto (pc := 289) (tgt := 60) dX12_goings_289 rfl ?_
      exact ((ih 60 0 (x1 : Int32) 0 0 0 (x2 : Int32) (x3 : Int32) (x4 : Int32) (x5 : Int32) ((x6 + (1 : Int32)) : Int32) 0 0 H47 _ _ E hsH47).2.2.1 rfl)
    refine ⟨?_, ?_⟩
    · intro el
      subst el
      have E := (if_neg (by decide)).symm.trans E
      have E := (if_neg (by decide)).symm.trans E
      have E := (if_neg (by decide)).symm.trans E
      have E := (if_neg (by decide)).symm.trans E
      have E := (if_neg (by decide)).symm.trans E
      have E := (if_neg (by decide)).symm.trans E
      have E := (if_neg (by decide)).symm.trans E
      have E := (if_neg (by decide)).symm.trans E
      have E := (if_neg (by decide)).symm.trans E
      have E := (if_pos rfl).symm.trans E
      refine ea_iload (pc := 320) dX12_goings_320 2 rfl ?_
      refine ea_aload_n (pc := 322) dX12_goings_322 rfl 0 rfl ?_
      refine ea_getI (pc := 323) dX12_goings_323 ec_12 (k := 1) (Nat.le_of_ble_eq_true rfl) rfl (Or.inl ew_1346) (hs.1 0 (by decide)).1 (hs.1 0 (by decide)).2.1 ?_
      refine ea_icmp_ge (pc := 326) (tgt := 427) dX12_goings_326 rfl (fun c52 => ?_) (fun c52 => ?_)
      · have E := (if_pos c52).symm.trans E
        exact ea_vretO (pc := 427) dX12_goings_427 rfl E
      · have E := (if_neg c52).symm.trans E
        refine ea_aload_n (pc := 329) dX12_goings_329 rfl 0 rfl ?_
        refine ea_getR (pc := 330) dX12_goings_330 ec_12 (k := 23) (Nat.le_of_ble_eq_true rfl) rfl (Or.inl ew_1368) (hs.1 0 (by decide)).1 (hs.1 0 (by decide)).2.1 (hs.2 0 23 rfl) ?_
        refine ea_iload_n (pc := 333) dX12_goings_333 rfl 1 rfl ?_
        obtain ⟨z48, E⟩ := gd_some E
        refine ea_iald (pc := 334) dX12_goings_334 (hs.1 19 (by decide)).1 (hs.1 19 (by decide)).2.1 (ea_vpl (hs.1 19 (by decide)).2.2 z48) ?_
        refine ea_iconst (pc := 335) dX12_goings_335 (v := (-1)) rfl ?_
        refine ea_icmp_ne (pc := 336) (tgt := 343) dX12_goings_336 rfl (fun c51 => ?_) (fun c51 => ?_)
        · have E := (if_neg c51).symm.trans E
          refine ea_aload_n (pc := 343) dX12_goings_343 rfl 0 rfl ?_
          refine ea_getR (pc := 344) dX12_goings_344 ec_12 (k := 22) (Nat.le_of_ble_eq_true rfl) rfl (Or.inl ew_1367) (hs.1 0 (by decide)).1 (hs.1 0 (by decide)).2.1 (hs.2 0 22 rfl) ?_
          refine ea_bipush (pc := 347) dX12_goings_347 (v := 12) rfl ?_
          refine ea_aload_n (pc := 349) dX12_goings_349 rfl 0 rfl ?_
          refine ea_getR (pc := 350) dX12_goings_350 ec_12 (k := 23) (Nat.le_of_ble_eq_true rfl) rfl (Or.inl ew_1368) (hs.1 0 (by decide)).1 (hs.1 0 (by decide)).2.1 (hs.2 0 23 rfl) ?_
          refine ea_iload_n (pc := 353) dX12_goings_353 rfl 1 rfl ?_
          obtain ⟨z49, E⟩ := gd_some E
          refine ea_iald (pc := 354) dX12_goings_354 (hs.1 19 (by decide)).1 (hs.1 19 (by decide)).2.1 (ea_vpl (hs.1 19 (by decide)).2.2 z49) ?_
          refine ea_imul (pc := 355) dX12_goings_355 ?_
          refine ea_iload (pc := 356) dX12_goings_356 2 rfl ?_
          refine ea_iadd (pc := 358) dX12_goings_358 ?_
          obtain ⟨z50, E⟩ := gd_some E
          refine ea_iald (pc := 359) dX12_goings_359 (hs.1 18 (by decide)).1 (hs.1 18 (by decide)).2.1 (ea_vpl (hs.1 18 (by decide)).2.2 z50) ?_
          exact ((ih 360 ((ea_i h (b0 + 18) (Int32.toNatClampNeg (((12 : Int32) * (ea_i h (b0 + 19) (Int32.toNatClampNeg x1))) + x4))) : Int32) (x1 : Int32) 0 0 0 0 0 (x4 : Int32) 0 0 0 0 h _ _ E hs).2.2.2.2.2.2.2.2.2.2 rfl)
        · have E := (if_pos c51).symm.trans E
          refine ea_iconst (pc := 339) dX12_goings_339 (v := (-1)) rfl ?_
          refine ea_goto (pc := 340) (tgt := 360) dX12_goings_340 rfl ?_
          exact ((ih 360 ((-1) : Int32) (x1 : Int32) 0 0 0 0 0 (x4 : Int32) 0 0 0 0 h _ _ E hs).2.2.2.2.2.2.2.2.2.2 rfl)
    intro el
    subst el
    have E := (if_neg (by decide)).symm.trans E
    have E := (if_neg (by decide)).symm.trans E
    have E := (if_neg (by decide)).symm.trans E
    have E := (if_neg (by decide)).symm.trans E
    have E := (if_neg (by decide)).symm.trans E
    have E := (if_neg (by decide)).symm.trans E
    have E := (if_neg (by decide)).symm.trans E
    have E := (if_neg (by decide)).symm.trans E
    have E := (if_neg (by decide)).symm.trans E
    have E := (if_neg (by decide)).symm.trans E
    have E := (if_pos rfl).symm.trans E
    refine ea_istore (pc := 360) (lv' := [(0, vR (some (b0 + 0))), (1, vI x1), (4, vI x4), (5, vI sx0)]) dX12_goings_360 (Nat.le_of_ble_eq_true rfl) [1, 2, 3, 0] rfl ?_
    refine ea_aload_n (pc := 362) dX12_goings_362 rfl 0 rfl ?_
    refine ea_getR (pc := 363) dX12_goings_363 ec_12 (k := 22) (Nat.le_of_ble_eq_true rfl) rfl (Or.inl ew_1367) (hs.1 0 (by decide)).1 (hs.1 0 (by decide)).2.1 (hs.2 0 22 rfl) ?_
    refine ea_bipush (pc := 366) dX12_goings_366 (v := 12) rfl ?_
    refine ea_iload_n (pc := 368) dX12_goings_368 rfl 1 rfl ?_
    refine ea_imul (pc := 369) dX12_goings_369 ?_
    refine ea_iload (pc := 370) dX12_goings_370 2 rfl ?_
    refine ea_iadd (pc := 372) dX12_goings_372 ?_
    refine ea_aload_n (pc := 373) dX12_goings_373 rfl 0 rfl ?_
    refine ea_getR (pc := 374) dX12_goings_374 ec_12 (k := 19) (Nat.le_of_ble_eq_true rfl) rfl (Or.inl ew_1364) (hs.1 0 (by decide)).1 (hs.1 0 (by decide)).2.1 (hs.2 0 19 rfl) ?_
    refine ea_bipush (pc := 377) dX12_goings_377 (v := 12) rfl ?_
    refine ea_iload_n (pc := 379) dX12_goings_379 rfl 1 rfl ?_
    refine ea_imul (pc := 380) dX12_goings_380 ?_
    refine ea_iload (pc := 381) dX12_goings_381 2 rfl ?_
    refine ea_iadd (pc := 383) dX12_goings_383 ?_
    obtain ⟨z53, E⟩ := gd_some E
    refine ea_iald (pc := 384) dX12_goings_384 (hs.1 15 (by decide)).1 (hs.1 15 (by decide)).2.1 (ea_vpl (hs.1 15 (by decide)).2.2 z53) ?_
    refine ea_ldcw (pc := 385) dX12_goings_385 ew_1727 ?_
    refine ea_icmp_ne (pc := 388) (tgt := 396) dX12_goings_388 rfl (fun c69 => ?_) (fun c69 => ?_)
    · have E := (if_neg c69).symm.trans E
      refine ea_iload (pc := 396) dX12_goings_396 3 rfl ?_
      refine ea_iconst (pc := 398) dX12_goings_398 (v := (-1)) rfl ?_
      refine ea_icmp_eq (pc := 399) (tgt := 414) dX12_goings_399 rfl (fun c65 => ?_) (fun c65 => ?_)
      · have E := (if_pos c65).symm.trans E
        refine ea_iload_n (pc := 414) dX12_goings_414 rfl 1 rfl ?_
        refine ea_goto (pc := 415) (tgt := 420) dX12_goings_415 rfl ?_
        obtain ⟨z54, E⟩ := gd_some E
        refine ea_iast (pc := 420) dX12_goings_420 (hs.1 18 (by decide)).1 (hs.1 18 (by decide)).2.1 (ea_vpl (hs.1 18 (by decide)).2.2 z54) ?_
        have hs55 : ShM b0 (ea_wi h (b0 + 18) (Int32.toNatClampNeg (((12 : Int32) * x1) + x4)) x1) := ShM_wi hs
        obtain ⟨H56, eH56, E⟩ := let_some E
        refine ea_nm eH56 ?_
        have hsH56 : ShM b0 H56 := by rw [eH56]; exact hs55
        refine ea_iinc (pc := 421) (v := 1) (lv' := [(0, vR (some (b0 + 0))), (1, vI x1), (4, vI (x4 + (1 : Int32)))]) dX12_goings_421 2 rfl rfl (Nat.le_of_ble_eq_true rfl) [1, 2, 0] rfl ?_
        refine ea_goto (pc := 424) (tgt := 320) dX12_goings_424 rfl ?_
        exact ((ih 320 0 (x1 : Int32) 0 0 0 0 0 ((x4 + (1 : Int32)) : Int32) 0 0 0 0 H56 _ _ E hsH56).2.2.2.2.2.2.2.2.2.1 rfl)
      · have E := (if_neg c65).symm.trans E
        refine ea_aload_n (pc := 402) dX12_goings_402 rfl 0 rfl ?_
        refine ea_iload_n (pc := 403) dX12_goings_403 rfl 1 rfl ?_
        refine ea_iload (pc := 404) dX12_goings_404 3 rfl ?_
        refine ea_iload (pc := 406) dX12_goings_406 2 rfl ?_
        obtain ⟨z57, E⟩ := gd_some E
        refine ea_callV (pc := 408) (d' := d - 1) (As := [vI x1, vI sx0, vI x4]) (st := [vI (((12 : Int32) * x1) + x4), vR (some (b0 + 18))]) dX12_goings_408 kX12_isBetter (sX12_isBetter (d := d - 1) (by omega) hs z57) (by omega) rfl (Nat.le_of_ble_eq_true rfl) ew_1806 ew_1808 ew_62 (ci := 12) rfl (by decide) (hs.1 0 (by decide)).1 (hs.1 0 (by decide)).2.1 ?_
        refine ea_if_eq (pc := 411) (tgt := 418) dX12_goings_411 rfl (fun c64 => ?_) (fun c64 => ?_)
        · have E := (if_pos c64).symm.trans E
          refine ea_iload (pc := 418) dX12_goings_418 3 rfl ?_
          obtain ⟨z58, E⟩ := gd_some E
          refine ea_iast (pc := 420) dX12_goings_420 (hs.1 18 (by decide)).1 (hs.1 18 (by decide)).2.1 (ea_vpl (hs.1 18 (by decide)).2.2 z58) ?_
          have hs59 : ShM b0 (ea_wi h (b0 + 18) (Int32.toNatClampNeg (((12 : Int32) * x1) + x4)) sx0) := ShM_wi hs
          obtain ⟨H60, eH60, E⟩ := let_some E
          refine ea_nm eH60 ?_
          have hsH60 : ShM b0 H60 := by rw [eH60]; exact hs59
          refine ea_iinc (pc := 421) (v := 1) (lv' := [(0, vR (some (b0 + 0))), (1, vI x1), (4, vI (x4 + (1 : Int32)))]) dX12_goings_421 2 rfl rfl (Nat.le_of_ble_eq_true rfl) [1, 2, 0] rfl ?_
          refine ea_goto (pc := 424) (tgt := 320) dX12_goings_424 rfl ?_
          exact ((ih 320 0 (x1 : Int32) 0 0 0 0 0 ((x4 + (1 : Int32)) : Int32) 0 0 0 0 H60 _ _ E hsH60).2.2.2.2.2.2.2.2.2.1 rfl)
        · have E := (if_neg c64).symm.trans E
          refine ea_iload_n (pc := 414) dX12_goings_414 rfl 1 rfl ?_
          refine ea_goto (pc := 415) (tgt := 420) dX12_goings_415 rfl ?_
          obtain ⟨z61, E⟩ := gd_some E
          refine ea_iast (pc := 420) dX12_goings_420 (hs.1 18 (by decide)).1 (hs.1 18 (by decide)).2.1 (ea_vpl (hs.1 18 (by decide)).2.2 z61) ?_
          have hs62 : ShM b0 (ea_wi h (b0 + 18) (Int32.toNatClampNeg (((12 : Int32) * x1) + x4)) x1) := ShM_wi hs
          obtain ⟨H63, eH63, E⟩ := let_some E
          refine ea_nm eH63 ?_
          have hsH63 : ShM b0 H63 := by rw [eH63]; exact hs62
          refine ea_iinc (pc := 421) (v := 1) (lv' := [(0, vR (some (b0 + 0))), (1, vI x1), (4, vI (x4 + (1 : Int32)))]) dX12_goings_421 2 rfl rfl (Nat.le_of_ble_eq_true rfl) [1, 2, 0] rfl ?_
          refine ea_goto (pc := 424) (tgt := 320) dX12_goings_424 rfl ?_
          exact ((ih 320 0 (x1 : Int32) 0 0 0 0 0 ((x4 + (1 : Int32)) : Int32) 0 0 0 0 H63 _ _ E hsH63).2.2.2.2.2.2.2.2.2.1 rfl)
    · have E := (if_pos c69).symm.trans E
      refine ea_iload (pc := 391) dX12_goings_391 3 rfl ?_
      refine ea_goto (pc := 393) (tgt := 420) dX12_goings_393 rfl ?_
      obtain ⟨z66, E⟩ := gd_some E
      refine ea_iast (pc := 420) dX12_goings_420 (hs.1 18 (by decide)).1 (hs.1 18 (by decide)).2.1 (ea_vpl (hs.1 18 (by decide)).2.2 z66) ?_
      have hs67 : ShM b0 (ea_wi h (b0 + 18) (Int32.toNatClampNeg (((12 : Int32) * x1) + x4)) sx0) := ShM_wi hs
      obtain ⟨H68, eH68, E⟩ := let_some E
      refine ea_nm eH68 ?_
      have hsH68 : ShM b0 H68 := by rw [eH68]; exact hs67
      refine ea_iinc (pc := 421) (v := 1) (lv' := [(0, vR (some (b0 + 0))), (1, vI x1), (4, vI (x4 + (1 : Int32)))]) dX12_goings_421 2 rfl rfl (Nat.le_of_ble_eq_true rfl) [1, 2, 0] rfl ?_
      refine ea_goto (pc := 424) (tgt := 320) dX12_goings_424 rfl ?_
      exact ((ih 320 0 (x1 : Int32) 0 0 0 0 0 ((x4 + (1 : Int32)) : Int32) 0 0 0 0 H68 _ _ E hsH68).2.2.2.2.2.2.2.2.2.1 rfl)
noncomputable def qX12_goings (b0 : Nat) (x1 : Int32) (h : ea_H) : Option (Unit × ea_H) := gX12_goings b0 1000000000 0 0 x1 0 0 0 0 0 0 0 0 0 0 h
def okX12_goings (b0 : Nat) (x1 : Int32) (h : ea_H) : Prop := ∃ x, qX12_goings b0 x1 h = some x
noncomputable def wX12_goings (b0 : Nat) (x1 : Int32) (h : ea_H) : ea_H := ((qX12_goings b0 x1 h).getD ((), h)).2
theorem sX12_goings {d : Nat} {b0 : Nat} {x1 : Int32} {h : ea_H} (hd : 2 ≤ d) (hs : ShM b0 h) (K : okX12_goings b0 x1 h) : ea_Met mX12_goings d [vR (some (b0 + 0)), vI x1] h none (wX12_goings b0 x1 h) := by
  obtain ⟨⟨x, y⟩, K⟩ := K
  unfold wX12_goings
  rw [K]
  unfold qX12_goings at K
  exact ea_enter rfl (Nat.le_of_ble_eq_true rfl) ((tX12_goings hd 1000000000 0 0 x1 0 0 0 0 0 0 0 0 0 0 h x y K hs).1 rfl)
theorem zX12_goings {b0 : Nat} : ∀ (f lbl : Nat) (sx0 : Int32) (x1 : Int32) (x10 : Int32) (x11 : Int32) (x12 : Int32) (x2 : Int32) (x3 : Int32) (x4 : Int32) (x5 : Int32) (x6 : Int32) (x7 : Int32) (x8 : Int32) (h : ea_H) (r : Unit) (h' : ea_H), gX12_goings b0 f lbl sx0 x1 x10 x11 x12 x2 x3 x4 x5 x6 x7 x8 h = some (r, h') → ShM b0 h → ShM b0 h' := by
  intro f
  induction f with
  | zero => intro lbl sx0 x1 x10 x11 x12 x2 x3 x4 x5 x6 x7 x8 h r h' E; cases E
  | succ f ih =>
    intro lbl sx0 x1 x10 x11 x12 x2 x3 x4 x5 x6 x7 x8 h r h' E hs
    unfold gX12_goings at E
    by_cases el0 : lbl = 0
    · have E := (if_pos el0).symm.trans E
      obtain ⟨z1, E⟩ := gd_some E
      obtain ⟨z2, E⟩ := gd_some E
      obtain ⟨z3, E⟩ := gd_some E
      exact ih 22 0 (x1 : Int32) 0 0 0 ((ea_i h (b0 + 12) (Int32.toNatClampNeg x1)) : Int32) ((vX12_townOf b0 ((ea_i h (b0 + 12) (Int32.toNatClampNeg x1)) : Int32) ((ea_i h (b0 + 13) (Int32.toNatClampNeg x1)) : Int32) h) : Int32) (0 : Int32) 0 0 0 0 h _ _ E hs
    have E := (if_neg el0).symm.trans E
    by_cases el1 : lbl = 22
    · have E := (if_pos el1).symm.trans E
      by_cases c15 : (ea_i h (b0 + 0) 1) ≤ x4
      · have E := (if_pos c15).symm.trans E
        obtain ⟨z4, E⟩ := gd_some E
        obtain ⟨z5, E⟩ := gd_some E
        obtain ⟨H7, eH7, E⟩ := let_some E
        have hsH7 : ShM b0 H7 := by rw [eH7]; exact (ShM_wi hs)
        obtain ⟨z8, E⟩ := gd_some E
        obtain ⟨H10, eH10, E⟩ := let_some E
        have hsH10 : ShM b0 H10 := by rw [eH10]; exact (ShM_wi hsH7)
        exact ih 320 0 (x1 : Int32) 0 0 0 0 0 (0 : Int32) 0 0 0 0 H10 _ _ E hsH10
      have E := (if_neg c15).symm.trans E
      obtain ⟨z11, E⟩ := gd_some E
      obtain ⟨H13, eH13, E⟩ := let_some E
      have hsH13 : ShM b0 H13 := by rw [eH13]; exact (ShM_wi hs)
      obtain ⟨z14, E⟩ := gd_some E
      exact ih 60 0 (x1 : Int32) 0 0 0 (x2 : Int32) (x3 : Int32) (x4 : Int32) ((((12 : Int32) * x1) + x4) : Int32) (((ea_i H13 (b0 + 13) (Int32.toNatClampNeg x1)) + (1 : Int32)) : Int32) 0 0 H13 _ _ E hsH13
    have E := (if_neg el1).symm.trans E
    by_cases el2 : lbl = 60
    · have E := (if_pos el2).symm.trans E
      obtain ⟨z16, E⟩ := gd_some E
      by_cases c24 : (ea_i h (b0 + 2) (Int32.toNatClampNeg (x2 / (7 : Int32)))) ≤ x6
      · have E := (if_pos c24).symm.trans E
        exact ih 22 0 (x1 : Int32) 0 0 0 (x2 : Int32) (x3 : Int32) ((x4 + (1 : Int32)) : Int32) 0 0 0 0 h _ _ E hs
      have E := (if_neg c24).symm.trans E
      obtain ⟨z17, E⟩ := gd_some E
      by_cases c23 : (vX12_comesAt b0 (x2 : Int32) (x6 : Int32) h) ≤ (10079 : Int32)
      · have E := (if_pos c23).symm.trans E
        obtain ⟨z18, E⟩ := gd_some E
        by_cases c22 : (vX12_townOf b0 (x2 : Int32) (x6 : Int32) h) = x4
        · have E := (if_pos c22).symm.trans E
          exact ih 122 ((-1) : Int32) (x1 : Int32) 0 0 0 (x2 : Int32) (x3 : Int32) (x4 : Int32) (x5 : Int32) (x6 : Int32) ((vX12_comesAt b0 (x2 : Int32) (x6 : Int32) h) : Int32) ((vX12_townOf b0 (x2 : Int32) (x6 : Int32) h) : Int32) h _ _ E hs
        have E := (if_neg c22).symm.trans E
        obtain ⟨z19, E⟩ := gd_some E
        obtain ⟨H21, eH21, E⟩ := let_some E
        have hsH21 : ShM b0 H21 := by rw [eH21]; exact (shX12_going hs)
        exact ih 122 ((vX12_going b0 ((vX12_townOf b0 (x2 : Int32) (x6 : Int32) h) : Int32) ((vX12_comesAt b0 (x2 : Int32) (x6 : Int32) h) : Int32) h) : Int32) (x1 : Int32) 0 0 0 (x2 : Int32) (x3 : Int32) (x4 : Int32) (x5 : Int32) (x6 : Int32) ((vX12_comesAt b0 (x2 : Int32) (x6 : Int32) h) : Int32) ((vX12_townOf b0 (x2 : Int32) (x6 : Int32) h) : Int32) H21 _ _ E hsH21
      have E := (if_neg c23).symm.trans E
      exact ih 22 0 (x1 : Int32) 0 0 0 (x2 : Int32) (x3 : Int32) ((x4 + (1 : Int32)) : Int32) 0 0 0 0 h _ _ E hs
    have E := (if_neg el2).symm.trans E
    by_cases el3 : lbl = 122
    · have E := (if_pos el3).symm.trans E
      by_cases c26 : sx0 = ((-1) : Int32)
      · have E := (if_pos c26).symm.trans E
        exact ih 147 ((-1) : Int32) (x1 : Int32) 0 0 0 (x2 : Int32) (x3 : Int32) (x4 : Int32) (x5 : Int32) (x6 : Int32) (x7 : Int32) (x8 : Int32) h _ _ E hs
      have E := (if_neg c26).symm.trans E
      obtain ⟨z25, E⟩ := gd_some E
      exact ih 147 ((ea_i h (b0 + 18) (Int32.toNatClampNeg (((12 : Int32) * sx0) + x4))) : Int32) (x1 : Int32) 0 0 0 (x2 : Int32) (x3 : Int32) (x4 : Int32) (x5 : Int32) (x6 : Int32) (x7 : Int32) (x8 : Int32) h _ _ E hs
    have E := (if_neg el3).symm.trans E
    by_cases el4 : lbl = 147
    · have E := (if_pos el4).symm.trans E
      by_cases c28 : x8 = x4
      · have E := (if_pos c28).symm.trans E
        exact ih 165 0 (x1 : Int32) (sx0 : Int32) 0 0 (x2 : Int32) (x3 : Int32) (x4 : Int32) (x5 : Int32) (x6 : Int32) (x7 : Int32) (x8 : Int32) h _ _ E hs
      have E := (if_neg c28).symm.trans E
      by_cases c27 : sx0 = ((-1) : Int32)
      · have E := (if_pos c27).symm.trans E
        exact ih 60 0 (x1 : Int32) 0 0 0 (x2 : Int32) (x3 : Int32) (x4 : Int32) (x5 : Int32) ((x6 + (1 : Int32)) : Int32) 0 0 h _ _ E hs
      have E := (if_neg c27).symm.trans E
      exact ih 165 0 (x1 : Int32) (sx0 : Int32) 0 0 (x2 : Int32) (x3 : Int32) (x4 : Int32) (x5 : Int32) (x6 : Int32) (x7 : Int32) (x8 : Int32) h _ _ E hs
    have E := (if_neg el4).symm.trans E
    by_cases el5 : lbl = 165
    · have E := (if_pos el5).symm.trans E
      by_cases c30 : x8 = x4
      · have E := (if_pos c30).symm.trans E
        exact ih 190 (x7 : Int32) (x1 : Int32) (x10 : Int32) 0 0 (x2 : Int32) (x3 : Int32) (x4 : Int32) (x5 : Int32) (x6 : Int32) 0 (x8 : Int32) h _ _ E hs
      have E := (if_neg c30).symm.trans E
      obtain ⟨z29, E⟩ := gd_some E
      exact ih 190 ((ea_i h (b0 + 15) (Int32.toNatClampNeg (((12 : Int32) * x10) + x4))) : Int32) (x1 : Int32) (x10 : Int32) 0 0 (x2 : Int32) (x3 : Int32) (x4 : Int32) (x5 : Int32) (x6 : Int32) 0 (x8 : Int32) h _ _ E hs
    have E := (if_neg el5).symm.trans E
    by_cases el6 : lbl = 190
    · have E := (if_pos el6).symm.trans E
      by_cases c32 : x8 = x4
      · have E := (if_pos c32).symm.trans E
        exact ih 218 (1 : Int32) (x1 : Int32) 0 (sx0 : Int32) 0 (x2 : Int32) (x3 : Int32) (x4 : Int32) (x5 : Int32) (x6 : Int32) 0 0 h _ _ E hs
      have E := (if_neg c32).symm.trans E
      obtain ⟨z31, E⟩ := gd_some E
      exact ih 218 (((ea_i h (b0 + 16) (Int32.toNatClampNeg (((12 : Int32) * x10) + x4))) + (1 : Int32)) : Int32) (x1 : Int32) 0 (sx0 : Int32) 0 (x2 : Int32) (x3 : Int32) (x4 : Int32) (x5 : Int32) (x6 : Int32) 0 0 h _ _ E hs
    have E := (if_neg el6).symm.trans E
    by_cases el7 : lbl = 218
    · have E := (if_pos el7).symm.trans E
      obtain ⟨z33, E⟩ := gd_some E
      by_cases c38 : (ea_i h (b0 + 15) (Int32.toNatClampNeg x5)) < x11
      · have E := (if_pos c38).symm.trans E
        exact ih 60 0 (x1 : Int32) 0 0 0 (x2 : Int32) (x3 : Int32) (x4 : Int32) (x5 : Int32) ((x6 + (1 : Int32)) : Int32) 0 0 h _ _ E hs
      have E := (if_neg c38).symm.trans E
      obtain ⟨z34, E⟩ := gd_some E
      by_cases c37 : x11 = (ea_i h (b0 + 15) (Int32.toNatClampNeg x5))
      · have E := (if_pos c37).symm.trans E
        obtain ⟨z35, E⟩ := gd_some E
        by_cases c36 : sx0 < (ea_i h (b0 + 16) (Int32.toNatClampNeg x5))
        · have E := (if_pos c36).symm.trans E
          exact ih 259 0 (x1 : Int32) 0 (x11 : Int32) (sx0 : Int32) (x2 : Int32) (x3 : Int32) (x4 : Int32) (x5 : Int32) (x6 : Int32) 0 0 h _ _ E hs
        have E := (if_neg c36).symm.trans E
        exact ih 60 0 (x1 : Int32) 0 0 0 (x2 : Int32) (x3 : Int32) (x4 : Int32) (x5 : Int32) ((x6 + (1 : Int32)) : Int32) 0 0 h _ _ E hs
      have E := (if_neg c37).symm.trans E
      exact ih 259 0 (x1 : Int32) 0 (x11 : Int32) (sx0 : Int32) (x2 : Int32) (x3 : Int32) (x4 : Int32) (x5 : Int32) (x6 : Int32) 0 0 h _ _ E hs
    have E := (if_neg el7).symm.trans E
    by_cases el8 : lbl = 259
    · have E := (if_pos el8).symm.trans E
      obtain ⟨z39, E⟩ := gd_some E
      obtain ⟨H41, eH41, E⟩ := let_some E
      have hsH41 : ShM b0 H41 := by rw [eH41]; exact (ShM_wi hs)
      obtain ⟨z42, E⟩ := gd_some E
      obtain ⟨H44, eH44, E⟩ := let_some E
      have hsH44 : ShM b0 H44 := by rw [eH44]; exact (ShM_wi hsH41)
      obtain ⟨z45, E⟩ := gd_some E
      obtain ⟨H47, eH47, E⟩ := let_some E
      have hsH47 : ShM b0 H47 := by rw [eH47]; exact (ShM_wi hsH44)
      exact ih 60 0 (x1 : Int32) 0 0 0 (x2 : Int32) (x3 : Int32) (x4 : Int32) (x5 : Int32) ((x6 + (1 : Int32)) : Int32) 0 0 H47 _ _ E hsH47
    have E := (if_neg el8).symm.trans E
    by_cases el9 : lbl = 320
    · have E := (if_pos el9).symm.trans E
      by_cases c52 : (ea_i h (b0 + 0) 1) ≤ x4
      · have E := (if_pos c52).symm.trans E
        exact ea_shO E hs
      have E := (if_neg c52).symm.trans E
      obtain ⟨z48, E⟩ := gd_some E
      by_cases c51 : (ea_i h (b0 + 19) (Int32.toNatClampNeg x1)) = ((-1) : Int32)
      · have E := (if_pos c51).symm.trans E
        exact ih 360 ((-1) : Int32) (x1 : Int32) 0 0 0 0 0 (x4 : Int32) 0 0 0 0 h _ _ E hs
      have E := (if_neg c51).symm.trans E
      obtain ⟨z49, E⟩ := gd_some E
      obtain ⟨z50, E⟩ := gd_some E
      exact ih 360 ((ea_i h (b0 + 18) (Int32.toNatClampNeg (((12 : Int32) * (ea_i h (b0 + 19) (Int32.toNatClampNeg x1))) + x4))) : Int32) (x1 : Int32) 0 0 0 0 0 (x4 : Int32) 0 0 0 0 h _ _ E hs
    have E := (if_neg el9).symm.trans E
    by_cases el10 : lbl = 360
    · have E := (if_pos el10).symm.trans E
      obtain ⟨z53, E⟩ := gd_some E
      by_cases c69 : (ea_i h (b0 + 15) (Int32.toNatClampNeg (((12 : Int32) * x1) + x4))) = (1000000 : Int32)
      · have E := (if_pos c69).symm.trans E
        obtain ⟨z66, E⟩ := gd_some E
        obtain ⟨H68, eH68, E⟩ := let_some E
        have hsH68 : ShM b0 H68 := by rw [eH68]; exact (ShM_wi hs)
        exact ih 320 0 (x1 : Int32) 0 0 0 0 0 ((x4 + (1 : Int32)) : Int32) 0 0 0 0 H68 _ _ E hsH68
      have E := (if_neg c69).symm.trans E
      by_cases c65 : sx0 = ((-1) : Int32)
      · have E := (if_pos c65).symm.trans E
        obtain ⟨z54, E⟩ := gd_some E
        obtain ⟨H56, eH56, E⟩ := let_some E
        have hsH56 : ShM b0 H56 := by rw [eH56]; exact (ShM_wi hs)
        exact ih 320 0 (x1 : Int32) 0 0 0 0 0 ((x4 + (1 : Int32)) : Int32) 0 0 0 0 H56 _ _ E hsH56
      have E := (if_neg c65).symm.trans E
      obtain ⟨z57, E⟩ := gd_some E
      by_cases c64 : (vX12_isBetter b0 (x1 : Int32) (sx0 : Int32) (x4 : Int32) h) = (0 : Int32)
      · have E := (if_pos c64).symm.trans E
        obtain ⟨z58, E⟩ := gd_some E
        obtain ⟨H60, eH60, E⟩ := let_some E
        have hsH60 : ShM b0 H60 := by rw [eH60]; exact (ShM_wi hs)
        exact ih 320 0 (x1 : Int32) 0 0 0 0 0 ((x4 + (1 : Int32)) : Int32) 0 0 0 0 H60 _ _ E hsH60
      have E := (if_neg c64).symm.trans E
      obtain ⟨z61, E⟩ := gd_some E
      obtain ⟨H63, eH63, E⟩ := let_some E
      have hsH63 : ShM b0 H63 := by rw [eH63]; exact (ShM_wi hs)
      exact ih 320 0 (x1 : Int32) 0 0 0 0 0 ((x4 + (1 : Int32)) : Int32) 0 0 0 0 H63 _ _ E hsH63
    have E := (if_neg el10).symm.trans E
    cases E
theorem shX12_goings {b0 : Nat} {x1 : Int32} {h : ea_H} (hs : ShM b0 h) : ShM b0 (wX12_goings b0 x1 h) := by
  unfold wX12_goings
  cases K : qX12_goings b0 x1 h with
  | none => exact hs
  | some x => obtain ⟨x, y⟩ := x; unfold qX12_goings at K; exact zX12_goings _ _ _ _ _ _ _ _ _ _ _ _ _ _ _ _ _ K hs
noncomputable def gX12_feed (b0 : Nat) : Nat → Nat → Int32 → Int32 → Int32 → Int32 → Int32 → Int32 → Int32 → ea_H → Option (Int32 × ea_H)
  | 0, _, _, _, _, _, _, _, _, _ => none
  | f + 1, lbl, sx0, x1, x2, x3, x4, x5, x6, h =>
    if lbl = 0 then (if ((ea_i h (b0 + 0) 52) + (20 : Int32)) ≤ (600 : Int32) then (gX12_feed b0 f 18 0 (x1 : Int32) (x2 : Int32) (x3 : Int32) (x4 : Int32) (x5 : Int32) (0 : Int32) h) else (some (((-1) : Int32), h))) else
    if lbl = 18 then (if (20 : Int32) ≤ x6 then (some ((ea_i h (b0 + 0) 52), h)) else (if (4 : Int32) ≤ x6 then (if (8 : Int32) ≤ x6 then (if (12 : Int32) ≤ x6 then (if (16 : Int32) ≤ x6 then (gX12_feed b0 f 71 (x5 : Int32) (x1 : Int32) (x2 : Int32) (x3 : Int32) (x4 : Int32) (x5 : Int32) (x6 : Int32) h) else (gX12_feed b0 f 71 (x4 : Int32) (x1 : Int32) (x2 : Int32) (x3 : Int32) (x4 : Int32) (x5 : Int32) (x6 : Int32) h)) else (gX12_feed b0 f 71 (x3 : Int32) (x1 : Int32) (x2 : Int32) (x3 : Int32) (x4 : Int32) (x5 : Int32) (x6 : Int32) h)) else (gX12_feed b0 f 71 (x2 : Int32) (x1 : Int32) (x2 : Int32) (x3 : Int32) (x4 : Int32) (x5 : Int32) (x6 : Int32) h)) else (gX12_feed b0 f 71 (x1 : Int32) (x1 : Int32) (x2 : Int32) (x3 : Int32) (x4 : Int32) (x5 : Int32) (x6 : Int32) h))) else
    if lbl = 71 then (gd (vp_in (ea_i h (b0 + 0) 52) 600) (ea_let (ea_wi h (b0 + 36) (Int32.toNatClampNeg (ea_i h (b0 + 0) 52)) ((sx0 >>> (((24 : Int32) - ((8 : Int32) * (x6 - x6 / (4 : Int32) * (4 : Int32)))) &&& 31)) &&& (255 : Int32))) fun H9 => (ea_let (ea_wi H9 (b0 + 0) 52 ((ea_i H9 (b0 + 0) 52) + (1 : Int32))) fun H11 => (gX12_feed b0 f 18 0 (x1 : Int32) (x2 : Int32) (x3 : Int32) (x4 : Int32) (x5 : Int32) ((x6 + (1 : Int32)) : Int32) H11)))) else none
theorem tX12_feed {d : Nat} {b0 : Nat} {h0 : ea_H} (hd : 1 ≤ d) : ∀ (f lbl : Nat) (sx0 : Int32) (x1 : Int32) (x2 : Int32) (x3 : Int32) (x4 : Int32) (x5 : Int32) (x6 : Int32) (h : ea_H) (r : Int32) (h' : ea_H), gX12_feed b0 f lbl sx0 x1 x2 x3 x4 x5 x6 h = some (r, h') → ShM b0 h → (lbl = 0 → ea_W mX12_feed d h0 (some (vI r)) h' 0 [(0, vR (some (b0 + 0))), (1, vI x1), (2, vI x2), (3, vI x3), (4, vI x4), (5, vI x5)] [] h) ∧ (lbl = 18 → ea_W mX12_feed d h0 (some (vI r)) h' 18 [(0, vR (some (b0 + 0))), (1, vI x1), (2, vI x2), (3, vI x3), (4, vI x4), (5, vI x5), (6, vI x6)] [] h) ∧ (lbl = 71 → ea_W mX12_feed d h0 (some (vI r)) h' 71 [(0, vR (some (b0 + 0))), (1, vI x1), (2, vI x2), (3, vI x3), (4, vI x4), (5, vI x5), (6, vI x6)] [vI sx0] h) := by
  intro f
  induction f with
  | zero => intro lbl sx0 x1 x2 x3 x4 x5 x6 h r h' E; cases E
  | succ f ih =>
    intro lbl sx0 x1 x2 x3 x4 x5 x6 h r h' E hs
    unfold gX12_feed at E
    refine ⟨?_, ?_⟩
    · intro el
      subst el
      have E := (if_pos rfl).symm.trans E
      refine ea_aload_n (pc := 0) dX12_feed_0 rfl 0 rfl ?_
      refine ea_getI (pc := 1) dX12_feed_1 ec_12 (k := 52) (Nat.le_of_ble_eq_true rfl) rfl (Or.inl ew_1397) (hs.1 0 (by decide)).1 (hs.1 0 (by decide)).2.1 ?_
      refine ea_bipush (pc := 4) dX12_feed_4 (v := 20) rfl ?_
      refine ea_iadd (pc := 6) dX12_feed_6 ?_
      refine ea_sipush (pc := 7) dX12_feed_7 (v := 600) rfl ?_
      refine ea_icmp_le (pc := 10) (tgt := 15) dX12_feed_10 rfl (fun c1 => ?_) (fun c1 => ?_)
      · have E := (if_pos c1).symm.trans E
        refine ea_iconst (pc := 15) dX12_feed_15 (v := 0) rfl ?_
        refine ea_istore (pc := 16) (lv' := [(0, vR (some (b0 + 0))), (1, vI x1), (2, vI x2), (3, vI x3), (4, vI x4), (5, vI x5), (6, vI 0)]) dX12_feed_16 (Nat.le_of_ble_eq_true rfl) [1, 2, 3, 4, 5, 6, 0] rfl ?_
        exact ((ih 18 0 (x1 : Int32) (x2 : Int32) (x3 : Int32) (x4 : Int32) (x5 : Int32) (0 : Int32) h _ _ E hs).2.1 rfl)
      · have E := (if_neg c1).symm.trans E
        refine ea_iconst (pc := 13) dX12_feed_13 (v := (-1)) rfl ?_
        exact ea_iretO (pc := 14) dX12_feed_14 rfl rfl E
    refine ⟨?_, ?_⟩
    · intro el
      subst el
      have E := (if_neg (by decide)).symm.trans E
      have E := (if_pos rfl).symm.trans E
      refine ea_iload (pc := 18) dX12_feed_18 6 rfl ?_
      refine ea_bipush (pc := 20) dX12_feed_20 (v := 20) rfl ?_
      refine ea_icmp_ge (pc := 22) (tgt := 115) dX12_feed_22 rfl (fun c6 => ?_) (fun c6 => ?_)
      · have E := (if_pos c6).symm.trans E
        refine ea_aload_n (pc := 115) dX12_feed_115 rfl 0 rfl ?_
        refine ea_getI (pc := 116) dX12_feed_116 ec_12 (k := 52) (Nat.le_of_ble_eq_true rfl) rfl (Or.inl ew_1397) (hs.1 0 (by decide)).1 (hs.1 0 (by decide)).2.1 ?_
        exact ea_iretO (pc := 119) dX12_feed_119 rfl rfl E
      · have E := (if_neg c6).symm.trans E
        refine ea_iload (pc := 25) dX12_feed_25 6 rfl ?_
        refine ea_iconst (pc := 27) dX12_feed_27 (v := 4) rfl ?_
        refine ea_icmp_ge (pc := 28) (tgt := 35) dX12_feed_28 rfl (fun c5 => ?_) (fun c5 => ?_)
        · have E := (if_pos c5).symm.trans E
          refine ea_iload (pc := 35) dX12_feed_35 6 rfl ?_
          refine ea_bipush (pc := 37) dX12_feed_37 (v := 8) rfl ?_
          refine ea_icmp_ge (pc := 39) (tgt := 46) dX12_feed_39 rfl (fun c4 => ?_) (fun c4 => ?_)
          · have E := (if_pos c4).symm.trans E
            refine ea_iload (pc := 46) dX12_feed_46 6 rfl ?_
            refine ea_bipush (pc := 48) dX12_feed_48 (v := 12) rfl ?_
            refine ea_icmp_ge (pc := 50) (tgt := 57) dX12_feed_50 rfl (fun c3 => ?_) (fun c3 => ?_)
            · have E := (if_pos c3).symm.trans E
              refine ea_iload (pc := 57) dX12_feed_57 6 rfl ?_
              refine ea_bipush (pc := 59) dX12_feed_59 (v := 16) rfl ?_
              refine ea_icmp_ge (pc := 61) (tgt := 69) dX12_feed_61 rfl (fun c2 => ?_) (fun c2 => ?_)
              · have E := (if_pos c2).symm.trans E
                refine ea_iload (pc := 69) dX12_feed_69 5 rfl ?_
                exact ((ih 71 (x5 : Int32) (x1 : Int32) (x2 : Int32) (x3 : Int32) (x4 : Int32) (x5 : Int32) (x6 : Int32) h _ _ E hs).2.2 rfl)
              · have E := (if_neg c2).symm.trans E
                refine ea_iload (pc := 64) dX12_feed_64 4 rfl ?_
                refine ea_goto (pc := 66) (tgt := 71) dX12_feed_66 rfl ?_
                exact ((ih 71 (x4 : Int32) (x1 : Int32) (x2 : Int32) (x3 : Int32) (x4 : Int32) (x5 : Int32) (x6 : Int32) h _ _ E hs).2.2 rfl)
            · have E := (if_neg c3).symm.trans E
              refine ea_iload_n (pc := 53) dX12_feed_53 rfl 3 rfl ?_
              refine ea_goto (pc := 54) (tgt := 71) dX12_feed_54 rfl ?_
              exact ((ih 71 (x3 : Int32) (x1 : Int32) (x2 : Int32) (x3 : Int32) (x4 : Int32) (x5 : Int32) (x6 : Int32) h _ _ E hs).2.2 rfl)
          · have E := (if_neg c4).symm.trans E
            refine ea_iload_n (pc := 42) dX12_feed_42 rfl 2 rfl ?_
            refine ea_goto (pc := 43) (tgt := 71) dX12_feed_43 rfl ?_
            exact ((ih 71 (x2 : Int32) (x1 : Int32) (x2 : Int32) (x3 : Int32) (x4 : Int32) (x5 : Int32) (x6 : Int32) h _ _ E hs).2.2 rfl)
        · have E := (if_neg c5).symm.trans E
          refine ea_iload_n (pc := 31) dX12_feed_31 rfl 1 rfl ?_
          refine ea_goto (pc := 32) (tgt := 71) dX12_feed_32 rfl ?_
          exact ((ih 71 (x1 : Int32) (x1 : Int32) (x2 : Int32) (x3 : Int32) (x4 : Int32) (x5 : Int32) (x6 : Int32) h _ _ E hs).2.2 rfl)
    intro el
    subst el
    have E := (if_neg (by decide)).symm.trans E
    have E := (if_neg (by decide)).symm.trans E
    have E := (if_pos rfl).symm.trans E
    refine ea_istore (pc := 71) (lv' := [(0, vR (some (b0 + 0))), (1, vI x1), (2, vI x2), (3, vI x3), (4, vI x4), (5, vI x5), (6, vI x6), (7, vI sx0)]) dX12_feed_71 (Nat.le_of_ble_eq_true rfl) [1, 2, 3, 4, 5, 6, 7, 0] rfl ?_
    refine ea_aload_n (pc := 73) dX12_feed_73 rfl 0 rfl ?_
    refine ea_getR (pc := 74) dX12_feed_74 ec_12 (k := 41) (Nat.le_of_ble_eq_true rfl) rfl (Or.inl ew_1386) (hs.1 0 (by decide)).1 (hs.1 0 (by decide)).2.1 (hs.2 0 41 rfl) ?_
    refine ea_aload_n (pc := 77) dX12_feed_77 rfl 0 rfl ?_
    refine ea_getI (pc := 78) dX12_feed_78 ec_12 (k := 52) (Nat.le_of_ble_eq_true rfl) rfl (Or.inl ew_1397) (hs.1 0 (by decide)).1 (hs.1 0 (by decide)).2.1 ?_
    refine ea_iload (pc := 81) dX12_feed_81 7 rfl ?_
    refine ea_bipush (pc := 83) dX12_feed_83 (v := 24) rfl ?_
    refine ea_bipush (pc := 85) dX12_feed_85 (v := 8) rfl ?_
    refine ea_iload (pc := 87) dX12_feed_87 6 rfl ?_
    refine ea_iconst (pc := 89) dX12_feed_89 (v := 4) rfl ?_
    refine ea_irem (pc := 90) dX12_feed_90 (by decide) ?_
    refine ea_imul (pc := 91) dX12_feed_91 ?_
    refine ea_isub (pc := 92) dX12_feed_92 ?_
    refine ea_ishr (pc := 93) dX12_feed_93 ?_
    refine ea_sipush (pc := 94) dX12_feed_94 (v := 255) rfl ?_
    refine ea_iand (pc := 97) dX12_feed_97 ?_
    obtain ⟨z7, E⟩ := gd_some E
    refine ea_iast (pc := 98) dX12_feed_98 (hs.1 36 (by decide)).1 (hs.1 36 (by decide)).2.1 (ea_vpl (hs.1 36 (by decide)).2.2 z7) ?_
    have hs8 : ShM b0 (ea_wi h (b0 + 36) (Int32.toNatClampNeg (ea_i h (b0 + 0) 52)) ((sx0 >>> (((24 : Int32) - ((8 : Int32) * (x6 - x6 / (4 : Int32) * (4 : Int32)))) &&& 31)) &&& (255 : Int32))) := ShM_wi hs
    obtain ⟨H9, eH9, E⟩ := let_some E
    refine ea_nm eH9 ?_
    have hsH9 : ShM b0 H9 := by rw [eH9]; exact hs8
    refine ea_aload_n (pc := 99) dX12_feed_99 rfl 0 rfl ?_
    refine ea_dup (pc := 100) dX12_feed_100 rfl ?_
    refine ea_getI (pc := 101) dX12_feed_101 ec_12 (k := 52) (Nat.le_of_ble_eq_true rfl) rfl (Or.inl ew_1397) (hsH9.1 0 (by decide)).1 (hsH9.1 0 (by decide)).2.1 ?_
    refine ea_iconst (pc := 104) dX12_feed_104 (v := 1) rfl ?_
    refine ea_iadd (pc := 105) dX12_feed_105 ?_
    refine ea_putI (pc := 106) dX12_feed_106 ec_12 (k := 52) (Nat.le_of_ble_eq_true rfl) rfl (Or.inl ⟨rfl, Or.inl ew_1397⟩) rfl rfl (hsH9.1 0 (by decide)).1 (hsH9.1 0 (by decide)).2.1 ?_
    have hs10 : ShM b0 (ea_wi H9 (b0 + 0) 52 ((ea_i H9 (b0 + 0) 52) + (1 : Int32))) := ShM_wi hsH9
    obtain ⟨H11, eH11, E⟩ := let_some E
    refine ea_nm eH11 ?_
    have hsH11 : ShM b0 H11 := by rw [eH11]; exact hs10
    refine ea_iinc (pc := 109) (v := 1) (lv' := [(0, vR (some (b0 + 0))), (1, vI x1), (2, vI x2), (3, vI x3), (4, vI x4), (5, vI x5), (6, vI (x6 + (1 : Int32)))]) dX12_feed_109 6 rfl rfl (Nat.le_of_ble_eq_true rfl) [1, 2, 3, 4, 5, 6, 0] rfl ?_
    refine ea_goto (pc := 112) (tgt := 18) dX12_feed_112 rfl ?_
    exact ((ih 18 0 (x1 : Int32) (x2 : Int32) (x3 : Int32) (x4 : Int32) (x5 : Int32) ((x6 + (1 : Int32)) : Int32) H11 _ _ E hsH11).2.1 rfl)
noncomputable def qX12_feed (b0 : Nat) (x1 : Int32) (x2 : Int32) (x3 : Int32) (x4 : Int32) (x5 : Int32) (h : ea_H) : Option (Int32 × ea_H) := gX12_feed b0 1000000000 0 0 x1 x2 x3 x4 x5 0 h
def okX12_feed (b0 : Nat) (x1 : Int32) (x2 : Int32) (x3 : Int32) (x4 : Int32) (x5 : Int32) (h : ea_H) : Prop := ∃ x, qX12_feed b0 x1 x2 x3 x4 x5 h = some x
noncomputable def vX12_feed (b0 : Nat) (x1 : Int32) (x2 : Int32) (x3 : Int32) (x4 : Int32) (x5 : Int32) (h : ea_H) : Int32 := ((qX12_feed b0 x1 x2 x3 x4 x5 h).getD (0, h)).1
noncomputable def wX12_feed (b0 : Nat) (x1 : Int32) (x2 : Int32) (x3 : Int32) (x4 : Int32) (x5 : Int32) (h : ea_H) : ea_H := ((qX12_feed b0 x1 x2 x3 x4 x5 h).getD (0, h)).2
theorem sX12_feed {d : Nat} {b0 : Nat} {x1 : Int32} {x2 : Int32} {x3 : Int32} {x4 : Int32} {x5 : Int32} {h : ea_H} (hd : 1 ≤ d) (hs : ShM b0 h) (K : okX12_feed b0 x1 x2 x3 x4 x5 h) : ea_Met mX12_feed d [vR (some (b0 + 0)), vI x1, vI x2, vI x3, vI x4, vI x5] h (some (vI (vX12_feed b0 x1 x2 x3 x4 x5 h))) (wX12_feed b0 x1 x2 x3 x4 x5 h) := by
  obtain ⟨⟨x, y⟩, K⟩ := K
  unfold wX12_feed vX12_feed
  rw [K]
  unfold qX12_feed at K
  exact ea_enter rfl (Nat.le_of_ble_eq_true rfl) ((tX12_feed hd 1000000000 0 0 x1 x2 x3 x4 x5 0 h x y K hs).1 rfl)
theorem zX12_feed {b0 : Nat} : ∀ (f lbl : Nat) (sx0 : Int32) (x1 : Int32) (x2 : Int32) (x3 : Int32) (x4 : Int32) (x5 : Int32) (x6 : Int32) (h : ea_H) (r : Int32) (h' : ea_H), gX12_feed b0 f lbl sx0 x1 x2 x3 x4 x5 x6 h = some (r, h') → ShM b0 h → ShM b0 h' := by
  intro f
  induction f with
  | zero => intro lbl sx0 x1 x2 x3 x4 x5 x6 h r h' E; cases E
  | succ f ih =>
    intro lbl sx0 x1 x2 x3 x4 x5 x6 h r h' E hs
    unfold gX12_feed at E
    by_cases el0 : lbl = 0
    · have E := (if_pos el0).symm.trans E
      by_cases c1 : ((ea_i h (b0 + 0) 52) + (20 : Int32)) ≤ (600 : Int32)
      · have E := (if_pos c1).symm.trans E
        exact ih 18 0 (x1 : Int32) (x2 : Int32) (x3 : Int32) (x4 : Int32) (x5 : Int32) (0 : Int32) h _ _ E hs
      have E := (if_neg c1).symm.trans E
      exact ea_shO E hs
    have E := (if_neg el0).symm.trans E
    by_cases el1 : lbl = 18
    · have E := (if_pos el1).symm.trans E
      by_cases c6 : (20 : Int32) ≤ x6
      · have E := (if_pos c6).symm.trans E
        exact ea_shO E hs
      have E := (if_neg c6).symm.trans E
      by_cases c5 : (4 : Int32) ≤ x6
      · have E := (if_pos c5).symm.trans E
        by_cases c4 : (8 : Int32) ≤ x6
        · have E := (if_pos c4).symm.trans E
          by_cases c3 : (12 : Int32) ≤ x6
          · have E := (if_pos c3).symm.trans E
            by_cases c2 : (16 : Int32) ≤ x6
            · have E := (if_pos c2).symm.trans E
              exact ih 71 (x5 : Int32) (x1 : Int32) (x2 : Int32) (x3 : Int32) (x4 : Int32) (x5 : Int32) (x6 : Int32) h _ _ E hs
            have E := (if_neg c2).symm.trans E
            exact ih 71 (x4 : Int32) (x1 : Int32) (x2 : Int32) (x3 : Int32) (x4 : Int32) (x5 : Int32) (x6 : Int32) h _ _ E hs
          have E := (if_neg c3).symm.trans E
          exact ih 71 (x3 : Int32) (x1 : Int32) (x2 : Int32) (x3 : Int32) (x4 : Int32) (x5 : Int32) (x6 : Int32) h _ _ E hs
        have E := (if_neg c4).symm.trans E
        exact ih 71 (x2 : Int32) (x1 : Int32) (x2 : Int32) (x3 : Int32) (x4 : Int32) (x5 : Int32) (x6 : Int32) h _ _ E hs
      have E := (if_neg c5).symm.trans E
      exact ih 71 (x1 : Int32) (x1 : Int32) (x2 : Int32) (x3 : Int32) (x4 : Int32) (x5 : Int32) (x6 : Int32) h _ _ E hs
    have E := (if_neg el1).symm.trans E
    by_cases el2 : lbl = 71
    · have E := (if_pos el2).symm.trans E
      obtain ⟨z7, E⟩ := gd_some E
      obtain ⟨H9, eH9, E⟩ := let_some E
      have hsH9 : ShM b0 H9 := by rw [eH9]; exact (ShM_wi hs)
      obtain ⟨H11, eH11, E⟩ := let_some E
      have hsH11 : ShM b0 H11 := by rw [eH11]; exact (ShM_wi hsH9)
      exact ih 18 0 (x1 : Int32) (x2 : Int32) (x3 : Int32) (x4 : Int32) (x5 : Int32) ((x6 + (1 : Int32)) : Int32) H11 _ _ E hsH11
    have E := (if_neg el2).symm.trans E
    cases E
theorem shX12_feed {b0 : Nat} {x1 : Int32} {x2 : Int32} {x3 : Int32} {x4 : Int32} {x5 : Int32} {h : ea_H} (hs : ShM b0 h) : ShM b0 (wX12_feed b0 x1 x2 x3 x4 x5 h) := by
  unfold wX12_feed
  cases K : qX12_feed b0 x1 x2 x3 x4 x5 h with
  | none => exact hs
  | some x => obtain ⟨x, y⟩ := x; unfold qX12_feed at K; exact zX12_feed _ _ _ _ _ _ _ _ _ _ _ _ K hs
noncomputable def gX12_is (b0 : Nat) : Nat → Nat → Option Nat → Int32 → Int32 → ea_H → Option (Int32 × ea_H)
  | 0, _, _, _, _, _ => none
  | f + 1, lbl, r1, x2, x3, h =>
    if lbl = 0 then none else
    if lbl = 24 then none else none
theorem tX12_is {d : Nat} {b0 : Nat} {h0 : ea_H} (hd : 2 ≤ d) : ∀ (f lbl : Nat) (r1 : Option Nat) (x2 : Int32) (x3 : Int32) (h : ea_H) (r : Int32) (h' : ea_H), gX12_is b0 f lbl r1 x2 x3 h = some (r, h') → ShM b0 h → (lbl = 0 → ea_W mX12_is d h0 (some (vI r)) h' 0 [(0, vR (some (b0 + 0))), (1, vR r1)] [] h) ∧ (lbl = 24 → ea_W mX12_is d h0 (some (vI r)) h' 24 [(0, vR (some (b0 + 0))), (1, vR r1), (2, vI x2), (3, vI x3)] [] h) := by
  intro f
  induction f with
  | zero => intro lbl r1 x2 x3 h r h' E; cases E
  | succ f ih =>
    intro lbl r1 x2 x3 h r h' E hs
    unfold gX12_is at E
    refine ⟨?_, ?_⟩
    · intro el
      subst el
      have E := (if_pos rfl).symm.trans E
      refine ea_aload_n (pc := 0) dX12_is_0 rfl 0 rfl ?_
      refine ea_getI (pc := 1) dX12_is_1 ec_12 (k := 53) (Nat.le_of_ble_eq_true rfl) rfl (Or.inl ew_1398) (hs.1 0 (by decide)).1 (hs.1 0 (by decide)).2.1 ?_
      refine ea_aload_n (pc := 4) dX12_is_4 rfl 0 rfl ?_
      refine ea_getI (pc := 5) dX12_is_5 ec_12 (k := 55) (Nat.le_of_ble_eq_true rfl) rfl (Or.inl ew_1400) (hs.1 0 (by decide)).1 (hs.1 0 (by decide)).2.1 ?_
      refine ea_isub (pc := 8) dX12_is_8 ?_
      refine ea_aload_n (pc := 9) dX12_is_9 rfl 1 rfl ?_
      cases E
    intro el
    subst el
    have E := (if_neg (by decide)).symm.trans E
    have E := (if_pos rfl).symm.trans E
    refine ea_iload_n (pc := 24) dX12_is_24 rfl 3 rfl ?_
    refine ea_aload_n (pc := 25) dX12_is_25 rfl 1 rfl ?_
    cases E
noncomputable def qX12_is (b0 : Nat) (r1 : Option Nat) (h : ea_H) : Option (Int32 × ea_H) := gX12_is b0 1000000000 0 r1 0 0 h
def okX12_is (b0 : Nat) (r1 : Option Nat) (h : ea_H) : Prop := ∃ x, qX12_is b0 r1 h = some x
noncomputable def vX12_is (b0 : Nat) (r1 : Option Nat) (h : ea_H) : Int32 := ((qX12_is b0 r1 h).getD (0, h)).1
noncomputable def wX12_is (b0 : Nat) (r1 : Option Nat) (h : ea_H) : ea_H := ((qX12_is b0 r1 h).getD (0, h)).2
theorem sX12_is {d : Nat} {b0 : Nat} {r1 : Option Nat} {h : ea_H} (hd : 2 ≤ d) (hs : ShM b0 h) (K : okX12_is b0 r1 h) : ea_Met mX12_is d [vR (some (b0 + 0)), vR r1] h (some (vI (vX12_is b0 r1 h))) (wX12_is b0 r1 h) := by
  obtain ⟨⟨x, y⟩, K⟩ := K
  unfold wX12_is vX12_is
  rw [K]
  unfold qX12_is at K
  exact ea_enter rfl (Nat.le_of_ble_eq_true rfl) ((tX12_is hd 1000000000 0 r1 0 0 h x y K hs).1 rfl)
theorem zX12_is {b0 : Nat} : ∀ (f lbl : Nat) (r1 : Option Nat) (x2 : Int32) (x3 : Int32) (h : ea_H) (r : Int32) (h' : ea_H), gX12_is b0 f lbl r1 x2 x3 h = some (r, h') → ShM b0 h → ShM b0 h' := by
  intro f
  induction f with
  | zero => intro lbl r1 x2 x3 h r h' E; cases E
  | succ f ih =>
    intro lbl r1 x2 x3 h r h' E hs
    unfold gX12_is at E
    by_cases el0 : lbl = 0
    · have E := (if_pos el0).symm.trans E
      cases E
    have E := (if_neg el0).symm.trans E
    by_cases el1 : lbl = 24
    · have E := (if_pos el1).symm.trans E
      cases E
    have E := (if_neg el1).symm.trans E
    cases E
theorem shX12_is {b0 : Nat} {r1 : Option Nat} {h : ea_H} (hs : ShM b0 h) : ShM b0 (wX12_is b0 r1 h) := by
  unfold wX12_is
  cases K : qX12_is b0 r1 h with
  | none => exact hs
  | some x => obtain ⟨x, y⟩ := x; unfold qX12_is at K; exact zX12_is _ _ _ _ _ _ _ _ K hs
noncomputable def gX12_word (b0 : Nat) : Nat → Nat → ea_H → Option (Int32 × ea_H)
  | 0, _, _ => none
  | f + 1, lbl, h =>
    none
theorem tX12_word {d : Nat} {b0 : Nat} {h0 : ea_H} (hd : 3 ≤ d) : ∀ (f lbl : Nat) (h : ea_H) (r : Int32) (h' : ea_H), gX12_word b0 f lbl  h = some (r, h') → ShM b0 h → (lbl = 0 → ea_W mX12_word d h0 (some (vI r)) h' 0 [(0, vR (some (b0 + 0)))] [] h) := by
  intro f
  induction f with
  | zero => intro lbl  h r h' E; cases E
  | succ f ih =>
    intro lbl  h r h' E hs
    unfold gX12_word at E
    intro el
    subst el
    refine ea_aload_n (pc := 0) dX12_word_0 rfl 0 rfl ?_
    cases E
noncomputable def qX12_word (b0 : Nat) (h : ea_H) : Option (Int32 × ea_H) := gX12_word b0 1000000000 0  h
def okX12_word (b0 : Nat) (h : ea_H) : Prop := ∃ x, qX12_word b0 h = some x
noncomputable def vX12_word (b0 : Nat) (h : ea_H) : Int32 := ((qX12_word b0 h).getD (0, h)).1
noncomputable def wX12_word (b0 : Nat) (h : ea_H) : ea_H := ((qX12_word b0 h).getD (0, h)).2
theorem sX12_word {d : Nat} {b0 : Nat} {h : ea_H} (hd : 3 ≤ d) (hs : ShM b0 h) (K : okX12_word b0 h) : ea_Met mX12_word d [vR (some (b0 + 0))] h (some (vI (vX12_word b0 h))) (wX12_word b0 h) := by
  obtain ⟨⟨x, y⟩, K⟩ := K
  unfold wX12_word vX12_word
  rw [K]
  unfold qX12_word at K
  exact ea_enter rfl (Nat.le_of_ble_eq_true rfl) ((tX12_word hd 1000000000 0  h x y K hs) rfl)
theorem zX12_word {b0 : Nat} : ∀ (f lbl : Nat) (h : ea_H) (r : Int32) (h' : ea_H), gX12_word b0 f lbl  h = some (r, h') → ShM b0 h → ShM b0 h' := by
  intro f
  induction f with
  | zero => intro lbl  h r h' E; cases E
  | succ f ih =>
    intro lbl  h r h' E hs
    unfold gX12_word at E
    cases E
theorem shX12_word {b0 : Nat} {h : ea_H} (hs : ShM b0 h) : ShM b0 (wX12_word b0 h) := by
  unfold wX12_word
  cases K : qX12_word b0 h with
  | none => exact hs
  | some x => obtain ⟨x, y⟩ := x; unfold qX12_word at K; exact zX12_word _ _  _ _ _ K hs
noncomputable def gX12_next0 (b0 : Nat) : Nat → Nat → Int32 → Int32 → ea_H → Option (Unit × ea_H)
  | 0, _, _, _, _ => none
  | f + 1, lbl, sx0, x1, h =>
    if lbl = 0 then (gd ((okX12_see b0 ((ea_i h (b0 + 0) 53) : Int32) h)) (if (vX12_see b0 ((ea_i h (b0 + 0) 53) : Int32) h) = (32 : Int32) then (ea_let (ea_wi h (b0 + 0) 53 ((ea_i h (b0 + 0) 53) + (1 : Int32))) fun H3 => (gX12_next0 b0 f 0 0 0 H3)) else (gd ((okX12_see b0 ((ea_i h (b0 + 0) 53) : Int32) h)) (if (vX12_see b0 ((ea_i h (b0 + 0) 53) : Int32) h) = (10 : Int32) then (ea_let (ea_wi h (b0 + 0) 53 ((ea_i h (b0 + 0) 53) + (1 : Int32))) fun H30 => (gX12_next0 b0 f 0 0 0 H30)) else (ea_let (ea_wi h (b0 + 0) 55 (ea_i h (b0 + 0) 53)) fun H6 => (gd ((okX12_see b0 ((ea_i H6 (b0 + 0) 53) : Int32) H6)) (if (vX12_see b0 ((ea_i H6 (b0 + 0) 53) : Int32) H6) = ((-1) : Int32) then (ea_let (ea_wi H6 (b0 + 0) 54 0) fun H27 => (some ((), H27))) else (if (vX12_isLetter ((vX12_see b0 ((ea_i H6 (b0 + 0) 53) : Int32) H6) : Int32) H6) = (0 : Int32) then (if (vX12_isDigit ((vX12_see b0 ((ea_i H6 (b0 + 0) 53) : Int32) H6) : Int32) H6) = (0 : Int32) then (ea_let (ea_wi H6 (b0 + 0) 53 ((ea_i H6 (b0 + 0) 53) + (1 : Int32))) fun H11 => (if (vX12_see b0 ((ea_i H6 (b0 + 0) 53) : Int32) H6) = (59 : Int32) then (gX12_next0 b0 f 289 (1 : Int32) ((vX12_see b0 ((ea_i H6 (b0 + 0) 53) : Int32) H6) : Int32) H11) else (if (vX12_see b0 ((ea_i H6 (b0 + 0) 53) : Int32) H6) = (43 : Int32) then (gX12_next0 b0 f 289 (1 : Int32) ((vX12_see b0 ((ea_i H6 (b0 + 0) 53) : Int32) H6) : Int32) H11) else (if (vX12_see b0 ((ea_i H6 (b0 + 0) 53) : Int32) H6) = (45 : Int32) then (gX12_next0 b0 f 289 (1 : Int32) ((vX12_see b0 ((ea_i H6 (b0 + 0) 53) : Int32) H6) : Int32) H11) else (if (vX12_see b0 ((ea_i H6 (b0 + 0) 53) : Int32) H6) = (42 : Int32) then (gX12_next0 b0 f 289 (1 : Int32) ((vX12_see b0 ((ea_i H6 (b0 + 0) 53) : Int32) H6) : Int32) H11) else (if (vX12_see b0 ((ea_i H6 (b0 + 0) 53) : Int32) H6) = (47 : Int32) then (gX12_next0 b0 f 289 (1 : Int32) ((vX12_see b0 ((ea_i H6 (b0 + 0) 53) : Int32) H6) : Int32) H11) else (if (vX12_see b0 ((ea_i H6 (b0 + 0) 53) : Int32) H6) = (40 : Int32) then (gX12_next0 b0 f 289 (1 : Int32) ((vX12_see b0 ((ea_i H6 (b0 + 0) 53) : Int32) H6) : Int32) H11) else (if (vX12_see b0 ((ea_i H6 (b0 + 0) 53) : Int32) H6) = (41 : Int32) then (gX12_next0 b0 f 289 (1 : Int32) ((vX12_see b0 ((ea_i H6 (b0 + 0) 53) : Int32) H6) : Int32) H11) else (if (vX12_see b0 ((ea_i H6 (b0 + 0) 53) : Int32) H6) = (60 : Int32) then (gX12_next0 b0 f 289 (1 : Int32) ((vX12_see b0 ((ea_i H6 (b0 + 0) 53) : Int32) H6) : Int32) H11) else (if (vX12_see b0 ((ea_i H6 (b0 + 0) 53) : Int32) H6) = (61 : Int32) then (gX12_next0 b0 f 289 (1 : Int32) ((vX12_see b0 ((ea_i H6 (b0 + 0) 53) : Int32) H6) : Int32) H11) else (if (vX12_see b0 ((ea_i H6 (b0 + 0) 53) : Int32) H6) = (62 : Int32) then (gX12_next0 b0 f 289 (1 : Int32) ((vX12_see b0 ((ea_i H6 (b0 + 0) 53) : Int32) H6) : Int32) H11) else (gX12_next0 b0 f 289 (0 : Int32) ((vX12_see b0 ((ea_i H6 (b0 + 0) 53) : Int32) H6) : Int32) H11)))))))))))) else (ea_let (ea_wi H6 (b0 + 0) 56 0) fun H23 => (gX12_next0 b0 f 126 0 0 H23))) else (gX12_next0 b0 f 76 0 0 H6))))))))) else
    if lbl = 76 then (gd ((okX12_see b0 ((ea_i h (b0 + 0) 53) : Int32) h)) (if (vX12_isLetter ((vX12_see b0 ((ea_i h (b0 + 0) 53) : Int32) h) : Int32) h) = (0 : Int32) then (gd ((okX12_word b0 h)) (ea_let (wX12_word b0 h) fun H37 => (ea_let (ea_wi H37 (b0 + 0) 54 (vX12_word b0 h)) fun H39 => (some ((), H39))))) else (ea_let (ea_wi h (b0 + 0) 53 ((ea_i h (b0 + 0) 53) + (1 : Int32))) fun H41 => (gX12_next0 b0 f 76 0 0 H41)))) else
    if lbl = 126 then (gd ((okX12_see b0 ((ea_i h (b0 + 0) 53) : Int32) h)) (if (vX12_isDigit ((vX12_see b0 ((ea_i h (b0 + 0) 53) : Int32) h) : Int32) h) = (0 : Int32) then (if (5 : Int32) ≤ ((ea_i h (b0 + 0) 53) - (ea_i h (b0 + 0) 55)) then (ea_let (ea_wi h (b0 + 0) 54 1) fun H46 => (some ((), H46))) else (ea_let (ea_wi h (b0 + 0) 54 2) fun H48 => (some ((), H48)))) else (if ((ea_i h (b0 + 0) 55) + (4 : Int32)) ≤ (ea_i h (b0 + 0) 53) then (ea_let (ea_wi h (b0 + 0) 53 ((ea_i h (b0 + 0) 53) + (1 : Int32))) fun H51 => (gX12_next0 b0 f 126 0 0 H51)) else (gd ((okX12_see b0 ((ea_i h (b0 + 0) 53) : Int32) h)) (ea_let (ea_wi h (b0 + 0) 56 ((((10 : Int32) * (ea_i h (b0 + 0) 56)) + (vX12_see b0 ((ea_i h (b0 + 0) 53) : Int32) h)) - (48 : Int32))) fun H54 => (ea_let (ea_wi H54 (b0 + 0) 53 ((ea_i H54 (b0 + 0) 53) + (1 : Int32))) fun H56 => (gX12_next0 b0 f 126 0 0 H56))))))) else
    if lbl = 289 then (if sx0 = (0 : Int32) then (ea_let (ea_wi h (b0 + 0) 54 1) fun H60 => (some ((), H60))) else (ea_let (ea_wi h (b0 + 0) 54 x1) fun H62 => (some ((), H62)))) else none
theorem tX12_next0 {d : Nat} {b0 : Nat} {h0 : ea_H} (hd : 4 ≤ d) : ∀ (f lbl : Nat) (sx0 : Int32) (x1 : Int32) (h : ea_H) (r : Unit) (h' : ea_H), gX12_next0 b0 f lbl sx0 x1 h = some (r, h') → ShM b0 h → (lbl = 0 → ea_W mX12_next0 d h0 none h' 0 [(0, vR (some (b0 + 0)))] [] h) ∧ (lbl = 76 → ea_W mX12_next0 d h0 none h' 76 [(0, vR (some (b0 + 0)))] [] h) ∧ (lbl = 126 → ea_W mX12_next0 d h0 none h' 126 [(0, vR (some (b0 + 0)))] [] h) ∧ (lbl = 289 → ea_W mX12_next0 d h0 none h' 289 [(0, vR (some (b0 + 0))), (1, vI x1)] [vI sx0] h) := by
  intro f
  induction f with
  | zero => intro lbl sx0 x1 h r h' E; cases E
  | succ f ih =>
    intro lbl sx0 x1 h r h' E hs
    unfold gX12_next0 at E
    refine ⟨?_, ?_⟩
    · intro el
      subst el
      have E := (if_pos rfl).symm.trans E
      refine ea_aload_n (pc := 0) dX12_next0_0 rfl 0 rfl ?_
      refine ea_aload_n (pc := 1) dX12_next0_1 rfl 0 rfl ?_
      refine ea_getI (pc := 2) dX12_next0_2 ec_12 (k := 53) (Nat.le_of_ble_eq_true rfl) rfl (Or.inl ew_1398) (hs.1 0 (by decide)).1 (hs.1 0 (by decide)).2.1 ?_
      obtain ⟨z1, E⟩ := gd_some E
      refine ea_callV (pc := 5) (d' := d - 1) (As := [vI (ea_i h (b0 + 0) 53)]) (st := []) dX12_next0_5 kX12_see (sX12_see (d := d - 1) (by omega) hs z1) (by omega) rfl (Nat.le_of_ble_eq_true rfl) ew_1826 ew_1828 ew_64 (ci := 12) rfl (by decide) (hs.1 0 (by decide)).1 (hs.1 0 (by decide)).2.1 ?_
      refine ea_bipush (pc := 8) dX12_next0_8 (v := 32) rfl ?_
      refine ea_icmp_eq (pc := 10) (tgt := 26) dX12_next0_10 rfl (fun c32 => ?_) (fun c32 => ?_)
      · have E := (if_pos c32).symm.trans E
        refine ea_aload_n (pc := 26) dX12_next0_26 rfl 0 rfl ?_
        refine ea_dup (pc := 27) dX12_next0_27 rfl ?_
        refine ea_getI (pc := 28) dX12_next0_28 ec_12 (k := 53) (Nat.le_of_ble_eq_true rfl) rfl (Or.inl ew_1398) (hs.1 0 (by decide)).1 (hs.1 0 (by decide)).2.1 ?_
        refine ea_iconst (pc := 31) dX12_next0_31 (v := 1) rfl ?_
        refine ea_iadd (pc := 32) dX12_next0_32 ?_
        refine ea_putI (pc := 33) dX12_next0_33 ec_12 (k := 53) (Nat.le_of_ble_eq_true rfl) rfl (Or.inl ⟨rfl, Or.inl ew_1398⟩) rfl rfl (hs.1 0 (by decide)).1 (hs.1 0 (by decide)).2.1 ?_
        have hs2 : ShM b0 (ea_wi h (b0 + 0) 53 ((ea_i h (b0 + 0) 53) + (1 : Int32))) := ShM_wi hs
        obtain ⟨H3, eH3, E⟩ := let_some E
        refine ea_nm eH3 ?_
        have hsH3 : ShM b0 H3 := by rw [eH3]; exact hs2
        refine ea_goto (pc := 36) (tgt := 0) dX12_next0_36 rfl ?_
        exact ((ih 0 0 0 H3 _ _ E hsH3).1 rfl)
      · have E := (if_neg c32).symm.trans E
        refine ea_aload_n (pc := 13) dX12_next0_13 rfl 0 rfl ?_
        refine ea_aload_n (pc := 14) dX12_next0_14 rfl 0 rfl ?_
        refine ea_getI (pc := 15) dX12_next0_15 ec_12 (k := 53) (Nat.le_of_ble_eq_true rfl) rfl (Or.inl ew_1398) (hs.1 0 (by decide)).1 (hs.1 0 (by decide)).2.1 ?_
        obtain ⟨z4, E⟩ := gd_some E
        refine ea_callV (pc := 18) (d' := d - 1) (As := [vI (ea_i h (b0 + 0) 53)]) (st := []) dX12_next0_18 kX12_see (sX12_see (d := d - 1) (by omega) hs z4) (by omega) rfl (Nat.le_of_ble_eq_true rfl) ew_1826 ew_1828 ew_64 (ci := 12) rfl (by decide) (hs.1 0 (by decide)).1 (hs.1 0 (by decide)).2.1 ?_
        refine ea_bipush (pc := 21) dX12_next0_21 (v := 10) rfl ?_
        refine ea_icmp_ne (pc := 23) (tgt := 39) dX12_next0_23 rfl (fun c31 => ?_) (fun c31 => ?_)
        · have E := (if_neg c31).symm.trans E
          refine ea_aload_n (pc := 39) dX12_next0_39 rfl 0 rfl ?_
          refine ea_aload_n (pc := 40) dX12_next0_40 rfl 0 rfl ?_
          refine ea_getI (pc := 41) dX12_next0_41 ec_12 (k := 53) (Nat.le_of_ble_eq_true rfl) rfl (Or.inl ew_1398) (hs.1 0 (by decide)).1 (hs.1 0 (by decide)).2.1 ?_
          refine ea_putI (pc := 44) dX12_next0_44 ec_12 (k := 55) (Nat.le_of_ble_eq_true rfl) rfl (Or.inl ⟨rfl, Or.inl ew_1400⟩) rfl rfl (hs.1 0 (by decide)).1 (hs.1 0 (by decide)).2.1 ?_
          have hs5 : ShM b0 (ea_wi h (b0 + 0) 55 (ea_i h (b0 + 0) 53)) := ShM_wi hs
          obtain ⟨H6, eH6, E⟩ := let_some E
          refine ea_nm eH6 ?_
          have hsH6 : ShM b0 H6 := by rw [eH6]; exact hs5
          refine ea_aload_n (pc := 47) dX12_next0_47 rfl 0 rfl ?_
          refine ea_aload_n (pc := 48) dX12_next0_48 rfl 0 rfl ?_
          refine ea_getI (pc := 49) dX12_next0_49 ec_12 (k := 53) (Nat.le_of_ble_eq_true rfl) rfl (Or.inl ew_1398) (hsH6.1 0 (by decide)).1 (hsH6.1 0 (by decide)).2.1 ?_
          obtain ⟨z7, E⟩ := gd_some E
          refine ea_callV (pc := 52) (d' := d - 1) (As := [vI (ea_i H6 (b0 + 0) 53)]) (st := []) dX12_next0_52 kX12_see (sX12_see (d := d - 1) (by omega) hsH6 z7) (by omega) rfl (Nat.le_of_ble_eq_true rfl) ew_1826 ew_1828 ew_64 (ci := 12) rfl (by decide) (hsH6.1 0 (by decide)).1 (hsH6.1 0 (by decide)).2.1 ?_
          refine ea_istore_n (pc := 55) (lv' := [(0, vR (some (b0 + 0))), (1, vI (vX12_see b0 ((ea_i H6 (b0 + 0) 53) : Int32) H6))]) dX12_next0_55 rfl (Nat.le_of_ble_eq_true rfl) [1, 0] rfl ?_
          refine ea_iload_n (pc := 56) dX12_next0_56 rfl 1 rfl ?_
          refine ea_iconst (pc := 57) dX12_next0_57 (v := (-1)) rfl ?_
          refine ea_icmp_ne (pc := 58) (tgt := 69) dX12_next0_58 rfl (fun c28 => ?_) (fun c28 => ?_)
          · have E := (if_neg c28).symm.trans E
            refine ea_iload_n (pc := 69) dX12_next0_69 rfl 1 rfl ?_
            refine ea_callS (pc := 70) (d' := d - 1) (As := [vI (vX12_see b0 ((ea_i H6 (b0 + 0) 53) : Int32) H6)]) (st := []) dX12_next0_70 kX12_isLetter (sX12_isLetter (d := d - 1) (by omega)) (by omega) rfl (Nat.le_of_ble_eq_true rfl) ew_1830 ew_1831 ?_
            refine ea_if_eq (pc := 73) (tgt := 114) dX12_next0_73 rfl (fun c25 => ?_) (fun c25 => ?_)
            · have E := (if_pos c25).symm.trans E
              refine ea_iload_n (pc := 114) dX12_next0_114 rfl 1 rfl ?_
              refine ea_callS (pc := 115) (d' := d - 1) (As := [vI (vX12_see b0 ((ea_i H6 (b0 + 0) 53) : Int32) H6)]) (st := []) dX12_next0_115 kX12_isDigit (sX12_isDigit (d := d - 1) (by omega)) (by omega) rfl (Nat.le_of_ble_eq_true rfl) ew_1907 ew_1908 ?_
              refine ea_if_eq (pc := 118) (tgt := 214) dX12_next0_118 rfl (fun c24 => ?_) (fun c24 => ?_)
              · have E := (if_pos c24).symm.trans E
                refine ea_aload_n (pc := 214) dX12_next0_214 rfl 0 rfl ?_
                refine ea_dup (pc := 215) dX12_next0_215 rfl ?_
                refine ea_getI (pc := 216) dX12_next0_216 ec_12 (k := 53) (Nat.le_of_ble_eq_true rfl) rfl (Or.inl ew_1398) (hsH6.1 0 (by decide)).1 (hsH6.1 0 (by decide)).2.1 ?_
                refine ea_iconst (pc := 219) dX12_next0_219 (v := 1) rfl ?_
                refine ea_iadd (pc := 220) dX12_next0_220 ?_
                refine ea_putI (pc := 221) dX12_next0_221 ec_12 (k := 53) (Nat.le_of_ble_eq_true rfl) rfl (Or.inl ⟨rfl, Or.inl ew_1398⟩) rfl rfl (hsH6.1 0 (by decide)).1 (hsH6.1 0 (by decide)).2.1 ?_
                have hs10 : ShM b0 (ea_wi H6 (b0 + 0) 53 ((ea_i H6 (b0 + 0) 53) + (1 : Int32))) := ShM_wi hsH6
                obtain ⟨H11, eH11, E⟩ := let_some E
                refine ea_nm eH11 ?_
                have hsH11 : ShM b0 H11 := by rw [eH11]; exact hs10
                refine ea_iload_n (pc := 224) dX12_next0_224 rfl 1 rfl ?_
                refine ea_bipush (pc := 225) dX12_next0_225 (v := 59) rfl ?_
                refine ea_icmp_eq (pc := 227) (tgt := 284) dX12_next0_227 rfl (fun c21 => ?_) (fun c21 => ?_)
                · have E := (if_pos c21).symm.trans E
                  refine ea_iconst (pc := 284) dX12_next0_284 (v := 1) rfl ?_
                  refine ea_goto (pc := 285) (tgt := 289) dX12_next0_285 rfl ?_
                  exact ((ih 289 (1 : Int32) ((vX12_see b0 ((ea_i H6 (b0 + 0) 53) : Int32) H6) : Int32) H11 _ _ E hsH11).2.2.2 rfl)
                · have E := (if_neg c21).symm.trans E
                  refine ea_iload_n (pc := 230) dX12_next0_230 rfl 1 rfl ?_
                  refine ea_bipush (pc := 231) dX12_next0_231 (v := 43) rfl ?_
                  refine ea_icmp_eq (pc := 233) (tgt := 284) dX12_next0_233 rfl (fun c20 => ?_) (fun c20 => ?_)
                  · have E := (if_pos c20).symm.trans E
                    refine ea_iconst (pc := 284) dX12_next0_284 (v := 1) rfl ?_
                    refine ea_goto (pc := 285) (tgt := 289) dX12_next0_285 rfl ?_
                    exact ((ih 289 (1 : Int32) ((vX12_see b0 ((ea_i H6 (b0 + 0) 53) : Int32) H6) : Int32) H11 _ _ E hsH11).2.2.2 rfl)
                  · have E := (if_neg c20).symm.trans E
                    refine ea_iload_n (pc := 236) dX12_next0_236 rfl 1 rfl ?_
                    refine ea_bipush (pc := 237) dX12_next0_237 (v := 45) rfl ?_
                    refine ea_icmp_eq (pc := 239) (tgt := 284) dX12_next0_239 rfl (fun c19 => ?_) (fun c19 => ?_)
                    · have E := (if_pos c19).symm.trans E
                      refine ea_iconst (pc := 284) dX12_next0_284 (v := 1) rfl ?_
                      refine ea_goto (pc := 285) (tgt := 289) dX12_next0_285 rfl ?_
                      exact ((ih 289 (1 : Int32) ((vX12_see b0 ((ea_i H6 (b0 + 0) 53) : Int32) H6) : Int32) H11 _ _ E hsH11).2.2.2 rfl)
                    · have E := (if_neg c19).symm.trans E
                      refine ea_iload_n (pc := 242) dX12_next0_242 rfl 1 rfl ?_
                      refine ea_bipush (pc := 243) dX12_next0_243 (v := 42) rfl ?_
                      refine ea_icmp_eq (pc := 245) (tgt := 284) dX12_next0_245 rfl (fun c18 => ?_) (fun c18 => ?_)
                      · have E := (if_pos c18).symm.trans E
                        refine ea_iconst (pc := 284) dX12_next0_284 (v := 1) rfl ?_
                        refine ea_goto (pc := 285) (tgt := 289) dX12_next0_285 rfl ?_
                        exact ((ih 289 (1 : Int32) ((vX12_see b0 ((ea_i H6 (b0 + 0) 53) : Int32) H6) : Int32) H11 _ _ E hsH11).2.2.2 rfl)
                      · have E := (if_neg c18).symm.trans E
                        refine ea_iload_n (pc := 248) dX12_next0_248 rfl 1 rfl ?_
                        refine ea_bipush (pc := 249) dX12_next0_249 (v := 47) rfl ?_
                        refine ea_icmp_eq (pc := 251) (tgt := 284) dX12_next0_251 rfl (fun c17 => ?_) (fun c17 => ?_)
                        · have E := (if_pos c17).symm.trans E
                          refine ea_iconst (pc := 284) dX12_next0_284 (v := 1) rfl ?_
                          refine ea_goto (pc := 285) (tgt := 289) dX12_next0_285 rfl ?_
                          exact ((ih 289 (1 : Int32) ((vX12_see b0 ((ea_i H6 (b0 + 0) 53) : Int32) H6) : Int32) H11 _ _ E hsH11).2.2.2 rfl)
                        · have E := (if_neg c17).symm.trans E
                          refine ea_iload_n (pc := 254) dX12_next0_254 rfl 1 rfl ?_
                          refine ea_bipush (pc := 255) dX12_next0_255 (v := 40) rfl ?_
                          refine ea_icmp_eq (pc := 257) (tgt := 284) dX12_next0_257 rfl (fun c16 => ?_) (fun c16 => ?_)
                          · have E := (if_pos c16).symm.trans E
                            refine ea_iconst (pc := 284) dX12_next0_284 (v := 1) rfl ?_
                            refine ea_goto (pc := 285) (tgt := 289) dX12_next0_285 rfl ?_
                            exact ((ih 289 (1 : Int32) ((vX12_see b0 ((ea_i H6 (b0 + 0) 53) : Int32) H6) : Int32) H11 _ _ E hsH11).2.2.2 rfl)
                          · have E := (if_neg c16).symm.trans E
                            refine ea_iload_n (pc := 260) dX12_next0_260 rfl 1 rfl ?_
                            refine ea_bipush (pc := 261) dX12_next0_261 (v := 41) rfl ?_
                            refine ea_icmp_eq (pc := 263) (tgt := 284) dX12_next0_263 rfl (fun c15 => ?_) (fun c15 => ?_)
                            · have E := (if_pos c15).symm.trans E
                              refine ea_iconst (pc := 284) dX12_next0_284 (v := 1) rfl ?_
                              refine ea_goto (pc := 285) (tgt := 289) dX12_next0_285 rfl ?_
                              exact ((ih 289 (1 : Int32) ((vX12_see b0 ((ea_i H6 (b0 + 0) 53) : Int32) H6) : Int32) H11 _ _ E hsH11).2.2.2 rfl)
                            · have E := (if_neg c15).symm.trans E
                              refine ea_iload_n (pc := 266) dX12_next0_266 rfl 1 rfl ?_
                              refine ea_bipush (pc := 267) dX12_next0_267 (v := 60) rfl ?_
                              refine ea_icmp_eq (pc := 269) (tgt := 284) dX12_next0_269 rfl (fun c14 => ?_) (fun c14 => ?_)
                              · have E := (if_pos c14).symm.trans E
                                refine ea_iconst (pc := 284) dX12_next0_284 (v := 1) rfl ?_
                                refine ea_goto (pc := 285) (tgt := 289) dX12_next0_285 rfl ?_
                                exact ((ih 289 (1 : Int32) ((vX12_see b0 ((ea_i H6 (b0 + 0) 53) : Int32) H6) : Int32) H11 _ _ E hsH11).2.2.2 rfl)
                              · have E := (if_neg c14).symm.trans E
                                refine ea_iload_n (pc := 272) dX12_next0_272 rfl 1 rfl ?_
                                refine ea_bipush (pc := 273) dX12_next0_273 (v := 61) rfl ?_
                                refine ea_icmp_eq (pc := 275) (tgt := 284) dX12_next0_275 rfl (fun c13 => ?_) (fun c13 => ?_)
                                · have E := (if_pos c13).symm.trans E
                                  refine ea_iconst (pc := 284) dX12_next0_284 (v := 1) rfl ?_
                                  refine ea_goto (pc := 285) (tgt := 289) dX12_next0_285 rfl ?_
                                  exact ((ih 289 (1 : Int32) ((vX12_see b0 ((ea_i H6 (b0 + 0) 53) : Int32) H6) : Int32) H11 _ _ E hsH11).2.2.2 rfl)
                                · have E := (if_neg c13).symm.trans E
                                  refine ea_iload_n (pc := 278) dX12_next0_278 rfl 1 rfl ?_
                                  refine ea_bipush (pc := 279) dX12_next0_279 (v := 62) rfl ?_
                                  refine ea_icmp_ne (pc := 281) (tgt := 288) dX12_next0_281 rfl (fun c12 => ?_) (fun c12 => ?_)
                                  · have E := (if_neg c12).symm.trans E
                                    refine ea_iconst (pc := 288) dX12_next0_288 (v := 0) rfl ?_
                                    exact ((ih 289 (0 : Int32) ((vX12_see b0 ((ea_i H6 (b0 + 0) 53) : Int32) H6) : Int32) H11 _ _ E hsH11).2.2.2 rfl)
                                  · have E := (if_pos c12).symm.trans E
                                    refine ea_iconst (pc := 284) dX12_next0_284 (v := 1) rfl ?_
                                    refine ea_goto (pc := 285) (tgt := 289) dX12_next0_285 rfl ?_
                                    exact ((ih 289 (1 : Int32) ((vX12_see b0 ((ea_i H6 (b0 + 0) 53) : Int32) H6) : Int32) H11 _ _ E hsH11).2.2.2 rfl)
              · have E := (if_neg c24).symm.trans E
                refine ea_aload_n (pc := 121) dX12_next0_121 rfl 0 rfl ?_
                refine ea_iconst (pc := 122) dX12_next0_122 (v := 0) rfl ?_
                refine ea_putI (pc := 123) dX12_next0_123 ec_12 (k := 56) (Nat.le_of_ble_eq_true rfl) rfl (Or.inl ⟨rfl, Or.inl ew_1401⟩) rfl rfl (hsH6.1 0 (by decide)).1 (hsH6.1 0 (by decide)).2.1 ?_
                have hs22 : ShM b0 (ea_wi H6 (b0 + 0) 56 0) := ShM_wi hsH6
                obtain ⟨H23, eH23, E⟩ := let_some E
                refine ea_nm eH23 ?_
                have hsH23 : ShM b0 H23 := by rw [eH23]; exact hs22
                exact (ea_fewer [0] rfl ((ih 126 0 0 H23 _ _ E hsH23).2.2.1 rfl))
            · have E := (if_neg c25).symm.trans E
              exact (ea_fewer [0] rfl ((ih 76 0 0 H6 _ _ E hsH6).2.1 rfl))
          · have E := (if_pos c28).symm.trans E
            refine ea_aload_n (pc := 61) dX12_next0_61 rfl 0 rfl ?_
            refine ea_iconst (pc := 62) dX12_next0_62 (v := 0) rfl ?_
            refine ea_putI (pc := 63) dX12_next0_63 ec_12 (k := 54) (Nat.le_of_ble_eq_true rfl) rfl (Or.inl ⟨rfl, Or.inl ew_1399⟩) rfl rfl (hsH6.1 0 (by decide)).1 (hsH6.1 0 (by decide)).2.1 ?_
            have hs26 : ShM b0 (ea_wi H6 (b0 + 0) 54 0) := ShM_wi hsH6
            obtain ⟨H27, eH27, E⟩ := let_some E
            refine ea_nm eH27 ?_
            have hsH27 : ShM b0 H27 := by rw [eH27]; exact hs26
            refine ea_goto (pc := 66) (tgt := 303) dX12_next0_66 rfl ?_
            exact ea_vretO (pc := 303) dX12_next0_303 rfl E
        · have E := (if_pos c31).symm.trans E
          refine ea_aload_n (pc := 26) dX12_next0_26 rfl 0 rfl ?_
          refine ea_dup (pc := 27) dX12_next0_27 rfl ?_
          refine ea_getI (pc := 28) dX12_next0_28 ec_12 (k := 53) (Nat.le_of_ble_eq_true rfl) rfl (Or.inl ew_1398) (hs.1 0 (by decide)).1 (hs.1 0 (by decide)).2.1 ?_
          refine ea_iconst (pc := 31) dX12_next0_31 (v := 1) rfl ?_
          refine ea_iadd (pc := 32) dX12_next0_32 ?_
          refine ea_putI (pc := 33) dX12_next0_33 ec_12 (k := 53) (Nat.le_of_ble_eq_true rfl) rfl (Or.inl ⟨rfl, Or.inl ew_1398⟩) rfl rfl (hs.1 0 (by decide)).1 (hs.1 0 (by decide)).2.1 ?_
          have hs29 : ShM b0 (ea_wi h (b0 + 0) 53 ((ea_i h (b0 + 0) 53) + (1 : Int32))) := ShM_wi hs
          obtain ⟨H30, eH30, E⟩ := let_some E
          refine ea_nm eH30 ?_
          have hsH30 : ShM b0 H30 := by rw [eH30]; exact hs29
          refine ea_goto (pc := 36) (tgt := 0) dX12_next0_36 rfl ?_
          exact ((ih 0 0 0 H30 _ _ E hsH30).1 rfl)
    refine ⟨?_, ?_⟩
    · intro el
      subst el
      have E := (if_neg (by decide)).symm.trans E
      have E := (if_pos rfl).symm.trans E
      refine ea_aload_n (pc := 76) dX12_next0_76 rfl 0 rfl ?_
      refine ea_aload_n (pc := 77) dX12_next0_77 rfl 0 rfl ?_
      refine ea_getI (pc := 78) dX12_next0_78 ec_12 (k := 53) (Nat.le_of_ble_eq_true rfl) rfl (Or.inl ew_1398) (hs.1 0 (by decide)).1 (hs.1 0 (by decide)).2.1 ?_
      obtain ⟨z33, E⟩ := gd_some E
      refine ea_callV (pc := 81) (d' := d - 1) (As := [vI (ea_i h (b0 + 0) 53)]) (st := []) dX12_next0_81 kX12_see (sX12_see (d := d - 1) (by omega) hs z33) (by omega) rfl (Nat.le_of_ble_eq_true rfl) ew_1826 ew_1828 ew_64 (ci := 12) rfl (by decide) (hs.1 0 (by decide)).1 (hs.1 0 (by decide)).2.1 ?_
      refine ea_callS (pc := 84) (d' := d - 1) (As := [vI (vX12_see b0 ((ea_i h (b0 + 0) 53) : Int32) h)]) (st := []) dX12_next0_84 kX12_isLetter (sX12_isLetter (d := d - 1) (by omega)) (by omega) rfl (Nat.le_of_ble_eq_true rfl) ew_1830 ew_1831 ?_
      refine ea_if_eq (pc := 87) (tgt := 103) dX12_next0_87 rfl (fun c42 => ?_) (fun c42 => ?_)
      · have E := (if_pos c42).symm.trans E
        refine ea_aload_n (pc := 103) dX12_next0_103 rfl 0 rfl ?_
        refine ea_aload_n (pc := 104) dX12_next0_104 rfl 0 rfl ?_
        obtain ⟨z35, E⟩ := gd_some E
        refine ea_callV (pc := 105) (d' := d - 1) (As := []) (st := [vR (some (b0 + 0))]) dX12_next0_105 kX12_word (sX12_word (d := d - 1) (by omega) hs z35) (by omega) rfl (Nat.le_of_ble_eq_true rfl) ew_1833 ew_1835 ew_65 (ci := 12) rfl (by decide) (hs.1 0 (by decide)).1 (hs.1 0 (by decide)).2.1 ?_
        have hs36 : ShM b0 (wX12_word b0 h) := shX12_word hs
        obtain ⟨H37, eH37, E⟩ := let_some E
        refine ea_nm eH37 ?_
        have hsH37 : ShM b0 H37 := by rw [eH37]; exact hs36
        refine ea_putI (pc := 108) dX12_next0_108 ec_12 (k := 54) (Nat.le_of_ble_eq_true rfl) rfl (Or.inl ⟨rfl, Or.inl ew_1399⟩) rfl rfl (hsH37.1 0 (by decide)).1 (hsH37.1 0 (by decide)).2.1 ?_
        have hs38 : ShM b0 (ea_wi H37 (b0 + 0) 54 (vX12_word b0 h)) := ShM_wi hsH37
        obtain ⟨H39, eH39, E⟩ := let_some E
        refine ea_nm eH39 ?_
        have hsH39 : ShM b0 H39 := by rw [eH39]; exact hs38
        refine ea_goto (pc := 111) (tgt := 303) dX12_next0_111 rfl ?_
        exact ea_vretO (pc := 303) dX12_next0_303 rfl E
      · have E := (if_neg c42).symm.trans E
        refine ea_aload_n (pc := 90) dX12_next0_90 rfl 0 rfl ?_
        refine ea_dup (pc := 91) dX12_next0_91 rfl ?_
        refine ea_getI (pc := 92) dX12_next0_92 ec_12 (k := 53) (Nat.le_of_ble_eq_true rfl) rfl (Or.inl ew_1398) (hs.1 0 (by decide)).1 (hs.1 0 (by decide)).2.1 ?_
        refine ea_iconst (pc := 95) dX12_next0_95 (v := 1) rfl ?_
        refine ea_iadd (pc := 96) dX12_next0_96 ?_
        refine ea_putI (pc := 97) dX12_next0_97 ec_12 (k := 53) (Nat.le_of_ble_eq_true rfl) rfl (Or.inl ⟨rfl, Or.inl ew_1398⟩) rfl rfl (hs.1 0 (by decide)).1 (hs.1 0 (by decide)).2.1 ?_
        have hs40 : ShM b0 (ea_wi h (b0 + 0) 53 ((ea_i h (b0 + 0) 53) + (1 : Int32))) := ShM_wi hs
        obtain ⟨H41, eH41, E⟩ := let_some E
        refine ea_nm eH41 ?_
        have hsH41 : ShM b0 H41 := by rw [eH41]; exact hs40
        refine ea_goto (pc := 100) (tgt := 76) dX12_next0_100 rfl ?_
        exact ((ih 76 0 0 H41 _ _ E hsH41).2.1 rfl)
    refine ⟨?_, ?_⟩
    · intro el
      subst el
      have E := (if_neg (by decide)).symm.trans E
      have E := (if_neg (by decide)).symm.trans E
      have E := (if_pos rfl).symm.trans E
      refine ea_aload_n (pc := 126) dX12_next0_126 rfl 0 rfl ?_
      refine ea_aload_n (pc := 127) dX12_next0_127 rfl 0 rfl ?_
      refine ea_getI (pc := 128) dX12_next0_128 ec_12 (k := 53) (Nat.le_of_ble_eq_true rfl) rfl (Or.inl ew_1398) (hs.1 0 (by decide)).1 (hs.1 0 (by decide)).2.1 ?_
      obtain ⟨z43, E⟩ := gd_some E
      refine ea_callV (pc := 131) (d' := d - 1) (As := [vI (ea_i h (b0 + 0) 53)]) (st := []) dX12_next0_131 kX12_see (sX12_see (d := d - 1) (by omega) hs z43) (by omega) rfl (Nat.le_of_ble_eq_true rfl) ew_1826 ew_1828 ew_64 (ci := 12) rfl (by decide) (hs.1 0 (by decide)).1 (hs.1 0 (by decide)).2.1 ?_
      refine ea_callS (pc := 134) (d' := d - 1) (As := [vI (vX12_see b0 ((ea_i h (b0 + 0) 53) : Int32) h)]) (st := []) dX12_next0_134 kX12_isDigit (sX12_isDigit (d := d - 1) (by omega)) (by omega) rfl (Nat.le_of_ble_eq_true rfl) ew_1907 ew_1908 ?_
      refine ea_if_eq (pc := 137) (tgt := 189) dX12_next0_137 rfl (fun c58 => ?_) (fun c58 => ?_)
      · have E := (if_pos c58).symm.trans E
        refine ea_aload_n (pc := 189) dX12_next0_189 rfl 0 rfl ?_
        refine ea_aload_n (pc := 190) dX12_next0_190 rfl 0 rfl ?_
        refine ea_getI (pc := 191) dX12_next0_191 ec_12 (k := 53) (Nat.le_of_ble_eq_true rfl) rfl (Or.inl ew_1398) (hs.1 0 (by decide)).1 (hs.1 0 (by decide)).2.1 ?_
        refine ea_aload_n (pc := 194) dX12_next0_194 rfl 0 rfl ?_
        refine ea_getI (pc := 195) dX12_next0_195 ec_12 (k := 55) (Nat.le_of_ble_eq_true rfl) rfl (Or.inl ew_1400) (hs.1 0 (by decide)).1 (hs.1 0 (by decide)).2.1 ?_
        refine ea_isub (pc := 198) dX12_next0_198 ?_
        refine ea_iconst (pc := 199) dX12_next0_199 (v := 5) rfl ?_
        refine ea_icmp_ge (pc := 200) (tgt := 207) dX12_next0_200 rfl (fun c49 => ?_) (fun c49 => ?_)
        · have E := (if_pos c49).symm.trans E
          refine ea_iconst (pc := 207) dX12_next0_207 (v := 1) rfl ?_
          refine ea_putI (pc := 208) dX12_next0_208 ec_12 (k := 54) (Nat.le_of_ble_eq_true rfl) rfl (Or.inl ⟨rfl, Or.inl ew_1399⟩) rfl rfl (hs.1 0 (by decide)).1 (hs.1 0 (by decide)).2.1 ?_
          have hs45 : ShM b0 (ea_wi h (b0 + 0) 54 1) := ShM_wi hs
          obtain ⟨H46, eH46, E⟩ := let_some E
          refine ea_nm eH46 ?_
          have hsH46 : ShM b0 H46 := by rw [eH46]; exact hs45
          refine ea_goto (pc := 211) (tgt := 303) dX12_next0_211 rfl ?_
          exact ea_vretO (pc := 303) dX12_next0_303 rfl E
        · have E := (if_neg c49).symm.trans E
          refine ea_iconst (pc := 203) dX12_next0_203 (v := 2) rfl ?_
          refine ea_goto (pc := 204) (tgt := 208) dX12_next0_204 rfl ?_
          refine ea_putI (pc := 208) dX12_next0_208 ec_12 (k := 54) (Nat.le_of_ble_eq_true rfl) rfl (Or.inl ⟨rfl, Or.inl ew_1399⟩) rfl rfl (hs.1 0 (by decide)).1 (hs.1 0 (by decide)).2.1 ?_
          have hs47 : ShM b0 (ea_wi h (b0 + 0) 54 2) := ShM_wi hs
          obtain ⟨H48, eH48, E⟩ := let_some E
          refine ea_nm eH48 ?_
          have hsH48 : ShM b0 H48 := by rw [eH48]; exact hs47
          refine ea_goto (pc := 211) (tgt := 303) dX12_next0_211 rfl ?_
          exact ea_vretO (pc := 303) dX12_next0_303 rfl E
      · have E := (if_neg c58).symm.trans E
        refine ea_aload_n (pc := 140) dX12_next0_140 rfl 0 rfl ?_
        refine ea_getI (pc := 141) dX12_next0_141 ec_12 (k := 53) (Nat.le_of_ble_eq_true rfl) rfl (Or.inl ew_1398) (hs.1 0 (by decide)).1 (hs.1 0 (by decide)).2.1 ?_
        refine ea_aload_n (pc := 144) dX12_next0_144 rfl 0 rfl ?_
        refine ea_getI (pc := 145) dX12_next0_145 ec_12 (k := 55) (Nat.le_of_ble_eq_true rfl) rfl (Or.inl ew_1400) (hs.1 0 (by decide)).1 (hs.1 0 (by decide)).2.1 ?_
        refine ea_iconst (pc := 148) dX12_next0_148 (v := 4) rfl ?_
        refine ea_iadd (pc := 149) dX12_next0_149 ?_
        refine ea_icmp_ge (pc := 150) (tgt := 176) dX12_next0_150 rfl (fun c57 => ?_) (fun c57 => ?_)
        · have E := (if_pos c57).symm.trans E
          refine ea_aload_n (pc := 176) dX12_next0_176 rfl 0 rfl ?_
          refine ea_dup (pc := 177) dX12_next0_177 rfl ?_
          refine ea_getI (pc := 178) dX12_next0_178 ec_12 (k := 53) (Nat.le_of_ble_eq_true rfl) rfl (Or.inl ew_1398) (hs.1 0 (by decide)).1 (hs.1 0 (by decide)).2.1 ?_
          refine ea_iconst (pc := 181) dX12_next0_181 (v := 1) rfl ?_
          refine ea_iadd (pc := 182) dX12_next0_182 ?_
          refine ea_putI (pc := 183) dX12_next0_183 ec_12 (k := 53) (Nat.le_of_ble_eq_true rfl) rfl (Or.inl ⟨rfl, Or.inl ew_1398⟩) rfl rfl (hs.1 0 (by decide)).1 (hs.1 0 (by decide)).2.1 ?_
          have hs50 : ShM b0 (ea_wi h (b0 + 0) 53 ((ea_i h (b0 + 0) 53) + (1 : Int32))) := ShM_wi hs
          obtain ⟨H51, eH51, E⟩ := let_some E
          refine ea_nm eH51 ?_
          have hsH51 : ShM b0 H51 := by rw [eH51]; exact hs50
          refine ea_goto (pc := 186) (tgt := 126) dX12_next0_186 rfl ?_
          exact ((ih 126 0 0 H51 _ _ E hsH51).2.2.1 rfl)
        · have E := (if_neg c57).symm.trans E
          refine ea_aload_n (pc := 153) dX12_next0_153 rfl 0 rfl ?_
          refine ea_bipush (pc := 154) dX12_next0_154 (v := 10) rfl ?_
          refine ea_aload_n (pc := 156) dX12_next0_156 rfl 0 rfl ?_
          refine ea_getI (pc := 157) dX12_next0_157 ec_12 (k := 56) (Nat.le_of_ble_eq_true rfl) rfl (Or.inl ew_1401) (hs.1 0 (by decide)).1 (hs.1 0 (by decide)).2.1 ?_
          refine ea_imul (pc := 160) dX12_next0_160 ?_
          refine ea_aload_n (pc := 161) dX12_next0_161 rfl 0 rfl ?_
          refine ea_aload_n (pc := 162) dX12_next0_162 rfl 0 rfl ?_
          refine ea_getI (pc := 163) dX12_next0_163 ec_12 (k := 53) (Nat.le_of_ble_eq_true rfl) rfl (Or.inl ew_1398) (hs.1 0 (by decide)).1 (hs.1 0 (by decide)).2.1 ?_
          obtain ⟨z52, E⟩ := gd_some E
          refine ea_callV (pc := 166) (d' := d - 1) (As := [vI (ea_i h (b0 + 0) 53)]) (st := [vI ((10 : Int32) * (ea_i h (b0 + 0) 56)), vR (some (b0 + 0))]) dX12_next0_166 kX12_see (sX12_see (d := d - 1) (by omega) hs z52) (by omega) rfl (Nat.le_of_ble_eq_true rfl) ew_1826 ew_1828 ew_64 (ci := 12) rfl (by decide) (hs.1 0 (by decide)).1 (hs.1 0 (by decide)).2.1 ?_
          refine ea_iadd (pc := 169) dX12_next0_169 ?_
          refine ea_bipush (pc := 170) dX12_next0_170 (v := 48) rfl ?_
          refine ea_isub (pc := 172) dX12_next0_172 ?_
          refine ea_putI (pc := 173) dX12_next0_173 ec_12 (k := 56) (Nat.le_of_ble_eq_true rfl) rfl (Or.inl ⟨rfl, Or.inl ew_1401⟩) rfl rfl (hs.1 0 (by decide)).1 (hs.1 0 (by decide)).2.1 ?_
          have hs53 : ShM b0 (ea_wi h (b0 + 0) 56 ((((10 : Int32) * (ea_i h (b0 + 0) 56)) + (vX12_see b0 ((ea_i h (b0 + 0) 53) : Int32) h)) - (48 : Int32))) := ShM_wi hs
          obtain ⟨H54, eH54, E⟩ := let_some E
          refine ea_nm eH54 ?_
          have hsH54 : ShM b0 H54 := by rw [eH54]; exact hs53
          refine ea_aload_n (pc := 176) dX12_next0_176 rfl 0 rfl ?_
          refine ea_dup (pc := 177) dX12_next0_177 rfl ?_
          refine ea_getI (pc := 178) dX12_next0_178 ec_12 (k := 53) (Nat.le_of_ble_eq_true rfl) rfl (Or.inl ew_1398) (hsH54.1 0 (by decide)).1 (hsH54.1 0 (by decide)).2.1 ?_
          refine ea_iconst (pc := 181) dX12_next0_181 (v := 1) rfl ?_
          refine ea_iadd (pc := 182) dX12_next0_182 ?_
          refine ea_putI (pc := 183) dX12_next0_183 ec_12 (k := 53) (Nat.le_of_ble_eq_true rfl) rfl (Or.inl ⟨rfl, Or.inl ew_1398⟩) rfl rfl (hsH54.1 0 (by decide)).1 (hsH54.1 0 (by decide)).2.1 ?_
          have hs55 : ShM b0 (ea_wi H54 (b0 + 0) 53 ((ea_i H54 (b0 + 0) 53) + (1 : Int32))) := ShM_wi hsH54
          obtain ⟨H56, eH56, E⟩ := let_some E
          refine ea_nm eH56 ?_
          have hsH56 : ShM b0 H56 := by rw [eH56]; exact hs55
          refine ea_goto (pc := 186) (tgt := 126) dX12_next0_186 rfl ?_
          exact ((ih 126 0 0 H56 _ _ E hsH56).2.2.1 rfl)
    intro el
    subst el
    have E := (if_neg (by decide)).symm.trans E
    have E := (if_neg (by decide)).symm.trans E
    have E := (if_neg (by decide)).symm.trans E
    have E := (if_pos rfl).symm.trans E
    refine ea_istore_n (pc := 289) (lv' := [(0, vR (some (b0 + 0))), (1, vI x1), (2, vI sx0)]) dX12_next0_289 rfl (Nat.le_of_ble_eq_true rfl) [1, 2, 0] rfl ?_
    refine ea_aload_n (pc := 290) dX12_next0_290 rfl 0 rfl ?_
    refine ea_iload_n (pc := 291) dX12_next0_291 rfl 2 rfl ?_
    refine ea_if_eq (pc := 292) (tgt := 299) dX12_next0_292 rfl (fun c63 => ?_) (fun c63 => ?_)
    · have E := (if_pos c63).symm.trans E
      refine ea_iconst (pc := 299) dX12_next0_299 (v := 1) rfl ?_
      refine ea_putI (pc := 300) dX12_next0_300 ec_12 (k := 54) (Nat.le_of_ble_eq_true rfl) rfl (Or.inl ⟨rfl, Or.inl ew_1399⟩) rfl rfl (hs.1 0 (by decide)).1 (hs.1 0 (by decide)).2.1 ?_
      have hs59 : ShM b0 (ea_wi h (b0 + 0) 54 1) := ShM_wi hs
      obtain ⟨H60, eH60, E⟩ := let_some E
      refine ea_nm eH60 ?_
      have hsH60 : ShM b0 H60 := by rw [eH60]; exact hs59
      exact ea_vretO (pc := 303) dX12_next0_303 rfl E
    · have E := (if_neg c63).symm.trans E
      refine ea_iload_n (pc := 295) dX12_next0_295 rfl 1 rfl ?_
      refine ea_goto (pc := 296) (tgt := 300) dX12_next0_296 rfl ?_
      refine ea_putI (pc := 300) dX12_next0_300 ec_12 (k := 54) (Nat.le_of_ble_eq_true rfl) rfl (Or.inl ⟨rfl, Or.inl ew_1399⟩) rfl rfl (hs.1 0 (by decide)).1 (hs.1 0 (by decide)).2.1 ?_
      have hs61 : ShM b0 (ea_wi h (b0 + 0) 54 x1) := ShM_wi hs
      obtain ⟨H62, eH62, E⟩ := let_some E
      refine ea_nm eH62 ?_
      have hsH62 : ShM b0 H62 := by rw [eH62]; exact hs61
      exact ea_vretO (pc := 303) dX12_next0_303 rfl E
noncomputable def qX12_next0 (b0 : Nat) (h : ea_H) : Option (Unit × ea_H) := gX12_next0 b0 1000000000 0 0 0 h
def okX12_next0 (b0 : Nat) (h : ea_H) : Prop := ∃ x, qX12_next0 b0 h = some x
noncomputable def wX12_next0 (b0 : Nat) (h : ea_H) : ea_H := ((qX12_next0 b0 h).getD ((), h)).2
theorem sX12_next0 {d : Nat} {b0 : Nat} {h : ea_H} (hd : 4 ≤ d) (hs : ShM b0 h) (K : okX12_next0 b0 h) : ea_Met mX12_next0 d [vR (some (b0 + 0))] h none (wX12_next0 b0 h) := by
  obtain ⟨⟨x, y⟩, K⟩ := K
  unfold wX12_next0
  rw [K]
  unfold qX12_next0 at K
  exact ea_enter rfl (Nat.le_of_ble_eq_true rfl) ((tX12_next0 hd 1000000000 0 0 0 h x y K hs).1 rfl)
