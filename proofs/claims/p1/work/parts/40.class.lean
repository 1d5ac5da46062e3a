/-! the class, 0 -/
theorem dJ9_max_7cf53_0 : decode cJ9_max_7cf53 0 = .ok (.iload_n 0, 1) := by decide +kernel
theorem dJ9_max_7cf53_1 : decode cJ9_max_7cf53 1 = .ok (.iload_n 1, 1) := by decide +kernel
theorem dJ9_max_7cf53_2 : decode cJ9_max_7cf53 2 = .ok (.if_icmp .lt 7, 3) := by decide +kernel
theorem dJ9_max_7cf53_5 : decode cJ9_max_7cf53 5 = .ok (.iload_n 0, 1) := by decide +kernel
theorem dJ9_max_7cf53_6 : decode cJ9_max_7cf53 6 = .ok (.goto 4, 3) := by decide +kernel
theorem dJ9_max_7cf53_9 : decode cJ9_max_7cf53 9 = .ok (.iload_n 1, 1) := by decide +kernel
theorem dJ9_max_7cf53_10 : decode cJ9_max_7cf53 10 = .ok (.ireturn, 1) := by decide +kernel
theorem dJ9_min_7cf53_0 : decode cJ9_min_7cf53 0 = .ok (.iload_n 0, 1) := by decide +kernel
theorem dJ9_min_7cf53_1 : decode cJ9_min_7cf53 1 = .ok (.iload_n 1, 1) := by decide +kernel
theorem dJ9_min_7cf53_2 : decode cJ9_min_7cf53 2 = .ok (.if_icmp .gt 7, 3) := by decide +kernel
theorem dJ9_min_7cf53_5 : decode cJ9_min_7cf53 5 = .ok (.iload_n 0, 1) := by decide +kernel
theorem dJ9_min_7cf53_6 : decode cJ9_min_7cf53 6 = .ok (.goto 4, 3) := by decide +kernel
theorem dJ9_min_7cf53_9 : decode cJ9_min_7cf53 9 = .ok (.iload_n 1, 1) := by decide +kernel
theorem dJ9_min_7cf53_10 : decode cJ9_min_7cf53 10 = .ok (.ireturn, 1) := by decide +kernel
theorem dJ9_min_f86c9_0 : decode cJ9_min_f86c9 0 = .ok (.lload_n 0, 1) := by decide +kernel
theorem dJ9_min_f86c9_1 : decode cJ9_min_f86c9 1 = .ok (.lload_n 2, 1) := by decide +kernel
theorem dJ9_min_f86c9_2 : decode cJ9_min_f86c9 2 = .ok (.lcmp, 1) := by decide +kernel
theorem dJ9_min_f86c9_3 : decode cJ9_min_f86c9 3 = .ok (.ifCond .gt 7, 3) := by decide +kernel
theorem dJ9_min_f86c9_6 : decode cJ9_min_f86c9 6 = .ok (.lload_n 0, 1) := by decide +kernel
theorem dJ9_min_f86c9_7 : decode cJ9_min_f86c9 7 = .ok (.goto 4, 3) := by decide +kernel
theorem dJ9_min_f86c9_10 : decode cJ9_min_f86c9 10 = .ok (.lload_n 2, 1) := by decide +kernel
theorem dJ9_min_f86c9_11 : decode cJ9_min_f86c9 11 = .ok (.lreturn, 1) := by decide +kernel
theorem dJ7_copyOf_59c91_0 : decode cJ7_copyOf_59c91 0 = .ok (.iload_n 1, 1) := by decide +kernel
theorem dJ7_copyOf_59c91_1 : decode cJ7_copyOf_59c91 1 = .ok (.aload_n 0, 1) := by decide +kernel
theorem dJ7_copyOf_59c91_2 : decode cJ7_copyOf_59c91 2 = .ok (.arraylength, 1) := by decide +kernel
theorem dJ7_copyOf_59c91_3 : decode cJ7_copyOf_59c91 3 = .ok (.if_icmp .ne 11, 3) := by decide +kernel
theorem dJ7_copyOf_59c91_6 : decode cJ7_copyOf_59c91 6 = .ok (.aload_n 0, 1) := by decide +kernel
theorem dJ7_copyOf_59c91_7 : decode cJ7_copyOf_59c91 7 = .ok (.invokevirtual 316, 3) := by decide +kernel
theorem dJ7_copyOf_59c91_10 : decode cJ7_copyOf_59c91 10 = .ok (.checkcast 317, 3) := by decide +kernel
theorem dJ7_copyOf_59c91_13 : decode cJ7_copyOf_59c91 13 = .ok (.areturn, 1) := by decide +kernel
theorem dJ7_copyOf_59c91_14 : decode cJ7_copyOf_59c91 14 = .ok (.iload_n 1, 1) := by decide +kernel
theorem dJ7_copyOf_59c91_15 : decode cJ7_copyOf_59c91 15 = .ok (.newarray .int, 2) := by decide +kernel
theorem dJ7_copyOf_59c91_17 : decode cJ7_copyOf_59c91 17 = .ok (.astore_n 2, 1) := by decide +kernel
theorem dJ7_copyOf_59c91_18 : decode cJ7_copyOf_59c91 18 = .ok (.aload_n 0, 1) := by decide +kernel
theorem dJ7_copyOf_59c91_19 : decode cJ7_copyOf_59c91 19 = .ok (.iconst 0, 1) := by decide +kernel
theorem dJ7_copyOf_59c91_20 : decode cJ7_copyOf_59c91 20 = .ok (.aload_n 2, 1) := by decide +kernel
theorem dJ7_copyOf_59c91_21 : decode cJ7_copyOf_59c91 21 = .ok (.iconst 0, 1) := by decide +kernel
theorem dJ7_copyOf_59c91_22 : decode cJ7_copyOf_59c91 22 = .ok (.aload_n 0, 1) := by decide +kernel
theorem dJ7_copyOf_59c91_23 : decode cJ7_copyOf_59c91 23 = .ok (.arraylength, 1) := by decide +kernel
theorem dJ7_copyOf_59c91_24 : decode cJ7_copyOf_59c91 24 = .ok (.iload_n 1, 1) := by decide +kernel
theorem dJ7_copyOf_59c91_25 : decode cJ7_copyOf_59c91 25 = .ok (.invokestatic 304, 3) := by decide +kernel
theorem dJ7_copyOf_59c91_28 : decode cJ7_copyOf_59c91 28 = .ok (.invokestatic 150, 3) := by decide +kernel
theorem dJ7_copyOf_59c91_31 : decode cJ7_copyOf_59c91 31 = .ok (.aload_n 2, 1) := by decide +kernel
theorem dJ7_copyOf_59c91_32 : decode cJ7_copyOf_59c91 32 = .ok (.areturn, 1) := by decide +kernel
theorem dJ7_fill_53178_0 : decode cJ7_fill_53178 0 = .ok (.iconst 0, 1) := by decide +kernel
theorem dJ7_fill_53178_1 : decode cJ7_fill_53178 1 = .ok (.istore_n 2, 1) := by decide +kernel
theorem dJ7_fill_53178_2 : decode cJ7_fill_53178 2 = .ok (.aload_n 0, 1) := by decide +kernel
theorem dJ7_fill_53178_3 : decode cJ7_fill_53178 3 = .ok (.arraylength, 1) := by decide +kernel
theorem dJ7_fill_53178_4 : decode cJ7_fill_53178 4 = .ok (.istore_n 3, 1) := by decide +kernel
theorem dJ7_fill_53178_5 : decode cJ7_fill_53178 5 = .ok (.iload_n 2, 1) := by decide +kernel
theorem dJ7_fill_53178_6 : decode cJ7_fill_53178 6 = .ok (.iload_n 3, 1) := by decide +kernel
theorem dJ7_fill_53178_7 : decode cJ7_fill_53178 7 = .ok (.if_icmp .ge 13, 3) := by decide +kernel
theorem dJ7_fill_53178_10 : decode cJ7_fill_53178 10 = .ok (.aload_n 0, 1) := by decide +kernel
theorem dJ7_fill_53178_11 : decode cJ7_fill_53178 11 = .ok (.iload_n 2, 1) := by decide +kernel
theorem dJ7_fill_53178_12 : decode cJ7_fill_53178 12 = .ok (.iload_n 1, 1) := by decide +kernel
theorem dJ7_fill_53178_13 : decode cJ7_fill_53178 13 = .ok (.iastore, 1) := by decide +kernel
theorem dJ7_fill_53178_14 : decode cJ7_fill_53178 14 = .ok (.iinc 2 1, 3) := by decide +kernel
theorem dJ7_fill_53178_17 : decode cJ7_fill_53178 17 = .ok (.goto (-12), 3) := by decide +kernel
theorem dJ7_fill_53178_20 : decode cJ7_fill_53178 20 = .ok (.return_, 1) := by decide +kernel
theorem dJ7_fill_d0a16_0 : decode cJ7_fill_d0a16 0 = .ok (.iconst 0, 1) := by decide +kernel
theorem dJ7_fill_d0a16_1 : decode cJ7_fill_d0a16 1 = .ok (.istore_n 3, 1) := by decide +kernel
theorem dJ7_fill_d0a16_2 : decode cJ7_fill_d0a16 2 = .ok (.aload_n 0, 1) := by decide +kernel
theorem dJ7_fill_d0a16_3 : decode cJ7_fill_d0a16 3 = .ok (.arraylength, 1) := by decide +kernel
theorem dJ7_fill_d0a16_4 : decode cJ7_fill_d0a16 4 = .ok (.istore 4, 2) := by decide +kernel
theorem dJ7_fill_d0a16_6 : decode cJ7_fill_d0a16 6 = .ok (.iload_n 3, 1) := by decide +kernel
theorem dJ7_fill_d0a16_7 : decode cJ7_fill_d0a16 7 = .ok (.iload 4, 2) := by decide +kernel
theorem dJ7_fill_d0a16_9 : decode cJ7_fill_d0a16 9 = .ok (.if_icmp .ge 13, 3) := by decide +kernel
theorem dJ7_fill_d0a16_12 : decode cJ7_fill_d0a16 12 = .ok (.aload_n 0, 1) := by decide +kernel
theorem dJ7_fill_d0a16_13 : decode cJ7_fill_d0a16 13 = .ok (.iload_n 3, 1) := by decide +kernel
theorem dJ7_fill_d0a16_14 : decode cJ7_fill_d0a16 14 = .ok (.lload_n 1, 1) := by decide +kernel
theorem dJ7_fill_d0a16_15 : decode cJ7_fill_d0a16 15 = .ok (.lastore, 1) := by decide +kernel
theorem dJ7_fill_d0a16_16 : decode cJ7_fill_d0a16 16 = .ok (.iinc 3 1, 3) := by decide +kernel
theorem dJ7_fill_d0a16_19 : decode cJ7_fill_d0a16 19 = .ok (.goto (-13), 3) := by decide +kernel
theorem dJ7_fill_d0a16_22 : decode cJ7_fill_d0a16 22 = .ok (.return_, 1) := by decide +kernel
theorem ew_111 : Cond.initialized "java/lang/System" ∈ ea_tbl := ea_in (et_1 (List.mem_of_getElem? (i := 4) (by decide +kernel))) rfl
theorem ew_150 : Cond.methodLink RX6 35 arraycopyName ∈ ea_tbl := ea_in (et_1 (List.mem_of_getElem? (i := 43) (by decide +kernel))) rfl
theorem ew_151 : Cond.static arraycopyName ∈ ea_tbl := ea_in (et_1 (List.mem_of_getElem? (i := 44) (by decide +kernel))) rfl
theorem ew_152 : Cond.native arraycopyName ∈ ea_tbl := ea_in (et_1 (List.mem_of_getElem? (i := 45) (by decide +kernel))) rfl
theorem ew_663 : Cond.methodLink RJ7 304 yJ9_min_7cf53 ∈ ea_tbl := ea_in (et_3 (List.mem_of_getElem? (i := 76) (by decide +kernel))) rfl
theorem ew_664 : Cond.methodLink RJ7 150 arraycopyName ∈ ea_tbl := ea_in (et_3 (List.mem_of_getElem? (i := 77) (by decide +kernel))) rfl
theorem ew_1324 : Cond.methodLink RX1 77 arraycopyName ∈ ea_tbl := ea_in (et_6 (List.mem_of_getElem? (i := 17) (by decide +kernel))) rfl
/-! the class: its cells that are made once; methods without loops -/
def ShC_cl : List (Nat × Nat) := [(11, 0), (6, 0), (20, 144), (20, 144), (20, 144), (9, 0), (20, 10), (20, 80), (20, 80), (20, 80), (21, 80), (20, 70), (21, 560), (10, 0), (20, 12), (20, 12), (3, 0), (20, 8), (20, 8), (20, 8), (20, 8), (8, 0), (5, 0), (20, 600), (20, 601), (20, 601), (20, 601), (20, 648), (26, 6), (20, 7), (20, 64), (23, 120), (1, 0), (20, 120), (20, 120), (20, 120), (20, 120), (21, 120), (20, 70), (20, 120), (20, 12), (20, 70), (1, 0), (20, 120), (20, 120), (20, 120), (20, 120), (21, 120), (20, 70), (20, 120), (20, 12), (20, 70), (24, 10), (25, 20), (2, 0), (2, 0), (2, 0), (2, 0), (2, 0), (2, 0), (2, 0), (2, 0), (2, 0), (2, 0)]
def ShC_rf : List (Nat × Nat × Nat) := [(0, 0, 1), (0, 1, 5), (0, 2, 13), (0, 3, 16), (0, 4, 21), (0, 5, 31), (0, 6, 32), (0, 7, 42), (0, 8, 52), (0, 9, 53), (1, 1, 2), (1, 2, 3), (1, 3, 4), (5, 1, 6), (5, 2, 7), (5, 3, 8), (5, 4, 9), (5, 5, 10), (5, 6, 11), (5, 7, 12), (13, 2, 5), (13, 7, 14), (13, 8, 15), (16, 1, 17), (16, 2, 18), (16, 3, 19), (16, 4, 20), (21, 0, 22), (21, 2, 28), (21, 3, 29), (21, 4, 30), (22, 3, 23), (22, 4, 24), (22, 5, 25), (22, 6, 26), (22, 10, 27), (32, 1, 33), (32, 2, 34), (32, 3, 35), (32, 4, 36), (32, 5, 37), (32, 6, 38), (32, 7, 39), (32, 8, 40), (32, 9, 41), (32, 11, 5), (32, 12, 13), (32, 13, 16), (32, 14, 31), (42, 1, 43), (42, 2, 44), (42, 3, 45), (42, 4, 46), (42, 5, 47), (42, 6, 48), (42, 7, 49), (42, 8, 50), (42, 9, 51), (42, 11, 5), (42, 12, 13), (42, 13, 16), (42, 14, 31), (52, 0, 54), (52, 1, 55), (52, 2, 56), (52, 3, 57), (52, 4, 58), (52, 5, 59), (52, 6, 60), (52, 7, 61), (52, 8, 62), (52, 9, 63)]
def ShC_c (b : Nat) : Nat := (ShC_cl.getD b (0, 0)).1
def ShC_l (b : Nat) : Nat := (ShC_cl.getD b (0, 0)).2
def ShC_r (a k : Nat) : Option Nat := (ShC_rf.find? fun q => q.1 == a && q.2.1 == k).map fun q => q.2.2
/-- the cells that are made once, from number b0 on: their classes, their lengths, what they refer to -/
def ShC (b0 : Nat) (h : ea_H) : Prop := (∀ b, b < 64 → b0 + b < ea_n h ∧ ea_c h (b0 + b) = ShC_c b ∧ ea_l h (b0 + b) = ShC_l b) ∧ ∀ a k, (ShC_r a k).isSome → ea_r h (b0 + a) k = (ShC_r a k).map fun t => b0 + t
theorem ShC_wi {b0 : Nat} {h : ea_H} {a k : Nat} {x : Int32} (hs : ShC b0 h) : ShC b0 (ea_wi h a k x) := hs
theorem ShC_wa {b0 : Nat} {h : ea_H} {a : Nat} {f : Nat → Int32} (hs : ShC b0 h) : ShC b0 (ea_wa h a f) := hs
theorem ShC_wj {b0 : Nat} {h : ea_H} {a k : Nat} {x : Int64} (hs : ShC b0 h) : ShC b0 (ea_wj h a k x) := hs
theorem ShC_new {b0 : Nat} {h : ea_H} {c l s : Nat} (hs : ShC b0 h) : ShC b0 (ea_new h c l s) := by
  have h0 := (hs.1 0 (by decide)).1
  refine ⟨fun b hb => ?_, fun a k hk => ?_⟩
  · obtain ⟨h1, h2, h3⟩ := hs.1 b hb
    have hne : b0 + b ≠ ea_n h := by omega
    exact ⟨Nat.lt_succ_of_lt h1, by rw [← h2]; simp only [ea_c, ea_new, ea_u1, if_neg hne], by rw [← h3]; simp only [ea_l, ea_new, ea_u1, if_neg hne]⟩
  · have hlt : a < 64 := by
      have hm : ∀ q ∈ ShC_rf, q.1 < 64 := by decide
      unfold ShC_r at hk
      cases hf : ShC_rf.find? (fun q => q.1 == a && q.2.1 == k) with
      | none => rw [hf] at hk; cases hk
      | some q =>
        have h5 := List.find?_some hf
        have h6 := hm q (List.mem_of_find?_eq_some hf)
        simp only [Bool.and_eq_true, beq_iff_eq] at h5
        omega
    have h1 := (hs.1 a hlt).1
    have hne : b0 + a ≠ ea_n h := by omega
    rw [← hs.2 a k hk]
    simp only [ea_r, ea_new, ea_u1, if_neg hne]
theorem ShC_wr {b0 : Nat} {h : ea_H} {o k : Nat} {x : Option Nat} (hr : ShC_r o k = none) (hs : ShC b0 h) : ShC b0 (ea_wr h (b0 + o) k x) := by
  refine ⟨hs.1, fun a j hj => ?_⟩
  rw [← hs.2 a j hj]
  have hne : ¬ (b0 + a = b0 + o ∧ j = k) := by
    rintro ⟨e1, rfl⟩
    have : a = o := by omega
    subst this
    rw [hr] at hj
    cases hj
  simp only [ea_r, ea_wr, ea_u2, if_neg hne]
def ShC_far (b0 a : Nat) : Prop := ∀ b, b < 64 → a ≠ b0 + b
noncomputable def ShC_wd (b0 : Nat) (h : ea_H) (a k : Nat) (x : Option Nat) : ea_H := @ite _ (ShC_far b0 a) (Classical.propDecidable _) (ea_wr h a k x) h
theorem ShC_wdeq {b0 : Nat} {h : ea_H} {a k : Nat} {x : Option Nat} (hf : ShC_far b0 a) : ShC_wd b0 h a k x = ea_wr h a k x := by unfold ShC_wd; rw [if_pos hf]
theorem ShC_lt {a k : Nat} (hk : (ShC_r a k).isSome) : a < 64 := by
  have hm : ∀ q ∈ ShC_rf, q.1 < 64 := by decide
  unfold ShC_r at hk
  cases hf : ShC_rf.find? (fun q => q.1 == a && q.2.1 == k) with
  | none => rw [hf] at hk; cases hk
  | some q =>
    have h5 := List.find?_some hf
    have h6 := hm q (List.mem_of_find?_eq_some hf)
    simp only [Bool.and_eq_true, beq_iff_eq] at h5
    omega
theorem ShC_wd_sh {b0 : Nat} {h : ea_H} {a k : Nat} {x : Option Nat} (hs : ShC b0 h) : ShC b0 (ShC_wd b0 h a k x) := by
  unfold ShC_wd
  split
  · rename_i hf
    refine ⟨hs.1, fun b j hj => ?_⟩
    rw [← hs.2 b j hj]
    have hb := ShC_lt hj
    have hne : ¬ (b0 + b = a ∧ j = k) := fun h => hf b hb h.1.symm
    simp only [ea_r, ea_wr, ea_u2, if_neg hne]
  · exact hs
theorem ShC_it {b0 : Nat} {c : Prop} {_ : Decidable c} {A B : ea_H} (hA : ShC b0 A) (hB : ShC b0 B) : ShC b0 (if c then A else B) := by split <;> assumption
theorem ec_sw_m19_m10 {x : Int} (q0 : ¬ x = -19) (q1 : ¬ x = -18) (q2 : ¬ x = -17) (q3 : ¬ x = -16) (q4 : ¬ x = -15) (q5 : ¬ x = -14) (q6 : ¬ x = -13) (q7 : ¬ x = -12) (q8 : ¬ x = -11) (q9 : ¬ x = -10) : x < -19 ∨ -10 < x := by omega
theorem ec_sw_0_2 {x : Int} (q0 : ¬ x = 0) (q1 : ¬ x = 1) (q2 : ¬ x = 2) : x < 0 ∨ 2 < x := by omega
theorem ec_sw_0_3 {x : Int} (q0 : ¬ x = 0) (q1 : ¬ x = 1) (q2 : ¬ x = 2) (q3 : ¬ x = 3) : x < 0 ∨ 3 < x := by omega
theorem ec_sw_0_4 {x : Int} (q0 : ¬ x = 0) (q1 : ¬ x = 1) (q2 : ¬ x = 2) (q3 : ¬ x = 3) (q4 : ¬ x = 4) : x < 0 ∨ 4 < x := by omega
theorem ec_sw_0_5 {x : Int} (q0 : ¬ x = 0) (q1 : ¬ x = 1) (q2 : ¬ x = 2) (q3 : ¬ x = 3) (q4 : ¬ x = 4) (q5 : ¬ x = 5) : x < 0 ∨ 5 < x := by omega
theorem ec_sw_0_7 {x : Int} (q0 : ¬ x = 0) (q1 : ¬ x = 1) (q2 : ¬ x = 2) (q3 : ¬ x = 3) (q4 : ¬ x = 4) (q5 : ¬ x = 5) (q6 : ¬ x = 6) (q7 : ¬ x = 7) : x < 0 ∨ 7 < x := by omega
theorem ec_sw_0_12 {x : Int} (q0 : ¬ x = 0) (q1 : ¬ x = 1) (q2 : ¬ x = 2) (q3 : ¬ x = 3) (q4 : ¬ x = 4) (q5 : ¬ x = 5) (q6 : ¬ x = 6) (q7 : ¬ x = 7) (q8 : ¬ x = 8) (q9 : ¬ x = 9) (q10 : ¬ x = 10) (q11 : ¬ x = 11) (q12 : ¬ x = 12) : x < 0 ∨ 12 < x := by omega
theorem ec_sw_1_4 {x : Int} (q0 : ¬ x = 1) (q1 : ¬ x = 2) (q2 : ¬ x = 3) (q3 : ¬ x = 4) : x < 1 ∨ 4 < x := by omega
theorem ec_sw_40_62 {x : Int} (q0 : ¬ x = 40) (q1 : ¬ x = 41) (q2 : ¬ x = 42) (q3 : ¬ x = 43) (q4 : ¬ x = 44) (q5 : ¬ x = 45) (q6 : ¬ x = 46) (q7 : ¬ x = 47) (q8 : ¬ x = 48) (q9 : ¬ x = 49) (q10 : ¬ x = 50) (q11 : ¬ x = 51) (q12 : ¬ x = 52) (q13 : ¬ x = 53) (q14 : ¬ x = 54) (q15 : ¬ x = 55) (q16 : ¬ x = 56) (q17 : ¬ x = 57) (q18 : ¬ x = 58) (q19 : ¬ x = 59) (q20 : ¬ x = 60) (q21 : ¬ x = 61) (q22 : ¬ x = 62) : x < 40 ∨ 62 < x := by omega
theorem ec_sw_60_62 {x : Int} (q0 : ¬ x = 60) (q1 : ¬ x = 61) (q2 : ¬ x = 62) : x < 60 ∨ 62 < x := by omega
noncomputable def vX11_town (b0 : Nat) (h : ea_H) : Int32 := (if (ea_i h (b0 + 1) 0) < (12 : Int32) then ((ea_i (ea_wi h (b0 + 1) 0 ((ea_i h (b0 + 1) 0) + (1 : Int32))) (b0 + 1) 0) - (1 : Int32)) else ((-1) : Int32))
noncomputable def wX11_town (b0 : Nat) (h : ea_H) : ea_H := (if (ea_i h (b0 + 1) 0) < (12 : Int32) then (ea_wi h (b0 + 1) 0 ((ea_i h (b0 + 1) 0) + (1 : Int32))) else h)
theorem shX11_town {b0 : Nat} {h : ea_H} (hs : ShC b0 h) : ShC b0 (wX11_town b0 h) := (ShC_it (ShC_wi hs) hs)
theorem sX11_town {d : Nat} {b0 : Nat} {h : ea_H} (hd : 1 ≤ d) (hs : ShC b0 h) : ea_Met mX11_town d [vR (some (b0 + 0))] h (some (vI (vX11_town b0 h))) (wX11_town b0 h) := by
  obtain ⟨X, EX⟩ : ∃ z, z = vX11_town b0 h := ⟨_, rfl⟩
  rw [← EX]
  unfold vX11_town at EX
  obtain ⟨Y, EY⟩ : ∃ z, z = wX11_town b0 h := ⟨_, rfl⟩
  rw [← EY]
  unfold wX11_town at EY
  refine ea_enter rfl (Nat.le_of_ble_eq_true rfl) ?_
  refine ea_aload_n (pc := 0) dX11_town_0 rfl 0 rfl ?_
  refine ea_getR (pc := 1) dX11_town_1 ec_11 (k := 0) (Nat.le_of_ble_eq_true rfl) rfl (Or.inl ew_437) (hs.1 0 (by decide)).1 (hs.1 0 (by decide)).2.1 (hs.2 0 0 rfl) ?_
  refine ea_getI (pc := 4) dX11_town_4 ec_6 (k := 0) (Nat.le_of_ble_eq_true rfl) rfl (Or.inl ew_156) (hs.1 1 (by decide)).1 (hs.1 1 (by decide)).2.1 ?_
  refine ea_bipush (pc := 7) dX11_town_7 (v := 12) rfl ?_
  refine ea_icmp_lt (pc := 9) (tgt := 14) dX11_town_9 rfl (fun c2 => ?_) (fun c2 => ?_)
  · have EX := EX.trans (if_pos c2)
    have EY := EY.trans (if_pos c2)
    refine ea_aload_n (pc := 14) dX11_town_14 rfl 0 rfl ?_
    refine ea_getR (pc := 15) dX11_town_15 ec_11 (k := 0) (Nat.le_of_ble_eq_true rfl) rfl (Or.inl ew_437) (hs.1 0 (by decide)).1 (hs.1 0 (by decide)).2.1 (hs.2 0 0 rfl) ?_
    refine ea_dup (pc := 18) dX11_town_18 rfl ?_
    refine ea_getI (pc := 19) dX11_town_19 ec_6 (k := 0) (Nat.le_of_ble_eq_true rfl) rfl (Or.inl ew_156) (hs.1 1 (by decide)).1 (hs.1 1 (by decide)).2.1 ?_
    refine ea_iconst (pc := 22) dX11_town_22 (v := 1) rfl ?_
    refine ea_iadd (pc := 23) dX11_town_23 ?_
    refine ea_putI (pc := 24) dX11_town_24 ec_6 (k := 0) (Nat.le_of_ble_eq_true rfl) rfl (Or.inl ⟨rfl, Or.inl ew_156⟩) rfl rfl (hs.1 1 (by decide)).1 (hs.1 1 (by decide)).2.1 ?_
    have hs1 : ShC b0 (ea_wi h (b0 + 1) 0 ((ea_i h (b0 + 1) 0) + (1 : Int32))) := ShC_wi hs
    refine ea_aload_n (pc := 27) dX11_town_27 rfl 0 rfl ?_
    refine ea_getR (pc := 28) dX11_town_28 ec_11 (k := 0) (Nat.le_of_ble_eq_true rfl) rfl (Or.inl ew_437) (hs1.1 0 (by decide)).1 (hs1.1 0 (by decide)).2.1 (hs1.2 0 0 rfl) ?_
    refine ea_getI (pc := 31) dX11_town_31 ec_6 (k := 0) (Nat.le_of_ble_eq_true rfl) rfl (Or.inl ew_156) (hs1.1 1 (by decide)).1 (hs1.1 1 (by decide)).2.1 ?_
    refine ea_iconst (pc := 34) dX11_town_34 (v := 1) rfl ?_
    refine ea_isub (pc := 35) dX11_town_35 ?_
    exact ea_iretE (pc := 36) dX11_town_36 rfl rfl EX EY
  · have EX := EX.trans (if_neg c2)
    have EY := EY.trans (if_neg c2)
    refine ea_iconst (pc := 12) dX11_town_12 (v := (-1)) rfl ?_
    exact ea_iretE (pc := 13) dX11_town_13 rfl rfl EX EY
noncomputable def vX11_train (b0 : Nat) (h : ea_H) : Int32 := (if (ea_i h (b0 + 5) 0) < (10 : Int32) then ((ea_i (ea_wi (ea_wi h (b0 + 0) 12 0) (b0 + 5) 0 ((ea_i (ea_wi h (b0 + 0) 12 0) (b0 + 5) 0) + (1 : Int32))) (b0 + 5) 0) - (1 : Int32)) else ((-1) : Int32))
noncomputable def wX11_train (b0 : Nat) (h : ea_H) : ea_H := (if (ea_i h (b0 + 5) 0) < (10 : Int32) then (ea_wi (ea_wi h (b0 + 0) 12 0) (b0 + 5) 0 ((ea_i (ea_wi h (b0 + 0) 12 0) (b0 + 5) 0) + (1 : Int32))) else h)
theorem shX11_train {b0 : Nat} {h : ea_H} (hs : ShC b0 h) : ShC b0 (wX11_train b0 h) := (ShC_it (ShC_wi (ShC_wi hs)) hs)
theorem sX11_train {d : Nat} {b0 : Nat} {h : ea_H} (hd : 1 ≤ d) (hs : ShC b0 h) : ea_Met mX11_train d [vR (some (b0 + 0))] h (some (vI (vX11_train b0 h))) (wX11_train b0 h) := by
  obtain ⟨X, EX⟩ : ∃ z, z = vX11_train b0 h := ⟨_, rfl⟩
  rw [← EX]
  unfold vX11_train at EX
  obtain ⟨Y, EY⟩ : ∃ z, z = wX11_train b0 h := ⟨_, rfl⟩
  rw [← EY]
  unfold wX11_train at EY
  refine ea_enter rfl (Nat.le_of_ble_eq_true rfl) ?_
  refine ea_aload_n (pc := 0) dX11_train_0 rfl 0 rfl ?_
  refine ea_getR (pc := 1) dX11_train_1 ec_11 (k := 1) (Nat.le_of_ble_eq_true rfl) rfl (Or.inl ew_438) (hs.1 0 (by decide)).1 (hs.1 0 (by decide)).2.1 (hs.2 0 1 rfl) ?_
  refine ea_getI (pc := 4) dX11_train_4 ec_9 (k := 0) (Nat.le_of_ble_eq_true rfl) rfl (Or.inl ew_178) (hs.1 5 (by decide)).1 (hs.1 5 (by decide)).2.1 ?_
  refine ea_bipush (pc := 7) dX11_train_7 (v := 10) rfl ?_
  refine ea_icmp_lt (pc := 9) (tgt := 14) dX11_train_9 rfl (fun c3 => ?_) (fun c3 => ?_)
  · have EX := EX.trans (if_pos c3)
    have EY := EY.trans (if_pos c3)
    refine ea_aload_n (pc := 14) dX11_train_14 rfl 0 rfl ?_
    refine ea_iconst (pc := 15) dX11_train_15 (v := 0) rfl ?_
    refine ea_putI (pc := 16) dX11_train_16 ec_11 (k := 12) (Nat.le_of_ble_eq_true rfl) rfl (Or.inl ⟨rfl, Or.inl ew_449⟩) (ea_bn (Or.inl rfl)) (ea_bf (Or.inl rfl)) (hs.1 0 (by decide)).1 (hs.1 0 (by decide)).2.1 ?_
    have hs1 : ShC b0 (ea_wi h (b0 + 0) 12 0) := ShC_wi hs
    refine ea_aload_n (pc := 19) dX11_train_19 rfl 0 rfl ?_
    refine ea_getR (pc := 20) dX11_train_20 ec_11 (k := 1) (Nat.le_of_ble_eq_true rfl) rfl (Or.inl ew_438) (hs1.1 0 (by decide)).1 (hs1.1 0 (by decide)).2.1 (hs1.2 0 1 rfl) ?_
    refine ea_dup (pc := 23) dX11_train_23 rfl ?_
    refine ea_getI (pc := 24) dX11_train_24 ec_9 (k := 0) (Nat.le_of_ble_eq_true rfl) rfl (Or.inl ew_178) (hs1.1 5 (by decide)).1 (hs1.1 5 (by decide)).2.1 ?_
    refine ea_iconst (pc := 27) dX11_train_27 (v := 1) rfl ?_
    refine ea_iadd (pc := 28) dX11_train_28 ?_
    refine ea_putI (pc := 29) dX11_train_29 ec_9 (k := 0) (Nat.le_of_ble_eq_true rfl) rfl (Or.inl ⟨rfl, Or.inl ew_178⟩) rfl rfl (hs1.1 5 (by decide)).1 (hs1.1 5 (by decide)).2.1 ?_
    have hs2 : ShC b0 (ea_wi (ea_wi h (b0 + 0) 12 0) (b0 + 5) 0 ((ea_i (ea_wi h (b0 + 0) 12 0) (b0 + 5) 0) + (1 : Int32))) := ShC_wi hs1
    refine ea_aload_n (pc := 32) dX11_train_32 rfl 0 rfl ?_
    refine ea_getR (pc := 33) dX11_train_33 ec_11 (k := 1) (Nat.le_of_ble_eq_true rfl) rfl (Or.inl ew_438) (hs2.1 0 (by decide)).1 (hs2.1 0 (by decide)).2.1 (hs2.2 0 1 rfl) ?_
    refine ea_getI (pc := 36) dX11_train_36 ec_9 (k := 0) (Nat.le_of_ble_eq_true rfl) rfl (Or.inl ew_178) (hs2.1 5 (by decide)).1 (hs2.1 5 (by decide)).2.1 ?_
    refine ea_iconst (pc := 39) dX11_train_39 (v := 1) rfl ?_
    refine ea_isub (pc := 40) dX11_train_40 ?_
    exact ea_iretE (pc := 41) dX11_train_41 rfl rfl EX EY
  · have EX := EX.trans (if_neg c3)
    have EY := EY.trans (if_neg c3)
    refine ea_iconst (pc := 12) dX11_train_12 (v := (-1)) rfl ?_
    exact ea_iretE (pc := 13) dX11_train_13 rfl rfl EX EY
noncomputable def vX11_end (b0 : Nat) (x1 : Int32) (h : ea_H) : Int32 := (if x1 < (0 : Int32) then (0 : Int32) else (if x1 ≤ (ea_i h (b0 + 22) 0) then (1 : Int32) else (0 : Int32)))
noncomputable def wX11_end (b0 : Nat) (x1 : Int32) (h : ea_H) : ea_H := (if x1 < (0 : Int32) then h else (if x1 ≤ (ea_i h (b0 + 22) 0) then (ea_wi h (b0 + 22) 0 x1) else h))
theorem bo_vX11_end (b0 : Nat) (x1 : Int32) (h : ea_H) : vX11_end b0 x1 h = 0 ∨ vX11_end b0 x1 h = 1 := (ea_itB (Or.inl rfl) (ea_itB (Or.inr rfl) (Or.inl rfl)))
theorem shX11_end {b0 : Nat} {x1 : Int32} {h : ea_H} (hs : ShC b0 h) : ShC b0 (wX11_end b0 x1 h) := (ShC_it hs (ShC_it (ShC_wi hs) hs))
theorem sX11_end {d : Nat} {b0 : Nat} {x1 : Int32} {h : ea_H} (hd : 1 ≤ d) (hs : ShC b0 h) : ea_Met mX11_end d [vR (some (b0 + 0)), vI x1] h (some (vI (vX11_end b0 x1 h))) (wX11_end b0 x1 h) := by
  obtain ⟨X, EX⟩ : ∃ z, z = vX11_end b0 x1 h := ⟨_, rfl⟩
  rw [← EX]
  unfold vX11_end at EX
  obtain ⟨Y, EY⟩ : ∃ z, z = wX11_end b0 x1 h := ⟨_, rfl⟩
  rw [← EY]
  unfold wX11_end at EY
  refine ea_enter rfl (Nat.le_of_ble_eq_true rfl) ?_
  refine ea_iload_n (pc := 0) dX11_end_0 rfl 1 rfl ?_
  refine ea_if_lt (pc := 1) (tgt := 18) dX11_end_1 rfl (fun c3 => ?_) (fun c3 => ?_)
  · have EX := EX.trans (if_pos c3)
    have EY := EY.trans (if_pos c3)
    refine ea_iconst (pc := 18) dX11_end_18 (v := 0) rfl ?_
    exact ea_iretE (pc := 19) dX11_end_19 rfl (ea_bn (Or.inl rfl)) EX EY
  · have EX := EX.trans (if_neg c3)
    have EY := EY.trans (if_neg c3)
    refine ea_iload_n (pc := 4) dX11_end_4 rfl 1 rfl ?_
    refine ea_aload_n (pc := 5) dX11_end_5 rfl 0 rfl ?_
    refine ea_getR (pc := 6) dX11_end_6 ec_11 (k := 4) (Nat.le_of_ble_eq_true rfl) rfl (Or.inl ew_441) (hs.1 0 (by decide)).1 (hs.1 0 (by decide)).2.1 (hs.2 0 4 rfl) ?_
    refine ea_getR (pc := 9) dX11_end_9 ec_8 (k := 0) (Nat.le_of_ble_eq_true rfl) rfl (Or.inl ew_334) (hs.1 21 (by decide)).1 (hs.1 21 (by decide)).2.1 (hs.2 21 0 rfl) ?_
    refine ea_getI (pc := 12) dX11_end_12 ec_5 (k := 0) (Nat.le_of_ble_eq_true rfl) rfl (Or.inl ew_292) (hs.1 22 (by decide)).1 (hs.1 22 (by decide)).2.1 ?_
    refine ea_icmp_le (pc := 15) (tgt := 20) dX11_end_15 rfl (fun c2 => ?_) (fun c2 => ?_)
    · have EX := EX.trans (if_pos c2)
      have EY := EY.trans (if_pos c2)
      refine ea_aload_n (pc := 20) dX11_end_20 rfl 0 rfl ?_
      refine ea_getR (pc := 21) dX11_end_21 ec_11 (k := 4) (Nat.le_of_ble_eq_true rfl) rfl (Or.inl ew_441) (hs.1 0 (by decide)).1 (hs.1 0 (by decide)).2.1 (hs.2 0 4 rfl) ?_
      refine ea_getR (pc := 24) dX11_end_24 ec_8 (k := 0) (Nat.le_of_ble_eq_true rfl) rfl (Or.inl ew_334) (hs.1 21 (by decide)).1 (hs.1 21 (by decide)).2.1 (hs.2 21 0 rfl) ?_
      refine ea_iload_n (pc := 27) dX11_end_27 rfl 1 rfl ?_
      refine ea_putI (pc := 28) dX11_end_28 ec_5 (k := 0) (Nat.le_of_ble_eq_true rfl) rfl (Or.inl ⟨rfl, Or.inl ew_292⟩) rfl rfl (hs.1 22 (by decide)).1 (hs.1 22 (by decide)).2.1 ?_
      have hs1 : ShC b0 (ea_wi h (b0 + 22) 0 x1) := ShC_wi hs
      refine ea_iconst (pc := 31) dX11_end_31 (v := 1) rfl ?_
      exact ea_iretE (pc := 32) dX11_end_32 rfl (ea_bn (Or.inr rfl)) EX EY
    · have EX := EX.trans (if_neg c2)
      have EY := EY.trans (if_neg c2)
      refine ea_iconst (pc := 18) dX11_end_18 (v := 0) rfl ?_
      exact ea_iretE (pc := 19) dX11_end_19 rfl (ea_bn (Or.inl rfl)) EX EY
noncomputable def vX11_fault (b0 : Nat) (x1 : Int32) (h : ea_H) : Int32 := (if x1 = (0 : Int32) then (ea_i h (b0 + 22) 1) else (if x1 = (1 : Int32) then (ea_i h (b0 + 22) 2) else ((-1) : Int32)))
theorem sX11_fault {d : Nat} {b0 : Nat} {x1 : Int32} {h : ea_H} (hd : 1 ≤ d) (hs : ShC b0 h) : ea_Met mX11_fault d [vR (some (b0 + 0)), vI x1] h (some (vI (vX11_fault b0 x1 h))) h := by
  obtain ⟨X, EX⟩ : ∃ z, z = vX11_fault b0 x1 h := ⟨_, rfl⟩
  rw [← EX]
  unfold vX11_fault at EX
  refine ea_enter rfl (Nat.le_of_ble_eq_true rfl) ?_
  refine ea_iload_n (pc := 0) dX11_fault_0 rfl 1 rfl ?_
  refine ea_if_ne (pc := 1) (tgt := 15) dX11_fault_1 rfl (fun c2 => ?_) (fun c2 => ?_)
  · have EX := EX.trans (if_neg c2)
    refine ea_iload_n (pc := 15) dX11_fault_15 rfl 1 rfl ?_
    refine ea_iconst (pc := 16) dX11_fault_16 (v := 1) rfl ?_
    refine ea_icmp_ne (pc := 17) (tgt := 33) dX11_fault_17 rfl (fun c1 => ?_) (fun c1 => ?_)
    · have EX := EX.trans (if_neg c1)
      refine ea_iconst (pc := 33) dX11_fault_33 (v := (-1)) rfl ?_
      exact ea_iretE (pc := 34) dX11_fault_34 rfl rfl EX rfl
    · have EX := EX.trans (if_pos c1)
      refine ea_aload_n (pc := 20) dX11_fault_20 rfl 0 rfl ?_
      refine ea_getR (pc := 21) dX11_fault_21 ec_11 (k := 4) (Nat.le_of_ble_eq_true rfl) rfl (Or.inl ew_441) (hs.1 0 (by decide)).1 (hs.1 0 (by decide)).2.1 (hs.2 0 4 rfl) ?_
      refine ea_getR (pc := 24) dX11_fault_24 ec_8 (k := 0) (Nat.le_of_ble_eq_true rfl) rfl (Or.inl ew_334) (hs.1 21 (by decide)).1 (hs.1 21 (by decide)).2.1 (hs.2 21 0 rfl) ?_
      refine ea_getI (pc := 27) dX11_fault_27 ec_5 (k := 2) (Nat.le_of_ble_eq_true rfl) rfl (Or.inl ew_296) (hs.1 22 (by decide)).1 (hs.1 22 (by decide)).2.1 ?_
      refine ea_goto (pc := 30) (tgt := 34) dX11_fault_30 rfl ?_
      exact ea_iretE (pc := 34) dX11_fault_34 rfl rfl EX rfl
  · have EX := EX.trans (if_pos c2)
    refine ea_aload_n (pc := 4) dX11_fault_4 rfl 0 rfl ?_
    refine ea_getR (pc := 5) dX11_fault_5 ec_11 (k := 4) (Nat.le_of_ble_eq_true rfl) rfl (Or.inl ew_441) (hs.1 0 (by decide)).1 (hs.1 0 (by decide)).2.1 (hs.2 0 4 rfl) ?_
    refine ea_getR (pc := 8) dX11_fault_8 ec_8 (k := 0) (Nat.le_of_ble_eq_true rfl) rfl (Or.inl ew_334) (hs.1 21 (by decide)).1 (hs.1 21 (by decide)).2.1 (hs.2 21 0 rfl) ?_
    refine ea_getI (pc := 11) dX11_fault_11 ec_5 (k := 1) (Nat.le_of_ble_eq_true rfl) rfl (Or.inl ew_294) (hs.1 22 (by decide)).1 (hs.1 22 (by decide)).2.1 ?_
    exact ea_iretE (pc := 14) dX11_fault_14 rfl rfl EX rfl
noncomputable def wX11_tableChanged (b0 : Nat) (h : ea_H) : ea_H := (ea_wi (ea_wi h (b0 + 13) 0 0) (b0 + 0) 12 0)
theorem shX11_tableChanged {b0 : Nat} {h : ea_H} (hs : ShC b0 h) : ShC b0 (wX11_tableChanged b0 h) := (ShC_wi (ShC_wi hs))
theorem sX11_tableChanged {d : Nat} {b0 : Nat} {h : ea_H} (hd : 1 ≤ d) (hs : ShC b0 h) : ea_Met mX11_tableChanged d [vR (some (b0 + 0))] h none (wX11_tableChanged b0 h) := by
  obtain ⟨Y, EY⟩ : ∃ z, z = wX11_tableChanged b0 h := ⟨_, rfl⟩
  rw [← EY]
  unfold wX11_tableChanged at EY
  refine ea_enter rfl (Nat.le_of_ble_eq_true rfl) ?_
  refine ea_aload_n (pc := 0) dX11_tableChanged_0 rfl 0 rfl ?_
  refine ea_getR (pc := 1) dX11_tableChanged_1 ec_11 (k := 2) (Nat.le_of_ble_eq_true rfl) rfl (Or.inl ew_439) (hs.1 0 (by decide)).1 (hs.1 0 (by decide)).2.1 (hs.2 0 2 rfl) ?_
  refine ea_iconst (pc := 4) dX11_tableChanged_4 (v := 0) rfl ?_
  refine ea_putI (pc := 5) dX11_tableChanged_5 ec_10 (k := 0) (Nat.le_of_ble_eq_true rfl) rfl (Or.inl ⟨rfl, Or.inl ew_226⟩) (ea_bn (Or.inl rfl)) (ea_bf (Or.inl rfl)) (hs.1 13 (by decide)).1 (hs.1 13 (by decide)).2.1 ?_
  have hs1 : ShC b0 (ea_wi h (b0 + 13) 0 0) := ShC_wi hs
  refine ea_aload_n (pc := 8) dX11_tableChanged_8 rfl 0 rfl ?_
  refine ea_iconst (pc := 9) dX11_tableChanged_9 (v := 0) rfl ?_
  refine ea_putI (pc := 10) dX11_tableChanged_10 ec_11 (k := 12) (Nat.le_of_ble_eq_true rfl) rfl (Or.inl ⟨rfl, Or.inl ew_449⟩) (ea_bn (Or.inl rfl)) (ea_bf (Or.inl rfl)) (hs1.1 0 (by decide)).1 (hs1.1 0 (by decide)).2.1 ?_
  have hs2 : ShC b0 (ea_wi (ea_wi h (b0 + 13) 0 0) (b0 + 0) 12 0) := ShC_wi hs1
  exact ea_vretE (pc := 13) dX11_tableChanged_13 rfl EY
noncomputable def vX11_letterOf (b0 : Nat) (x1 : Int32) (h : ea_H) : Option Nat := (if x1 < (0 : Int32) then none else (if (ea_i h (b0 + 32) 0) ≤ x1 then none else (ea_r h (b0 + 31) (Int32.toNatClampNeg x1))))
def okX11_letterOf (b0 : Nat) (x1 : Int32) (h : ea_H) : Prop := (x1 < (0 : Int32) → True) ∧ (¬ x1 < (0 : Int32) → ((ea_i h (b0 + 32) 0) ≤ x1 → True) ∧ (¬ (ea_i h (b0 + 32) 0) ≤ x1 → vp_in x1 120))
theorem sX11_letterOf {d : Nat} {b0 : Nat} {x1 : Int32} {h : ea_H} (hd : 1 ≤ d) (hs : ShC b0 h) (K : okX11_letterOf b0 x1 h) : ea_Met mX11_letterOf d [vR (some (b0 + 0)), vI x1] h (some (vR (vX11_letterOf b0 x1 h))) h := by
  obtain ⟨X, EX⟩ : ∃ z, z = vX11_letterOf b0 x1 h := ⟨_, rfl⟩
  rw [← EX]
  unfold vX11_letterOf at EX
  unfold okX11_letterOf at K
  refine ea_enter rfl (Nat.le_of_ble_eq_true rfl) ?_
  refine ea_iload_n (pc := 0) dX11_letterOf_0 rfl 1 rfl ?_
  refine ea_if_lt (pc := 1) (tgt := 24) dX11_letterOf_1 rfl (fun c3 => ?_) (fun c3 => ?_)
  · have EX := EX.trans (if_pos c3)
    refine ea_null (pc := 24) dX11_letterOf_24 ?_
    exact ea_aretE (pc := 25) dX11_letterOf_25 rfl (Or.inl ⟨_, rfl⟩) EX rfl
  · have EX := EX.trans (if_neg c3)
    have K := K.2 c3
    refine ea_iload_n (pc := 4) dX11_letterOf_4 rfl 1 rfl ?_
    refine ea_aload_n (pc := 5) dX11_letterOf_5 rfl 0 rfl ?_
    refine ea_getR (pc := 6) dX11_letterOf_6 ec_11 (k := 6) (Nat.le_of_ble_eq_true rfl) rfl (Or.inl ew_443) (hs.1 0 (by decide)).1 (hs.1 0 (by decide)).2.1 (hs.2 0 6 rfl) ?_
    refine ea_getI (pc := 9) dX11_letterOf_9 ec_1 (k := 0) (Nat.le_of_ble_eq_true rfl) rfl (Or.inl ew_360) (hs.1 32 (by decide)).1 (hs.1 32 (by decide)).2.1 ?_
    refine ea_icmp_ge (pc := 12) (tgt := 24) dX11_letterOf_12 rfl (fun c2 => ?_) (fun c2 => ?_)
    · have EX := EX.trans (if_pos c2)
      refine ea_null (pc := 24) dX11_letterOf_24 ?_
      exact ea_aretE (pc := 25) dX11_letterOf_25 rfl (Or.inl ⟨_, rfl⟩) EX rfl
    · have EX := EX.trans (if_neg c2)
      have K := K.2 c2
      refine ea_aload_n (pc := 15) dX11_letterOf_15 rfl 0 rfl ?_
      refine ea_getR (pc := 16) dX11_letterOf_16 ec_11 (k := 5) (Nat.le_of_ble_eq_true rfl) rfl (Or.inl ew_442) (hs.1 0 (by decide)).1 (hs.1 0 (by decide)).2.1 (hs.2 0 5 rfl) ?_
      refine ea_iload_n (pc := 19) dX11_letterOf_19 rfl 1 rfl ?_
      have z1 := K
      refine ea_aald23 (pc := 20) dX11_letterOf_20 (hs.1 31 (by decide)).1 (hs.1 31 (by decide)).2.1 (ea_vpl (hs.1 31 (by decide)).2.2 z1) rfl ?_
      refine ea_goto (pc := 21) (tgt := 25) dX11_letterOf_21 rfl ?_
      exact ea_aretE (pc := 25) dX11_letterOf_25 rfl (Or.inl ⟨_, rfl⟩) EX rfl
noncomputable def vX11_isBetween (b0 : Nat) (x1 : Int32) (x2 : Int32) (x3 : Int32) (h : ea_H) : Int32 := (if (ea_i h (Option.getD (ea_r h (b0 + 31) (Int32.toNatClampNeg x1)) 0) 1) = x2 then (if (ea_i h (Option.getD (ea_r h (b0 + 31) (Int32.toNatClampNeg x1)) 0) 2) = x3 then (1 : Int32) else (0 : Int32)) else (0 : Int32))
def okX11_isBetween (b0 : Nat) (x1 : Int32) (x2 : Int32) (x3 : Int32) (h : ea_H) : Prop := vp_in x1 120 ∧ ((ea_r h (b0 + 31) (Int32.toNatClampNeg x1)) = some (Option.getD (ea_r h (b0 + 31) (Int32.toNatClampNeg x1)) 0) ∧ (((Option.getD (ea_r h (b0 + 31) (Int32.toNatClampNeg x1)) 0) < ea_n h ∧ ea_c h (Option.getD (ea_r h (b0 + 31) (Int32.toNatClampNeg x1)) 0) = 4) ∧ (((ea_i h (Option.getD (ea_r h (b0 + 31) (Int32.toNatClampNeg x1)) 0) 1) = x2 → vp_in x1 120 ∧ ((ea_r h (b0 + 31) (Int32.toNatClampNeg x1)) = some (Option.getD (ea_r h (b0 + 31) (Int32.toNatClampNeg x1)) 0) ∧ (((Option.getD (ea_r h (b0 + 31) (Int32.toNatClampNeg x1)) 0) < ea_n h ∧ ea_c h (Option.getD (ea_r h (b0 + 31) (Int32.toNatClampNeg x1)) 0) = 4)))) ∧ (¬ (ea_i h (Option.getD (ea_r h (b0 + 31) (Int32.toNatClampNeg x1)) 0) 1) = x2 → True))))
theorem bo_vX11_isBetween (b0 : Nat) (x1 : Int32) (x2 : Int32) (x3 : Int32) (h : ea_H) : vX11_isBetween b0 x1 x2 x3 h = 0 ∨ vX11_isBetween b0 x1 x2 x3 h = 1 := (ea_itB (ea_itB (Or.inr rfl) (Or.inl rfl)) (Or.inl rfl))
theorem sX11_isBetween {d : Nat} {b0 : Nat} {x1 : Int32} {x2 : Int32} {x3 : Int32} {h : ea_H} (hd : 1 ≤ d) (hs : ShC b0 h) (K : okX11_isBetween b0 x1 x2 x3 h) : ea_Met mX11_isBetween d [vR (some (b0 + 0)), vI x1, vI x2, vI x3] h (some (vI (vX11_isBetween b0 x1 x2 x3 h))) h := by
  obtain ⟨X, EX⟩ : ∃ z, z = vX11_isBetween b0 x1 x2 x3 h := ⟨_, rfl⟩
  rw [← EX]
  unfold vX11_isBetween at EX
  unfold okX11_isBetween at K
  refine ea_enter rfl (Nat.le_of_ble_eq_true rfl) ?_
  refine ea_aload_n (pc := 0) dX11_isBetween_0 rfl 0 rfl ?_
  refine ea_getR (pc := 1) dX11_isBetween_1 ec_11 (k := 5) (Nat.le_of_ble_eq_true rfl) rfl (Or.inl ew_442) (hs.1 0 (by decide)).1 (hs.1 0 (by decide)).2.1 (hs.2 0 5 rfl) ?_
  refine ea_iload_n (pc := 4) dX11_isBetween_4 rfl 1 rfl ?_
  obtain ⟨z1, K⟩ := K
  refine ea_aald23 (pc := 5) dX11_isBetween_5 (hs.1 31 (by decide)).1 (hs.1 31 (by decide)).2.1 (ea_vpl (hs.1 31 (by decide)).2.2 z1) rfl ?_
  obtain ⟨e2, f3, K⟩ := K
  refine ea_deref0 e2 ?_
  refine ea_getI (pc := 6) dX11_isBetween_6 ec_4 (k := 1) (Nat.le_of_ble_eq_true rfl) rfl (Or.inl ew_937) f3.1 f3.2 ?_
  refine ea_iload_n (pc := 9) dX11_isBetween_9 rfl 2 rfl ?_
  refine ea_icmp_ne (pc := 10) (tgt := 30) dX11_isBetween_10 rfl (fun c8 => ?_) (fun c8 => ?_)
  · have EX := EX.trans (if_neg c8)
    refine ea_iconst (pc := 30) dX11_isBetween_30 (v := 0) rfl ?_
    exact ea_iretE (pc := 31) dX11_isBetween_31 rfl (ea_bn (Or.inl rfl)) EX rfl
  · have EX := EX.trans (if_pos c8)
    have K := K.1 c8
    refine ea_aload_n (pc := 13) dX11_isBetween_13 rfl 0 rfl ?_
    refine ea_getR (pc := 14) dX11_isBetween_14 ec_11 (k := 5) (Nat.le_of_ble_eq_true rfl) rfl (Or.inl ew_442) (hs.1 0 (by decide)).1 (hs.1 0 (by decide)).2.1 (hs.2 0 5 rfl) ?_
    refine ea_iload_n (pc := 17) dX11_isBetween_17 rfl 1 rfl ?_
    obtain ⟨z4, K⟩ := K
    refine ea_aald23 (pc := 18) dX11_isBetween_18 (hs.1 31 (by decide)).1 (hs.1 31 (by decide)).2.1 (ea_vpl (hs.1 31 (by decide)).2.2 z4) rfl ?_
    obtain ⟨e5, f6⟩ := K
    refine ea_deref0 e5 ?_
    refine ea_getI (pc := 19) dX11_isBetween_19 ec_4 (k := 2) (Nat.le_of_ble_eq_true rfl) rfl (Or.inl ew_940) f6.1 f6.2 ?_
    refine ea_iload_n (pc := 22) dX11_isBetween_22 rfl 3 rfl ?_
    refine ea_icmp_ne (pc := 23) (tgt := 30) dX11_isBetween_23 rfl (fun c7 => ?_) (fun c7 => ?_)
    · have EX := EX.trans (if_neg c7)
      refine ea_iconst (pc := 30) dX11_isBetween_30 (v := 0) rfl ?_
      exact ea_iretE (pc := 31) dX11_isBetween_31 rfl (ea_bn (Or.inl rfl)) EX rfl
    · have EX := EX.trans (if_pos c7)
      refine ea_iconst (pc := 26) dX11_isBetween_26 (v := 1) rfl ?_
      refine ea_goto (pc := 27) (tgt := 31) dX11_isBetween_27 rfl ?_
      exact ea_iretE (pc := 31) dX11_isBetween_31 rfl (ea_bn (Or.inr rfl)) EX rfl
noncomputable def wX0_init (b0 : Nat) (a0 : Nat) (x1 : Int32) (h : ea_H) : ea_H := (ea_wi (ShC_wd b0 (ea_new (ShC_wd b0 (ea_new (ea_wi (ea_wi h a0 3 1439) a0 7 3) 20 24 24) a0 9 (some (ea_n (ea_wi (ea_wi h a0 3 1439) a0 7 3)))) 20 24 24) a0 10 (some (ea_n (ShC_wd b0 (ea_new (ea_wi (ea_wi h a0 3 1439) a0 7 3) 20 24 24) a0 9 (some (ea_n (ea_wi (ea_wi h a0 3 1439) a0 7 3))))))) a0 0 x1)
def okX0_init (b0 : Nat) (a0 : Nat) (x1 : Int32) (h : ea_H) : Prop := (a0 < ea_n h ∧ ea_c h a0 = 0) ∧ ((a0 < ea_n (ea_wi h a0 3 1439) ∧ ea_c (ea_wi h a0 3 1439) a0 = 0) ∧ ((a0 < ea_n (ea_new (ea_wi (ea_wi h a0 3 1439) a0 7 3) 20 24 24) ∧ ea_c (ea_new (ea_wi (ea_wi h a0 3 1439) a0 7 3) 20 24 24) a0 = 0) ∧ (ShC_far b0 a0 ∧ ((a0 < ea_n (ea_new (ShC_wd b0 (ea_new (ea_wi (ea_wi h a0 3 1439) a0 7 3) 20 24 24) a0 9 (some (ea_n (ea_wi (ea_wi h a0 3 1439) a0 7 3)))) 20 24 24) ∧ ea_c (ea_new (ShC_wd b0 (ea_new (ea_wi (ea_wi h a0 3 1439) a0 7 3) 20 24 24) a0 9 (some (ea_n (ea_wi (ea_wi h a0 3 1439) a0 7 3)))) 20 24 24) a0 = 0) ∧ (ShC_far b0 a0 ∧ ((a0 < ea_n (ShC_wd b0 (ea_new (ShC_wd b0 (ea_new (ea_wi (ea_wi h a0 3 1439) a0 7 3) 20 24 24) a0 9 (some (ea_n (ea_wi (ea_wi h a0 3 1439) a0 7 3)))) 20 24 24) a0 10 (some (ea_n (ShC_wd b0 (ea_new (ea_wi (ea_wi h a0 3 1439) a0 7 3) 20 24 24) a0 9 (some (ea_n (ea_wi (ea_wi h a0 3 1439) a0 7 3))))))) ∧ ea_c (ShC_wd b0 (ea_new (ShC_wd b0 (ea_new (ea_wi (ea_wi h a0 3 1439) a0 7 3) 20 24 24) a0 9 (some (ea_n (ea_wi (ea_wi h a0 3 1439) a0 7 3)))) 20 24 24) a0 10 (some (ea_n (ShC_wd b0 (ea_new (ea_wi (ea_wi h a0 3 1439) a0 7 3) 20 24 24) a0 9 (some (ea_n (ea_wi (ea_wi h a0 3 1439) a0 7 3))))))) a0 = 0)))))))
theorem shX0_init {b0 : Nat} {a0 : Nat} {x1 : Int32} {h : ea_H} (hs : ShC b0 h) : ShC b0 (wX0_init b0 a0 x1 h) := (ShC_wi (ShC_wd_sh (ShC_new (ShC_wd_sh (ShC_new (ShC_wi (ShC_wi hs)))))))
theorem sX0_init {d : Nat} {b0 : Nat} {a0 : Nat} {x1 : Int32} {h : ea_H} (hd : 2 ≤ d) (hs : ShC b0 h) (K : okX0_init b0 a0 x1 h) : ea_Met mX0_init d [vR (some a0), vI x1] h none (wX0_init b0 a0 x1 h) := by
  obtain ⟨Y, EY⟩ : ∃ z, z = wX0_init b0 a0 x1 h := ⟨_, rfl⟩
  rw [← EY]
  unfold wX0_init at EY
  unfold okX0_init at K
  refine ea_enter rfl (Nat.le_of_ble_eq_true rfl) ?_
  refine ea_aload_n (pc := 0) dX0_init_0 rfl 0 rfl ?_
  refine ea_objInit (pc := 1) dX0_init_1 ew_791 ew_134 ew_135 (by omega) (Nat.le_of_ble_eq_true rfl) ?_
  refine ea_aload_n (pc := 4) dX0_init_4 rfl 0 rfl ?_
  refine ea_sipush (pc := 5) dX0_init_5 (v := 1439) rfl ?_
  obtain ⟨f1, K⟩ := K
  refine ea_putI (pc := 8) dX0_init_8 ec_0 (k := 3) (Nat.le_of_ble_eq_true rfl) rfl (Or.inl ⟨rfl, Or.inl ew_799⟩) rfl rfl f1.1 f1.2 ?_
  have hs2 : ShC b0 (ea_wi h a0 3 1439) := ShC_wi hs
  refine ea_aload_n (pc := 11) dX0_init_11 rfl 0 rfl ?_
  refine ea_iconst (pc := 12) dX0_init_12 (v := 3) rfl ?_
  obtain ⟨f3, K⟩ := K
  refine ea_putI (pc := 13) dX0_init_13 ec_0 (k := 7) (Nat.le_of_ble_eq_true rfl) rfl (Or.inl ⟨rfl, Or.inl ew_812⟩) rfl rfl f3.1 f3.2 ?_
  have hs4 : ShC b0 (ea_wi (ea_wi h a0 3 1439) a0 7 3) := ShC_wi hs2
  refine ea_aload_n (pc := 16) dX0_init_16 rfl 0 rfl ?_
  refine ea_bipush (pc := 17) dX0_init_17 (v := 24) rfl ?_
  refine ea_newI (pc := 19) (N := 24) dX0_init_19 ew_170 (by decide) rfl (Nat.le_of_ble_eq_true rfl) ?_
  have hs5 : ShC b0 (ea_new (ea_wi (ea_wi h a0 3 1439) a0 7 3) 20 24 24) := ShC_new hs4
  obtain ⟨f6, zf8, K⟩ := K
  refine ea_putR (pc := 21) dX0_init_21 ec_0 (k := 9) (Nat.le_of_ble_eq_true rfl) rfl (Or.inr ⟨rfl, rfl, rfl, ew_818⟩) f6.1 f6.2 ?_
  refine ea_nm (ShC_wdeq zf8) ?_
  have hs7 : ShC b0 (ShC_wd b0 (ea_new (ea_wi (ea_wi h a0 3 1439) a0 7 3) 20 24 24) a0 9 (some (ea_n (ea_wi (ea_wi h a0 3 1439) a0 7 3)))) := ShC_wd_sh hs5
  refine ea_aload_n (pc := 24) dX0_init_24 rfl 0 rfl ?_
  refine ea_bipush (pc := 25) dX0_init_25 (v := 24) rfl ?_
  refine ea_newI (pc := 27) (N := 24) dX0_init_27 ew_170 (by decide) rfl (Nat.le_of_ble_eq_true rfl) ?_
  have hs9 : ShC b0 (ea_new (ShC_wd b0 (ea_new (ea_wi (ea_wi h a0 3 1439) a0 7 3) 20 24 24) a0 9 (some (ea_n (ea_wi (ea_wi h a0 3 1439) a0 7 3)))) 20 24 24) := ShC_new hs7
  obtain ⟨f10, zf12, K⟩ := K
  refine ea_putR (pc := 29) dX0_init_29 ec_0 (k := 10) (Nat.le_of_ble_eq_true rfl) rfl (Or.inr ⟨rfl, rfl, rfl, ew_821⟩) f10.1 f10.2 ?_
  refine ea_nm (ShC_wdeq zf12) ?_
  have hs11 : ShC b0 (ShC_wd b0 (ea_new (ShC_wd b0 (ea_new (ea_wi (ea_wi h a0 3 1439) a0 7 3) 20 24 24) a0 9 (some (ea_n (ea_wi (ea_wi h a0 3 1439) a0 7 3)))) 20 24 24) a0 10 (some (ea_n (ShC_wd b0 (ea_new (ea_wi (ea_wi h a0 3 1439) a0 7 3) 20 24 24) a0 9 (some (ea_n (ea_wi (ea_wi h a0 3 1439) a0 7 3))))))) := ShC_wd_sh hs9
  refine ea_aload_n (pc := 32) dX0_init_32 rfl 0 rfl ?_
  refine ea_iload_n (pc := 33) dX0_init_33 rfl 1 rfl ?_
  have f13 := K
  refine ea_putI (pc := 34) dX0_init_34 ec_0 (k := 0) (Nat.le_of_ble_eq_true rfl) rfl (Or.inr ⟨rfl, rfl, rfl, ew_792⟩) rfl rfl f13.1 f13.2 ?_
  have hs14 : ShC b0 (ea_wi (ShC_wd b0 (ea_new (ShC_wd b0 (ea_new (ea_wi (ea_wi h a0 3 1439) a0 7 3) 20 24 24) a0 9 (some (ea_n (ea_wi (ea_wi h a0 3 1439) a0 7 3)))) 20 24 24) a0 10 (some (ea_n (ShC_wd b0 (ea_new (ea_wi (ea_wi h a0 3 1439) a0 7 3) 20 24 24) a0 9 (some (ea_n (ea_wi (ea_wi h a0 3 1439) a0 7 3))))))) a0 0 x1) := ShC_wi hs11
  exact ea_vretE (pc := 37) dX0_init_37 rfl EY
noncomputable def vX1_isAboard_at32 (b0 : Nat) (x1 : Int32) (x2 : Int32) (h : ea_H) : Int32 := (if (ea_i h (b0 + 33) (Int32.toNatClampNeg x1)) = (1 : Int32) then (if (ea_i h (b0 + 34) (Int32.toNatClampNeg x1)) = x2 then (1 : Int32) else (0 : Int32)) else (0 : Int32))
def okX1_isAboard_at32 (b0 : Nat) (x1 : Int32) (x2 : Int32) (h : ea_H) : Prop := vp_in x1 120 ∧ (((ea_i h (b0 + 33) (Int32.toNatClampNeg x1)) = (1 : Int32) → vp_in x1 120) ∧ (¬ (ea_i h (b0 + 33) (Int32.toNatClampNeg x1)) = (1 : Int32) → True))
theorem bo_vX1_isAboard_at32 (b0 : Nat) (x1 : Int32) (x2 : Int32) (h : ea_H) : vX1_isAboard_at32 b0 x1 x2 h = 0 ∨ vX1_isAboard_at32 b0 x1 x2 h = 1 := (ea_itB (ea_itB (Or.inr rfl) (Or.inl rfl)) (Or.inl rfl))
theorem sX1_isAboard_at32 {d : Nat} {b0 : Nat} {x1 : Int32} {x2 : Int32} {h : ea_H} (hd : 1 ≤ d) (hs : ShC b0 h) (K : okX1_isAboard_at32 b0 x1 x2 h) : ea_Met mX1_isAboard d [vR (some (b0 + 32)), vI x1, vI x2] h (some (vI (vX1_isAboard_at32 b0 x1 x2 h))) h := by
  obtain ⟨X, EX⟩ : ∃ z, z = vX1_isAboard_at32 b0 x1 x2 h := ⟨_, rfl⟩
  rw [← EX]
  unfold vX1_isAboard_at32 at EX
  unfold okX1_isAboard_at32 at K
  refine ea_enter rfl (Nat.le_of_ble_eq_true rfl) ?_
  refine ea_aload_n (pc := 0) dX1_isAboard_0 rfl 0 rfl ?_
  refine ea_getR (pc := 1) dX1_isAboard_1 ec_1 (k := 1) (Nat.le_of_ble_eq_true rfl) rfl (Or.inl ew_361) (hs.1 32 (by decide)).1 (hs.1 32 (by decide)).2.1 (hs.2 32 1 rfl) ?_
  refine ea_iload_n (pc := 4) dX1_isAboard_4 rfl 1 rfl ?_
  obtain ⟨z1, K⟩ := K
  refine ea_iald (pc := 5) dX1_isAboard_5 (hs.1 33 (by decide)).1 (hs.1 33 (by decide)).2.1 (ea_vpl (hs.1 33 (by decide)).2.2 z1) ?_
  refine ea_iconst (pc := 6) dX1_isAboard_6 (v := 1) rfl ?_
  refine ea_icmp_ne (pc := 7) (tgt := 24) dX1_isAboard_7 rfl (fun c4 => ?_) (fun c4 => ?_)
  · have EX := EX.trans (if_neg c4)
    refine ea_iconst (pc := 24) dX1_isAboard_24 (v := 0) rfl ?_
    exact ea_iretE (pc := 25) dX1_isAboard_25 rfl (ea_bn (Or.inl rfl)) EX rfl
  · have EX := EX.trans (if_pos c4)
    have K := K.1 c4
    refine ea_aload_n (pc := 10) dX1_isAboard_10 rfl 0 rfl ?_
    refine ea_getR (pc := 11) dX1_isAboard_11 ec_1 (k := 2) (Nat.le_of_ble_eq_true rfl) rfl (Or.inl ew_363) (hs.1 32 (by decide)).1 (hs.1 32 (by decide)).2.1 (hs.2 32 2 rfl) ?_
    refine ea_iload_n (pc := 14) dX1_isAboard_14 rfl 1 rfl ?_
    have z2 := K
    refine ea_iald (pc := 15) dX1_isAboard_15 (hs.1 34 (by decide)).1 (hs.1 34 (by decide)).2.1 (ea_vpl (hs.1 34 (by decide)).2.2 z2) ?_
    refine ea_iload_n (pc := 16) dX1_isAboard_16 rfl 2 rfl ?_
    refine ea_icmp_ne (pc := 17) (tgt := 24) dX1_isAboard_17 rfl (fun c3 => ?_) (fun c3 => ?_)
    · have EX := EX.trans (if_neg c3)
      refine ea_iconst (pc := 24) dX1_isAboard_24 (v := 0) rfl ?_
      exact ea_iretE (pc := 25) dX1_isAboard_25 rfl (ea_bn (Or.inl rfl)) EX rfl
    · have EX := EX.trans (if_pos c3)
      refine ea_iconst (pc := 20) dX1_isAboard_20 (v := 1) rfl ?_
      refine ea_goto (pc := 21) (tgt := 25) dX1_isAboard_21 rfl ?_
      exact ea_iretE (pc := 25) dX1_isAboard_25 rfl (ea_bn (Or.inr rfl)) EX rfl
noncomputable def vX1_isAboard_at42 (b0 : Nat) (x1 : Int32) (x2 : Int32) (h : ea_H) : Int32 := (if (ea_i h (b0 + 43) (Int32.toNatClampNeg x1)) = (1 : Int32) then (if (ea_i h (b0 + 44) (Int32.toNatClampNeg x1)) = x2 then (1 : Int32) else (0 : Int32)) else (0 : Int32))
def okX1_isAboard_at42 (b0 : Nat) (x1 : Int32) (x2 : Int32) (h : ea_H) : Prop := vp_in x1 120 ∧ (((ea_i h (b0 + 43) (Int32.toNatClampNeg x1)) = (1 : Int32) → vp_in x1 120) ∧ (¬ (ea_i h (b0 + 43) (Int32.toNatClampNeg x1)) = (1 : Int32) → True))
theorem bo_vX1_isAboard_at42 (b0 : Nat) (x1 : Int32) (x2 : Int32) (h : ea_H) : vX1_isAboard_at42 b0 x1 x2 h = 0 ∨ vX1_isAboard_at42 b0 x1 x2 h = 1 := (ea_itB (ea_itB (Or.inr rfl) (Or.inl rfl)) (Or.inl rfl))
theorem sX1_isAboard_at42 {d : Nat} {b0 : Nat} {x1 : Int32} {x2 : Int32} {h : ea_H} (hd : 1 ≤ d) (hs : ShC b0 h) (K : okX1_isAboard_at42 b0 x1 x2 h) : ea_Met mX1_isAboard d [vR (some (b0 + 42)), vI x1, vI x2] h (some (vI (vX1_isAboard_at42 b0 x1 x2 h))) h := by
  obtain ⟨X, EX⟩ : ∃ z, z = vX1_isAboard_at42 b0 x1 x2 h := ⟨_, rfl⟩
  rw [← EX]
  unfold vX1_isAboard_at42 at EX
  unfold okX1_isAboard_at42 at K
  refine ea_enter rfl (Nat.le_of_ble_eq_true rfl) ?_
  refine ea_aload_n (pc := 0) dX1_isAboard_0 rfl 0 rfl ?_
  refine ea_getR (pc := 1) dX1_isAboard_1 ec_1 (k := 1) (Nat.le_of_ble_eq_true rfl) rfl (Or.inl ew_361) (hs.1 42 (by decide)).1 (hs.1 42 (by decide)).2.1 (hs.2 42 1 rfl) ?_
  refine ea_iload_n (pc := 4) dX1_isAboard_4 rfl 1 rfl ?_
  obtain ⟨z1, K⟩ := K
  refine ea_iald (pc := 5) dX1_isAboard_5 (hs.1 43 (by decide)).1 (hs.1 43 (by decide)).2.1 (ea_vpl (hs.1 43 (by decide)).2.2 z1) ?_
  refine ea_iconst (pc := 6) dX1_isAboard_6 (v := 1) rfl ?_
  refine ea_icmp_ne (pc := 7) (tgt := 24) dX1_isAboard_7 rfl (fun c4 => ?_) (fun c4 => ?_)
  · have EX := EX.trans (if_neg c4)
    refine ea_iconst (pc := 24) dX1_isAboard_24 (v := 0) rfl ?_
    exact ea_iretE (pc := 25) dX1_isAboard_25 rfl (ea_bn (Or.inl rfl)) EX rfl
  · have EX := EX.trans (if_pos c4)
    have K := K.1 c4
    refine ea_aload_n (pc := 10) dX1_isAboard_10 rfl 0 rfl ?_
    refine ea_getR (pc := 11) dX1_isAboard_11 ec_1 (k := 2) (Nat.le_of_ble_eq_true rfl) rfl (Or.inl ew_363) (hs.1 42 (by decide)).1 (hs.1 42 (by decide)).2.1 (hs.2 42 2 rfl) ?_
    refine ea_iload_n (pc := 14) dX1_isAboard_14 rfl 1 rfl ?_
    have z2 := K
    refine ea_iald (pc := 15) dX1_isAboard_15 (hs.1 44 (by decide)).1 (hs.1 44 (by decide)).2.1 (ea_vpl (hs.1 44 (by decide)).2.2 z2) ?_
    refine ea_iload_n (pc := 16) dX1_isAboard_16 rfl 2 rfl ?_
    refine ea_icmp_ne (pc := 17) (tgt := 24) dX1_isAboard_17 rfl (fun c3 => ?_) (fun c3 => ?_)
    · have EX := EX.trans (if_neg c3)
      refine ea_iconst (pc := 24) dX1_isAboard_24 (v := 0) rfl ?_
      exact ea_iretE (pc := 25) dX1_isAboard_25 rfl (ea_bn (Or.inl rfl)) EX rfl
    · have EX := EX.trans (if_pos c3)
      refine ea_iconst (pc := 20) dX1_isAboard_20 (v := 1) rfl ?_
      refine ea_goto (pc := 21) (tgt := 25) dX1_isAboard_21 rfl ?_
      exact ea_iretE (pc := 25) dX1_isAboard_25 rfl (ea_bn (Or.inr rfl)) EX rfl
noncomputable def vX1_stateIn_at32 (b0 : Nat) (x1 : Int32) (x2 : Int32) (h : ea_H) : Int32 := (if (ea_i h (Option.getD (ea_r h (b0 + 31) (Int32.toNatClampNeg x1)) 0) 2) = x2 then (if (ea_i h (Option.getD (ea_r h (b0 + 31) (Int32.toNatClampNeg x1)) 0) 15) = (0 : Int32) then (2 : Int32) else (3 : Int32)) else (0 : Int32))
def okX1_stateIn_at32 (b0 : Nat) (x1 : Int32) (x2 : Int32) (h : ea_H) : Prop := vp_in x1 120 ∧ ((ea_r h (b0 + 31) (Int32.toNatClampNeg x1)) = some (Option.getD (ea_r h (b0 + 31) (Int32.toNatClampNeg x1)) 0) ∧ (((Option.getD (ea_r h (b0 + 31) (Int32.toNatClampNeg x1)) 0) < ea_n h ∧ ea_c h (Option.getD (ea_r h (b0 + 31) (Int32.toNatClampNeg x1)) 0) = 4) ∧ (((ea_i h (Option.getD (ea_r h (b0 + 31) (Int32.toNatClampNeg x1)) 0) 2) = x2 → vp_in x1 120 ∧ ((ea_r h (b0 + 31) (Int32.toNatClampNeg x1)) = some (Option.getD (ea_r h (b0 + 31) (Int32.toNatClampNeg x1)) 0) ∧ (((Option.getD (ea_r h (b0 + 31) (Int32.toNatClampNeg x1)) 0) < ea_n h ∧ ea_c h (Option.getD (ea_r h (b0 + 31) (Int32.toNatClampNeg x1)) 0) = 4)))) ∧ (¬ (ea_i h (Option.getD (ea_r h (b0 + 31) (Int32.toNatClampNeg x1)) 0) 2) = x2 → True))))
theorem sX1_stateIn_at32 {d : Nat} {b0 : Nat} {x1 : Int32} {x2 : Int32} {h : ea_H} (hd : 1 ≤ d) (hs : ShC b0 h) (K : okX1_stateIn_at32 b0 x1 x2 h) : ea_Met mX1_stateIn d [vR (some (b0 + 32)), vI x1, vI x2] h (some (vI (vX1_stateIn_at32 b0 x1 x2 h))) h := by
  obtain ⟨X, EX⟩ : ∃ z, z = vX1_stateIn_at32 b0 x1 x2 h := ⟨_, rfl⟩
  rw [← EX]
  unfold vX1_stateIn_at32 at EX
  unfold okX1_stateIn_at32 at K
  refine ea_enter rfl (Nat.le_of_ble_eq_true rfl) ?_
  refine ea_aload_n (pc := 0) dX1_stateIn_0 rfl 0 rfl ?_
  refine ea_getR (pc := 1) dX1_stateIn_1 ec_1 (k := 14) (Nat.le_of_ble_eq_true rfl) rfl (Or.inl ew_380) (hs.1 32 (by decide)).1 (hs.1 32 (by decide)).2.1 (hs.2 32 14 rfl) ?_
  refine ea_iload_n (pc := 4) dX1_stateIn_4 rfl 1 rfl ?_
  obtain ⟨z1, K⟩ := K
  refine ea_aald23 (pc := 5) dX1_stateIn_5 (hs.1 31 (by decide)).1 (hs.1 31 (by decide)).2.1 (ea_vpl (hs.1 31 (by decide)).2.2 z1) rfl ?_
  obtain ⟨e2, f3, K⟩ := K
  refine ea_deref0 e2 ?_
  refine ea_getI (pc := 6) dX1_stateIn_6 ec_4 (k := 2) (Nat.le_of_ble_eq_true rfl) rfl (Or.inl ew_939) f3.1 f3.2 ?_
  refine ea_iload_n (pc := 9) dX1_stateIn_9 rfl 2 rfl ?_
  refine ea_icmp_eq (pc := 10) (tgt := 15) dX1_stateIn_10 rfl (fun c8 => ?_) (fun c8 => ?_)
  · have EX := EX.trans (if_pos c8)
    have K := K.1 c8
    refine ea_aload_n (pc := 15) dX1_stateIn_15 rfl 0 rfl ?_
    refine ea_getR (pc := 16) dX1_stateIn_16 ec_1 (k := 14) (Nat.le_of_ble_eq_true rfl) rfl (Or.inl ew_380) (hs.1 32 (by decide)).1 (hs.1 32 (by decide)).2.1 (hs.2 32 14 rfl) ?_
    refine ea_iload_n (pc := 19) dX1_stateIn_19 rfl 1 rfl ?_
    obtain ⟨z4, K⟩ := K
    refine ea_aald23 (pc := 20) dX1_stateIn_20 (hs.1 31 (by decide)).1 (hs.1 31 (by decide)).2.1 (ea_vpl (hs.1 31 (by decide)).2.2 z4) rfl ?_
    obtain ⟨e5, f6⟩ := K
    refine ea_deref0 e5 ?_
    refine ea_getI (pc := 21) dX1_stateIn_21 ec_4 (k := 15) (Nat.le_of_ble_eq_true rfl) rfl (Or.inl ew_972) f6.1 f6.2 ?_
    refine ea_if_eq (pc := 24) (tgt := 31) dX1_stateIn_24 rfl (fun c7 => ?_) (fun c7 => ?_)
    · have EX := EX.trans (if_pos c7)
      refine ea_iconst (pc := 31) dX1_stateIn_31 (v := 2) rfl ?_
      exact ea_iretE (pc := 32) dX1_stateIn_32 rfl rfl EX rfl
    · have EX := EX.trans (if_neg c7)
      refine ea_iconst (pc := 27) dX1_stateIn_27 (v := 3) rfl ?_
      refine ea_goto (pc := 28) (tgt := 32) dX1_stateIn_28 rfl ?_
      exact ea_iretE (pc := 32) dX1_stateIn_32 rfl rfl EX rfl
  · have EX := EX.trans (if_neg c8)
    refine ea_iconst (pc := 13) dX1_stateIn_13 (v := 0) rfl ?_
    exact ea_iretE (pc := 14) dX1_stateIn_14 rfl rfl EX rfl
noncomputable def vX1_stateIn_at42 (b0 : Nat) (x1 : Int32) (x2 : Int32) (h : ea_H) : Int32 := (if (ea_i h (Option.getD (ea_r h (b0 + 31) (Int32.toNatClampNeg x1)) 0) 2) = x2 then (if (ea_i h (Option.getD (ea_r h (b0 + 31) (Int32.toNatClampNeg x1)) 0) 15) = (0 : Int32) then (2 : Int32) else (3 : Int32)) else (0 : Int32))
def okX1_stateIn_at42 (b0 : Nat) (x1 : Int32) (x2 : Int32) (h : ea_H) : Prop := vp_in x1 120 ∧ ((ea_r h (b0 + 31) (Int32.toNatClampNeg x1)) = some (Option.getD (ea_r h (b0 + 31) (Int32.toNatClampNeg x1)) 0) ∧ (((Option.getD (ea_r h (b0 + 31) (Int32.toNatClampNeg x1)) 0) < ea_n h ∧ ea_c h (Option.getD (ea_r h (b0 + 31) (Int32.toNatClampNeg x1)) 0) = 4) ∧ (((ea_i h (Option.getD (ea_r h (b0 + 31) (Int32.toNatClampNeg x1)) 0) 2) = x2 → vp_in x1 120 ∧ ((ea_r h (b0 + 31) (Int32.toNatClampNeg x1)) = some (Option.getD (ea_r h (b0 + 31) (Int32.toNatClampNeg x1)) 0) ∧ (((Option.getD (ea_r h (b0 + 31) (Int32.toNatClampNeg x1)) 0) < ea_n h ∧ ea_c h (Option.getD (ea_r h (b0 + 31) (Int32.toNatClampNeg x1)) 0) = 4)))) ∧ (¬ (ea_i h (Option.getD (ea_r h (b0 + 31) (Int32.toNatClampNeg x1)) 0) 2) = x2 → True))))
theorem sX1_stateIn_at42 {d : Nat} {b0 : Nat} {x1 : Int32} {x2 : Int32} {h : ea_H} (hd : 1 ≤ d) (hs : ShC b0 h) (K : okX1_stateIn_at42 b0 x1 x2 h) : ea_Met mX1_stateIn d [vR (some (b0 + 42)), vI x1, vI x2] h (some (vI (vX1_stateIn_at42 b0 x1 x2 h))) h := by
  obtain ⟨X, EX⟩ : ∃ z, z = vX1_stateIn_at42 b0 x1 x2 h := ⟨_, rfl⟩
  rw [← EX]
  unfold vX1_stateIn_at42 at EX
  unfold okX1_stateIn_at42 at K
  refine ea_enter rfl (Nat.le_of_ble_eq_true rfl) ?_
  refine ea_aload_n (pc := 0) dX1_stateIn_0 rfl 0 rfl ?_
  refine ea_getR (pc := 1) dX1_stateIn_1 ec_1 (k := 14) (Nat.le_of_ble_eq_true rfl) rfl (Or.inl ew_380) (hs.1 42 (by decide)).1 (hs.1 42 (by decide)).2.1 (hs.2 42 14 rfl) ?_
  refine ea_iload_n (pc := 4) dX1_stateIn_4 rfl 1 rfl ?_
  obtain ⟨z1, K⟩ := K
  refine ea_aald23 (pc := 5) dX1_stateIn_5 (hs.1 31 (by decide)).1 (hs.1 31 (by decide)).2.1 (ea_vpl (hs.1 31 (by decide)).2.2 z1) rfl ?_
  obtain ⟨e2, f3, K⟩ := K
  refine ea_deref0 e2 ?_
  refine ea_getI (pc := 6) dX1_stateIn_6 ec_4 (k := 2) (Nat.le_of_ble_eq_true rfl) rfl (Or.inl ew_939) f3.1 f3.2 ?_
  refine ea_iload_n (pc := 9) dX1_stateIn_9 rfl 2 rfl ?_
  refine ea_icmp_eq (pc := 10) (tgt := 15) dX1_stateIn_10 rfl (fun c8 => ?_) (fun c8 => ?_)
  · have EX := EX.trans (if_pos c8)
    have K := K.1 c8
    refine ea_aload_n (pc := 15) dX1_stateIn_15 rfl 0 rfl ?_
    refine ea_getR (pc := 16) dX1_stateIn_16 ec_1 (k := 14) (Nat.le_of_ble_eq_true rfl) rfl (Or.inl ew_380) (hs.1 42 (by decide)).1 (hs.1 42 (by decide)).2.1 (hs.2 42 14 rfl) ?_
    refine ea_iload_n (pc := 19) dX1_stateIn_19 rfl 1 rfl ?_
    obtain ⟨z4, K⟩ := K
    refine ea_aald23 (pc := 20) dX1_stateIn_20 (hs.1 31 (by decide)).1 (hs.1 31 (by decide)).2.1 (ea_vpl (hs.1 31 (by decide)).2.2 z4) rfl ?_
    obtain ⟨e5, f6⟩ := K
    refine ea_deref0 e5 ?_
    refine ea_getI (pc := 21) dX1_stateIn_21 ec_4 (k := 15) (Nat.le_of_ble_eq_true rfl) rfl (Or.inl ew_972) f6.1 f6.2 ?_
    refine ea_if_eq (pc := 24) (tgt := 31) dX1_stateIn_24 rfl (fun c7 => ?_) (fun c7 => ?_)
    · have EX := EX.trans (if_pos c7)
      refine ea_iconst (pc := 31) dX1_stateIn_31 (v := 2) rfl ?_
      exact ea_iretE (pc := 32) dX1_stateIn_32 rfl rfl EX rfl
    · have EX := EX.trans (if_neg c7)
      refine ea_iconst (pc := 27) dX1_stateIn_27 (v := 3) rfl ?_
      refine ea_goto (pc := 28) (tgt := 32) dX1_stateIn_28 rfl ?_
      exact ea_iretE (pc := 32) dX1_stateIn_32 rfl rfl EX rfl
  · have EX := EX.trans (if_neg c8)
    refine ea_iconst (pc := 13) dX1_stateIn_13 (v := 0) rfl ?_
    exact ea_iretE (pc := 14) dX1_stateIn_14 rfl rfl EX rfl
noncomputable def wX2_init (a0 : Nat) (h : ea_H) : ea_H := (ea_wi (ea_wi h a0 1 (-60)) a0 2 60)
def okX2_init (a0 : Nat) (h : ea_H) : Prop := (a0 < ea_n h ∧ ea_c h a0 = 2) ∧ ((a0 < ea_n (ea_wi h a0 1 (-60)) ∧ ea_c (ea_wi h a0 1 (-60)) a0 = 2))
theorem shX2_init {b0 : Nat} {a0 : Nat} {h : ea_H} (hs : ShC b0 h) : ShC b0 (wX2_init a0 h) := (ShC_wi (ShC_wi hs))
theorem sX2_init {d : Nat} {a0 : Nat} {h : ea_H} (hd : 2 ≤ d) (K : okX2_init a0 h) : ea_Met mX2_init d [vR (some a0)] h none (wX2_init a0 h) := by
  obtain ⟨Y, EY⟩ : ∃ z, z = wX2_init a0 h := ⟨_, rfl⟩
  rw [← EY]
  unfold wX2_init at EY
  unfold okX2_init at K
  refine ea_enter rfl (Nat.le_of_ble_eq_true rfl) ?_
  refine ea_aload_n (pc := 0) dX2_init_0 rfl 0 rfl ?_
  refine ea_objInit (pc := 1) dX2_init_1 ew_423 ew_134 ew_135 (by omega) (Nat.le_of_ble_eq_true rfl) ?_
  refine ea_aload_n (pc := 4) dX2_init_4 rfl 0 rfl ?_
  refine ea_bipush (pc := 5) dX2_init_5 (v := (-60)) rfl ?_
  obtain ⟨f1, K⟩ := K
  refine ea_putI (pc := 7) dX2_init_7 ec_2 (k := 1) (Nat.le_of_ble_eq_true rfl) rfl (Or.inl ⟨rfl, Or.inl ew_426⟩) rfl rfl f1.1 f1.2 ?_
  refine ea_aload_n (pc := 10) dX2_init_10 rfl 0 rfl ?_
  refine ea_bipush (pc := 11) dX2_init_11 (v := 60) rfl ?_
  have f3 := K
  refine ea_putI (pc := 13) dX2_init_13 ec_2 (k := 2) (Nat.le_of_ble_eq_true rfl) rfl (Or.inl ⟨rfl, Or.inl ew_428⟩) rfl rfl f3.1 f3.2 ?_
  exact ea_vretE (pc := 16) dX2_init_16 rfl EY
noncomputable def vX2_shown (x0 : Int32) (x1 : Int32) (h : ea_H) : Int32 := ((x0 * ((3600 : Int32) + x1)) / (3600 : Int32))
theorem sX2_shown {d : Nat} {x0 : Int32} {x1 : Int32} {h : ea_H} (hd : 1 ≤ d) : ea_Met mX2_shown d [vI x0, vI x1] h (some (vI (vX2_shown x0 x1 h))) h := by
  obtain ⟨X, EX⟩ : ∃ z, z = vX2_shown x0 x1 h := ⟨_, rfl⟩
  rw [← EX]
  unfold vX2_shown at EX
  refine ea_enter rfl (Nat.le_of_ble_eq_true rfl) ?_
  refine ea_iload_n (pc := 0) dX2_shown_0 rfl 0 rfl ?_
  refine ea_sipush (pc := 1) dX2_shown_1 (v := 3600) rfl ?_
  refine ea_iload_n (pc := 4) dX2_shown_4 rfl 1 rfl ?_
  refine ea_iadd (pc := 5) dX2_shown_5 ?_
  refine ea_imul (pc := 6) dX2_shown_6 ?_
  refine ea_sipush (pc := 7) dX2_shown_7 (v := 3600) rfl ?_
  refine ea_idiv (pc := 10) dX2_shown_10 (by decide) ?_
  exact ea_iretE (pc := 11) dX2_shown_11 rfl rfl EX rfl
noncomputable def wX3_init (a0 : Nat) (h : ea_H) : ea_H := (ea_wr (ea_new (ea_wr (ea_new (ea_wr (ea_new (ea_wr (ea_new h 20 8 8) a0 1 (some (ea_n h))) 20 8 8) a0 2 (some (ea_n (ea_wr (ea_new h 20 8 8) a0 1 (some (ea_n h)))))) 20 8 8) a0 3 (some (ea_n (ea_wr (ea_new (ea_wr (ea_new h 20 8 8) a0 1 (some (ea_n h))) 20 8 8) a0 2 (some (ea_n (ea_wr (ea_new h 20 8 8) a0 1 (some (ea_n h))))))))) 20 8 8) a0 4 (some (ea_n (ea_wr (ea_new (ea_wr (ea_new (ea_wr (ea_new h 20 8 8) a0 1 (some (ea_n h))) 20 8 8) a0 2 (some (ea_n (ea_wr (ea_new h 20 8 8) a0 1 (some (ea_n h)))))) 20 8 8) a0 3 (some (ea_n (ea_wr (ea_new (ea_wr (ea_new h 20 8 8) a0 1 (some (ea_n h))) 20 8 8) a0 2 (some (ea_n (ea_wr (ea_new h 20 8 8) a0 1 (some (ea_n h))))))))))))
def okX3_init (a0 : Nat) (h : ea_H) : Prop := (a0 < ea_n (ea_new h 20 8 8) ∧ ea_c (ea_new h 20 8 8) a0 = 3) ∧ ((a0 < ea_n (ea_new (ea_wr (ea_new h 20 8 8) a0 1 (some (ea_n h))) 20 8 8) ∧ ea_c (ea_new (ea_wr (ea_new h 20 8 8) a0 1 (some (ea_n h))) 20 8 8) a0 = 3) ∧ ((a0 < ea_n (ea_new (ea_wr (ea_new (ea_wr (ea_new h 20 8 8) a0 1 (some (ea_n h))) 20 8 8) a0 2 (some (ea_n (ea_wr (ea_new h 20 8 8) a0 1 (some (ea_n h)))))) 20 8 8) ∧ ea_c (ea_new (ea_wr (ea_new (ea_wr (ea_new h 20 8 8) a0 1 (some (ea_n h))) 20 8 8) a0 2 (some (ea_n (ea_wr (ea_new h 20 8 8) a0 1 (some (ea_n h)))))) 20 8 8) a0 = 3) ∧ ((a0 < ea_n (ea_new (ea_wr (ea_new (ea_wr (ea_new (ea_wr (ea_new h 20 8 8) a0 1 (some (ea_n h))) 20 8 8) a0 2 (some (ea_n (ea_wr (ea_new h 20 8 8) a0 1 (some (ea_n h)))))) 20 8 8) a0 3 (some (ea_n (ea_wr (ea_new (ea_wr (ea_new h 20 8 8) a0 1 (some (ea_n h))) 20 8 8) a0 2 (some (ea_n (ea_wr (ea_new h 20 8 8) a0 1 (some (ea_n h))))))))) 20 8 8) ∧ ea_c (ea_new (ea_wr (ea_new (ea_wr (ea_new (ea_wr (ea_new h 20 8 8) a0 1 (some (ea_n h))) 20 8 8) a0 2 (some (ea_n (ea_wr (ea_new h 20 8 8) a0 1 (some (ea_n h)))))) 20 8 8) a0 3 (some (ea_n (ea_wr (ea_new (ea_wr (ea_new h 20 8 8) a0 1 (some (ea_n h))) 20 8 8) a0 2 (some (ea_n (ea_wr (ea_new h 20 8 8) a0 1 (some (ea_n h))))))))) 20 8 8) a0 = 3))))
theorem sX3_init {d : Nat} {a0 : Nat} {h : ea_H} (hd : 2 ≤ d) (K : okX3_init a0 h) : ea_Met mX3_init d [vR (some a0)] h none (wX3_init a0 h) := by
  obtain ⟨Y, EY⟩ : ∃ z, z = wX3_init a0 h := ⟨_, rfl⟩
  rw [← EY]
  unfold wX3_init at EY
  unfold okX3_init at K
  refine ea_enter rfl (Nat.le_of_ble_eq_true rfl) ?_
  refine ea_aload_n (pc := 0) dX3_init_0 rfl 0 rfl ?_
  refine ea_objInit (pc := 1) dX3_init_1 ew_260 ew_134 ew_135 (by omega) (Nat.le_of_ble_eq_true rfl) ?_
  refine ea_aload_n (pc := 4) dX3_init_4 rfl 0 rfl ?_
  refine ea_bipush (pc := 5) dX3_init_5 (v := 8) rfl ?_
  refine ea_newI (pc := 7) (N := 8) dX3_init_7 ew_170 (by decide) rfl (Nat.le_of_ble_eq_true rfl) ?_
  obtain ⟨f2, K⟩ := K
  refine ea_putR (pc := 9) dX3_init_9 ec_3 (k := 1) (Nat.le_of_ble_eq_true rfl) rfl (Or.inr ⟨rfl, rfl, rfl, ew_263⟩) f2.1 f2.2 ?_
  refine ea_aload_n (pc := 12) dX3_init_12 rfl 0 rfl ?_
  refine ea_bipush (pc := 13) dX3_init_13 (v := 8) rfl ?_
  refine ea_newI (pc := 15) (N := 8) dX3_init_15 ew_170 (by decide) rfl (Nat.le_of_ble_eq_true rfl) ?_
  obtain ⟨f5, K⟩ := K
  refine ea_putR (pc := 17) dX3_init_17 ec_3 (k := 2) (Nat.le_of_ble_eq_true rfl) rfl (Or.inr ⟨rfl, rfl, rfl, ew_265⟩) f5.1 f5.2 ?_
  refine ea_aload_n (pc := 20) dX3_init_20 rfl 0 rfl ?_
  refine ea_bipush (pc := 21) dX3_init_21 (v := 8) rfl ?_
  refine ea_newI (pc := 23) (N := 8) dX3_init_23 ew_170 (by decide) rfl (Nat.le_of_ble_eq_true rfl) ?_
  obtain ⟨f8, K⟩ := K
  refine ea_putR (pc := 25) dX3_init_25 ec_3 (k := 3) (Nat.le_of_ble_eq_true rfl) rfl (Or.inr ⟨rfl, rfl, rfl, ew_266⟩) f8.1 f8.2 ?_
  refine ea_aload_n (pc := 28) dX3_init_28 rfl 0 rfl ?_
  refine ea_bipush (pc := 29) dX3_init_29 (v := 8) rfl ?_
  refine ea_newI (pc := 31) (N := 8) dX3_init_31 ew_170 (by decide) rfl (Nat.le_of_ble_eq_true rfl) ?_
  have f11 := K
  refine ea_putR (pc := 33) dX3_init_33 ec_3 (k := 4) (Nat.le_of_ble_eq_true rfl) rfl (Or.inr ⟨rfl, rfl, rfl, ew_267⟩) f11.1 f11.2 ?_
  exact ea_vretE (pc := 36) dX3_init_36 rfl EY
noncomputable def vX3_add (b0 : Nat) (x1 : Int32) (x2 : Int32) (h : ea_H) : Int32 := (if (ea_i h (b0 + 16) 0) < (8 : Int32) then ((ea_i (ea_wi (ea_wi (ea_wi (ea_wi h (b0 + 18) (Int32.toNatClampNeg (ea_i h (b0 + 16) 0)) x1) (b0 + 19) (Int32.toNatClampNeg (ea_i (ea_wi h (b0 + 18) (Int32.toNatClampNeg (ea_i h (b0 + 16) 0)) x1) (b0 + 16) 0)) x2) (b0 + 17) (Int32.toNatClampNeg (ea_i (ea_wi (ea_wi h (b0 + 18) (Int32.toNatClampNeg (ea_i h (b0 + 16) 0)) x1) (b0 + 19) (Int32.toNatClampNeg (ea_i (ea_wi h (b0 + 18) (Int32.toNatClampNeg (ea_i h (b0 + 16) 0)) x1) (b0 + 16) 0)) x2) (b0 + 16) 0)) (-1)) (b0 + 16) 0 ((ea_i (ea_wi (ea_wi (ea_wi h (b0 + 18) (Int32.toNatClampNeg (ea_i h (b0 + 16) 0)) x1) (b0 + 19) (Int32.toNatClampNeg (ea_i (ea_wi h (b0 + 18) (Int32.toNatClampNeg (ea_i h (b0 + 16) 0)) x1) (b0 + 16) 0)) x2) (b0 + 17) (Int32.toNatClampNeg (ea_i (ea_wi (ea_wi h (b0 + 18) (Int32.toNatClampNeg (ea_i h (b0 + 16) 0)) x1) (b0 + 19) (Int32.toNatClampNeg (ea_i (ea_wi h (b0 + 18) (Int32.toNatClampNeg (ea_i h (b0 + 16) 0)) x1) (b0 + 16) 0)) x2) (b0 + 16) 0)) (-1)) (b0 + 16) 0) + (1 : Int32))) (b0 + 16) 0) - (1 : Int32)) else ((-1) : Int32))
noncomputable def wX3_add (b0 : Nat) (x1 : Int32) (x2 : Int32) (h : ea_H) : ea_H := (if (ea_i h (b0 + 16) 0) < (8 : Int32) then (ea_wi (ea_wi (ea_wi (ea_wi h (b0 + 18) (Int32.toNatClampNeg (ea_i h (b0 + 16) 0)) x1) (b0 + 19) (Int32.toNatClampNeg (ea_i (ea_wi h (b0 + 18) (Int32.toNatClampNeg (ea_i h (b0 + 16) 0)) x1) (b0 + 16) 0)) x2) (b0 + 17) (Int32.toNatClampNeg (ea_i (ea_wi (ea_wi h (b0 + 18) (Int32.toNatClampNeg (ea_i h (b0 + 16) 0)) x1) (b0 + 19) (Int32.toNatClampNeg (ea_i (ea_wi h (b0 + 18) (Int32.toNatClampNeg (ea_i h (b0 + 16) 0)) x1) (b0 + 16) 0)) x2) (b0 + 16) 0)) (-1)) (b0 + 16) 0 ((ea_i (ea_wi (ea_wi (ea_wi h (b0 + 18) (Int32.toNatClampNeg (ea_i h (b0 + 16) 0)) x1) (b0 + 19) (Int32.toNatClampNeg (ea_i (ea_wi h (b0 + 18) (Int32.toNatClampNeg (ea_i h (b0 + 16) 0)) x1) (b0 + 16) 0)) x2) (b0 + 17) (Int32.toNatClampNeg (ea_i (ea_wi (ea_wi h (b0 + 18) (Int32.toNatClampNeg (ea_i h (b0 + 16) 0)) x1) (b0 + 19) (Int32.toNatClampNeg (ea_i (ea_wi h (b0 + 18) (Int32.toNatClampNeg (ea_i h (b0 + 16) 0)) x1) (b0 + 16) 0)) x2) (b0 + 16) 0)) (-1)) (b0 + 16) 0) + (1 : Int32))) else h)
def okX3_add (b0 : Nat) (x1 : Int32) (x2 : Int32) (h : ea_H) : Prop := ((ea_i h (b0 + 16) 0) < (8 : Int32) → vp_in (ea_i h (b0 + 16) 0) 8 ∧ (vp_in (ea_i (ea_wi h (b0 + 18) (Int32.toNatClampNeg (ea_i h (b0 + 16) 0)) x1) (b0 + 16) 0) 8 ∧ (vp_in (ea_i (ea_wi (ea_wi h (b0 + 18) (Int32.toNatClampNeg (ea_i h (b0 + 16) 0)) x1) (b0 + 19) (Int32.toNatClampNeg (ea_i (ea_wi h (b0 + 18) (Int32.toNatClampNeg (ea_i h (b0 + 16) 0)) x1) (b0 + 16) 0)) x2) (b0 + 16) 0) 8))) ∧ (¬ (ea_i h (b0 + 16) 0) < (8 : Int32) → True)
theorem shX3_add {b0 : Nat} {x1 : Int32} {x2 : Int32} {h : ea_H} (hs : ShC b0 h) : ShC b0 (wX3_add b0 x1 x2 h) := (ShC_it (ShC_wi (ShC_wi (ShC_wi (ShC_wi hs)))) hs)
theorem sX3_add {d : Nat} {b0 : Nat} {x1 : Int32} {x2 : Int32} {h : ea_H} (hd : 1 ≤ d) (hs : ShC b0 h) (K : okX3_add b0 x1 x2 h) : ea_Met mX3_add d [vR (some (b0 + 16)), vI x1, vI x2] h (some (vI (vX3_add b0 x1 x2 h))) (wX3_add b0 x1 x2 h) := by
  obtain ⟨X, EX⟩ : ∃ z, z = vX3_add b0 x1 x2 h := ⟨_, rfl⟩
  rw [← EX]
  unfold vX3_add at EX
  obtain ⟨Y, EY⟩ : ∃ z, z = wX3_add b0 x1 x2 h := ⟨_, rfl⟩
  rw [← EY]
  unfold wX3_add at EY
  unfold okX3_add at K
  refine ea_enter rfl (Nat.le_of_ble_eq_true rfl) ?_
  refine ea_aload_n (pc := 0) dX3_add_0 rfl 0 rfl ?_
  refine ea_getI (pc := 1) dX3_add_1 ec_3 (k := 0) (Nat.le_of_ble_eq_true rfl) rfl (Or.inl ew_261) (hs.1 16 (by decide)).1 (hs.1 16 (by decide)).2.1 ?_
  refine ea_bipush (pc := 4) dX3_add_4 (v := 8) rfl ?_
  refine ea_icmp_lt (pc := 6) (tgt := 11) dX3_add_6 rfl (fun c8 => ?_) (fun c8 => ?_)
  · have EX := EX.trans (if_pos c8)
    have EY := EY.trans (if_pos c8)
    have K := K.1 c8
    refine ea_aload_n (pc := 11) dX3_add_11 rfl 0 rfl ?_
    refine ea_getR (pc := 12) dX3_add_12 ec_3 (k := 2) (Nat.le_of_ble_eq_true rfl) rfl (Or.inl ew_265) (hs.1 16 (by decide)).1 (hs.1 16 (by decide)).2.1 (hs.2 16 2 rfl) ?_
    refine ea_aload_n (pc := 15) dX3_add_15 rfl 0 rfl ?_
    refine ea_getI (pc := 16) dX3_add_16 ec_3 (k := 0) (Nat.le_of_ble_eq_true rfl) rfl (Or.inl ew_261) (hs.1 16 (by decide)).1 (hs.1 16 (by decide)).2.1 ?_
    refine ea_iload_n (pc := 19) dX3_add_19 rfl 1 rfl ?_
    obtain ⟨z1, K⟩ := K
    refine ea_iast (pc := 20) dX3_add_20 (hs.1 18 (by decide)).1 (hs.1 18 (by decide)).2.1 (ea_vpl (hs.1 18 (by decide)).2.2 z1) ?_
    have hs2 : ShC b0 (ea_wi h (b0 + 18) (Int32.toNatClampNeg (ea_i h (b0 + 16) 0)) x1) := ShC_wi hs
    refine ea_aload_n (pc := 21) dX3_add_21 rfl 0 rfl ?_
    refine ea_getR (pc := 22) dX3_add_22 ec_3 (k := 3) (Nat.le_of_ble_eq_true rfl) rfl (Or.inl ew_266) (hs2.1 16 (by decide)).1 (hs2.1 16 (by decide)).2.1 (hs2.2 16 3 rfl) ?_
    refine ea_aload_n (pc := 25) dX3_add_25 rfl 0 rfl ?_
    refine ea_getI (pc := 26) dX3_add_26 ec_3 (k := 0) (Nat.le_of_ble_eq_true rfl) rfl (Or.inl ew_261) (hs2.1 16 (by decide)).1 (hs2.1 16 (by decide)).2.1 ?_
    refine ea_iload_n (pc := 29) dX3_add_29 rfl 2 rfl ?_
    obtain ⟨z3, K⟩ := K
    refine ea_iast (pc := 30) dX3_add_30 (hs2.1 19 (by decide)).1 (hs2.1 19 (by decide)).2.1 (ea_vpl (hs2.1 19 (by decide)).2.2 z3) ?_
    have hs4 : ShC b0 (ea_wi (ea_wi h (b0 + 18) (Int32.toNatClampNeg (ea_i h (b0 + 16) 0)) x1) (b0 + 19) (Int32.toNatClampNeg (ea_i (ea_wi h (b0 + 18) (Int32.toNatClampNeg (ea_i h (b0 + 16) 0)) x1) (b0 + 16) 0)) x2) := ShC_wi hs2
    refine ea_aload_n (pc := 31) dX3_add_31 rfl 0 rfl ?_
    refine ea_getR (pc := 32) dX3_add_32 ec_3 (k := 1) (Nat.le_of_ble_eq_true rfl) rfl (Or.inl ew_263) (hs4.1 16 (by decide)).1 (hs4.1 16 (by decide)).2.1 (hs4.2 16 1 rfl) ?_
    refine ea_aload_n (pc := 35) dX3_add_35 rfl 0 rfl ?_
    refine ea_getI (pc := 36) dX3_add_36 ec_3 (k := 0) (Nat.le_of_ble_eq_true rfl) rfl (Or.inl ew_261) (hs4.1 16 (by decide)).1 (hs4.1 16 (by decide)).2.1 ?_
    refine ea_iconst (pc := 39) dX3_add_39 (v := (-1)) rfl ?_
    have z5 := K
    refine ea_iast (pc := 40) dX3_add_40 (hs4.1 17 (by decide)).1 (hs4.1 17 (by decide)).2.1 (ea_vpl (hs4.1 17 (by decide)).2.2 z5) ?_
    have hs6 : ShC b0 (ea_wi (ea_wi (ea_wi h (b0 + 18) (Int32.toNatClampNeg (ea_i h (b0 + 16) 0)) x1) (b0 + 19) (Int32.toNatClampNeg (ea_i (ea_wi h (b0 + 18) (Int32.toNatClampNeg (ea_i h (b0 + 16) 0)) x1) (b0 + 16) 0)) x2) (b0 + 17) (Int32.toNatClampNeg (ea_i (ea_wi (ea_wi h (b0 + 18) (Int32.toNatClampNeg (ea_i h (b0 + 16) 0)) x1) (b0 + 19) (Int32.toNatClampNeg (ea_i (ea_wi h (b0 + 18) (Int32.toNatClampNeg (ea_i h (b0 + 16) 0)) x1) (b0 + 16) 0)) x2) (b0 + 16) 0)) (-1)) := ShC_wi hs4
    refine ea_aload_n (pc := 41) dX3_add_41 rfl 0 rfl ?_
    refine ea_dup (pc := 42) dX3_add_42 rfl ?_
    refine ea_getI (pc := 43) dX3_add_43 ec_3 (k := 0) (Nat.le_of_ble_eq_true rfl) rfl (Or.inl ew_261) (hs6.1 16 (by decide)).1 (hs6.1 16 (by decide)).2.1 ?_
    refine ea_iconst (pc := 46) dX3_add_46 (v := 1) rfl ?_
    refine ea_iadd (pc := 47) dX3_add_47 ?_
    refine ea_putI (pc := 48) dX3_add_48 ec_3 (k := 0) (Nat.le_of_ble_eq_true rfl) rfl (Or.inl ⟨rfl, Or.inl ew_261⟩) rfl rfl (hs6.1 16 (by decide)).1 (hs6.1 16 (by decide)).2.1 ?_
    have hs7 : ShC b0 (ea_wi (ea_wi (ea_wi (ea_wi h (b0 + 18) (Int32.toNatClampNeg (ea_i h (b0 + 16) 0)) x1) (b0 + 19) (Int32.toNatClampNeg (ea_i (ea_wi h (b0 + 18) (Int32.toNatClampNeg (ea_i h (b0 + 16) 0)) x1) (b0 + 16) 0)) x2) (b0 + 17) (Int32.toNatClampNeg (ea_i (ea_wi (ea_wi h (b0 + 18) (Int32.toNatClampNeg (ea_i h (b0 + 16) 0)) x1) (b0 + 19) (Int32.toNatClampNeg (ea_i (ea_wi h (b0 + 18) (Int32.toNatClampNeg (ea_i h (b0 + 16) 0)) x1) (b0 + 16) 0)) x2) (b0 + 16) 0)) (-1)) (b0 + 16) 0 ((ea_i (ea_wi (ea_wi (ea_wi h (b0 + 18) (Int32.toNatClampNeg (ea_i h (b0 + 16) 0)) x1) (b0 + 19) (Int32.toNatClampNeg (ea_i (ea_wi h (b0 + 18) (Int32.toNatClampNeg (ea_i h (b0 + 16) 0)) x1) (b0 + 16) 0)) x2) (b0 + 17) (Int32.toNatClampNeg (ea_i (ea_wi (ea_wi h (b0 + 18) (Int32.toNatClampNeg (ea_i h (b0 + 16) 0)) x1) (b0 + 19) (Int32.toNatClampNeg (ea_i (ea_wi h (b0 + 18) (Int32.toNatClampNeg (ea_i h (b0 + 16) 0)) x1) (b0 + 16) 0)) x2) (b0 + 16) 0)) (-1)) (b0 + 16) 0) + (1 : Int32))) := ShC_wi hs6
    refine ea_aload_n (pc := 51) dX3_add_51 rfl 0 rfl ?_
    refine ea_getI (pc := 52) dX3_add_52 ec_3 (k := 0) (Nat.le_of_ble_eq_true rfl) rfl (Or.inl ew_261) (hs7.1 16 (by decide)).1 (hs7.1 16 (by decide)).2.1 ?_
    refine ea_iconst (pc := 55) dX3_add_55 (v := 1) rfl ?_
    refine ea_isub (pc := 56) dX3_add_56 ?_
    exact ea_iretE (pc := 57) dX3_add_57 rfl rfl EX EY
  · have EX := EX.trans (if_neg c8)
    have EY := EY.trans (if_neg c8)
    refine ea_iconst (pc := 9) dX3_add_9 (v := (-1)) rfl ?_
    exact ea_iretE (pc := 10) dX3_add_10 rfl rfl EX EY
noncomputable def wX4_init (b0 : Nat) (a0 : Nat) (x1 : Int32) (x2 : Int32) (x3 : Int32) (x4 : Int32) (x5 : Int32) (x6 : Int32) (h : ea_H) : ea_H := (ea_wi (ea_wi (ea_wi (ea_wi (ea_wi (ea_wi (ShC_wd b0 (ea_new (ea_wi (ea_wi (ea_wi h a0 11 (-1)) a0 12 (-1)) a0 14 3) 20 4 4) a0 17 (some (ea_n (ea_wi (ea_wi (ea_wi h a0 11 (-1)) a0 12 (-1)) a0 14 3)))) a0 0 x1) a0 1 x2) a0 2 x3) a0 3 x4) a0 4 x5) a0 5 x6)
def okX4_init (b0 : Nat) (a0 : Nat) (x1 : Int32) (x2 : Int32) (x3 : Int32) (x4 : Int32) (x5 : Int32) (x6 : Int32) (h : ea_H) : Prop := (a0 < ea_n h ∧ ea_c h a0 = 4) ∧ ((a0 < ea_n (ea_wi h a0 11 (-1)) ∧ ea_c (ea_wi h a0 11 (-1)) a0 = 4) ∧ ((a0 < ea_n (ea_wi (ea_wi h a0 11 (-1)) a0 12 (-1)) ∧ ea_c (ea_wi (ea_wi h a0 11 (-1)) a0 12 (-1)) a0 = 4) ∧ ((a0 < ea_n (ea_new (ea_wi (ea_wi (ea_wi h a0 11 (-1)) a0 12 (-1)) a0 14 3) 20 4 4) ∧ ea_c (ea_new (ea_wi (ea_wi (ea_wi h a0 11 (-1)) a0 12 (-1)) a0 14 3) 20 4 4) a0 = 4) ∧ (ShC_far b0 a0 ∧ ((a0 < ea_n (ShC_wd b0 (ea_new (ea_wi (ea_wi (ea_wi h a0 11 (-1)) a0 12 (-1)) a0 14 3) 20 4 4) a0 17 (some (ea_n (ea_wi (ea_wi (ea_wi h a0 11 (-1)) a0 12 (-1)) a0 14 3)))) ∧ ea_c (ShC_wd b0 (ea_new (ea_wi (ea_wi (ea_wi h a0 11 (-1)) a0 12 (-1)) a0 14 3) 20 4 4) a0 17 (some (ea_n (ea_wi (ea_wi (ea_wi h a0 11 (-1)) a0 12 (-1)) a0 14 3)))) a0 = 4) ∧ ((a0 < ea_n (ea_wi (ShC_wd b0 (ea_new (ea_wi (ea_wi (ea_wi h a0 11 (-1)) a0 12 (-1)) a0 14 3) 20 4 4) a0 17 (some (ea_n (ea_wi (ea_wi (ea_wi h a0 11 (-1)) a0 12 (-1)) a0 14 3)))) a0 0 x1) ∧ ea_c (ea_wi (ShC_wd b0 (ea_new (ea_wi (ea_wi (ea_wi h a0 11 (-1)) a0 12 (-1)) a0 14 3) 20 4 4) a0 17 (some (ea_n (ea_wi (ea_wi (ea_wi h a0 11 (-1)) a0 12 (-1)) a0 14 3)))) a0 0 x1) a0 = 4) ∧ ((a0 < ea_n (ea_wi (ea_wi (ShC_wd b0 (ea_new (ea_wi (ea_wi (ea_wi h a0 11 (-1)) a0 12 (-1)) a0 14 3) 20 4 4) a0 17 (some (ea_n (ea_wi (ea_wi (ea_wi h a0 11 (-1)) a0 12 (-1)) a0 14 3)))) a0 0 x1) a0 1 x2) ∧ ea_c (ea_wi (ea_wi (ShC_wd b0 (ea_new (ea_wi (ea_wi (ea_wi h a0 11 (-1)) a0 12 (-1)) a0 14 3) 20 4 4) a0 17 (some (ea_n (ea_wi (ea_wi (ea_wi h a0 11 (-1)) a0 12 (-1)) a0 14 3)))) a0 0 x1) a0 1 x2) a0 = 4) ∧ ((a0 < ea_n (ea_wi (ea_wi (ea_wi (ShC_wd b0 (ea_new (ea_wi (ea_wi (ea_wi h a0 11 (-1)) a0 12 (-1)) a0 14 3) 20 4 4) a0 17 (some (ea_n (ea_wi (ea_wi (ea_wi h a0 11 (-1)) a0 12 (-1)) a0 14 3)))) a0 0 x1) a0 1 x2) a0 2 x3) ∧ ea_c (ea_wi (ea_wi (ea_wi (ShC_wd b0 (ea_new (ea_wi (ea_wi (ea_wi h a0 11 (-1)) a0 12 (-1)) a0 14 3) 20 4 4) a0 17 (some (ea_n (ea_wi (ea_wi (ea_wi h a0 11 (-1)) a0 12 (-1)) a0 14 3)))) a0 0 x1) a0 1 x2) a0 2 x3) a0 = 4) ∧ ((a0 < ea_n (ea_wi (ea_wi (ea_wi (ea_wi (ShC_wd b0 (ea_new (ea_wi (ea_wi (ea_wi h a0 11 (-1)) a0 12 (-1)) a0 14 3) 20 4 4) a0 17 (some (ea_n (ea_wi (ea_wi (ea_wi h a0 11 (-1)) a0 12 (-1)) a0 14 3)))) a0 0 x1) a0 1 x2) a0 2 x3) a0 3 x4) ∧ ea_c (ea_wi (ea_wi (ea_wi (ea_wi (ShC_wd b0 (ea_new (ea_wi (ea_wi (ea_wi h a0 11 (-1)) a0 12 (-1)) a0 14 3) 20 4 4) a0 17 (some (ea_n (ea_wi (ea_wi (ea_wi h a0 11 (-1)) a0 12 (-1)) a0 14 3)))) a0 0 x1) a0 1 x2) a0 2 x3) a0 3 x4) a0 = 4) ∧ ((a0 < ea_n (ea_wi (ea_wi (ea_wi (ea_wi (ea_wi (ShC_wd b0 (ea_new (ea_wi (ea_wi (ea_wi h a0 11 (-1)) a0 12 (-1)) a0 14 3) 20 4 4) a0 17 (some (ea_n (ea_wi (ea_wi (ea_wi h a0 11 (-1)) a0 12 (-1)) a0 14 3)))) a0 0 x1) a0 1 x2) a0 2 x3) a0 3 x4) a0 4 x5) ∧ ea_c (ea_wi (ea_wi (ea_wi (ea_wi (ea_wi (ShC_wd b0 (ea_new (ea_wi (ea_wi (ea_wi h a0 11 (-1)) a0 12 (-1)) a0 14 3) 20 4 4) a0 17 (some (ea_n (ea_wi (ea_wi (ea_wi h a0 11 (-1)) a0 12 (-1)) a0 14 3)))) a0 0 x1) a0 1 x2) a0 2 x3) a0 3 x4) a0 4 x5) a0 = 4)))))))))))
theorem shX4_init {b0 : Nat} {a0 : Nat} {x1 : Int32} {x2 : Int32} {x3 : Int32} {x4 : Int32} {x5 : Int32} {x6 : Int32} {h : ea_H} (hs : ShC b0 h) : ShC b0 (wX4_init b0 a0 x1 x2 x3 x4 x5 x6 h) := (ShC_wi (ShC_wi (ShC_wi (ShC_wi (ShC_wi (ShC_wi (ShC_wd_sh (ShC_new (ShC_wi (ShC_wi (ShC_wi hs)))))))))))
theorem sX4_init {d : Nat} {b0 : Nat} {a0 : Nat} {x1 : Int32} {x2 : Int32} {x3 : Int32} {x4 : Int32} {x5 : Int32} {x6 : Int32} {h : ea_H} (hd : 2 ≤ d) (hs : ShC b0 h) (K : okX4_init b0 a0 x1 x2 x3 x4 x5 x6 h) : ea_Met mX4_init d [vR (some a0), vI x1, vI x2, vI x3, vI x4, vI x5, vI x6] h none (wX4_init b0 a0 x1 x2 x3 x4 x5 x6 h) := by
  obtain ⟨Y, EY⟩ : ∃ z, z = wX4_init b0 a0 x1 x2 x3 x4 x5 x6 h := ⟨_, rfl⟩
  rw [← EY]
  unfold wX4_init at EY
  unfold okX4_init at K
  refine ea_enter rfl (Nat.le_of_ble_eq_true rfl) ?_
  refine ea_aload_n (pc := 0) dX4_init_0 rfl 0 rfl ?_
  refine ea_objInit (pc := 1) dX4_init_1 ew_932 ew_134 ew_135 (by omega) (Nat.le_of_ble_eq_true rfl) ?_
  refine ea_aload_n (pc := 4) dX4_init_4 rfl 0 rfl ?_
  refine ea_iconst (pc := 5) dX4_init_5 (v := (-1)) rfl ?_
  obtain ⟨f1, K⟩ := K
  refine ea_putI (pc := 6) dX4_init_6 ec_4 (k := 11) (Nat.le_of_ble_eq_true rfl) rfl (Or.inl ⟨rfl, Or.inl ew_961⟩) rfl rfl f1.1 f1.2 ?_
  have hs2 : ShC b0 (ea_wi h a0 11 (-1)) := ShC_wi hs
  refine ea_aload_n (pc := 9) dX4_init_9 rfl 0 rfl ?_
  refine ea_iconst (pc := 10) dX4_init_10 (v := (-1)) rfl ?_
  obtain ⟨f3, K⟩ := K
  refine ea_putI (pc := 11) dX4_init_11 ec_4 (k := 12) (Nat.le_of_ble_eq_true rfl) rfl (Or.inl ⟨rfl, Or.inl ew_964⟩) rfl rfl f3.1 f3.2 ?_
  have hs4 : ShC b0 (ea_wi (ea_wi h a0 11 (-1)) a0 12 (-1)) := ShC_wi hs2
  refine ea_aload_n (pc := 14) dX4_init_14 rfl 0 rfl ?_
  refine ea_iconst (pc := 15) dX4_init_15 (v := 3) rfl ?_
  obtain ⟨f5, K⟩ := K
  refine ea_putI (pc := 16) dX4_init_16 ec_4 (k := 14) (Nat.le_of_ble_eq_true rfl) rfl (Or.inl ⟨rfl, Or.inl ew_969⟩) rfl rfl f5.1 f5.2 ?_
  have hs6 : ShC b0 (ea_wi (ea_wi (ea_wi h a0 11 (-1)) a0 12 (-1)) a0 14 3) := ShC_wi hs4
  refine ea_aload_n (pc := 19) dX4_init_19 rfl 0 rfl ?_
  refine ea_iconst (pc := 20) dX4_init_20 (v := 4) rfl ?_
  refine ea_newI (pc := 21) (N := 4) dX4_init_21 ew_170 (by decide) rfl (Nat.le_of_ble_eq_true rfl) ?_
  have hs7 : ShC b0 (ea_new (ea_wi (ea_wi (ea_wi h a0 11 (-1)) a0 12 (-1)) a0 14 3) 20 4 4) := ShC_new hs6
  obtain ⟨f8, zf10, K⟩ := K
  refine ea_putR (pc := 23) dX4_init_23 ec_4 (k := 17) (Nat.le_of_ble_eq_true rfl) rfl (Or.inl ⟨rfl, Or.inl ew_976⟩) f8.1 f8.2 ?_
  refine ea_nm (ShC_wdeq zf10) ?_
  have hs9 : ShC b0 (ShC_wd b0 (ea_new (ea_wi (ea_wi (ea_wi h a0 11 (-1)) a0 12 (-1)) a0 14 3) 20 4 4) a0 17 (some (ea_n (ea_wi (ea_wi (ea_wi h a0 11 (-1)) a0 12 (-1)) a0 14 3)))) := ShC_wd_sh hs7
  refine ea_aload_n (pc := 26) dX4_init_26 rfl 0 rfl ?_
  refine ea_iload_n (pc := 27) dX4_init_27 rfl 1 rfl ?_
  obtain ⟨f11, K⟩ := K
  refine ea_putI (pc := 28) dX4_init_28 ec_4 (k := 0) (Nat.le_of_ble_eq_true rfl) rfl (Or.inr ⟨rfl, rfl, rfl, ew_933⟩) rfl rfl f11.1 f11.2 ?_
  have hs12 : ShC b0 (ea_wi (ShC_wd b0 (ea_new (ea_wi (ea_wi (ea_wi h a0 11 (-1)) a0 12 (-1)) a0 14 3) 20 4 4) a0 17 (some (ea_n (ea_wi (ea_wi (ea_wi h a0 11 (-1)) a0 12 (-1)) a0 14 3)))) a0 0 x1) := ShC_wi hs9
  refine ea_aload_n (pc := 31) dX4_init_31 rfl 0 rfl ?_
  refine ea_iload_n (pc := 32) dX4_init_32 rfl 2 rfl ?_
  obtain ⟨f13, K⟩ := K
  refine ea_putI (pc := 33) dX4_init_33 ec_4 (k := 1) (Nat.le_of_ble_eq_true rfl) rfl (Or.inr ⟨rfl, rfl, rfl, ew_936⟩) rfl rfl f13.1 f13.2 ?_
  have hs14 : ShC b0 (ea_wi (ea_wi (ShC_wd b0 (ea_new (ea_wi (ea_wi (ea_wi h a0 11 (-1)) a0 12 (-1)) a0 14 3) 20 4 4) a0 17 (some (ea_n (ea_wi (ea_wi (ea_wi h a0 11 (-1)) a0 12 (-1)) a0 14 3)))) a0 0 x1) a0 1 x2) := ShC_wi hs12
  refine ea_aload_n (pc := 36) dX4_init_36 rfl 0 rfl ?_
  refine ea_iload_n (pc := 37) dX4_init_37 rfl 3 rfl ?_
  obtain ⟨f15, K⟩ := K
  refine ea_putI (pc := 38) dX4_init_38 ec_4 (k := 2) (Nat.le_of_ble_eq_true rfl) rfl (Or.inr ⟨rfl, rfl, rfl, ew_938⟩) rfl rfl f15.1 f15.2 ?_
  have hs16 : ShC b0 (ea_wi (ea_wi (ea_wi (ShC_wd b0 (ea_new (ea_wi (ea_wi (ea_wi h a0 11 (-1)) a0 12 (-1)) a0 14 3) 20 4 4) a0 17 (some (ea_n (ea_wi (ea_wi (ea_wi h a0 11 (-1)) a0 12 (-1)) a0 14 3)))) a0 0 x1) a0 1 x2) a0 2 x3) := ShC_wi hs14
  refine ea_aload_n (pc := 41) dX4_init_41 rfl 0 rfl ?_
  refine ea_iload (pc := 42) dX4_init_42 4 rfl ?_
  obtain ⟨f17, K⟩ := K
  refine ea_putI (pc := 44) dX4_init_44 ec_4 (k := 3) (Nat.le_of_ble_eq_true rfl) rfl (Or.inr ⟨rfl, rfl, rfl, ew_941⟩) rfl rfl f17.1 f17.2 ?_
  have hs18 : ShC b0 (ea_wi (ea_wi (ea_wi (ea_wi (ShC_wd b0 (ea_new (ea_wi (ea_wi (ea_wi h a0 11 (-1)) a0 12 (-1)) a0 14 3) 20 4 4) a0 17 (some (ea_n (ea_wi (ea_wi (ea_wi h a0 11 (-1)) a0 12 (-1)) a0 14 3)))) a0 0 x1) a0 1 x2) a0 2 x3) a0 3 x4) := ShC_wi hs16
  refine ea_aload_n (pc := 47) dX4_init_47 rfl 0 rfl ?_
  refine ea_iload (pc := 48) dX4_init_48 5 rfl ?_
  obtain ⟨f19, K⟩ := K
  refine ea_putI (pc := 50) dX4_init_50 ec_4 (k := 4) (Nat.le_of_ble_eq_true rfl) rfl (Or.inr ⟨rfl, rfl, rfl, ew_944⟩) rfl rfl f19.1 f19.2 ?_
  have hs20 : ShC b0 (ea_wi (ea_wi (ea_wi (ea_wi (ea_wi (ShC_wd b0 (ea_new (ea_wi (ea_wi (ea_wi h a0 11 (-1)) a0 12 (-1)) a0 14 3) 20 4 4) a0 17 (some (ea_n (ea_wi (ea_wi (ea_wi h a0 11 (-1)) a0 12 (-1)) a0 14 3)))) a0 0 x1) a0 1 x2) a0 2 x3) a0 3 x4) a0 4 x5) := ShC_wi hs18
  refine ea_aload_n (pc := 53) dX4_init_53 rfl 0 rfl ?_
  refine ea_iload (pc := 54) dX4_init_54 6 rfl ?_
  have f21 := K
  refine ea_putI (pc := 56) dX4_init_56 ec_4 (k := 5) (Nat.le_of_ble_eq_true rfl) rfl (Or.inr ⟨rfl, rfl, rfl, ew_947⟩) rfl rfl f21.1 f21.2 ?_
  have hs22 : ShC b0 (ea_wi (ea_wi (ea_wi (ea_wi (ea_wi (ea_wi (ShC_wd b0 (ea_new (ea_wi (ea_wi (ea_wi h a0 11 (-1)) a0 12 (-1)) a0 14 3) 20 4 4) a0 17 (some (ea_n (ea_wi (ea_wi (ea_wi h a0 11 (-1)) a0 12 (-1)) a0 14 3)))) a0 0 x1) a0 1 x2) a0 2 x3) a0 3 x4) a0 4 x5) a0 5 x6) := ShC_wi hs20
  exact ea_vretE (pc := 59) dX4_init_59 rfl EY
noncomputable def vX4_dayOf (b0 : Nat) (a0 : Nat) (h : ea_H) : Int32 := ((ea_i h a0 6) / (1440 : Int32))
def okX4_dayOf (b0 : Nat) (a0 : Nat) (h : ea_H) : Prop := (a0 < ea_n h ∧ ea_c h a0 = 4)
theorem sX4_dayOf {d : Nat} {b0 : Nat} {a0 : Nat} {h : ea_H} (hd : 1 ≤ d) (hs : ShC b0 h) (K : okX4_dayOf b0 a0 h) : ea_Met mX4_dayOf d [vR (some a0)] h (some (vI (vX4_dayOf b0 a0 h))) h := by
  obtain ⟨X, EX⟩ : ∃ z, z = vX4_dayOf b0 a0 h := ⟨_, rfl⟩
  rw [← EX]
  unfold vX4_dayOf at EX
  unfold okX4_dayOf at K
  refine ea_enter rfl (Nat.le_of_ble_eq_true rfl) ?_
  refine ea_aload_n (pc := 0) dX4_dayOf_0 rfl 0 rfl ?_
  have f1 := K
  refine ea_getI (pc := 1) dX4_dayOf_1 ec_4 (k := 6) (Nat.le_of_ble_eq_true rfl) rfl (Or.inl ew_949) f1.1 f1.2 ?_
  refine ea_sipush (pc := 4) dX4_dayOf_4 (v := 1440) rfl ?_
  refine ea_idiv (pc := 7) dX4_dayOf_7 (by decide) ?_
  exact ea_iretE (pc := 8) dX4_dayOf_8 rfl rfl EX rfl
noncomputable def vX4_owed (b0 : Nat) (a0 : Nat) (h : ea_H) : Int32 := (if (ea_i h a0 0) = (0 : Int32) then (ea_i h a0 10) else (if (ea_i h a0 0) = (3 : Int32) then (ea_i h a0 10) else (0 : Int32)))
def okX4_owed (b0 : Nat) (a0 : Nat) (h : ea_H) : Prop := (a0 < ea_n h ∧ ea_c h a0 = 4) ∧ (((ea_i h a0 0) = (0 : Int32) → (a0 < ea_n h ∧ ea_c h a0 = 4)) ∧ (¬ (ea_i h a0 0) = (0 : Int32) → (a0 < ea_n h ∧ ea_c h a0 = 4) ∧ (((ea_i h a0 0) = (3 : Int32) → (a0 < ea_n h ∧ ea_c h a0 = 4)) ∧ (¬ (ea_i h a0 0) = (3 : Int32) → True))))
theorem sX4_owed {d : Nat} {b0 : Nat} {a0 : Nat} {h : ea_H} (hd : 1 ≤ d) (hs : ShC b0 h) (K : okX4_owed b0 a0 h) : ea_Met mX4_owed d [vR (some a0)] h (some (vI (vX4_owed b0 a0 h))) h := by
  obtain ⟨X, EX⟩ : ∃ z, z = vX4_owed b0 a0 h := ⟨_, rfl⟩
  rw [← EX]
  unfold vX4_owed at EX
  unfold okX4_owed at K
  refine ea_enter rfl (Nat.le_of_ble_eq_true rfl) ?_
  refine ea_aload_n (pc := 0) dX4_owed_0 rfl 0 rfl ?_
  obtain ⟨f1, K⟩ := K
  refine ea_getI (pc := 1) dX4_owed_1 ec_4 (k := 0) (Nat.le_of_ble_eq_true rfl) rfl (Or.inl ew_933) f1.1 f1.2 ?_
  refine ea_if_eq (pc := 4) (tgt := 15) dX4_owed_4 rfl (fun c6 => ?_) (fun c6 => ?_)
  · have EX := EX.trans (if_pos c6)
    have K := K.1 c6
    refine ea_aload_n (pc := 15) dX4_owed_15 rfl 0 rfl ?_
    have f2 := K
    refine ea_getI (pc := 16) dX4_owed_16 ec_4 (k := 10) (Nat.le_of_ble_eq_true rfl) rfl (Or.inl ew_958) f2.1 f2.2 ?_
    refine ea_goto (pc := 19) (tgt := 23) dX4_owed_19 rfl ?_
    exact ea_iretE (pc := 23) dX4_owed_23 rfl rfl EX rfl
  · have EX := EX.trans (if_neg c6)
    have K := K.2 c6
    refine ea_aload_n (pc := 7) dX4_owed_7 rfl 0 rfl ?_
    obtain ⟨f3, K⟩ := K
    refine ea_getI (pc := 8) dX4_owed_8 ec_4 (k := 0) (Nat.le_of_ble_eq_true rfl) rfl (Or.inl ew_933) f3.1 f3.2 ?_
    refine ea_iconst (pc := 11) dX4_owed_11 (v := 3) rfl ?_
    refine ea_icmp_ne (pc := 12) (tgt := 22) dX4_owed_12 rfl (fun c5 => ?_) (fun c5 => ?_)
    · have EX := EX.trans (if_neg c5)
      refine ea_iconst (pc := 22) dX4_owed_22 (v := 0) rfl ?_
      exact ea_iretE (pc := 23) dX4_owed_23 rfl rfl EX rfl
    · have EX := EX.trans (if_pos c5)
      have K := K.1 c5
      refine ea_aload_n (pc := 15) dX4_owed_15 rfl 0 rfl ?_
      have f4 := K
      refine ea_getI (pc := 16) dX4_owed_16 ec_4 (k := 10) (Nat.le_of_ble_eq_true rfl) rfl (Or.inl ew_958) f4.1 f4.2 ?_
      refine ea_goto (pc := 19) (tgt := 23) dX4_owed_19 rfl ?_
      exact ea_iretE (pc := 23) dX4_owed_23 rfl rfl EX rfl
noncomputable def vX4_rowMinute (b0 : Nat) (a0 : Nat) (x1 : Int32) (h : ea_H) : Int32 := ((ea_i h (Option.getD (ea_r h a0 17) 0) (Int32.toNatClampNeg x1)) >>> ((10 : Int32) &&& 31))
def okX4_rowMinute (b0 : Nat) (a0 : Nat) (x1 : Int32) (h : ea_H) : Prop := (a0 < ea_n h ∧ ea_c h a0 = 4) ∧ ((ea_r h a0 17) = some (Option.getD (ea_r h a0 17) 0) ∧ (((Option.getD (ea_r h a0 17) 0) < ea_n h ∧ ea_c h (Option.getD (ea_r h a0 17) 0) = 20) ∧ (vp_in x1 (ea_l h (Option.getD (ea_r h a0 17) 0)))))
theorem sX4_rowMinute {d : Nat} {b0 : Nat} {a0 : Nat} {x1 : Int32} {h : ea_H} (hd : 1 ≤ d) (hs : ShC b0 h) (K : okX4_rowMinute b0 a0 x1 h) : ea_Met mX4_rowMinute d [vR (some a0), vI x1] h (some (vI (vX4_rowMinute b0 a0 x1 h))) h := by
  obtain ⟨X, EX⟩ : ∃ z, z = vX4_rowMinute b0 a0 x1 h := ⟨_, rfl⟩
  rw [← EX]
  unfold vX4_rowMinute at EX
  unfold okX4_rowMinute at K
  refine ea_enter rfl (Nat.le_of_ble_eq_true rfl) ?_
  refine ea_aload_n (pc := 0) dX4_rowMinute_0 rfl 0 rfl ?_
  obtain ⟨f1, K⟩ := K
  refine ea_getR (pc := 1) dX4_rowMinute_1 ec_4 (k := 17) (Nat.le_of_ble_eq_true rfl) rfl (Or.inl ew_976) f1.1 f1.2 rfl ?_
  refine ea_iload_n (pc := 4) dX4_rowMinute_4 rfl 1 rfl ?_
  obtain ⟨e2, f3, z4⟩ := K
  refine ea_deref1 e2 ?_
  refine ea_iald (pc := 5) dX4_rowMinute_5 f3.1 f3.2 z4 ?_
  refine ea_bipush (pc := 6) dX4_rowMinute_6 (v := 10) rfl ?_
  refine ea_ishr (pc := 8) dX4_rowMinute_8 ?_
  exact ea_iretE (pc := 9) dX4_rowMinute_9 rfl rfl EX rfl
noncomputable def vX4_rowState (b0 : Nat) (a0 : Nat) (x1 : Int32) (h : ea_H) : Int32 := (((ea_i h (Option.getD (ea_r h a0 17) 0) (Int32.toNatClampNeg x1)) >>> ((7 : Int32) &&& 31)) &&& (7 : Int32))
def okX4_rowState (b0 : Nat) (a0 : Nat) (x1 : Int32) (h : ea_H) : Prop := (a0 < ea_n h ∧ ea_c h a0 = 4) ∧ ((ea_r h a0 17) = some (Option.getD (ea_r h a0 17) 0) ∧ (((Option.getD (ea_r h a0 17) 0) < ea_n h ∧ ea_c h (Option.getD (ea_r h a0 17) 0) = 20) ∧ (vp_in x1 (ea_l h (Option.getD (ea_r h a0 17) 0)))))
theorem sX4_rowState {d : Nat} {b0 : Nat} {a0 : Nat} {x1 : Int32} {h : ea_H} (hd : 1 ≤ d) (hs : ShC b0 h) (K : okX4_rowState b0 a0 x1 h) : ea_Met mX4_rowState d [vR (some a0), vI x1] h (some (vI (vX4_rowState b0 a0 x1 h))) h := by
  obtain ⟨X, EX⟩ : ∃ z, z = vX4_rowState b0 a0 x1 h := ⟨_, rfl⟩
  rw [← EX]
  unfold vX4_rowState at EX
  unfold okX4_rowState at K
  refine ea_enter rfl (Nat.le_of_ble_eq_true rfl) ?_
  refine ea_aload_n (pc := 0) dX4_rowState_0 rfl 0 rfl ?_
  obtain ⟨f1, K⟩ := K
  refine ea_getR (pc := 1) dX4_rowState_1 ec_4 (k := 17) (Nat.le_of_ble_eq_true rfl) rfl (Or.inl ew_976) f1.1 f1.2 rfl ?_
  refine ea_iload_n (pc := 4) dX4_rowState_4 rfl 1 rfl ?_
  obtain ⟨e2, f3, z4⟩ := K
  refine ea_deref1 e2 ?_
  refine ea_iald (pc := 5) dX4_rowState_5 f3.1 f3.2 z4 ?_
  refine ea_bipush (pc := 6) dX4_rowState_6 (v := 7) rfl ?_
  refine ea_ishr (pc := 8) dX4_rowState_8 ?_
  refine ea_bipush (pc := 9) dX4_rowState_9 (v := 7) rfl ?_
  refine ea_iand (pc := 11) dX4_rowState_11 ?_
  exact ea_iretE (pc := 12) dX4_rowState_12 rfl rfl EX rfl
noncomputable def vX4_rowPlace (b0 : Nat) (a0 : Nat) (x1 : Int32) (h : ea_H) : Int32 := ((ea_i h (Option.getD (ea_r h a0 17) 0) (Int32.toNatClampNeg x1)) &&& (127 : Int32))
def okX4_rowPlace (b0 : Nat) (a0 : Nat) (x1 : Int32) (h : ea_H) : Prop := (a0 < ea_n h ∧ ea_c h a0 = 4) ∧ ((ea_r h a0 17) = some (Option.getD (ea_r h a0 17) 0) ∧ (((Option.getD (ea_r h a0 17) 0) < ea_n h ∧ ea_c h (Option.getD (ea_r h a0 17) 0) = 20) ∧ (vp_in x1 (ea_l h (Option.getD (ea_r h a0 17) 0)))))
theorem sX4_rowPlace {d : Nat} {b0 : Nat} {a0 : Nat} {x1 : Int32} {h : ea_H} (hd : 1 ≤ d) (hs : ShC b0 h) (K : okX4_rowPlace b0 a0 x1 h) : ea_Met mX4_rowPlace d [vR (some a0), vI x1] h (some (vI (vX4_rowPlace b0 a0 x1 h))) h := by
  obtain ⟨X, EX⟩ : ∃ z, z = vX4_rowPlace b0 a0 x1 h := ⟨_, rfl⟩
  rw [← EX]
  unfold vX4_rowPlace at EX
  unfold okX4_rowPlace at K
  refine ea_enter rfl (Nat.le_of_ble_eq_true rfl) ?_
  refine ea_aload_n (pc := 0) dX4_rowPlace_0 rfl 0 rfl ?_
  obtain ⟨f1, K⟩ := K
  refine ea_getR (pc := 1) dX4_rowPlace_1 ec_4 (k := 17) (Nat.le_of_ble_eq_true rfl) rfl (Or.inl ew_976) f1.1 f1.2 rfl ?_
  refine ea_iload_n (pc := 4) dX4_rowPlace_4 rfl 1 rfl ?_
  obtain ⟨e2, f3, z4⟩ := K
  refine ea_deref1 e2 ?_
  refine ea_iald (pc := 5) dX4_rowPlace_5 f3.1 f3.2 z4 ?_
  refine ea_bipush (pc := 6) dX4_rowPlace_6 (v := 127) rfl ?_
  refine ea_iand (pc := 8) dX4_rowPlace_8 ?_
  exact ea_iretE (pc := 9) dX4_rowPlace_9 rfl rfl EX rfl
noncomputable def vX4_placeTown (b0 : Nat) (a0 : Nat) (x1 : Int32) (h : ea_H) : Int32 := ((ea_i h (Option.getD (ea_r h a0 19) 0) (Int32.toNatClampNeg x1)) &&& (15 : Int32))
def okX4_placeTown (b0 : Nat) (a0 : Nat) (x1 : Int32) (h : ea_H) : Prop := (a0 < ea_n h ∧ ea_c h a0 = 4) ∧ ((ea_r h a0 19) = some (Option.getD (ea_r h a0 19) 0) ∧ (((Option.getD (ea_r h a0 19) 0) < ea_n h ∧ ea_c h (Option.getD (ea_r h a0 19) 0) = 20) ∧ (vp_in x1 (ea_l h (Option.getD (ea_r h a0 19) 0)))))
theorem sX4_placeTown {d : Nat} {b0 : Nat} {a0 : Nat} {x1 : Int32} {h : ea_H} (hd : 1 ≤ d) (hs : ShC b0 h) (K : okX4_placeTown b0 a0 x1 h) : ea_Met mX4_placeTown d [vR (some a0), vI x1] h (some (vI (vX4_placeTown b0 a0 x1 h))) h := by
  obtain ⟨X, EX⟩ : ∃ z, z = vX4_placeTown b0 a0 x1 h := ⟨_, rfl⟩
  rw [← EX]
  unfold vX4_placeTown at EX
  unfold okX4_placeTown at K
  refine ea_enter rfl (Nat.le_of_ble_eq_true rfl) ?_
  refine ea_aload_n (pc := 0) dX4_placeTown_0 rfl 0 rfl ?_
  obtain ⟨f1, K⟩ := K
  refine ea_getR (pc := 1) dX4_placeTown_1 ec_4 (k := 19) (Nat.le_of_ble_eq_true rfl) rfl (Or.inl ew_979) f1.1 f1.2 rfl ?_
  refine ea_iload_n (pc := 4) dX4_placeTown_4 rfl 1 rfl ?_
  obtain ⟨e2, f3, z4⟩ := K
  refine ea_deref1 e2 ?_
  refine ea_iald (pc := 5) dX4_placeTown_5 f3.1 f3.2 z4 ?_
  refine ea_bipush (pc := 6) dX4_placeTown_6 (v := 15) rfl ?_
  refine ea_iand (pc := 8) dX4_placeTown_8 ?_
  exact ea_iretE (pc := 9) dX4_placeTown_9 rfl rfl EX rfl
noncomputable def vX4_placeChance (b0 : Nat) (a0 : Nat) (x1 : Int32) (h : ea_H) : Int32 := ((100 : Int32) - ((ea_i h (Option.getD (ea_r h a0 19) 0) (Int32.toNatClampNeg x1)) >>> ((4 : Int32) &&& 31)))
def okX4_placeChance (b0 : Nat) (a0 : Nat) (x1 : Int32) (h : ea_H) : Prop := (a0 < ea_n h ∧ ea_c h a0 = 4) ∧ ((ea_r h a0 19) = some (Option.getD (ea_r h a0 19) 0) ∧ (((Option.getD (ea_r h a0 19) 0) < ea_n h ∧ ea_c h (Option.getD (ea_r h a0 19) 0) = 20) ∧ (vp_in x1 (ea_l h (Option.getD (ea_r h a0 19) 0)))))
theorem sX4_placeChance {d : Nat} {b0 : Nat} {a0 : Nat} {x1 : Int32} {h : ea_H} (hd : 1 ≤ d) (hs : ShC b0 h) (K : okX4_placeChance b0 a0 x1 h) : ea_Met mX4_placeChance d [vR (some a0), vI x1] h (some (vI (vX4_placeChance b0 a0 x1 h))) h := by
  obtain ⟨X, EX⟩ : ∃ z, z = vX4_placeChance b0 a0 x1 h := ⟨_, rfl⟩
  rw [← EX]
  unfold vX4_placeChance at EX
  unfold okX4_placeChance at K
  refine ea_enter rfl (Nat.le_of_ble_eq_true rfl) ?_
  refine ea_bipush (pc := 0) dX4_placeChance_0 (v := 100) rfl ?_
  refine ea_aload_n (pc := 2) dX4_placeChance_2 rfl 0 rfl ?_
  obtain ⟨f1, K⟩ := K
  refine ea_getR (pc := 3) dX4_placeChance_3 ec_4 (k := 19) (Nat.le_of_ble_eq_true rfl) rfl (Or.inl ew_979) f1.1 f1.2 rfl ?_
  refine ea_iload_n (pc := 6) dX4_placeChance_6 rfl 1 rfl ?_
  obtain ⟨e2, f3, z4⟩ := K
  refine ea_deref1 e2 ?_
  refine ea_iald (pc := 7) dX4_placeChance_7 f3.1 f3.2 z4 ?_
  refine ea_iconst (pc := 8) dX4_placeChance_8 (v := 4) rfl ?_
  refine ea_ishr (pc := 9) dX4_placeChance_9 ?_
  refine ea_isub (pc := 10) dX4_placeChance_10 ?_
  exact ea_iretE (pc := 11) dX4_placeChance_11 rfl rfl EX rfl
noncomputable def wX5_drop (b0 : Nat) (h : ea_H) : ea_H := (ea_wi (ea_wi (ea_wi h (b0 + 22) 0 0) (b0 + 22) 1 0) (b0 + 22) 2 (-1))
theorem shX5_drop {b0 : Nat} {h : ea_H} (hs : ShC b0 h) : ShC b0 (wX5_drop b0 h) := (ShC_wi (ShC_wi (ShC_wi hs)))
theorem sX5_drop {d : Nat} {b0 : Nat} {h : ea_H} (hd : 1 ≤ d) (hs : ShC b0 h) : ea_Met mX5_drop d [vR (some (b0 + 22))] h none (wX5_drop b0 h) := by
  obtain ⟨Y, EY⟩ : ∃ z, z = wX5_drop b0 h := ⟨_, rfl⟩
  rw [← EY]
  unfold wX5_drop at EY
  refine ea_enter rfl (Nat.le_of_ble_eq_true rfl) ?_
  refine ea_aload_n (pc := 0) dX5_drop_0 rfl 0 rfl ?_
  refine ea_iconst (pc := 1) dX5_drop_1 (v := 0) rfl ?_
  refine ea_putI (pc := 2) dX5_drop_2 ec_5 (k := 0) (Nat.le_of_ble_eq_true rfl) rfl (Or.inl ⟨rfl, Or.inl ew_291⟩) rfl rfl (hs.1 22 (by decide)).1 (hs.1 22 (by decide)).2.1 ?_
  have hs1 : ShC b0 (ea_wi h (b0 + 22) 0 0) := ShC_wi hs
  refine ea_aload_n (pc := 5) dX5_drop_5 rfl 0 rfl ?_
  refine ea_iconst (pc := 6) dX5_drop_6 (v := 0) rfl ?_
  refine ea_putI (pc := 7) dX5_drop_7 ec_5 (k := 1) (Nat.le_of_ble_eq_true rfl) rfl (Or.inl ⟨rfl, Or.inl ew_293⟩) rfl rfl (hs1.1 22 (by decide)).1 (hs1.1 22 (by decide)).2.1 ?_
  have hs2 : ShC b0 (ea_wi (ea_wi h (b0 + 22) 0 0) (b0 + 22) 1 0) := ShC_wi hs1
  refine ea_aload_n (pc := 10) dX5_drop_10 rfl 0 rfl ?_
  refine ea_iconst (pc := 11) dX5_drop_11 (v := (-1)) rfl ?_
  refine ea_putI (pc := 12) dX5_drop_12 ec_5 (k := 2) (Nat.le_of_ble_eq_true rfl) rfl (Or.inl ⟨rfl, Or.inl ew_295⟩) rfl rfl (hs2.1 22 (by decide)).1 (hs2.1 22 (by decide)).2.1 ?_
  have hs3 : ShC b0 (ea_wi (ea_wi (ea_wi h (b0 + 22) 0 0) (b0 + 22) 1 0) (b0 + 22) 2 (-1)) := ShC_wi hs2
  exact ea_vretE (pc := 15) dX5_drop_15 rfl EY
noncomputable def vX5_comparison (b0 : Nat) (h : ea_H) : Int32 := (if Int32.toInt (ea_i h (b0 + 22) 9) = 60 then ((-14) : Int32) else (if Int32.toInt (ea_i h (b0 + 22) 9) = 61 then ((-15) : Int32) else (if Int32.toInt (ea_i h (b0 + 22) 9) = 62 then ((-16) : Int32) else ((-1) : Int32))))
theorem sX5_comparison {d : Nat} {b0 : Nat} {h : ea_H} (hd : 1 ≤ d) (hs : ShC b0 h) : ea_Met mX5_comparison d [vR (some (b0 + 22))] h (some (vI (vX5_comparison b0 h))) h := by
  obtain ⟨X, EX⟩ : ∃ z, z = vX5_comparison b0 h := ⟨_, rfl⟩
  rw [← EX]
  unfold vX5_comparison at EX
  refine ea_enter rfl (Nat.le_of_ble_eq_true rfl) ?_
  refine ea_aload_n (pc := 0) dX5_comparison_0 rfl 0 rfl ?_
  refine ea_getI (pc := 1) dX5_comparison_1 ec_5 (k := 9) (Nat.le_of_ble_eq_true rfl) rfl (Or.inl ew_303) (hs.1 22 (by decide)).1 (hs.1 22 (by decide)).2.1 ?_
  by_cases qc4_0 : Int32.toInt (ea_i h (b0 + 22) 9) = 60
  · have EX := EX.trans (if_pos qc4_0)
    refine ea_tswIn (pc := 4) (tgt := 32) dX5_comparison_4 (by rw [qc4_0]; decide) (by rw [qc4_0]; decide) (by rw [qc4_0]; rfl) rfl ?_
    refine ea_bipush (pc := 32) dX5_comparison_32 (v := (-14)) rfl ?_
    exact ea_iretE (pc := 34) dX5_comparison_34 rfl rfl EX rfl
  have EX := EX.trans (if_neg qc4_0)
  by_cases qc4_1 : Int32.toInt (ea_i h (b0 + 22) 9) = 61
  · have EX := EX.trans (if_pos qc4_1)
    refine ea_tswIn (pc := 4) (tgt := 35) dX5_comparison_4 (by rw [qc4_1]; decide) (by rw [qc4_1]; decide) (by rw [qc4_1]; rfl) rfl ?_
    refine ea_bipush (pc := 35) dX5_comparison_35 (v := (-15)) rfl ?_
    exact ea_iretE (pc := 37) dX5_comparison_37 rfl rfl EX rfl
  have EX := EX.trans (if_neg qc4_1)
  by_cases qc4_2 : Int32.toInt (ea_i h (b0 + 22) 9) = 62
  · have EX := EX.trans (if_pos qc4_2)
    refine ea_tswIn (pc := 4) (tgt := 38) dX5_comparison_4 (by rw [qc4_2]; decide) (by rw [qc4_2]; decide) (by rw [qc4_2]; rfl) rfl ?_
    refine ea_bipush (pc := 38) dX5_comparison_38 (v := (-16)) rfl ?_
    exact ea_iretE (pc := 40) dX5_comparison_40 rfl rfl EX rfl
  have EX := EX.trans (if_neg qc4_2)
  refine ea_tswOut (pc := 4) (tgt := 41) dX5_comparison_4 (ec_sw_60_62 qc4_0 qc4_1 qc4_2) rfl ?_
  refine ea_iconst (pc := 41) dX5_comparison_41 (v := (-1)) rfl ?_
  exact ea_iretE (pc := 42) dX5_comparison_42 rfl rfl EX rfl
noncomputable def wX5_step (b0 : Nat) (h : ea_H) : ea_H := (if ((ea_i h (b0 + 22) 7) - (1 : Int32)) ≤ (ea_i h (b0 + 22) 8) then (ea_wi h (b0 + 22) 9 (ea_i h (b0 + 24) (Int32.toNatClampNeg (ea_i h (b0 + 22) 8)))) else (ea_wi (ea_wi h (b0 + 22) 8 ((ea_i h (b0 + 22) 8) + (1 : Int32))) (b0 + 22) 9 (ea_i (ea_wi h (b0 + 22) 8 ((ea_i h (b0 + 22) 8) + (1 : Int32))) (b0 + 24) (Int32.toNatClampNeg (ea_i (ea_wi h (b0 + 22) 8 ((ea_i h (b0 + 22) 8) + (1 : Int32))) (b0 + 22) 8)))))
def okX5_step (b0 : Nat) (h : ea_H) : Prop := (((ea_i h (b0 + 22) 7) - (1 : Int32)) ≤ (ea_i h (b0 + 22) 8) → vp_in (ea_i h (b0 + 22) 8) 601) ∧ (¬ ((ea_i h (b0 + 22) 7) - (1 : Int32)) ≤ (ea_i h (b0 + 22) 8) → vp_in (ea_i (ea_wi h (b0 + 22) 8 ((ea_i h (b0 + 22) 8) + (1 : Int32))) (b0 + 22) 8) 601)
theorem shX5_step {b0 : Nat} {h : ea_H} (hs : ShC b0 h) : ShC b0 (wX5_step b0 h) := (ShC_it (ShC_wi hs) (ShC_wi (ShC_wi hs)))
theorem sX5_step {d : Nat} {b0 : Nat} {h : ea_H} (hd : 1 ≤ d) (hs : ShC b0 h) (K : okX5_step b0 h) : ea_Met mX5_step d [vR (some (b0 + 22))] h none (wX5_step b0 h) := by
  obtain ⟨Y, EY⟩ : ∃ z, z = wX5_step b0 h := ⟨_, rfl⟩
  rw [← EY]
  unfold wX5_step at EY
  unfold okX5_step at K
  refine ea_enter rfl (Nat.le_of_ble_eq_true rfl) ?_
  refine ea_aload_n (pc := 0) dX5_step_0 rfl 0 rfl ?_
  refine ea_getI (pc := 1) dX5_step_1 ec_5 (k := 8) (Nat.le_of_ble_eq_true rfl) rfl (Or.inl ew_302) (hs.1 22 (by decide)).1 (hs.1 22 (by decide)).2.1 ?_
  refine ea_aload_n (pc := 4) dX5_step_4 rfl 0 rfl ?_
  refine ea_getI (pc := 5) dX5_step_5 ec_5 (k := 7) (Nat.le_of_ble_eq_true rfl) rfl (Or.inl ew_301) (hs.1 22 (by decide)).1 (hs.1 22 (by decide)).2.1 ?_
  refine ea_iconst (pc := 8) dX5_step_8 (v := 1) rfl ?_
  refine ea_isub (pc := 9) dX5_step_9 ?_
  refine ea_icmp_ge (pc := 10) (tgt := 23) dX5_step_10 rfl (fun c6 => ?_) (fun c6 => ?_)
  · have EY := EY.trans (if_pos c6)
    have K := K.1 c6
    refine ea_aload_n (pc := 23) dX5_step_23 rfl 0 rfl ?_
    refine ea_aload_n (pc := 24) dX5_step_24 rfl 0 rfl ?_
    refine ea_getR (pc := 25) dX5_step_25 ec_5 (k := 4) (Nat.le_of_ble_eq_true rfl) rfl (Or.inl ew_298) (hs.1 22 (by decide)).1 (hs.1 22 (by decide)).2.1 (hs.2 22 4 rfl) ?_
    refine ea_aload_n (pc := 28) dX5_step_28 rfl 0 rfl ?_
    refine ea_getI (pc := 29) dX5_step_29 ec_5 (k := 8) (Nat.le_of_ble_eq_true rfl) rfl (Or.inl ew_302) (hs.1 22 (by decide)).1 (hs.1 22 (by decide)).2.1 ?_
    have z1 := K
    refine ea_iald (pc := 32) dX5_step_32 (hs.1 24 (by decide)).1 (hs.1 24 (by decide)).2.1 (ea_vpl (hs.1 24 (by decide)).2.2 z1) ?_
    refine ea_putI (pc := 33) dX5_step_33 ec_5 (k := 9) (Nat.le_of_ble_eq_true rfl) rfl (Or.inl ⟨rfl, Or.inl ew_303⟩) rfl rfl (hs.1 22 (by decide)).1 (hs.1 22 (by decide)).2.1 ?_
    have hs2 : ShC b0 (ea_wi h (b0 + 22) 9 (ea_i h (b0 + 24) (Int32.toNatClampNeg (ea_i h (b0 + 22) 8)))) := ShC_wi hs
    exact ea_vretE (pc := 36) dX5_step_36 rfl EY
  · have EY := EY.trans (if_neg c6)
    have K := K.2 c6
    refine ea_aload_n (pc := 13) dX5_step_13 rfl 0 rfl ?_
    refine ea_dup (pc := 14) dX5_step_14 rfl ?_
    refine ea_getI (pc := 15) dX5_step_15 ec_5 (k := 8) (Nat.le_of_ble_eq_true rfl) rfl (Or.inl ew_302) (hs.1 22 (by decide)).1 (hs.1 22 (by decide)).2.1 ?_
    refine ea_iconst (pc := 18) dX5_step_18 (v := 1) rfl ?_
    refine ea_iadd (pc := 19) dX5_step_19 ?_
    refine ea_putI (pc := 20) dX5_step_20 ec_5 (k := 8) (Nat.le_of_ble_eq_true rfl) rfl (Or.inl ⟨rfl, Or.inl ew_302⟩) rfl rfl (hs.1 22 (by decide)).1 (hs.1 22 (by decide)).2.1 ?_
    have hs3 : ShC b0 (ea_wi h (b0 + 22) 8 ((ea_i h (b0 + 22) 8) + (1 : Int32))) := ShC_wi hs
    refine ea_aload_n (pc := 23) dX5_step_23 rfl 0 rfl ?_
    refine ea_aload_n (pc := 24) dX5_step_24 rfl 0 rfl ?_
    refine ea_getR (pc := 25) dX5_step_25 ec_5 (k := 4) (Nat.le_of_ble_eq_true rfl) rfl (Or.inl ew_298) (hs3.1 22 (by decide)).1 (hs3.1 22 (by decide)).2.1 (hs3.2 22 4 rfl) ?_
    refine ea_aload_n (pc := 28) dX5_step_28 rfl 0 rfl ?_
    refine ea_getI (pc := 29) dX5_step_29 ec_5 (k := 8) (Nat.le_of_ble_eq_true rfl) rfl (Or.inl ew_302) (hs3.1 22 (by decide)).1 (hs3.1 22 (by decide)).2.1 ?_
    have z4 := K
    refine ea_iald (pc := 32) dX5_step_32 (hs3.1 24 (by decide)).1 (hs3.1 24 (by decide)).2.1 (ea_vpl (hs3.1 24 (by decide)).2.2 z4) ?_
    refine ea_putI (pc := 33) dX5_step_33 ec_5 (k := 9) (Nat.le_of_ble_eq_true rfl) rfl (Or.inl ⟨rfl, Or.inl ew_303⟩) rfl rfl (hs3.1 22 (by decide)).1 (hs3.1 22 (by decide)).2.1 ?_
    have hs5 : ShC b0 (ea_wi (ea_wi h (b0 + 22) 8 ((ea_i h (b0 + 22) 8) + (1 : Int32))) (b0 + 22) 9 (ea_i (ea_wi h (b0 + 22) 8 ((ea_i h (b0 + 22) 8) + (1 : Int32))) (b0 + 24) (Int32.toNatClampNeg (ea_i (ea_wi h (b0 + 22) 8 ((ea_i h (b0 + 22) 8) + (1 : Int32))) (b0 + 22) 8)))) := ShC_wi hs3
    exact ea_vretE (pc := 36) dX5_step_36 rfl EY
noncomputable def vX5_refuse (b0 : Nat) (x1 : Int32) (h : ea_H) : Int32 := (0 : Int32)
noncomputable def wX5_refuse (b0 : Nat) (x1 : Int32) (h : ea_H) : ea_H := (ea_wi (ea_wi h (b0 + 22) 1 x1) (b0 + 22) 2 (ea_i (ea_wi h (b0 + 22) 1 x1) (b0 + 25) (Int32.toNatClampNeg (ea_i (ea_wi h (b0 + 22) 1 x1) (b0 + 22) 8))))
def okX5_refuse (b0 : Nat) (x1 : Int32) (h : ea_H) : Prop := vp_in (ea_i (ea_wi h (b0 + 22) 1 x1) (b0 + 22) 8) 601
theorem bo_vX5_refuse (b0 : Nat) (x1 : Int32) (h : ea_H) : vX5_refuse b0 x1 h = 0 ∨ vX5_refuse b0 x1 h = 1 := (Or.inl rfl)
theorem shX5_refuse {b0 : Nat} {x1 : Int32} {h : ea_H} (hs : ShC b0 h) : ShC b0 (wX5_refuse b0 x1 h) := (ShC_wi (ShC_wi hs))
theorem sX5_refuse {d : Nat} {b0 : Nat} {x1 : Int32} {h : ea_H} (hd : 1 ≤ d) (hs : ShC b0 h) (K : okX5_refuse b0 x1 h) : ea_Met mX5_refuse d [vR (some (b0 + 22)), vI x1] h (some (vI (vX5_refuse b0 x1 h))) (wX5_refuse b0 x1 h) := by
  obtain ⟨X, EX⟩ : ∃ z, z = vX5_refuse b0 x1 h := ⟨_, rfl⟩
  rw [← EX]
  unfold vX5_refuse at EX
  obtain ⟨Y, EY⟩ : ∃ z, z = wX5_refuse b0 x1 h := ⟨_, rfl⟩
  rw [← EY]
  unfold wX5_refuse at EY
  unfold okX5_refuse at K
  refine ea_enter rfl (Nat.le_of_ble_eq_true rfl) ?_
  refine ea_aload_n (pc := 0) dX5_refuse_0 rfl 0 rfl ?_
  refine ea_iload_n (pc := 1) dX5_refuse_1 rfl 1 rfl ?_
  refine ea_putI (pc := 2) dX5_refuse_2 ec_5 (k := 1) (Nat.le_of_ble_eq_true rfl) rfl (Or.inl ⟨rfl, Or.inl ew_293⟩) rfl rfl (hs.1 22 (by decide)).1 (hs.1 22 (by decide)).2.1 ?_
  have hs1 : ShC b0 (ea_wi h (b0 + 22) 1 x1) := ShC_wi hs
  refine ea_aload_n (pc := 5) dX5_refuse_5 rfl 0 rfl ?_
  refine ea_aload_n (pc := 6) dX5_refuse_6 rfl 0 rfl ?_
  refine ea_getR (pc := 7) dX5_refuse_7 ec_5 (k := 5) (Nat.le_of_ble_eq_true rfl) rfl (Or.inl ew_299) (hs1.1 22 (by decide)).1 (hs1.1 22 (by decide)).2.1 (hs1.2 22 5 rfl) ?_
  refine ea_aload_n (pc := 10) dX5_refuse_10 rfl 0 rfl ?_
  refine ea_getI (pc := 11) dX5_refuse_11 ec_5 (k := 8) (Nat.le_of_ble_eq_true rfl) rfl (Or.inl ew_302) (hs1.1 22 (by decide)).1 (hs1.1 22 (by decide)).2.1 ?_
  have z2 := K
  refine ea_iald (pc := 14) dX5_refuse_14 (hs1.1 25 (by decide)).1 (hs1.1 25 (by decide)).2.1 (ea_vpl (hs1.1 25 (by decide)).2.2 z2) ?_
  refine ea_putI (pc := 15) dX5_refuse_15 ec_5 (k := 2) (Nat.le_of_ble_eq_true rfl) rfl (Or.inl ⟨rfl, Or.inl ew_295⟩) rfl rfl (hs1.1 22 (by decide)).1 (hs1.1 22 (by decide)).2.1 ?_
  have hs3 : ShC b0 (ea_wi (ea_wi h (b0 + 22) 1 x1) (b0 + 22) 2 (ea_i (ea_wi h (b0 + 22) 1 x1) (b0 + 25) (Int32.toNatClampNeg (ea_i (ea_wi h (b0 + 22) 1 x1) (b0 + 22) 8)))) := ShC_wi hs1
  refine ea_iconst (pc := 18) dX5_refuse_18 (v := 0) rfl ?_
  exact ea_iretE (pc := 19) dX5_refuse_19 rfl (ea_bn (Or.inl rfl)) EX EY
noncomputable def wX5_put (b0 : Nat) (x1 : Int32) (h : ea_H) : ea_H := (if (648 : Int32) ≤ (ea_i h (b0 + 22) 11) then h else (ea_wi (ea_wi h (b0 + 27) (Int32.toNatClampNeg (ea_i h (b0 + 22) 11)) x1) (b0 + 22) 11 ((ea_i (ea_wi h (b0 + 27) (Int32.toNatClampNeg (ea_i h (b0 + 22) 11)) x1) (b0 + 22) 11) + (1 : Int32))))
def okX5_put (b0 : Nat) (x1 : Int32) (h : ea_H) : Prop := ((648 : Int32) ≤ (ea_i h (b0 + 22) 11) → True) ∧ (¬ (648 : Int32) ≤ (ea_i h (b0 + 22) 11) → vp_in (ea_i h (b0 + 22) 11) 648)
theorem shX5_put {b0 : Nat} {x1 : Int32} {h : ea_H} (hs : ShC b0 h) : ShC b0 (wX5_put b0 x1 h) := (ShC_it hs (ShC_wi (ShC_wi hs)))
theorem sX5_put {d : Nat} {b0 : Nat} {x1 : Int32} {h : ea_H} (hd : 1 ≤ d) (hs : ShC b0 h) (K : okX5_put b0 x1 h) : ea_Met mX5_put d [vR (some (b0 + 22)), vI x1] h none (wX5_put b0 x1 h) := by
  obtain ⟨Y, EY⟩ : ∃ z, z = wX5_put b0 x1 h := ⟨_, rfl⟩
  rw [← EY]
  unfold wX5_put at EY
  unfold okX5_put at K
  refine ea_enter rfl (Nat.le_of_ble_eq_true rfl) ?_
  refine ea_aload_n (pc := 0) dX5_put_0 rfl 0 rfl ?_
  refine ea_getI (pc := 1) dX5_put_1 ec_5 (k := 11) (Nat.le_of_ble_eq_true rfl) rfl (Or.inl ew_305) (hs.1 22 (by decide)).1 (hs.1 22 (by decide)).2.1 ?_
  refine ea_aload_n (pc := 4) dX5_put_4 rfl 0 rfl ?_
  refine ea_getR (pc := 5) dX5_put_5 ec_5 (k := 10) (Nat.le_of_ble_eq_true rfl) rfl (Or.inl ew_304) (hs.1 22 (by decide)).1 (hs.1 22 (by decide)).2.1 (hs.2 22 10 rfl) ?_
  refine ea_alen (pc := 8) dX5_put_8 (hs.1 27 (by decide)).1 (hs.1 27 (by decide)).2.1 (by decide) (by decide) ?_
  refine ea_tops (by rw [(hs.1 27 (by decide)).2.2]; rfl : vI (Int32.ofNat (ea_l h (b0 + 27))) = vI 648) ?_
  refine ea_icmp_ge (pc := 9) (tgt := 32) dX5_put_9 rfl (fun c4 => ?_) (fun c4 => ?_)
  · have EY := EY.trans (if_pos c4)
    exact ea_vretE (pc := 32) dX5_put_32 rfl EY
  · have EY := EY.trans (if_neg c4)
    have K := K.2 c4
    refine ea_aload_n (pc := 12) dX5_put_12 rfl 0 rfl ?_
    refine ea_getR (pc := 13) dX5_put_13 ec_5 (k := 10) (Nat.le_of_ble_eq_true rfl) rfl (Or.inl ew_304) (hs.1 22 (by decide)).1 (hs.1 22 (by decide)).2.1 (hs.2 22 10 rfl) ?_
    refine ea_aload_n (pc := 16) dX5_put_16 rfl 0 rfl ?_
    refine ea_getI (pc := 17) dX5_put_17 ec_5 (k := 11) (Nat.le_of_ble_eq_true rfl) rfl (Or.inl ew_305) (hs.1 22 (by decide)).1 (hs.1 22 (by decide)).2.1 ?_
    refine ea_iload_n (pc := 20) dX5_put_20 rfl 1 rfl ?_
    have z1 := K
    refine ea_iast (pc := 21) dX5_put_21 (hs.1 27 (by decide)).1 (hs.1 27 (by decide)).2.1 (ea_vpl (hs.1 27 (by decide)).2.2 z1) ?_
    have hs2 : ShC b0 (ea_wi h (b0 + 27) (Int32.toNatClampNeg (ea_i h (b0 + 22) 11)) x1) := ShC_wi hs
    refine ea_aload_n (pc := 22) dX5_put_22 rfl 0 rfl ?_
    refine ea_dup (pc := 23) dX5_put_23 rfl ?_
    refine ea_getI (pc := 24) dX5_put_24 ec_5 (k := 11) (Nat.le_of_ble_eq_true rfl) rfl (Or.inl ew_305) (hs2.1 22 (by decide)).1 (hs2.1 22 (by decide)).2.1 ?_
    refine ea_iconst (pc := 27) dX5_put_27 (v := 1) rfl ?_
    refine ea_iadd (pc := 28) dX5_put_28 ?_
    refine ea_putI (pc := 29) dX5_put_29 ec_5 (k := 11) (Nat.le_of_ble_eq_true rfl) rfl (Or.inl ⟨rfl, Or.inl ew_305⟩) rfl rfl (hs2.1 22 (by decide)).1 (hs2.1 22 (by decide)).2.1 ?_
    have hs3 : ShC b0 (ea_wi (ea_wi h (b0 + 27) (Int32.toNatClampNeg (ea_i h (b0 + 22) 11)) x1) (b0 + 22) 11 ((ea_i (ea_wi h (b0 + 27) (Int32.toNatClampNeg (ea_i h (b0 + 22) 11)) x1) (b0 + 22) 11) + (1 : Int32))) := ShC_wi hs2
    exact ea_vretE (pc := 32) dX5_put_32 rfl EY
noncomputable def wX5_addToken (b0 : Nat) (x1 : Int32) (x2 : Int32) (x3 : Int32) (h : ea_H) : ea_H := (if (601 : Int32) ≤ (ea_i h (b0 + 22) 7) then h else (ea_wi (ea_wi (ea_wi (ea_wi h (b0 + 24) (Int32.toNatClampNeg (ea_i h (b0 + 22) 7)) x1) (b0 + 25) (Int32.toNatClampNeg (ea_i (ea_wi h (b0 + 24) (Int32.toNatClampNeg (ea_i h (b0 + 22) 7)) x1) (b0 + 22) 7)) x2) (b0 + 26) (Int32.toNatClampNeg (ea_i (ea_wi (ea_wi h (b0 + 24) (Int32.toNatClampNeg (ea_i h (b0 + 22) 7)) x1) (b0 + 25) (Int32.toNatClampNeg (ea_i (ea_wi h (b0 + 24) (Int32.toNatClampNeg (ea_i h (b0 + 22) 7)) x1) (b0 + 22) 7)) x2) (b0 + 22) 7)) x3) (b0 + 22) 7 ((ea_i (ea_wi (ea_wi (ea_wi h (b0 + 24) (Int32.toNatClampNeg (ea_i h (b0 + 22) 7)) x1) (b0 + 25) (Int32.toNatClampNeg (ea_i (ea_wi h (b0 + 24) (Int32.toNatClampNeg (ea_i h (b0 + 22) 7)) x1) (b0 + 22) 7)) x2) (b0 + 26) (Int32.toNatClampNeg (ea_i (ea_wi (ea_wi h (b0 + 24) (Int32.toNatClampNeg (ea_i h (b0 + 22) 7)) x1) (b0 + 25) (Int32.toNatClampNeg (ea_i (ea_wi h (b0 + 24) (Int32.toNatClampNeg (ea_i h (b0 + 22) 7)) x1) (b0 + 22) 7)) x2) (b0 + 22) 7)) x3) (b0 + 22) 7) + (1 : Int32))))
def okX5_addToken (b0 : Nat) (x1 : Int32) (x2 : Int32) (x3 : Int32) (h : ea_H) : Prop := ((601 : Int32) ≤ (ea_i h (b0 + 22) 7) → True) ∧ (¬ (601 : Int32) ≤ (ea_i h (b0 + 22) 7) → vp_in (ea_i h (b0 + 22) 7) 601 ∧ (vp_in (ea_i (ea_wi h (b0 + 24) (Int32.toNatClampNeg (ea_i h (b0 + 22) 7)) x1) (b0 + 22) 7) 601 ∧ (vp_in (ea_i (ea_wi (ea_wi h (b0 + 24) (Int32.toNatClampNeg (ea_i h (b0 + 22) 7)) x1) (b0 + 25) (Int32.toNatClampNeg (ea_i (ea_wi h (b0 + 24) (Int32.toNatClampNeg (ea_i h (b0 + 22) 7)) x1) (b0 + 22) 7)) x2) (b0 + 22) 7) 601)))
theorem shX5_addToken {b0 : Nat} {x1 : Int32} {x2 : Int32} {x3 : Int32} {h : ea_H} (hs : ShC b0 h) : ShC b0 (wX5_addToken b0 x1 x2 x3 h) := (ShC_it hs (ShC_wi (ShC_wi (ShC_wi (ShC_wi hs)))))
theorem sX5_addToken {d : Nat} {b0 : Nat} {x1 : Int32} {x2 : Int32} {x3 : Int32} {h : ea_H} (hd : 1 ≤ d) (hs : ShC b0 h) (K : okX5_addToken b0 x1 x2 x3 h) : ea_Met mX5_addToken d [vR (some (b0 + 22)), vI x1, vI x2, vI x3] h none (wX5_addToken b0 x1 x2 x3 h) := by
  obtain ⟨Y, EY⟩ : ∃ z, z = wX5_addToken b0 x1 x2 x3 h := ⟨_, rfl⟩
  rw [← EY]
  unfold wX5_addToken at EY
  unfold okX5_addToken at K
  refine ea_enter rfl (Nat.le_of_ble_eq_true rfl) ?_
  refine ea_aload_n (pc := 0) dX5_addToken_0 rfl 0 rfl ?_
  refine ea_getI (pc := 1) dX5_addToken_1 ec_5 (k := 7) (Nat.le_of_ble_eq_true rfl) rfl (Or.inl ew_301) (hs.1 22 (by decide)).1 (hs.1 22 (by decide)).2.1 ?_
  refine ea_aload_n (pc := 4) dX5_addToken_4 rfl 0 rfl ?_
  refine ea_getR (pc := 5) dX5_addToken_5 ec_5 (k := 4) (Nat.le_of_ble_eq_true rfl) rfl (Or.inl ew_298) (hs.1 22 (by decide)).1 (hs.1 22 (by decide)).2.1 (hs.2 22 4 rfl) ?_
  refine ea_alen (pc := 8) dX5_addToken_8 (hs.1 24 (by decide)).1 (hs.1 24 (by decide)).2.1 (by decide) (by decide) ?_
  refine ea_tops (by rw [(hs.1 24 (by decide)).2.2]; rfl : vI (Int32.ofNat (ea_l h (b0 + 24))) = vI 601) ?_
  refine ea_icmp_ge (pc := 9) (tgt := 52) dX5_addToken_9 rfl (fun c8 => ?_) (fun c8 => ?_)
  · have EY := EY.trans (if_pos c8)
    exact ea_vretE (pc := 52) dX5_addToken_52 rfl EY
  · have EY := EY.trans (if_neg c8)
    have K := K.2 c8
    refine ea_aload_n (pc := 12) dX5_addToken_12 rfl 0 rfl ?_
    refine ea_getR (pc := 13) dX5_addToken_13 ec_5 (k := 4) (Nat.le_of_ble_eq_true rfl) rfl (Or.inl ew_298) (hs.1 22 (by decide)).1 (hs.1 22 (by decide)).2.1 (hs.2 22 4 rfl) ?_
    refine ea_aload_n (pc := 16) dX5_addToken_16 rfl 0 rfl ?_
    refine ea_getI (pc := 17) dX5_addToken_17 ec_5 (k := 7) (Nat.le_of_ble_eq_true rfl) rfl (Or.inl ew_301) (hs.1 22 (by decide)).1 (hs.1 22 (by decide)).2.1 ?_
    refine ea_iload_n (pc := 20) dX5_addToken_20 rfl 1 rfl ?_
    obtain ⟨z1, K⟩ := K
    refine ea_iast (pc := 21) dX5_addToken_21 (hs.1 24 (by decide)).1 (hs.1 24 (by decide)).2.1 (ea_vpl (hs.1 24 (by decide)).2.2 z1) ?_
    have hs2 : ShC b0 (ea_wi h (b0 + 24) (Int32.toNatClampNeg (ea_i h (b0 + 22) 7)) x1) := ShC_wi hs
    refine ea_aload_n (pc := 22) dX5_addToken_22 rfl 0 rfl ?_
    refine ea_getR (pc := 23) dX5_addToken_23 ec_5 (k := 5) (Nat.le_of_ble_eq_true rfl) rfl (Or.inl ew_299) (hs2.1 22 (by decide)).1 (hs2.1 22 (by decide)).2.1 (hs2.2 22 5 rfl) ?_
    refine ea_aload_n (pc := 26) dX5_addToken_26 rfl 0 rfl ?_
    refine ea_getI (pc := 27) dX5_addToken_27 ec_5 (k := 7) (Nat.le_of_ble_eq_true rfl) rfl (Or.inl ew_301) (hs2.1 22 (by decide)).1 (hs2.1 22 (by decide)).2.1 ?_
    refine ea_iload_n (pc := 30) dX5_addToken_30 rfl 2 rfl ?_
    obtain ⟨z3, K⟩ := K
    refine ea_iast (pc := 31) dX5_addToken_31 (hs2.1 25 (by decide)).1 (hs2.1 25 (by decide)).2.1 (ea_vpl (hs2.1 25 (by decide)).2.2 z3) ?_
    have hs4 : ShC b0 (ea_wi (ea_wi h (b0 + 24) (Int32.toNatClampNeg (ea_i h (b0 + 22) 7)) x1) (b0 + 25) (Int32.toNatClampNeg (ea_i (ea_wi h (b0 + 24) (Int32.toNatClampNeg (ea_i h (b0 + 22) 7)) x1) (b0 + 22) 7)) x2) := ShC_wi hs2
    refine ea_aload_n (pc := 32) dX5_addToken_32 rfl 0 rfl ?_
    refine ea_getR (pc := 33) dX5_addToken_33 ec_5 (k := 6) (Nat.le_of_ble_eq_true rfl) rfl (Or.inl ew_300) (hs4.1 22 (by decide)).1 (hs4.1 22 (by decide)).2.1 (hs4.2 22 6 rfl) ?_
    refine ea_aload_n (pc := 36) dX5_addToken_36 rfl 0 rfl ?_
    refine ea_getI (pc := 37) dX5_addToken_37 ec_5 (k := 7) (Nat.le_of_ble_eq_true rfl) rfl (Or.inl ew_301) (hs4.1 22 (by decide)).1 (hs4.1 22 (by decide)).2.1 ?_
    refine ea_iload_n (pc := 40) dX5_addToken_40 rfl 3 rfl ?_
    have z5 := K
    refine ea_iast (pc := 41) dX5_addToken_41 (hs4.1 26 (by decide)).1 (hs4.1 26 (by decide)).2.1 (ea_vpl (hs4.1 26 (by decide)).2.2 z5) ?_
    have hs6 : ShC b0 (ea_wi (ea_wi (ea_wi h (b0 + 24) (Int32.toNatClampNeg (ea_i h (b0 + 22) 7)) x1) (b0 + 25) (Int32.toNatClampNeg (ea_i (ea_wi h (b0 + 24) (Int32.toNatClampNeg (ea_i h (b0 + 22) 7)) x1) (b0 + 22) 7)) x2) (b0 + 26) (Int32.toNatClampNeg (ea_i (ea_wi (ea_wi h (b0 + 24) (Int32.toNatClampNeg (ea_i h (b0 + 22) 7)) x1) (b0 + 25) (Int32.toNatClampNeg (ea_i (ea_wi h (b0 + 24) (Int32.toNatClampNeg (ea_i h (b0 + 22) 7)) x1) (b0 + 22) 7)) x2) (b0 + 22) 7)) x3) := ShC_wi hs4
    refine ea_aload_n (pc := 42) dX5_addToken_42 rfl 0 rfl ?_
    refine ea_dup (pc := 43) dX5_addToken_43 rfl ?_
    refine ea_getI (pc := 44) dX5_addToken_44 ec_5 (k := 7) (Nat.le_of_ble_eq_true rfl) rfl (Or.inl ew_301) (hs6.1 22 (by decide)).1 (hs6.1 22 (by decide)).2.1 ?_
    refine ea_iconst (pc := 47) dX5_addToken_47 (v := 1) rfl ?_
    refine ea_iadd (pc := 48) dX5_addToken_48 ?_
    refine ea_putI (pc := 49) dX5_addToken_49 ec_5 (k := 7) (Nat.le_of_ble_eq_true rfl) rfl (Or.inl ⟨rfl, Or.inl ew_301⟩) rfl rfl (hs6.1 22 (by decide)).1 (hs6.1 22 (by decide)).2.1 ?_
    have hs7 : ShC b0 (ea_wi (ea_wi (ea_wi (ea_wi h (b0 + 24) (Int32.toNatClampNeg (ea_i h (b0 + 22) 7)) x1) (b0 + 25) (Int32.toNatClampNeg (ea_i (ea_wi h (b0 + 24) (Int32.toNatClampNeg (ea_i h (b0 + 22) 7)) x1) (b0 + 22) 7)) x2) (b0 + 26) (Int32.toNatClampNeg (ea_i (ea_wi (ea_wi h (b0 + 24) (Int32.toNatClampNeg (ea_i h (b0 + 22) 7)) x1) (b0 + 25) (Int32.toNatClampNeg (ea_i (ea_wi h (b0 + 24) (Int32.toNatClampNeg (ea_i h (b0 + 22) 7)) x1) (b0 + 22) 7)) x2) (b0 + 22) 7)) x3) (b0 + 22) 7 ((ea_i (ea_wi (ea_wi (ea_wi h (b0 + 24) (Int32.toNatClampNeg (ea_i h (b0 + 22) 7)) x1) (b0 + 25) (Int32.toNatClampNeg (ea_i (ea_wi h (b0 + 24) (Int32.toNatClampNeg (ea_i h (b0 + 22) 7)) x1) (b0 + 22) 7)) x2) (b0 + 26) (Int32.toNatClampNeg (ea_i (ea_wi (ea_wi h (b0 + 24) (Int32.toNatClampNeg (ea_i h (b0 + 22) 7)) x1) (b0 + 25) (Int32.toNatClampNeg (ea_i (ea_wi h (b0 + 24) (Int32.toNatClampNeg (ea_i h (b0 + 22) 7)) x1) (b0 + 22) 7)) x2) (b0 + 22) 7)) x3) (b0 + 22) 7) + (1 : Int32))) := ShC_wi hs6
    exact ea_vretE (pc := 52) dX5_addToken_52 rfl EY
noncomputable def vX5_isLetter (x0 : Int32) (h : ea_H) : Int32 := (if x0 < (97 : Int32) then (if x0 < (65 : Int32) then (0 : Int32) else (if (90 : Int32) < x0 then (0 : Int32) else (1 : Int32))) else (if x0 ≤ (122 : Int32) then (1 : Int32) else (if x0 < (65 : Int32) then (0 : Int32) else (if (90 : Int32) < x0 then (0 : Int32) else (1 : Int32)))))
theorem bo_vX5_isLetter (x0 : Int32) (h : ea_H) : vX5_isLetter x0 h = 0 ∨ vX5_isLetter x0 h = 1 := (ea_itB (ea_itB (Or.inl rfl) (ea_itB (Or.inl rfl) (Or.inr rfl))) (ea_itB (Or.inr rfl) (ea_itB (Or.inl rfl) (ea_itB (Or.inl rfl) (Or.inr rfl)))))
theorem sX5_isLetter {d : Nat} {x0 : Int32} {h : ea_H} (hd : 1 ≤ d) : ea_Met mX5_isLetter d [vI x0] h (some (vI (vX5_isLetter x0 h))) h := by
  obtain ⟨X, EX⟩ : ∃ z, z = vX5_isLetter x0 h := ⟨_, rfl⟩
  rw [← EX]
  unfold vX5_isLetter at EX
  refine ea_enter rfl (Nat.le_of_ble_eq_true rfl) ?_
  refine ea_iload_n (pc := 0) dX5_isLetter_0 rfl 0 rfl ?_
  refine ea_bipush (pc := 1) dX5_isLetter_1 (v := 97) rfl ?_
  refine ea_icmp_lt (pc := 3) (tgt := 12) dX5_isLetter_3 rfl (fun c6 => ?_) (fun c6 => ?_)
  · have EX := EX.trans (if_pos c6)
    refine ea_iload_n (pc := 12) dX5_isLetter_12 rfl 0 rfl ?_
    refine ea_bipush (pc := 13) dX5_isLetter_13 (v := 65) rfl ?_
    refine ea_icmp_lt (pc := 15) (tgt := 28) dX5_isLetter_15 rfl (fun c2 => ?_) (fun c2 => ?_)
    · have EX := EX.trans (if_pos c2)
      refine ea_iconst (pc := 28) dX5_isLetter_28 (v := 0) rfl ?_
      exact ea_iretE (pc := 29) dX5_isLetter_29 rfl (ea_bn (Or.inl rfl)) EX rfl
    · have EX := EX.trans (if_neg c2)
      refine ea_iload_n (pc := 18) dX5_isLetter_18 rfl 0 rfl ?_
      refine ea_bipush (pc := 19) dX5_isLetter_19 (v := 90) rfl ?_
      refine ea_icmp_gt (pc := 21) (tgt := 28) dX5_isLetter_21 rfl (fun c1 => ?_) (fun c1 => ?_)
      · have EX := EX.trans (if_pos c1)
        refine ea_iconst (pc := 28) dX5_isLetter_28 (v := 0) rfl ?_
        exact ea_iretE (pc := 29) dX5_isLetter_29 rfl (ea_bn (Or.inl rfl)) EX rfl
      · have EX := EX.trans (if_neg c1)
        refine ea_iconst (pc := 24) dX5_isLetter_24 (v := 1) rfl ?_
        refine ea_goto (pc := 25) (tgt := 29) dX5_isLetter_25 rfl ?_
        exact ea_iretE (pc := 29) dX5_isLetter_29 rfl (ea_bn (Or.inr rfl)) EX rfl
  · have EX := EX.trans (if_neg c6)
    refine ea_iload_n (pc := 6) dX5_isLetter_6 rfl 0 rfl ?_
    refine ea_bipush (pc := 7) dX5_isLetter_7 (v := 122) rfl ?_
    refine ea_icmp_le (pc := 9) (tgt := 24) dX5_isLetter_9 rfl (fun c5 => ?_) (fun c5 => ?_)
    · have EX := EX.trans (if_pos c5)
      refine ea_iconst (pc := 24) dX5_isLetter_24 (v := 1) rfl ?_
      refine ea_goto (pc := 25) (tgt := 29) dX5_isLetter_25 rfl ?_
      exact ea_iretE (pc := 29) dX5_isLetter_29 rfl (ea_bn (Or.inr rfl)) EX rfl
    · have EX := EX.trans (if_neg c5)
      refine ea_iload_n (pc := 12) dX5_isLetter_12 rfl 0 rfl ?_
      refine ea_bipush (pc := 13) dX5_isLetter_13 (v := 65) rfl ?_
      refine ea_icmp_lt (pc := 15) (tgt := 28) dX5_isLetter_15 rfl (fun c4 => ?_) (fun c4 => ?_)
      · have EX := EX.trans (if_pos c4)
        refine ea_iconst (pc := 28) dX5_isLetter_28 (v := 0) rfl ?_
        exact ea_iretE (pc := 29) dX5_isLetter_29 rfl (ea_bn (Or.inl rfl)) EX rfl
      · have EX := EX.trans (if_neg c4)
        refine ea_iload_n (pc := 18) dX5_isLetter_18 rfl 0 rfl ?_
        refine ea_bipush (pc := 19) dX5_isLetter_19 (v := 90) rfl ?_
        refine ea_icmp_gt (pc := 21) (tgt := 28) dX5_isLetter_21 rfl (fun c3 => ?_) (fun c3 => ?_)
        · have EX := EX.trans (if_pos c3)
          refine ea_iconst (pc := 28) dX5_isLetter_28 (v := 0) rfl ?_
          exact ea_iretE (pc := 29) dX5_isLetter_29 rfl (ea_bn (Or.inl rfl)) EX rfl
        · have EX := EX.trans (if_neg c3)
          refine ea_iconst (pc := 24) dX5_isLetter_24 (v := 1) rfl ?_
          refine ea_goto (pc := 25) (tgt := 29) dX5_isLetter_25 rfl ?_
          exact ea_iretE (pc := 29) dX5_isLetter_29 rfl (ea_bn (Or.inr rfl)) EX rfl
noncomputable def vX5_isDigit (x0 : Int32) (h : ea_H) : Int32 := (if x0 < (48 : Int32) then (0 : Int32) else (if (57 : Int32) < x0 then (0 : Int32) else (1 : Int32)))
theorem bo_vX5_isDigit (x0 : Int32) (h : ea_H) : vX5_isDigit x0 h = 0 ∨ vX5_isDigit x0 h = 1 := (ea_itB (Or.inl rfl) (ea_itB (Or.inl rfl) (Or.inr rfl)))
theorem sX5_isDigit {d : Nat} {x0 : Int32} {h : ea_H} (hd : 1 ≤ d) : ea_Met mX5_isDigit d [vI x0] h (some (vI (vX5_isDigit x0 h))) h := by
  obtain ⟨X, EX⟩ : ∃ z, z = vX5_isDigit x0 h := ⟨_, rfl⟩
  rw [← EX]
  unfold vX5_isDigit at EX
  refine ea_enter rfl (Nat.le_of_ble_eq_true rfl) ?_
  refine ea_iload_n (pc := 0) dX5_isDigit_0 rfl 0 rfl ?_
  refine ea_bipush (pc := 1) dX5_isDigit_1 (v := 48) rfl ?_
  refine ea_icmp_lt (pc := 3) (tgt := 16) dX5_isDigit_3 rfl (fun c2 => ?_) (fun c2 => ?_)
  · have EX := EX.trans (if_pos c2)
    refine ea_iconst (pc := 16) dX5_isDigit_16 (v := 0) rfl ?_
    exact ea_iretE (pc := 17) dX5_isDigit_17 rfl (ea_bn (Or.inl rfl)) EX rfl
  · have EX := EX.trans (if_neg c2)
    refine ea_iload_n (pc := 6) dX5_isDigit_6 rfl 0 rfl ?_
    refine ea_bipush (pc := 7) dX5_isDigit_7 (v := 57) rfl ?_
    refine ea_icmp_gt (pc := 9) (tgt := 16) dX5_isDigit_9 rfl (fun c1 => ?_) (fun c1 => ?_)
    · have EX := EX.trans (if_pos c1)
      refine ea_iconst (pc := 16) dX5_isDigit_16 (v := 0) rfl ?_
      exact ea_iretE (pc := 17) dX5_isDigit_17 rfl (ea_bn (Or.inl rfl)) EX rfl
    · have EX := EX.trans (if_neg c1)
      refine ea_iconst (pc := 12) dX5_isDigit_12 (v := 1) rfl ?_
      refine ea_goto (pc := 13) (tgt := 17) dX5_isDigit_13 rfl ?_
      exact ea_iretE (pc := 17) dX5_isDigit_17 rfl (ea_bn (Or.inr rfl)) EX rfl
noncomputable def vX5_isSign (x0 : Int32) (h : ea_H) : Int32 := (if Int32.toInt x0 = 40 then (1 : Int32) else (if Int32.toInt x0 = 41 then (1 : Int32) else (if Int32.toInt x0 = 42 then (1 : Int32) else (if Int32.toInt x0 = 43 then (1 : Int32) else (if Int32.toInt x0 = 44 then (0 : Int32) else (if Int32.toInt x0 = 45 then (1 : Int32) else (if Int32.toInt x0 = 46 then (0 : Int32) else (if Int32.toInt x0 = 47 then (1 : Int32) else (if Int32.toInt x0 = 48 then (0 : Int32) else (if Int32.toInt x0 = 49 then (0 : Int32) else (if Int32.toInt x0 = 50 then (0 : Int32) else (if Int32.toInt x0 = 51 then (0 : Int32) else (if Int32.toInt x0 = 52 then (0 : Int32) else (if Int32.toInt x0 = 53 then (0 : Int32) else (if Int32.toInt x0 = 54 then (0 : Int32) else (if Int32.toInt x0 = 55 then (0 : Int32) else (if Int32.toInt x0 = 56 then (0 : Int32) else (if Int32.toInt x0 = 57 then (0 : Int32) else (if Int32.toInt x0 = 58 then (0 : Int32) else (if Int32.toInt x0 = 59 then (1 : Int32) else (if Int32.toInt x0 = 60 then (1 : Int32) else (if Int32.toInt x0 = 61 then (1 : Int32) else (if Int32.toInt x0 = 62 then (1 : Int32) else (0 : Int32))))))))))))))))))))))))
theorem bo_vX5_isSign (x0 : Int32) (h : ea_H) : vX5_isSign x0 h = 0 ∨ vX5_isSign x0 h = 1 := (ea_itB (Or.inr rfl) (ea_itB (Or.inr rfl) (ea_itB (Or.inr rfl) (ea_itB (Or.inr rfl) (ea_itB (Or.inl rfl) (ea_itB (Or.inr rfl) (ea_itB (Or.inl rfl) (ea_itB (Or.inr rfl) (ea_itB (Or.inl rfl) (ea_itB (Or.inl rfl) (ea_itB (Or.inl rfl) (ea_itB (Or.inl rfl) (ea_itB (Or.inl rfl) (ea_itB (Or.inl rfl) (ea_itB (Or.inl rfl) (ea_itB (Or.inl rfl) (ea_itB (Or.inl rfl) (ea_itB (Or.inl rfl) (ea_itB (Or.inl rfl) (ea_itB (Or.inr rfl) (ea_itB (Or.inr rfl) (ea_itB (Or.inr rfl) (ea_itB (Or.inr rfl) (Or.inl rfl))))))))))))))))))))))))
theorem sX5_isSign {d : Nat} {x0 : Int32} {h : ea_H} (hd : 1 ≤ d) : ea_Met mX5_isSign d [vI x0] h (some (vI (vX5_isSign x0 h))) h := by
  obtain ⟨X, EX⟩ : ∃ z, z = vX5_isSign x0 h := ⟨_, rfl⟩
  rw [← EX]
  unfold vX5_isSign at EX
  refine ea_enter rfl (Nat.le_of_ble_eq_true rfl) ?_
  refine ea_iload_n (pc := 0) dX5_isSign_0 rfl 0 rfl ?_
  by_cases qc1_0 : Int32.toInt x0 = 40
  · have EX := EX.trans (if_pos qc1_0)
    refine ea_tswIn (pc := 1) (tgt := 108) dX5_isSign_1 (by rw [qc1_0]; decide) (by rw [qc1_0]; decide) (by rw [qc1_0]; rfl) rfl ?_
    refine ea_iconst (pc := 108) dX5_isSign_108 (v := 1) rfl ?_
    exact ea_iretE (pc := 109) dX5_isSign_109 rfl (ea_bn (Or.inr rfl)) EX rfl
  have EX := EX.trans (if_neg qc1_0)
  by_cases qc1_1 : Int32.toInt x0 = 41
  · have EX := EX.trans (if_pos qc1_1)
    refine ea_tswIn (pc := 1) (tgt := 108) dX5_isSign_1 (by rw [qc1_1]; decide) (by rw [qc1_1]; decide) (by rw [qc1_1]; rfl) rfl ?_
    refine ea_iconst (pc := 108) dX5_isSign_108 (v := 1) rfl ?_
    exact ea_iretE (pc := 109) dX5_isSign_109 rfl (ea_bn (Or.inr rfl)) EX rfl
  have EX := EX.trans (if_neg qc1_1)
  by_cases qc1_2 : Int32.toInt x0 = 42
  · have EX := EX.trans (if_pos qc1_2)
    refine ea_tswIn (pc := 1) (tgt := 108) dX5_isSign_1 (by rw [qc1_2]; decide) (by rw [qc1_2]; decide) (by rw [qc1_2]; rfl) rfl ?_
    refine ea_iconst (pc := 108) dX5_isSign_108 (v := 1) rfl ?_
    exact ea_iretE (pc := 109) dX5_isSign_109 rfl (ea_bn (Or.inr rfl)) EX rfl
  have EX := EX.trans (if_neg qc1_2)
  by_cases qc1_3 : Int32.toInt x0 = 43
  · have EX := EX.trans (if_pos qc1_3)
    refine ea_tswIn (pc := 1) (tgt := 108) dX5_isSign_1 (by rw [qc1_3]; decide) (by rw [qc1_3]; decide) (by rw [qc1_3]; rfl) rfl ?_
    refine ea_iconst (pc := 108) dX5_isSign_108 (v := 1) rfl ?_
    exact ea_iretE (pc := 109) dX5_isSign_109 rfl (ea_bn (Or.inr rfl)) EX rfl
  have EX := EX.trans (if_neg qc1_3)
  by_cases qc1_4 : Int32.toInt x0 = 44
  · have EX := EX.trans (if_pos qc1_4)
    refine ea_tswIn (pc := 1) (tgt := 110) dX5_isSign_1 (by rw [qc1_4]; decide) (by rw [qc1_4]; decide) (by rw [qc1_4]; rfl) rfl ?_
    refine ea_iconst (pc := 110) dX5_isSign_110 (v := 0) rfl ?_
    exact ea_iretE (pc := 111) dX5_isSign_111 rfl (ea_bn (Or.inl rfl)) EX rfl
  have EX := EX.trans (if_neg qc1_4)
  by_cases qc1_5 : Int32.toInt x0 = 45
  · have EX := EX.trans (if_pos qc1_5)
    refine ea_tswIn (pc := 1) (tgt := 108) dX5_isSign_1 (by rw [qc1_5]; decide) (by rw [qc1_5]; decide) (by rw [qc1_5]; rfl) rfl ?_
    refine ea_iconst (pc := 108) dX5_isSign_108 (v := 1) rfl ?_
    exact ea_iretE (pc := 109) dX5_isSign_109 rfl (ea_bn (Or.inr rfl)) EX rfl
  have EX := EX.trans (if_neg qc1_5)
  by_cases qc1_6 : Int32.toInt x0 = 46
  · have EX := EX.trans (if_pos qc1_6)
    refine ea_tswIn (pc := 1) (tgt := 110) dX5_isSign_1 (by rw [qc1_6]; decide) (by rw [qc1_6]; decide) (by rw [qc1_6]; rfl) rfl ?_
    refine ea_iconst (pc := 110) dX5_isSign_110 (v := 0) rfl ?_
    exact ea_iretE (pc := 111) dX5_isSign_111 rfl (ea_bn (Or.inl rfl)) EX rfl
  have EX := EX.trans (if_neg qc1_6)
  by_cases qc1_7 : Int32.toInt x0 = 47
  · have EX := EX.trans (if_pos qc1_7)
    refine ea_tswIn (pc := 1) (tgt := 108) dX5_isSign_1 (by rw [qc1_7]; decide) (by rw [qc1_7]; decide) (by rw [qc1_7]; rfl) rfl ?_
    refine ea_iconst (pc := 108) dX5_isSign_108 (v := 1) rfl ?_
    exact ea_iretE (pc := 109) dX5_isSign_109 rfl (ea_bn (Or.inr rfl)) EX rfl
  have EX := EX.trans (if_neg qc1_7)
  by_cases qc1_8 : Int32.toInt x0 = 48
  · have EX := EX.trans (if_pos qc1_8)
    refine ea_tswIn (pc := 1) (tgt := 110) dX5_isSign_1 (by rw [qc1_8]; decide) (by rw [qc1_8]; decide) (by rw [qc1_8]; rfl) rfl ?_
    refine ea_iconst (pc := 110) dX5_isSign_110 (v := 0) rfl ?_
    exact ea_iretE (pc := 111) dX5_isSign_111 rfl (ea_bn (Or.inl rfl)) EX rfl
  have EX := EX.trans (if_neg qc1_8)
  by_cases qc1_9 : Int32.toInt x0 = 49
  · have EX := EX.trans (if_pos qc1_9)
    refine ea_tswIn (pc := 1) (tgt := 110) dX5_isSign_1 (by rw [qc1_9]; decide) (by rw [qc1_9]; decide) (by rw [qc1_9]; rfl) rfl ?_
    refine ea_iconst (pc := 110) dX5_isSign_110 (v := 0) rfl ?_
    exact ea_iretE (pc := 111) dX5_isSign_111 rfl (ea_bn (Or.inl rfl)) EX rfl
  have EX := EX.trans (if_neg qc1_9)
  by_cases qc1_10 : Int32.toInt x0 = 50
  · have EX := EX.trans (if_pos qc1_10)
    refine ea_tswIn (pc := 1) (tgt := 110) dX5_isSign_1 (by rw [qc1_10]; decide) (by rw [qc1_10]; decide) (by rw [qc1_10]; rfl) rfl ?_
    refine ea_iconst (pc := 110) dX5_isSign_110 (v := 0) rfl ?_
    exact ea_iretE (pc := 111) dX5_isSign_111 rfl (ea_bn (Or.inl rfl)) EX rfl
  have EX := EX.trans (if_neg qc1_10)
  by_cases qc1_11 : Int32.toInt x0 = 51
  · have EX := EX.trans (if_pos qc1_11)
    refine ea_tswIn (pc := 1) (tgt := 110) dX5_isSign_1 (by rw [qc1_11]; decide) (by rw [qc1_11]; decide) (by rw [qc1_11]; rfl) rfl ?_
    refine ea_iconst (pc := 110) dX5_isSign_110 (v := 0) rfl ?_
    exact ea_iretE (pc := 111) dX5_isSign_111 rfl (ea_bn (Or.inl rfl)) EX rfl
  have EX := EX.trans (if_neg qc1_11)
  by_cases qc1_12 : Int32.toInt x0 = 52
  · have EX := EX.trans (if_pos qc1_12)
    refine ea_tswIn (pc := 1) (tgt := 110) dX5_isSign_1 (by rw [qc1_12]; decide) (by rw [qc1_12]; decide) (by rw [qc1_12]; rfl) rfl ?_
    refine ea_iconst (pc := 110) dX5_isSign_110 (v := 0) rfl ?_
    exact ea_iretE (pc := 111) dX5_isSign_111 rfl (ea_bn (Or.inl rfl)) EX rfl
  have EX := EX.trans (if_neg qc1_12)
  by_cases qc1_13 : Int32.toInt x0 = 53
  · have EX := EX.trans (if_pos qc1_13)
    refine ea_tswIn (pc := 1) (tgt := 110) dX5_isSign_1 (by rw [qc1_13]; decide) (by rw [qc1_13]; decide) (by rw [qc1_13]; rfl) rfl ?_
    refine ea_iconst (pc := 110) dX5_isSign_110 (v := 0) rfl ?_
    exact ea_iretE (pc := 111) dX5_isSign_111 rfl (ea_bn (Or.inl rfl)) EX rfl
  have EX := EX.trans (if_neg qc1_13)
  by_cases qc1_14 : Int32.toInt x0 = 54
  · have EX := EX.trans (if_pos qc1_14)
    refine ea_tswIn (pc := 1) (tgt := 110) dX5_isSign_1 (by rw [qc1_14]; decide) (by rw [qc1_14]; decide) (by rw [qc1_14]; rfl) rfl ?_
    refine ea_iconst (pc := 110) dX5_isSign_110 (v := 0) rfl ?_
    exact ea_iretE (pc := 111) dX5_isSign_111 rfl (ea_bn (Or.inl rfl)) EX rfl
  have EX := EX.trans (if_neg qc1_14)
  by_cases qc1_15 : Int32.toInt x0 = 55
  · have EX := EX.trans (if_pos qc1_15)
    refine ea_tswIn (pc := 1) (tgt := 110) dX5_isSign_1 (by rw [qc1_15]; decide) (by rw [qc1_15]; decide) (by rw [qc1_15]; rfl) rfl ?_
    refine ea_iconst (pc := 110) dX5_isSign_110 (v := 0) rfl ?_
    exact ea_iretE (pc := 111) dX5_isSign_111 rfl (ea_bn (Or.inl rfl)) EX rfl
  have EX := EX.trans (if_neg qc1_15)
  by_cases qc1_16 : Int32.toInt x0 = 56
  · have EX := EX.trans (if_pos qc1_16)
    refine ea_tswIn (pc := 1) (tgt := 110) dX5_isSign_1 (by rw [qc1_16]; decide) (by rw [qc1_16]; decide) (by rw [qc1_16]; rfl) rfl ?_
    refine ea_iconst (pc := 110) dX5_isSign_110 (v := 0) rfl ?_
    exact ea_iretE (pc := 111) dX5_isSign_111 rfl (ea_bn (Or.inl rfl)) EX rfl
  have EX := EX.trans (if_neg qc1_16)
  by_cases qc1_17 : Int32.toInt x0 = 57
  · have EX := EX.trans (if_pos qc1_17)
    refine ea_tswIn (pc := 1) (tgt := 110) dX5_isSign_1 (by rw [qc1_17]; decide) (by rw [qc1_17]; decide) (by rw [qc1_17]; rfl) rfl ?_
    refine ea_iconst (pc := 110) dX5_isSign_110 (v := 0) rfl ?_
    exact ea_iretE (pc := 111) dX5_isSign_111 rfl (ea_bn (Or.inl rfl)) EX rfl
  have EX := EX.trans (if_neg qc1_17)
  by_cases qc1_18 : Int32.toInt x0 = 58
  · have EX := EX.trans (if_pos qc1_18)
    refine ea_tswIn (pc := 1) (tgt := 110) dX5_isSign_1 (by rw [qc1_18]; decide) (by rw [qc1_18]; decide) (by rw [qc1_18]; rfl) rfl ?_
    refine ea_iconst (pc := 110) dX5_isSign_110 (v := 0) rfl ?_
    exact ea_iretE (pc := 111) dX5_isSign_111 rfl (ea_bn (Or.inl rfl)) EX rfl
  have EX := EX.trans (if_neg qc1_18)
  by_cases qc1_19 : Int32.toInt x0 = 59
  · have EX := EX.trans (if_pos qc1_19)
    refine ea_tswIn (pc := 1) (tgt := 108) dX5_isSign_1 (by rw [qc1_19]; decide) (by rw [qc1_19]; decide) (by rw [qc1_19]; rfl) rfl ?_
    refine ea_iconst (pc := 108) dX5_isSign_108 (v := 1) rfl ?_
    exact ea_iretE (pc := 109) dX5_isSign_109 rfl (ea_bn (Or.inr rfl)) EX rfl
  have EX := EX.trans (if_neg qc1_19)
  by_cases qc1_20 : Int32.toInt x0 = 60
  · have EX := EX.trans (if_pos qc1_20)
    refine ea_tswIn (pc := 1) (tgt := 108) dX5_isSign_1 (by rw [qc1_20]; decide) (by rw [qc1_20]; decide) (by rw [qc1_20]; rfl) rfl ?_
    refine ea_iconst (pc := 108) dX5_isSign_108 (v := 1) rfl ?_
    exact ea_iretE (pc := 109) dX5_isSign_109 rfl (ea_bn (Or.inr rfl)) EX rfl
  have EX := EX.trans (if_neg qc1_20)
  by_cases qc1_21 : Int32.toInt x0 = 61
  · have EX := EX.trans (if_pos qc1_21)
    refine ea_tswIn (pc := 1) (tgt := 108) dX5_isSign_1 (by rw [qc1_21]; decide) (by rw [qc1_21]; decide) (by rw [qc1_21]; rfl) rfl ?_
    refine ea_iconst (pc := 108) dX5_isSign_108 (v := 1) rfl ?_
    exact ea_iretE (pc := 109) dX5_isSign_109 rfl (ea_bn (Or.inr rfl)) EX rfl
  have EX := EX.trans (if_neg qc1_21)
  by_cases qc1_22 : Int32.toInt x0 = 62
  · have EX := EX.trans (if_pos qc1_22)
    refine ea_tswIn (pc := 1) (tgt := 108) dX5_isSign_1 (by rw [qc1_22]; decide) (by rw [qc1_22]; decide) (by rw [qc1_22]; rfl) rfl ?_
    refine ea_iconst (pc := 108) dX5_isSign_108 (v := 1) rfl ?_
    exact ea_iretE (pc := 109) dX5_isSign_109 rfl (ea_bn (Or.inr rfl)) EX rfl
  have EX := EX.trans (if_neg qc1_22)
  refine ea_tswOut (pc := 1) (tgt := 110) dX5_isSign_1 (ec_sw_40_62 qc1_0 qc1_1 qc1_2 qc1_3 qc1_4 qc1_5 qc1_6 qc1_7 qc1_8 qc1_9 qc1_10 qc1_11 qc1_12 qc1_13 qc1_14 qc1_15 qc1_16 qc1_17 qc1_18 qc1_19 qc1_20 qc1_21 qc1_22) rfl ?_
  refine ea_iconst (pc := 110) dX5_isSign_110 (v := 0) rfl ?_
  exact ea_iretE (pc := 111) dX5_isSign_111 rfl (ea_bn (Or.inl rfl)) EX rfl
noncomputable def vX6_has (b0 : Nat) (x1 : Int32) (h : ea_H) : Int32 := (if x1 < (0 : Int32) then (0 : Int32) else (if (ea_i h (b0 + 1) 0) ≤ x1 then (0 : Int32) else (1 : Int32)))
theorem bo_vX6_has (b0 : Nat) (x1 : Int32) (h : ea_H) : vX6_has b0 x1 h = 0 ∨ vX6_has b0 x1 h = 1 := (ea_itB (Or.inl rfl) (ea_itB (Or.inl rfl) (Or.inr rfl)))
theorem sX6_has {d : Nat} {b0 : Nat} {x1 : Int32} {h : ea_H} (hd : 1 ≤ d) (hs : ShC b0 h) : ea_Met mX6_has d [vR (some (b0 + 1)), vI x1] h (some (vI (vX6_has b0 x1 h))) h := by
  obtain ⟨X, EX⟩ : ∃ z, z = vX6_has b0 x1 h := ⟨_, rfl⟩
  rw [← EX]
  unfold vX6_has at EX
  refine ea_enter rfl (Nat.le_of_ble_eq_true rfl) ?_
  refine ea_iload_n (pc := 0) dX6_has_0 rfl 1 rfl ?_
  refine ea_if_lt (pc := 1) (tgt := 16) dX6_has_1 rfl (fun c2 => ?_) (fun c2 => ?_)
  · have EX := EX.trans (if_pos c2)
    refine ea_iconst (pc := 16) dX6_has_16 (v := 0) rfl ?_
    exact ea_iretE (pc := 17) dX6_has_17 rfl (ea_bn (Or.inl rfl)) EX rfl
  · have EX := EX.trans (if_neg c2)
    refine ea_iload_n (pc := 4) dX6_has_4 rfl 1 rfl ?_
    refine ea_aload_n (pc := 5) dX6_has_5 rfl 0 rfl ?_
    refine ea_getI (pc := 6) dX6_has_6 ec_6 (k := 0) (Nat.le_of_ble_eq_true rfl) rfl (Or.inl ew_157) (hs.1 1 (by decide)).1 (hs.1 1 (by decide)).2.1 ?_
    refine ea_icmp_ge (pc := 9) (tgt := 16) dX6_has_9 rfl (fun c1 => ?_) (fun c1 => ?_)
    · have EX := EX.trans (if_pos c1)
      refine ea_iconst (pc := 16) dX6_has_16 (v := 0) rfl ?_
      exact ea_iretE (pc := 17) dX6_has_17 rfl (ea_bn (Or.inl rfl)) EX rfl
    · have EX := EX.trans (if_neg c1)
      refine ea_iconst (pc := 12) dX6_has_12 (v := 1) rfl ?_
      refine ea_goto (pc := 13) (tgt := 17) dX6_has_13 rfl ?_
      exact ea_iretE (pc := 17) dX6_has_17 rfl (ea_bn (Or.inr rfl)) EX rfl
noncomputable def vX6_between (b0 : Nat) (x1 : Int32) (x2 : Int32) (h : ea_H) : Int32 := (if (ea_i h (b0 + 3) (Int32.toNatClampNeg (((12 : Int32) * x1) + x2))) < (1000000 : Int32) then (ea_i h (b0 + 3) (Int32.toNatClampNeg (((12 : Int32) * x1) + x2))) else ((-1) : Int32))
def okX6_between (b0 : Nat) (x1 : Int32) (x2 : Int32) (h : ea_H) : Prop := vp_in (((12 : Int32) * x1) + x2) 144
theorem sX6_between {d : Nat} {b0 : Nat} {x1 : Int32} {x2 : Int32} {h : ea_H} (hd : 1 ≤ d) (hs : ShC b0 h) (K : okX6_between b0 x1 x2 h) : ea_Met mX6_between d [vR (some (b0 + 1)), vI x1, vI x2] h (some (vI (vX6_between b0 x1 x2 h))) h := by
  obtain ⟨X, EX⟩ : ∃ z, z = vX6_between b0 x1 x2 h := ⟨_, rfl⟩
  rw [← EX]
  unfold vX6_between at EX
  unfold okX6_between at K
  refine ea_enter rfl (Nat.le_of_ble_eq_true rfl) ?_
  refine ea_aload_n (pc := 0) dX6_between_0 rfl 0 rfl ?_
  refine ea_getR (pc := 1) dX6_between_1 ec_6 (k := 2) (Nat.le_of_ble_eq_true rfl) rfl (Or.inl ew_159) (hs.1 1 (by decide)).1 (hs.1 1 (by decide)).2.1 (hs.2 1 2 rfl) ?_
  refine ea_bipush (pc := 4) dX6_between_4 (v := 12) rfl ?_
  refine ea_iload_n (pc := 6) dX6_between_6 rfl 1 rfl ?_
  refine ea_imul (pc := 7) dX6_between_7 ?_
  refine ea_iload_n (pc := 8) dX6_between_8 rfl 2 rfl ?_
  refine ea_iadd (pc := 9) dX6_between_9 ?_
  have z1 := K
  refine ea_iald (pc := 10) dX6_between_10 (hs.1 3 (by decide)).1 (hs.1 3 (by decide)).2.1 (ea_vpl (hs.1 3 (by decide)).2.2 z1) ?_
  refine ea_istore_n (pc := 11) (lv' := [(3, vI (ea_i h (b0 + 3) (Int32.toNatClampNeg (((12 : Int32) * x1) + x2))))]) dX6_between_11 rfl (Nat.le_of_ble_eq_true rfl) [0] rfl ?_
  refine ea_iload_n (pc := 12) dX6_between_12 rfl 0 rfl ?_
  refine ea_ldc (pc := 13) dX6_between_13 ew_142 ?_
  refine ea_icmp_lt (pc := 15) (tgt := 22) dX6_between_15 rfl (fun c2 => ?_) (fun c2 => ?_)
  · have EX := EX.trans (if_pos c2)
    refine ea_iload_n (pc := 22) dX6_between_22 rfl 0 rfl ?_
    exact ea_iretE (pc := 23) dX6_between_23 rfl rfl EX rfl
  · have EX := EX.trans (if_neg c2)
    refine ea_iconst (pc := 18) dX6_between_18 (v := (-1)) rfl ?_
    refine ea_goto (pc := 19) (tgt := 23) dX6_between_19 rfl ?_
    exact ea_iretE (pc := 23) dX6_between_23 rfl rfl EX rfl
noncomputable def vX6_isCross (b0 : Nat) (x1 : Int32) (x2 : Int32) (h : ea_H) : Int32 := (if x1 = (0 : Int32) then (0 : Int32) else (if x2 = (0 : Int32) then (0 : Int32) else (if (1000000 : Int32) ≤ (ea_i h (b0 + 3) (Int32.toNatClampNeg (((12 : Int32) * x1) + x2))) then (0 : Int32) else (if (ea_i h (b0 + 4) (Int32.toNatClampNeg (((12 : Int32) * x1) + x2))) = (ea_i h (b0 + 3) (Int32.toNatClampNeg (((12 : Int32) * x1) + x2))) then (1 : Int32) else (0 : Int32)))))
def okX6_isCross (b0 : Nat) (x1 : Int32) (x2 : Int32) (h : ea_H) : Prop := vp_in (((12 : Int32) * x1) + x2) 144 ∧ ((x1 = (0 : Int32) → True) ∧ (¬ x1 = (0 : Int32) → (x2 = (0 : Int32) → True) ∧ (¬ x2 = (0 : Int32) → ((1000000 : Int32) ≤ (ea_i h (b0 + 3) (Int32.toNatClampNeg (((12 : Int32) * x1) + x2))) → True) ∧ (¬ (1000000 : Int32) ≤ (ea_i h (b0 + 3) (Int32.toNatClampNeg (((12 : Int32) * x1) + x2))) → vp_in (((12 : Int32) * x1) + x2) 144))))
theorem bo_vX6_isCross (b0 : Nat) (x1 : Int32) (x2 : Int32) (h : ea_H) : vX6_isCross b0 x1 x2 h = 0 ∨ vX6_isCross b0 x1 x2 h = 1 := (ea_itB (Or.inl rfl) (ea_itB (Or.inl rfl) (ea_itB (Or.inl rfl) (ea_itB (Or.inr rfl) (Or.inl rfl)))))
theorem sX6_isCross {d : Nat} {b0 : Nat} {x1 : Int32} {x2 : Int32} {h : ea_H} (hd : 1 ≤ d) (hs : ShC b0 h) (K : okX6_isCross b0 x1 x2 h) : ea_Met mX6_isCross d [vR (some (b0 + 1)), vI x1, vI x2] h (some (vI (vX6_isCross b0 x1 x2 h))) h := by
  obtain ⟨X, EX⟩ : ∃ z, z = vX6_isCross b0 x1 x2 h := ⟨_, rfl⟩
  rw [← EX]
  unfold vX6_isCross at EX
  unfold okX6_isCross at K
  refine ea_enter rfl (Nat.le_of_ble_eq_true rfl) ?_
  refine ea_aload_n (pc := 0) dX6_isCross_0 rfl 0 rfl ?_
  refine ea_getR (pc := 1) dX6_isCross_1 ec_6 (k := 2) (Nat.le_of_ble_eq_true rfl) rfl (Or.inl ew_159) (hs.1 1 (by decide)).1 (hs.1 1 (by decide)).2.1 (hs.2 1 2 rfl) ?_
  refine ea_bipush (pc := 4) dX6_isCross_4 (v := 12) rfl ?_
  refine ea_iload_n (pc := 6) dX6_isCross_6 rfl 1 rfl ?_
  refine ea_imul (pc := 7) dX6_isCross_7 ?_
  refine ea_iload_n (pc := 8) dX6_isCross_8 rfl 2 rfl ?_
  refine ea_iadd (pc := 9) dX6_isCross_9 ?_
  obtain ⟨z1, K⟩ := K
  refine ea_iald (pc := 10) dX6_isCross_10 (hs.1 3 (by decide)).1 (hs.1 3 (by decide)).2.1 (ea_vpl (hs.1 3 (by decide)).2.2 z1) ?_
  refine ea_istore_n (pc := 11) (lv' := [(0, vR (some (b0 + 1))), (1, vI x1), (2, vI x2), (3, vI (ea_i h (b0 + 3) (Int32.toNatClampNeg (((12 : Int32) * x1) + x2))))]) dX6_isCross_11 rfl (Nat.le_of_ble_eq_true rfl) [1, 2, 3, 0] rfl ?_
  refine ea_iload_n (pc := 12) dX6_isCross_12 rfl 1 rfl ?_
  refine ea_if_eq (pc := 13) (tgt := 45) dX6_isCross_13 rfl (fun c6 => ?_) (fun c6 => ?_)
  · have EX := EX.trans (if_pos c6)
    refine ea_iconst (pc := 45) dX6_isCross_45 (v := 0) rfl ?_
    exact ea_iretE (pc := 46) dX6_isCross_46 rfl (ea_bn (Or.inl rfl)) EX rfl
  · have EX := EX.trans (if_neg c6)
    have K := K.2 c6
    refine ea_iload_n (pc := 16) dX6_isCross_16 rfl 2 rfl ?_
    refine ea_if_eq (pc := 17) (tgt := 45) dX6_isCross_17 rfl (fun c5 => ?_) (fun c5 => ?_)
    · have EX := EX.trans (if_pos c5)
      refine ea_iconst (pc := 45) dX6_isCross_45 (v := 0) rfl ?_
      exact ea_iretE (pc := 46) dX6_isCross_46 rfl (ea_bn (Or.inl rfl)) EX rfl
    · have EX := EX.trans (if_neg c5)
      have K := K.2 c5
      refine ea_iload_n (pc := 20) dX6_isCross_20 rfl 3 rfl ?_
      refine ea_ldc (pc := 21) dX6_isCross_21 ew_142 ?_
      refine ea_icmp_ge (pc := 23) (tgt := 45) dX6_isCross_23 rfl (fun c4 => ?_) (fun c4 => ?_)
      · have EX := EX.trans (if_pos c4)
        refine ea_iconst (pc := 45) dX6_isCross_45 (v := 0) rfl ?_
        exact ea_iretE (pc := 46) dX6_isCross_46 rfl (ea_bn (Or.inl rfl)) EX rfl
      · have EX := EX.trans (if_neg c4)
        have K := K.2 c4
        refine ea_aload_n (pc := 26) dX6_isCross_26 rfl 0 rfl ?_
        refine ea_getR (pc := 27) dX6_isCross_27 ec_6 (k := 3) (Nat.le_of_ble_eq_true rfl) rfl (Or.inl ew_160) (hs.1 1 (by decide)).1 (hs.1 1 (by decide)).2.1 (hs.2 1 3 rfl) ?_
        refine ea_bipush (pc := 30) dX6_isCross_30 (v := 12) rfl ?_
        refine ea_iload_n (pc := 32) dX6_isCross_32 rfl 1 rfl ?_
        refine ea_imul (pc := 33) dX6_isCross_33 ?_
        refine ea_iload_n (pc := 34) dX6_isCross_34 rfl 2 rfl ?_
        refine ea_iadd (pc := 35) dX6_isCross_35 ?_
        have z2 := K
        refine ea_iald (pc := 36) dX6_isCross_36 (hs.1 4 (by decide)).1 (hs.1 4 (by decide)).2.1 (ea_vpl (hs.1 4 (by decide)).2.2 z2) ?_
        refine ea_iload_n (pc := 37) dX6_isCross_37 rfl 3 rfl ?_
        refine ea_icmp_ne (pc := 38) (tgt := 45) dX6_isCross_38 rfl (fun c3 => ?_) (fun c3 => ?_)
        · have EX := EX.trans (if_neg c3)
          refine ea_iconst (pc := 45) dX6_isCross_45 (v := 0) rfl ?_
          exact ea_iretE (pc := 46) dX6_isCross_46 rfl (ea_bn (Or.inl rfl)) EX rfl
        · have EX := EX.trans (if_pos c3)
          refine ea_iconst (pc := 41) dX6_isCross_41 (v := 1) rfl ?_
          refine ea_goto (pc := 42) (tgt := 46) dX6_isCross_42 rfl ?_
          exact ea_iretE (pc := 46) dX6_isCross_46 rfl (ea_bn (Or.inr rfl)) EX rfl
noncomputable def wX7_init (b0 : Nat) (a0 : Nat) (x1 : Int32) (x2 : Int32) (x3 : Int32) (h : ea_H) : ea_H := (ShC_wd b0 (ea_new (ea_wi (ea_wi h a0 0 x1) a0 1 x2) 20 (Int32.toNatClampNeg (if x3 < (0 : Int32) then (0 : Int32) else x3)) (Int32.toNatClampNeg (if x3 < (0 : Int32) then (0 : Int32) else x3))) a0 4 (some (ea_n (ea_wi (ea_wi h a0 0 x1) a0 1 x2))))
def okX7_init (b0 : Nat) (a0 : Nat) (x1 : Int32) (x2 : Int32) (x3 : Int32) (h : ea_H) : Prop := (a0 < ea_n h ∧ ea_c h a0 = 7) ∧ ((a0 < ea_n (ea_wi h a0 0 x1) ∧ ea_c (ea_wi h a0 0 x1) a0 = 7) ∧ ((¬ (if x3 < (0 : Int32) then (0 : Int32) else x3) < 0) ∧ ((Int32.toNatClampNeg (if x3 < (0 : Int32) then (0 : Int32) else x3)) * 4 ≤ 536870912 ∧ ((a0 < ea_n (ea_new (ea_wi (ea_wi h a0 0 x1) a0 1 x2) 20 (Int32.toNatClampNeg (if x3 < (0 : Int32) then (0 : Int32) else x3)) (Int32.toNatClampNeg (if x3 < (0 : Int32) then (0 : Int32) else x3))) ∧ ea_c (ea_new (ea_wi (ea_wi h a0 0 x1) a0 1 x2) 20 (Int32.toNatClampNeg (if x3 < (0 : Int32) then (0 : Int32) else x3)) (Int32.toNatClampNeg (if x3 < (0 : Int32) then (0 : Int32) else x3))) a0 = 7) ∧ (ShC_far b0 a0)))))
theorem shX7_init {b0 : Nat} {a0 : Nat} {x1 : Int32} {x2 : Int32} {x3 : Int32} {h : ea_H} (hs : ShC b0 h) : ShC b0 (wX7_init b0 a0 x1 x2 x3 h) := (ShC_wd_sh (ShC_new (ShC_wi (ShC_wi hs))))
theorem sX7_init {d : Nat} {b0 : Nat} {a0 : Nat} {x1 : Int32} {x2 : Int32} {x3 : Int32} {h : ea_H} (hd : 2 ≤ d) (hs : ShC b0 h) (K : okX7_init b0 a0 x1 x2 x3 h) : ea_Met mX7_init d [vR (some a0), vI x1, vI x2, vI x3] h none (wX7_init b0 a0 x1 x2 x3 h) := by
  obtain ⟨Y, EY⟩ : ∃ z, z = wX7_init b0 a0 x1 x2 x3 h := ⟨_, rfl⟩
  rw [← EY]
  unfold wX7_init at EY
  unfold okX7_init at K
  refine ea_enter rfl (Nat.le_of_ble_eq_true rfl) ?_
  refine ea_aload_n (pc := 0) dX7_init_0 rfl 0 rfl ?_
  refine ea_objInit (pc := 1) dX7_init_1 ew_1237 ew_134 ew_135 (by omega) (Nat.le_of_ble_eq_true rfl) ?_
  refine ea_aload_n (pc := 4) dX7_init_4 rfl 0 rfl ?_
  refine ea_iload_n (pc := 5) dX7_init_5 rfl 1 rfl ?_
  obtain ⟨f1, K⟩ := K
  refine ea_putI (pc := 6) dX7_init_6 ec_7 (k := 0) (Nat.le_of_ble_eq_true rfl) rfl (Or.inr ⟨rfl, rfl, rfl, ew_1239⟩) rfl rfl f1.1 f1.2 ?_
  have hs2 : ShC b0 (ea_wi h a0 0 x1) := ShC_wi hs
  refine ea_aload_n (pc := 9) dX7_init_9 rfl 0 rfl ?_
  refine ea_iload_n (pc := 10) dX7_init_10 rfl 2 rfl ?_
  obtain ⟨f3, K⟩ := K
  refine ea_putI (pc := 11) dX7_init_11 ec_7 (k := 1) (Nat.le_of_ble_eq_true rfl) rfl (Or.inr ⟨rfl, rfl, rfl, ew_1241⟩) rfl rfl f3.1 f3.2 ?_
  have hs4 : ShC b0 (ea_wi (ea_wi h a0 0 x1) a0 1 x2) := ShC_wi hs2
  refine ea_aload_n (pc := 14) dX7_init_14 rfl 0 rfl ?_
  refine ea_iload_n (pc := 15) dX7_init_15 rfl 3 rfl ?_
  refine ea_iconst (pc := 16) dX7_init_16 (v := 0) rfl ?_
  refine ea_mmaxI (pc := 17) dX7_init_17 ew_1238 ew_1022 ew_112 ew_1023 (by omega) (Nat.le_of_ble_eq_true rfl) ?_
  obtain ⟨z6, z7, K⟩ := K
  refine ea_newI (pc := 20) (N := (Int32.toNatClampNeg (if x3 < (0 : Int32) then (0 : Int32) else x3))) dX7_init_20 ew_170 z6 rfl z7 ?_
  have hs5 : ShC b0 (ea_new (ea_wi (ea_wi h a0 0 x1) a0 1 x2) 20 (Int32.toNatClampNeg (if x3 < (0 : Int32) then (0 : Int32) else x3)) (Int32.toNatClampNeg (if x3 < (0 : Int32) then (0 : Int32) else x3))) := ShC_new hs4
  obtain ⟨f8, zf10⟩ := K
  refine ea_putR (pc := 22) dX7_init_22 ec_7 (k := 4) (Nat.le_of_ble_eq_true rfl) rfl (Or.inr ⟨rfl, rfl, rfl, ew_1247⟩) f8.1 f8.2 ?_
  refine ea_nm (ShC_wdeq zf10) ?_
  have hs9 : ShC b0 (ShC_wd b0 (ea_new (ea_wi (ea_wi h a0 0 x1) a0 1 x2) 20 (Int32.toNatClampNeg (if x3 < (0 : Int32) then (0 : Int32) else x3)) (Int32.toNatClampNeg (if x3 < (0 : Int32) then (0 : Int32) else x3))) a0 4 (some (ea_n (ea_wi (ea_wi h a0 0 x1) a0 1 x2)))) := ShC_wd_sh hs5
  exact ea_vretE (pc := 25) dX7_init_25 rfl EY
noncomputable def wX7_take (b0 : Nat) (a0 : Nat) (x1 : Int32) (x2 : Int32) (h : ea_H) : ea_H := (if (Int32.ofNat (ea_l h (Option.getD (ea_r h a0 4) 0))) ≤ (ea_i h a0 2) then h else (ea_wi (ea_wi (ea_wi h (Option.getD (ea_r h a0 4) 0) (Int32.toNatClampNeg (ea_i h a0 2)) x1) a0 2 ((ea_i (ea_wi h (Option.getD (ea_r h a0 4) 0) (Int32.toNatClampNeg (ea_i h a0 2)) x1) a0 2) + (1 : Int32))) a0 3 ((ea_i (ea_wi (ea_wi h (Option.getD (ea_r h a0 4) 0) (Int32.toNatClampNeg (ea_i h a0 2)) x1) a0 2 ((ea_i (ea_wi h (Option.getD (ea_r h a0 4) 0) (Int32.toNatClampNeg (ea_i h a0 2)) x1) a0 2) + (1 : Int32))) a0 3) + x2)))
def okX7_take (b0 : Nat) (a0 : Nat) (x1 : Int32) (x2 : Int32) (h : ea_H) : Prop := (a0 < ea_n h ∧ ea_c h a0 = 7) ∧ ((a0 < ea_n h ∧ ea_c h a0 = 7) ∧ ((ea_r h a0 4) = some (Option.getD (ea_r h a0 4) 0) ∧ (((Option.getD (ea_r h a0 4) 0) < ea_n h ∧ ea_c h (Option.getD (ea_r h a0 4) 0) = 20) ∧ (((Int32.ofNat (ea_l h (Option.getD (ea_r h a0 4) 0))) ≤ (ea_i h a0 2) → True) ∧ (¬ (Int32.ofNat (ea_l h (Option.getD (ea_r h a0 4) 0))) ≤ (ea_i h a0 2) → (a0 < ea_n h ∧ ea_c h a0 = 7) ∧ ((a0 < ea_n h ∧ ea_c h a0 = 7) ∧ ((ea_r h a0 4) = some (Option.getD (ea_r h a0 4) 0) ∧ (((Option.getD (ea_r h a0 4) 0) < ea_n h ∧ ea_c h (Option.getD (ea_r h a0 4) 0) = 20) ∧ (vp_in (ea_i h a0 2) (ea_l h (Option.getD (ea_r h a0 4) 0)) ∧ ((a0 < ea_n (ea_wi h (Option.getD (ea_r h a0 4) 0) (Int32.toNatClampNeg (ea_i h a0 2)) x1) ∧ ea_c (ea_wi h (Option.getD (ea_r h a0 4) 0) (Int32.toNatClampNeg (ea_i h a0 2)) x1) a0 = 7) ∧ ((a0 < ea_n (ea_wi h (Option.getD (ea_r h a0 4) 0) (Int32.toNatClampNeg (ea_i h a0 2)) x1) ∧ ea_c (ea_wi h (Option.getD (ea_r h a0 4) 0) (Int32.toNatClampNeg (ea_i h a0 2)) x1) a0 = 7) ∧ ((a0 < ea_n (ea_wi (ea_wi h (Option.getD (ea_r h a0 4) 0) (Int32.toNatClampNeg (ea_i h a0 2)) x1) a0 2 ((ea_i (ea_wi h (Option.getD (ea_r h a0 4) 0) (Int32.toNatClampNeg (ea_i h a0 2)) x1) a0 2) + (1 : Int32))) ∧ ea_c (ea_wi (ea_wi h (Option.getD (ea_r h a0 4) 0) (Int32.toNatClampNeg (ea_i h a0 2)) x1) a0 2 ((ea_i (ea_wi h (Option.getD (ea_r h a0 4) 0) (Int32.toNatClampNeg (ea_i h a0 2)) x1) a0 2) + (1 : Int32))) a0 = 7) ∧ ((a0 < ea_n (ea_wi (ea_wi h (Option.getD (ea_r h a0 4) 0) (Int32.toNatClampNeg (ea_i h a0 2)) x1) a0 2 ((ea_i (ea_wi h (Option.getD (ea_r h a0 4) 0) (Int32.toNatClampNeg (ea_i h a0 2)) x1) a0 2) + (1 : Int32))) ∧ ea_c (ea_wi (ea_wi h (Option.getD (ea_r h a0 4) 0) (Int32.toNatClampNeg (ea_i h a0 2)) x1) a0 2 ((ea_i (ea_wi h (Option.getD (ea_r h a0 4) 0) (Int32.toNatClampNeg (ea_i h a0 2)) x1) a0 2) + (1 : Int32))) a0 = 7))))))))))))))
theorem shX7_take {b0 : Nat} {a0 : Nat} {x1 : Int32} {x2 : Int32} {h : ea_H} (hs : ShC b0 h) : ShC b0 (wX7_take b0 a0 x1 x2 h) := (ShC_it hs (ShC_wi (ShC_wi (ShC_wi hs))))
theorem sX7_take {d : Nat} {b0 : Nat} {a0 : Nat} {x1 : Int32} {x2 : Int32} {h : ea_H} (hd : 1 ≤ d) (hs : ShC b0 h) (K : okX7_take b0 a0 x1 x2 h) : ea_Met mX7_take d [vR (some a0), vI x1, vI x2] h none (wX7_take b0 a0 x1 x2 h) := by
  obtain ⟨Y, EY⟩ : ∃ z, z = wX7_take b0 a0 x1 x2 h := ⟨_, rfl⟩
  rw [← EY]
  unfold wX7_take at EY
  unfold okX7_take at K
  refine ea_enter rfl (Nat.le_of_ble_eq_true rfl) ?_
  refine ea_aload_n (pc := 0) dX7_take_0 rfl 0 rfl ?_
  obtain ⟨f1, K⟩ := K
  refine ea_getI (pc := 1) dX7_take_1 ec_7 (k := 2) (Nat.le_of_ble_eq_true rfl) rfl (Or.inl ew_1243) f1.1 f1.2 ?_
  refine ea_aload_n (pc := 4) dX7_take_4 rfl 0 rfl ?_
  obtain ⟨f2, K⟩ := K
  refine ea_getR (pc := 5) dX7_take_5 ec_7 (k := 4) (Nat.le_of_ble_eq_true rfl) rfl (Or.inl ew_1247) f2.1 f2.2 rfl ?_
  obtain ⟨e3, f4, K⟩ := K
  refine ea_deref0 e3 ?_
  refine ea_alen (pc := 8) dX7_take_8 f4.1 f4.2 (by decide) (by decide) ?_
  refine ea_icmp_ge (pc := 9) (tgt := 42) dX7_take_9 rfl (fun c17 => ?_) (fun c17 => ?_)
  · have EY := EY.trans (if_pos c17)
    exact ea_vretE (pc := 42) dX7_take_42 rfl EY
  · have EY := EY.trans (if_neg c17)
    have K := K.2 c17
    refine ea_aload_n (pc := 12) dX7_take_12 rfl 0 rfl ?_
    obtain ⟨f5, K⟩ := K
    refine ea_getR (pc := 13) dX7_take_13 ec_7 (k := 4) (Nat.le_of_ble_eq_true rfl) rfl (Or.inl ew_1247) f5.1 f5.2 rfl ?_
    refine ea_aload_n (pc := 16) dX7_take_16 rfl 0 rfl ?_
    obtain ⟨f6, K⟩ := K
    refine ea_getI (pc := 17) dX7_take_17 ec_7 (k := 2) (Nat.le_of_ble_eq_true rfl) rfl (Or.inl ew_1243) f6.1 f6.2 ?_
    refine ea_iload_n (pc := 20) dX7_take_20 rfl 1 rfl ?_
    obtain ⟨e7, f8, z9, K⟩ := K
    refine ea_deref2 e7 ?_
    refine ea_iast (pc := 21) dX7_take_21 f8.1 f8.2 z9 ?_
    have hs10 : ShC b0 (ea_wi h (Option.getD (ea_r h a0 4) 0) (Int32.toNatClampNeg (ea_i h a0 2)) x1) := ShC_wi hs
    refine ea_aload_n (pc := 22) dX7_take_22 rfl 0 rfl ?_
    refine ea_dup (pc := 23) dX7_take_23 rfl ?_
    obtain ⟨f11, K⟩ := K
    refine ea_getI (pc := 24) dX7_take_24 ec_7 (k := 2) (Nat.le_of_ble_eq_true rfl) rfl (Or.inl ew_1243) f11.1 f11.2 ?_
    refine ea_iconst (pc := 27) dX7_take_27 (v := 1) rfl ?_
    refine ea_iadd (pc := 28) dX7_take_28 ?_
    obtain ⟨f12, K⟩ := K
    refine ea_putI (pc := 29) dX7_take_29 ec_7 (k := 2) (Nat.le_of_ble_eq_true rfl) rfl (Or.inl ⟨rfl, Or.inl ew_1243⟩) rfl rfl f12.1 f12.2 ?_
    have hs13 : ShC b0 (ea_wi (ea_wi h (Option.getD (ea_r h a0 4) 0) (Int32.toNatClampNeg (ea_i h a0 2)) x1) a0 2 ((ea_i (ea_wi h (Option.getD (ea_r h a0 4) 0) (Int32.toNatClampNeg (ea_i h a0 2)) x1) a0 2) + (1 : Int32))) := ShC_wi hs10
    refine ea_aload_n (pc := 32) dX7_take_32 rfl 0 rfl ?_
    refine ea_dup (pc := 33) dX7_take_33 rfl ?_
    obtain ⟨f14, K⟩ := K
    refine ea_getI (pc := 34) dX7_take_34 ec_7 (k := 3) (Nat.le_of_ble_eq_true rfl) rfl (Or.inl ew_1245) f14.1 f14.2 ?_
    refine ea_iload_n (pc := 37) dX7_take_37 rfl 2 rfl ?_
    refine ea_iadd (pc := 38) dX7_take_38 ?_
    have f15 := K
    refine ea_putI (pc := 39) dX7_take_39 ec_7 (k := 3) (Nat.le_of_ble_eq_true rfl) rfl (Or.inl ⟨rfl, Or.inl ew_1245⟩) rfl rfl f15.1 f15.2 ?_
    have hs16 : ShC b0 (ea_wi (ea_wi (ea_wi h (Option.getD (ea_r h a0 4) 0) (Int32.toNatClampNeg (ea_i h a0 2)) x1) a0 2 ((ea_i (ea_wi h (Option.getD (ea_r h a0 4) 0) (Int32.toNatClampNeg (ea_i h a0 2)) x1) a0 2) + (1 : Int32))) a0 3 ((ea_i (ea_wi (ea_wi h (Option.getD (ea_r h a0 4) 0) (Int32.toNatClampNeg (ea_i h a0 2)) x1) a0 2 ((ea_i (ea_wi h (Option.getD (ea_r h a0 4) 0) (Int32.toNatClampNeg (ea_i h a0 2)) x1) a0 2) + (1 : Int32))) a0 3) + x2)) := ShC_wi hs13
    exact ea_vretE (pc := 42) dX7_take_42 rfl EY
noncomputable def vX7_letterAt (b0 : Nat) (a0 : Nat) (x1 : Int32) (h : ea_H) : Int32 := (if x1 < (0 : Int32) then ((-1) : Int32) else (if (ea_i h a0 2) ≤ x1 then ((-1) : Int32) else (ea_i h (Option.getD (ea_r h a0 4) 0) (Int32.toNatClampNeg x1))))
def okX7_letterAt (b0 : Nat) (a0 : Nat) (x1 : Int32) (h : ea_H) : Prop := (x1 < (0 : Int32) → True) ∧ (¬ x1 < (0 : Int32) → (a0 < ea_n h ∧ ea_c h a0 = 7) ∧ (((ea_i h a0 2) ≤ x1 → True) ∧ (¬ (ea_i h a0 2) ≤ x1 → (a0 < ea_n h ∧ ea_c h a0 = 7) ∧ ((ea_r h a0 4) = some (Option.getD (ea_r h a0 4) 0) ∧ (((Option.getD (ea_r h a0 4) 0) < ea_n h ∧ ea_c h (Option.getD (ea_r h a0 4) 0) = 20) ∧ (vp_in x1 (ea_l h (Option.getD (ea_r h a0 4) 0))))))))
theorem sX7_letterAt {d : Nat} {b0 : Nat} {a0 : Nat} {x1 : Int32} {h : ea_H} (hd : 1 ≤ d) (hs : ShC b0 h) (K : okX7_letterAt b0 a0 x1 h) : ea_Met mX7_letterAt d [vR (some a0), vI x1] h (some (vI (vX7_letterAt b0 a0 x1 h))) h := by
  obtain ⟨X, EX⟩ : ∃ z, z = vX7_letterAt b0 a0 x1 h := ⟨_, rfl⟩
  rw [← EX]
  unfold vX7_letterAt at EX
  unfold okX7_letterAt at K
  refine ea_enter rfl (Nat.le_of_ble_eq_true rfl) ?_
  refine ea_iload_n (pc := 0) dX7_letterAt_0 rfl 1 rfl ?_
  refine ea_if_lt (pc := 1) (tgt := 21) dX7_letterAt_1 rfl (fun c7 => ?_) (fun c7 => ?_)
  · have EX := EX.trans (if_pos c7)
    refine ea_iconst (pc := 21) dX7_letterAt_21 (v := (-1)) rfl ?_
    exact ea_iretE (pc := 22) dX7_letterAt_22 rfl rfl EX rfl
  · have EX := EX.trans (if_neg c7)
    have K := K.2 c7
    refine ea_iload_n (pc := 4) dX7_letterAt_4 rfl 1 rfl ?_
    refine ea_aload_n (pc := 5) dX7_letterAt_5 rfl 0 rfl ?_
    obtain ⟨f1, K⟩ := K
    refine ea_getI (pc := 6) dX7_letterAt_6 ec_7 (k := 2) (Nat.le_of_ble_eq_true rfl) rfl (Or.inl ew_1243) f1.1 f1.2 ?_
    refine ea_icmp_ge (pc := 9) (tgt := 21) dX7_letterAt_9 rfl (fun c6 => ?_) (fun c6 => ?_)
    · have EX := EX.trans (if_pos c6)
      refine ea_iconst (pc := 21) dX7_letterAt_21 (v := (-1)) rfl ?_
      exact ea_iretE (pc := 22) dX7_letterAt_22 rfl rfl EX rfl
    · have EX := EX.trans (if_neg c6)
      have K := K.2 c6
      refine ea_aload_n (pc := 12) dX7_letterAt_12 rfl 0 rfl ?_
      obtain ⟨f2, K⟩ := K
      refine ea_getR (pc := 13) dX7_letterAt_13 ec_7 (k := 4) (Nat.le_of_ble_eq_true rfl) rfl (Or.inl ew_1247) f2.1 f2.2 rfl ?_
      refine ea_iload_n (pc := 16) dX7_letterAt_16 rfl 1 rfl ?_
      obtain ⟨e3, f4, z5⟩ := K
      refine ea_deref1 e3 ?_
      refine ea_iald (pc := 17) dX7_letterAt_17 f4.1 f4.2 z5 ?_
      refine ea_goto (pc := 18) (tgt := 22) dX7_letterAt_18 rfl ?_
      exact ea_iretE (pc := 22) dX7_letterAt_22 rfl rfl EX rfl
noncomputable def vX8_mayBegin (b0 : Nat) (x1 : Int32) (h : ea_H) : Int32 := (if (ea_i h (b0 + 21) 1) ≤ (0 : Int32) then (if (6 : Int32) ≤ (ea_i h (b0 + 21) 1) then (0 : Int32) else (if x1 < (0 : Int32) then (0 : Int32) else (if (7 : Int32) ≤ x1 then (0 : Int32) else (1 : Int32)))) else (if (6 : Int32) ≤ (ea_i h (b0 + 21) 1) then (0 : Int32) else (if x1 < (ea_i h (Option.getD (ea_r h (b0 + 28) (Int32.toNatClampNeg ((ea_i h (b0 + 21) 1) - (1 : Int32)))) 0) 0) then (0 : Int32) else (if (7 : Int32) ≤ x1 then (0 : Int32) else (1 : Int32)))))
def okX8_mayBegin (b0 : Nat) (x1 : Int32) (h : ea_H) : Prop := ((ea_i h (b0 + 21) 1) ≤ (0 : Int32) → True) ∧ (¬ (ea_i h (b0 + 21) 1) ≤ (0 : Int32) → vp_in ((ea_i h (b0 + 21) 1) - (1 : Int32)) 6 ∧ ((ea_r h (b0 + 28) (Int32.toNatClampNeg ((ea_i h (b0 + 21) 1) - (1 : Int32)))) = some (Option.getD (ea_r h (b0 + 28) (Int32.toNatClampNeg ((ea_i h (b0 + 21) 1) - (1 : Int32)))) 0) ∧ (((Option.getD (ea_r h (b0 + 28) (Int32.toNatClampNeg ((ea_i h (b0 + 21) 1) - (1 : Int32)))) 0) < ea_n h ∧ ea_c h (Option.getD (ea_r h (b0 + 28) (Int32.toNatClampNeg ((ea_i h (b0 + 21) 1) - (1 : Int32)))) 0) = 0))))
theorem bo_vX8_mayBegin (b0 : Nat) (x1 : Int32) (h : ea_H) : vX8_mayBegin b0 x1 h = 0 ∨ vX8_mayBegin b0 x1 h = 1 := (ea_itB (ea_itB (Or.inl rfl) (ea_itB (Or.inl rfl) (ea_itB (Or.inl rfl) (Or.inr rfl)))) (ea_itB (Or.inl rfl) (ea_itB (Or.inl rfl) (ea_itB (Or.inl rfl) (Or.inr rfl)))))
theorem sX8_mayBegin {d : Nat} {b0 : Nat} {x1 : Int32} {h : ea_H} (hd : 1 ≤ d) (hs : ShC b0 h) (K : okX8_mayBegin b0 x1 h) : ea_Met mX8_mayBegin d [vR (some (b0 + 21)), vI x1] h (some (vI (vX8_mayBegin b0 x1 h))) h := by
  obtain ⟨X, EX⟩ : ∃ z, z = vX8_mayBegin b0 x1 h := ⟨_, rfl⟩
  rw [← EX]
  unfold vX8_mayBegin at EX
  unfold okX8_mayBegin at K
  refine ea_enter rfl (Nat.le_of_ble_eq_true rfl) ?_
  refine ea_aload_n (pc := 0) dX8_mayBegin_0 rfl 0 rfl ?_
  refine ea_getI (pc := 1) dX8_mayBegin_1 ec_8 (k := 1) (Nat.le_of_ble_eq_true rfl) rfl (Or.inl ew_335) (hs.1 21 (by decide)).1 (hs.1 21 (by decide)).2.1 ?_
  refine ea_if_le (pc := 4) (tgt := 24) dX8_mayBegin_4 rfl (fun c10 => ?_) (fun c10 => ?_)
  · have EX := EX.trans (if_pos c10)
    refine ea_iconst (pc := 24) dX8_mayBegin_24 (v := 0) rfl ?_
    refine ea_istore_n (pc := 25) (lv' := [(0, vR (some (b0 + 21))), (1, vI x1), (2, vI 0)]) dX8_mayBegin_25 rfl (Nat.le_of_ble_eq_true rfl) [1, 2, 0] rfl ?_
    refine ea_aload_n (pc := 26) dX8_mayBegin_26 rfl 0 rfl ?_
    refine ea_getI (pc := 27) dX8_mayBegin_27 ec_8 (k := 1) (Nat.le_of_ble_eq_true rfl) rfl (Or.inl ew_335) (hs.1 21 (by decide)).1 (hs.1 21 (by decide)).2.1 ?_
    refine ea_bipush (pc := 30) dX8_mayBegin_30 (v := 6) rfl ?_
    refine ea_icmp_ge (pc := 32) (tgt := 50) dX8_mayBegin_32 rfl (fun c3 => ?_) (fun c3 => ?_)
    · have EX := EX.trans (if_pos c3)
      refine ea_iconst (pc := 50) dX8_mayBegin_50 (v := 0) rfl ?_
      exact ea_iretE (pc := 51) dX8_mayBegin_51 rfl (ea_bn (Or.inl rfl)) EX rfl
    · have EX := EX.trans (if_neg c3)
      refine ea_iload_n (pc := 35) dX8_mayBegin_35 rfl 1 rfl ?_
      refine ea_iload_n (pc := 36) dX8_mayBegin_36 rfl 2 rfl ?_
      refine ea_icmp_lt (pc := 37) (tgt := 50) dX8_mayBegin_37 rfl (fun c2 => ?_) (fun c2 => ?_)
      · have EX := EX.trans (if_pos c2)
        refine ea_iconst (pc := 50) dX8_mayBegin_50 (v := 0) rfl ?_
        exact ea_iretE (pc := 51) dX8_mayBegin_51 rfl (ea_bn (Or.inl rfl)) EX rfl
      · have EX := EX.trans (if_neg c2)
        refine ea_iload_n (pc := 40) dX8_mayBegin_40 rfl 1 rfl ?_
        refine ea_bipush (pc := 41) dX8_mayBegin_41 (v := 7) rfl ?_
        refine ea_icmp_ge (pc := 43) (tgt := 50) dX8_mayBegin_43 rfl (fun c1 => ?_) (fun c1 => ?_)
        · have EX := EX.trans (if_pos c1)
          refine ea_iconst (pc := 50) dX8_mayBegin_50 (v := 0) rfl ?_
          exact ea_iretE (pc := 51) dX8_mayBegin_51 rfl (ea_bn (Or.inl rfl)) EX rfl
        · have EX := EX.trans (if_neg c1)
          refine ea_iconst (pc := 46) dX8_mayBegin_46 (v := 1) rfl ?_
          refine ea_goto (pc := 47) (tgt := 51) dX8_mayBegin_47 rfl ?_
          exact ea_iretE (pc := 51) dX8_mayBegin_51 rfl (ea_bn (Or.inr rfl)) EX rfl
  · have EX := EX.trans (if_neg c10)
    have K := K.2 c10
    refine ea_aload_n (pc := 7) dX8_mayBegin_7 rfl 0 rfl ?_
    refine ea_getR (pc := 8) dX8_mayBegin_8 ec_8 (k := 2) (Nat.le_of_ble_eq_true rfl) rfl (Or.inl ew_337) (hs.1 21 (by decide)).1 (hs.1 21 (by decide)).2.1 (hs.2 21 2 rfl) ?_
    refine ea_aload_n (pc := 11) dX8_mayBegin_11 rfl 0 rfl ?_
    refine ea_getI (pc := 12) dX8_mayBegin_12 ec_8 (k := 1) (Nat.le_of_ble_eq_true rfl) rfl (Or.inl ew_335) (hs.1 21 (by decide)).1 (hs.1 21 (by decide)).2.1 ?_
    refine ea_iconst (pc := 15) dX8_mayBegin_15 (v := 1) rfl ?_
    refine ea_isub (pc := 16) dX8_mayBegin_16 ?_
    obtain ⟨z4, K⟩ := K
    refine ea_aald26 (pc := 17) dX8_mayBegin_17 (hs.1 28 (by decide)).1 (hs.1 28 (by decide)).2.1 (ea_vpl (hs.1 28 (by decide)).2.2 z4) rfl ?_
    obtain ⟨e5, f6⟩ := K
    refine ea_deref0 e5 ?_
    refine ea_getI (pc := 18) dX8_mayBegin_18 ec_0 (k := 0) (Nat.le_of_ble_eq_true rfl) rfl (Or.inl ew_793) f6.1 f6.2 ?_
    refine ea_goto (pc := 21) (tgt := 25) dX8_mayBegin_21 rfl ?_
    refine ea_istore_n (pc := 25) (lv' := [(0, vR (some (b0 + 21))), (1, vI x1), (2, vI (ea_i h (Option.getD (ea_r h (b0 + 28) (Int32.toNatClampNeg ((ea_i h (b0 + 21) 1) - (1 : Int32)))) 0) 0))]) dX8_mayBegin_25 rfl (Nat.le_of_ble_eq_true rfl) [1, 2, 0] rfl ?_
    refine ea_aload_n (pc := 26) dX8_mayBegin_26 rfl 0 rfl ?_
    refine ea_getI (pc := 27) dX8_mayBegin_27 ec_8 (k := 1) (Nat.le_of_ble_eq_true rfl) rfl (Or.inl ew_335) (hs.1 21 (by decide)).1 (hs.1 21 (by decide)).2.1 ?_
    refine ea_bipush (pc := 30) dX8_mayBegin_30 (v := 6) rfl ?_
    refine ea_icmp_ge (pc := 32) (tgt := 50) dX8_mayBegin_32 rfl (fun c9 => ?_) (fun c9 => ?_)
    · have EX := EX.trans (if_pos c9)
      refine ea_iconst (pc := 50) dX8_mayBegin_50 (v := 0) rfl ?_
      exact ea_iretE (pc := 51) dX8_mayBegin_51 rfl (ea_bn (Or.inl rfl)) EX rfl
    · have EX := EX.trans (if_neg c9)
      refine ea_iload_n (pc := 35) dX8_mayBegin_35 rfl 1 rfl ?_
      refine ea_iload_n (pc := 36) dX8_mayBegin_36 rfl 2 rfl ?_
      refine ea_icmp_lt (pc := 37) (tgt := 50) dX8_mayBegin_37 rfl (fun c8 => ?_) (fun c8 => ?_)
      · have EX := EX.trans (if_pos c8)
        refine ea_iconst (pc := 50) dX8_mayBegin_50 (v := 0) rfl ?_
        exact ea_iretE (pc := 51) dX8_mayBegin_51 rfl (ea_bn (Or.inl rfl)) EX rfl
      · have EX := EX.trans (if_neg c8)
        refine ea_iload_n (pc := 40) dX8_mayBegin_40 rfl 1 rfl ?_
        refine ea_bipush (pc := 41) dX8_mayBegin_41 (v := 7) rfl ?_
        refine ea_icmp_ge (pc := 43) (tgt := 50) dX8_mayBegin_43 rfl (fun c7 => ?_) (fun c7 => ?_)
        · have EX := EX.trans (if_pos c7)
          refine ea_iconst (pc := 50) dX8_mayBegin_50 (v := 0) rfl ?_
          exact ea_iretE (pc := 51) dX8_mayBegin_51 rfl (ea_bn (Or.inl rfl)) EX rfl
        · have EX := EX.trans (if_neg c7)
          refine ea_iconst (pc := 46) dX8_mayBegin_46 (v := 1) rfl ?_
          refine ea_goto (pc := 47) (tgt := 51) dX8_mayBegin_47 rfl ?_
          exact ea_iretE (pc := 51) dX8_mayBegin_51 rfl (ea_bn (Or.inr rfl)) EX rfl
noncomputable def vX8_add (b0 : Nat) (r1 : Option Nat) (h : ea_H) : Int32 := (if r1 = none then ((-1) : Int32) else (if (ea_i h (b0 + 21) 1) < (6 : Int32) then ((ea_i (ea_wi (ea_wr h (b0 + 28) (Int32.toNatClampNeg (ea_i h (b0 + 21) 1)) (some (Option.getD r1 0))) (b0 + 21) 1 ((ea_i (ea_wr h (b0 + 28) (Int32.toNatClampNeg (ea_i h (b0 + 21) 1)) (some (Option.getD r1 0))) (b0 + 21) 1) + (1 : Int32))) (b0 + 21) 1) - (1 : Int32)) else ((-1) : Int32)))
noncomputable def wX8_add (b0 : Nat) (r1 : Option Nat) (h : ea_H) : ea_H := (if r1 = none then h else (if (ea_i h (b0 + 21) 1) < (6 : Int32) then (ea_wi (ea_wr h (b0 + 28) (Int32.toNatClampNeg (ea_i h (b0 + 21) 1)) (some (Option.getD r1 0))) (b0 + 21) 1 ((ea_i (ea_wr h (b0 + 28) (Int32.toNatClampNeg (ea_i h (b0 + 21) 1)) (some (Option.getD r1 0))) (b0 + 21) 1) + (1 : Int32))) else h))
def okX8_add (b0 : Nat) (r1 : Option Nat) (h : ea_H) : Prop := (r1 = none → True) ∧ (¬ r1 = none → ((ea_i h (b0 + 21) 1) < (6 : Int32) → vp_in (ea_i h (b0 + 21) 1) 6 ∧ (r1 = some (Option.getD r1 0) ∧ (((Option.getD r1 0) < ea_n h ∧ ea_c h (Option.getD r1 0) = 0)))) ∧ (¬ (ea_i h (b0 + 21) 1) < (6 : Int32) → True))
theorem shX8_add {b0 : Nat} {r1 : Option Nat} {h : ea_H} (hs : ShC b0 h) : ShC b0 (wX8_add b0 r1 h) := (ShC_it hs (ShC_it (ShC_wi (ShC_wr (o := 28) rfl hs)) hs))
theorem sX8_add {d : Nat} {b0 : Nat} {r1 : Option Nat} {h : ea_H} (hd : 1 ≤ d) (hs : ShC b0 h) (K : okX8_add b0 r1 h) : ea_Met mX8_add d [vR (some (b0 + 21)), vR r1] h (some (vI (vX8_add b0 r1 h))) (wX8_add b0 r1 h) := by
  obtain ⟨X, EX⟩ : ∃ z, z = vX8_add b0 r1 h := ⟨_, rfl⟩
  rw [← EX]
  unfold vX8_add at EX
  obtain ⟨Y, EY⟩ : ∃ z, z = wX8_add b0 r1 h := ⟨_, rfl⟩
  rw [← EY]
  unfold wX8_add at EY
  unfold okX8_add at K
  refine ea_enter rfl (Nat.le_of_ble_eq_true rfl) ?_
  refine ea_aload_n (pc := 0) dX8_add_0 rfl 1 rfl ?_
  refine ea_ifnull (pc := 1) (tgt := 13) dX8_add_1 rfl (fun c7 => ?_) (fun a8 c7 => ?_)
  · have EX := EX.trans (if_pos c7)
    have EY := EY.trans (if_pos c7)
    refine ea_iconst (pc := 13) dX8_add_13 (v := (-1)) rfl ?_
    exact ea_iretE (pc := 14) dX8_add_14 rfl rfl EX EY
  · have c7n : ¬ r1 = none := by rw [c7]; exact fun q => nomatch q
    have EX := EX.trans (if_neg c7n)
    have EY := EY.trans (if_neg c7n)
    have K := K.2 c7n
    refine ea_aload_n (pc := 4) dX8_add_4 rfl 0 rfl ?_
    refine ea_getI (pc := 5) dX8_add_5 ec_8 (k := 1) (Nat.le_of_ble_eq_true rfl) rfl (Or.inl ew_335) (hs.1 21 (by decide)).1 (hs.1 21 (by decide)).2.1 ?_
    refine ea_bipush (pc := 8) dX8_add_8 (v := 6) rfl ?_
    refine ea_icmp_lt (pc := 10) (tgt := 15) dX8_add_10 rfl (fun c6 => ?_) (fun c6 => ?_)
    · have EX := EX.trans (if_pos c6)
      have EY := EY.trans (if_pos c6)
      have K := K.1 c6
      refine ea_aload_n (pc := 15) dX8_add_15 rfl 0 rfl ?_
      refine ea_getR (pc := 16) dX8_add_16 ec_8 (k := 2) (Nat.le_of_ble_eq_true rfl) rfl (Or.inl ew_337) (hs.1 21 (by decide)).1 (hs.1 21 (by decide)).2.1 (hs.2 21 2 rfl) ?_
      refine ea_aload_n (pc := 19) dX8_add_19 rfl 0 rfl ?_
      refine ea_getI (pc := 20) dX8_add_20 ec_8 (k := 1) (Nat.le_of_ble_eq_true rfl) rfl (Or.inl ew_335) (hs.1 21 (by decide)).1 (hs.1 21 (by decide)).2.1 ?_
      refine ea_aload_n (pc := 23) dX8_add_23 rfl 1 rfl ?_
      obtain ⟨z1, e3, f4⟩ := K
      refine ea_deref0 e3 ?_
      refine ea_aast26 (pc := 24) dX8_add_24 (hs.1 28 (by decide)).1 (hs.1 28 (by decide)).2.1 (ea_vpl (hs.1 28 (by decide)).2.2 z1) f4.1 f4.2 ?_
      have hs2 : ShC b0 (ea_wr h (b0 + 28) (Int32.toNatClampNeg (ea_i h (b0 + 21) 1)) (some (Option.getD r1 0))) := ShC_wr (o := 28) rfl hs
      refine ea_aload_n (pc := 25) dX8_add_25 rfl 0 rfl ?_
      refine ea_dup (pc := 26) dX8_add_26 rfl ?_
      refine ea_getI (pc := 27) dX8_add_27 ec_8 (k := 1) (Nat.le_of_ble_eq_true rfl) rfl (Or.inl ew_335) (hs2.1 21 (by decide)).1 (hs2.1 21 (by decide)).2.1 ?_
      refine ea_iconst (pc := 30) dX8_add_30 (v := 1) rfl ?_
      refine ea_iadd (pc := 31) dX8_add_31 ?_
      refine ea_putI (pc := 32) dX8_add_32 ec_8 (k := 1) (Nat.le_of_ble_eq_true rfl) rfl (Or.inl ⟨rfl, Or.inl ew_335⟩) rfl rfl (hs2.1 21 (by decide)).1 (hs2.1 21 (by decide)).2.1 ?_
      have hs5 : ShC b0 (ea_wi (ea_wr h (b0 + 28) (Int32.toNatClampNeg (ea_i h (b0 + 21) 1)) (some (Option.getD r1 0))) (b0 + 21) 1 ((ea_i (ea_wr h (b0 + 28) (Int32.toNatClampNeg (ea_i h (b0 + 21) 1)) (some (Option.getD r1 0))) (b0 + 21) 1) + (1 : Int32))) := ShC_wi hs2
      refine ea_aload_n (pc := 35) dX8_add_35 rfl 0 rfl ?_
      refine ea_getI (pc := 36) dX8_add_36 ec_8 (k := 1) (Nat.le_of_ble_eq_true rfl) rfl (Or.inl ew_335) (hs5.1 21 (by decide)).1 (hs5.1 21 (by decide)).2.1 ?_
      refine ea_iconst (pc := 39) dX8_add_39 (v := 1) rfl ?_
      refine ea_isub (pc := 40) dX8_add_40 ?_
      exact ea_iretE (pc := 41) dX8_add_41 rfl rfl EX EY
    · have EX := EX.trans (if_neg c6)
      have EY := EY.trans (if_neg c6)
      refine ea_iconst (pc := 13) dX8_add_13 (v := (-1)) rfl ?_
      exact ea_iretE (pc := 14) dX8_add_14 rfl rfl EX EY
noncomputable def vX8_actOf (b0 : Nat) (x1 : Int32) (h : ea_H) : Option Nat := (if x1 < (0 : Int32) then none else (if (ea_i h (b0 + 21) 1) ≤ x1 then none else (ea_r h (b0 + 28) (Int32.toNatClampNeg x1))))
def okX8_actOf (b0 : Nat) (x1 : Int32) (h : ea_H) : Prop := (x1 < (0 : Int32) → True) ∧ (¬ x1 < (0 : Int32) → ((ea_i h (b0 + 21) 1) ≤ x1 → True) ∧ (¬ (ea_i h (b0 + 21) 1) ≤ x1 → vp_in x1 6))
theorem sX8_actOf {d : Nat} {b0 : Nat} {x1 : Int32} {h : ea_H} (hd : 1 ≤ d) (hs : ShC b0 h) (K : okX8_actOf b0 x1 h) : ea_Met mX8_actOf d [vR (some (b0 + 21)), vI x1] h (some (vR (vX8_actOf b0 x1 h))) h := by
  obtain ⟨X, EX⟩ : ∃ z, z = vX8_actOf b0 x1 h := ⟨_, rfl⟩
  rw [← EX]
  unfold vX8_actOf at EX
  unfold okX8_actOf at K
  refine ea_enter rfl (Nat.le_of_ble_eq_true rfl) ?_
  refine ea_iload_n (pc := 0) dX8_actOf_0 rfl 1 rfl ?_
  refine ea_if_lt (pc := 1) (tgt := 21) dX8_actOf_1 rfl (fun c3 => ?_) (fun c3 => ?_)
  · have EX := EX.trans (if_pos c3)
    refine ea_null (pc := 21) dX8_actOf_21 ?_
    exact ea_aretE (pc := 22) dX8_actOf_22 rfl (Or.inl ⟨_, rfl⟩) EX rfl
  · have EX := EX.trans (if_neg c3)
    have K := K.2 c3
    refine ea_iload_n (pc := 4) dX8_actOf_4 rfl 1 rfl ?_
    refine ea_aload_n (pc := 5) dX8_actOf_5 rfl 0 rfl ?_
    refine ea_getI (pc := 6) dX8_actOf_6 ec_8 (k := 1) (Nat.le_of_ble_eq_true rfl) rfl (Or.inl ew_335) (hs.1 21 (by decide)).1 (hs.1 21 (by decide)).2.1 ?_
    refine ea_icmp_ge (pc := 9) (tgt := 21) dX8_actOf_9 rfl (fun c2 => ?_) (fun c2 => ?_)
    · have EX := EX.trans (if_pos c2)
      refine ea_null (pc := 21) dX8_actOf_21 ?_
      exact ea_aretE (pc := 22) dX8_actOf_22 rfl (Or.inl ⟨_, rfl⟩) EX rfl
    · have EX := EX.trans (if_neg c2)
      have K := K.2 c2
      refine ea_aload_n (pc := 12) dX8_actOf_12 rfl 0 rfl ?_
      refine ea_getR (pc := 13) dX8_actOf_13 ec_8 (k := 2) (Nat.le_of_ble_eq_true rfl) rfl (Or.inl ew_337) (hs.1 21 (by decide)).1 (hs.1 21 (by decide)).2.1 (hs.2 21 2 rfl) ?_
      refine ea_iload_n (pc := 16) dX8_actOf_16 rfl 1 rfl ?_
      have z1 := K
      refine ea_aald26 (pc := 17) dX8_actOf_17 (hs.1 28 (by decide)).1 (hs.1 28 (by decide)).2.1 (ea_vpl (hs.1 28 (by decide)).2.2 z1) rfl ?_
      refine ea_goto (pc := 18) (tgt := 22) dX8_actOf_18 rfl ?_
      exact ea_aretE (pc := 22) dX8_actOf_22 rfl (Or.inl ⟨_, rfl⟩) EX rfl
noncomputable def vX8_isFree (r0 : Option Nat) (r1 : Option Nat) (h : ea_H) : Int32 := (if (ea_i h (Option.getD r1 0) 0) = (2 : Int32) then (if (ea_i h (Option.getD r0 0) 4) ≤ (ea_i h (Option.getD r1 0) 9) then (0 : Int32) else (1 : Int32)) else (0 : Int32))
def okX8_isFree (r0 : Option Nat) (r1 : Option Nat) (h : ea_H) : Prop := r1 = some (Option.getD r1 0) ∧ (((Option.getD r1 0) < ea_n h ∧ ea_c h (Option.getD r1 0) = 4) ∧ (((ea_i h (Option.getD r1 0) 0) = (2 : Int32) → r1 = some (Option.getD r1 0) ∧ (((Option.getD r1 0) < ea_n h ∧ ea_c h (Option.getD r1 0) = 4) ∧ (r0 = some (Option.getD r0 0) ∧ (((Option.getD r0 0) < ea_n h ∧ ea_c h (Option.getD r0 0) = 0))))) ∧ (¬ (ea_i h (Option.getD r1 0) 0) = (2 : Int32) → True)))
theorem bo_vX8_isFree (r0 : Option Nat) (r1 : Option Nat) (h : ea_H) : vX8_isFree r0 r1 h = 0 ∨ vX8_isFree r0 r1 h = 1 := (ea_itB (ea_itB (Or.inl rfl) (Or.inr rfl)) (Or.inl rfl))
theorem sX8_isFree {d : Nat} {r0 : Option Nat} {r1 : Option Nat} {h : ea_H} (hd : 1 ≤ d) (K : okX8_isFree r0 r1 h) : ea_Met mX8_isFree d [vR r0, vR r1] h (some (vI (vX8_isFree r0 r1 h))) h := by
  obtain ⟨X, EX⟩ : ∃ z, z = vX8_isFree r0 r1 h := ⟨_, rfl⟩
  rw [← EX]
  unfold vX8_isFree at EX
  unfold okX8_isFree at K
  refine ea_enter rfl (Nat.le_of_ble_eq_true rfl) ?_
  refine ea_aload_n (pc := 0) dX8_isFree_0 rfl 1 rfl ?_
  obtain ⟨e1, f2, K⟩ := K
  refine ea_deref0 e1 ?_
  refine ea_getI (pc := 1) dX8_isFree_1 ec_4 (k := 0) (Nat.le_of_ble_eq_true rfl) rfl (Or.inl ew_934) f2.1 f2.2 ?_
  refine ea_iconst (pc := 4) dX8_isFree_4 (v := 2) rfl ?_
  refine ea_icmp_ne (pc := 5) (tgt := 23) dX8_isFree_5 rfl (fun c8 => ?_) (fun c8 => ?_)
  · have EX := EX.trans (if_neg c8)
    refine ea_iconst (pc := 23) dX8_isFree_23 (v := 0) rfl ?_
    exact ea_iretE (pc := 24) dX8_isFree_24 rfl (ea_bn (Or.inl rfl)) EX rfl
  · have EX := EX.trans (if_pos c8)
    have K := K.1 c8
    refine ea_aload_n (pc := 8) dX8_isFree_8 rfl 1 rfl ?_
    obtain ⟨e3, f4, K⟩ := K
    refine ea_deref0 e3 ?_
    refine ea_getI (pc := 9) dX8_isFree_9 ec_4 (k := 9) (Nat.le_of_ble_eq_true rfl) rfl (Or.inl ew_956) f4.1 f4.2 ?_
    refine ea_aload_n (pc := 12) dX8_isFree_12 rfl 0 rfl ?_
    obtain ⟨e5, f6⟩ := K
    refine ea_deref0 e5 ?_
    refine ea_getI (pc := 13) dX8_isFree_13 ec_0 (k := 4) (Nat.le_of_ble_eq_true rfl) rfl (Or.inl ew_804) f6.1 f6.2 ?_
    refine ea_icmp_ge (pc := 16) (tgt := 23) dX8_isFree_16 rfl (fun c7 => ?_) (fun c7 => ?_)
    · have EX := EX.trans (if_pos c7)
      refine ea_iconst (pc := 23) dX8_isFree_23 (v := 0) rfl ?_
      exact ea_iretE (pc := 24) dX8_isFree_24 rfl (ea_bn (Or.inl rfl)) EX rfl
    · have EX := EX.trans (if_neg c7)
      refine ea_iconst (pc := 19) dX8_isFree_19 (v := 1) rfl ?_
      refine ea_goto (pc := 20) (tgt := 24) dX8_isFree_20 rfl ?_
      exact ea_iretE (pc := 24) dX8_isFree_24 rfl (ea_bn (Or.inr rfl)) EX rfl
noncomputable def vX8_joined (x0 : Int32) (x1 : Int32) (x2 : Int32) (h : ea_H) : Int32 := (if Int32.toInt x0 = -19 then (x1 ||| x2) else (if Int32.toInt x0 = -18 then (x1 &&& x2) else (if Int32.toInt x0 = -17 then (0 : Int32) else (if Int32.toInt x0 = -16 then (if x1 ≤ x2 then (0 : Int32) else (1 : Int32)) else (if Int32.toInt x0 = -15 then (if x1 = x2 then (1 : Int32) else (0 : Int32)) else (if Int32.toInt x0 = -14 then (if x2 ≤ x1 then (0 : Int32) else (1 : Int32)) else (if Int32.toInt x0 = -13 then (if x2 = (0 : Int32) then (0 : Int32) else (x1 / x2)) else (if Int32.toInt x0 = -12 then (x1 * x2) else (if Int32.toInt x0 = -11 then (x1 - x2) else (if Int32.toInt x0 = -10 then (x1 + x2) else (0 : Int32)))))))))))
def okX8_joined (x0 : Int32) (x1 : Int32) (x2 : Int32) (h : ea_H) : Prop := (Int32.toInt x0 = -19 → True) ∧ (¬ Int32.toInt x0 = -19 → (Int32.toInt x0 = -18 → True) ∧ (¬ Int32.toInt x0 = -18 → (Int32.toInt x0 = -17 → True) ∧ (¬ Int32.toInt x0 = -17 → (Int32.toInt x0 = -16 → True) ∧ (¬ Int32.toInt x0 = -16 → (Int32.toInt x0 = -15 → True) ∧ (¬ Int32.toInt x0 = -15 → (Int32.toInt x0 = -14 → True) ∧ (¬ Int32.toInt x0 = -14 → (Int32.toInt x0 = -13 → (x2 = (0 : Int32) → True) ∧ (¬ x2 = (0 : Int32) → (¬ x2 = 0))) ∧ (¬ Int32.toInt x0 = -13 → (Int32.toInt x0 = -12 → True) ∧ (¬ Int32.toInt x0 = -12 → (Int32.toInt x0 = -11 → True) ∧ (¬ Int32.toInt x0 = -11 → (Int32.toInt x0 = -10 → True) ∧ (¬ Int32.toInt x0 = -10 → True))))))))))
theorem sX8_joined {d : Nat} {x0 : Int32} {x1 : Int32} {x2 : Int32} {h : ea_H} (hd : 1 ≤ d) (K : okX8_joined x0 x1 x2 h) : ea_Met mX8_joined d [vI x0, vI x1, vI x2] h (some (vI (vX8_joined x0 x1 x2 h))) h := by
  obtain ⟨X, EX⟩ : ∃ z, z = vX8_joined x0 x1 x2 h := ⟨_, rfl⟩
  rw [← EX]
  unfold vX8_joined at EX
  unfold okX8_joined at K
  refine ea_enter rfl (Nat.le_of_ble_eq_true rfl) ?_
  refine ea_iload_n (pc := 0) dX8_joined_0 rfl 0 rfl ?_
  by_cases qc1_0 : Int32.toInt x0 = -19
  · have EX := EX.trans (if_pos qc1_0)
    have K := K.1 qc1_0
    refine ea_tswIn (pc := 1) (tgt := 117) dX8_joined_1 (by rw [qc1_0]; decide) (by rw [qc1_0]; decide) (by rw [qc1_0]; rfl) rfl ?_
    refine ea_iload_n (pc := 117) dX8_joined_117 rfl 1 rfl ?_
    refine ea_iload_n (pc := 118) dX8_joined_118 rfl 2 rfl ?_
    refine ea_ior (pc := 119) dX8_joined_119 ?_
    exact ea_iretE (pc := 120) dX8_joined_120 rfl rfl EX rfl
  have EX := EX.trans (if_neg qc1_0)
  have K := K.2 qc1_0
  by_cases qc1_1 : Int32.toInt x0 = -18
  · have EX := EX.trans (if_pos qc1_1)
    have K := K.1 qc1_1
    refine ea_tswIn (pc := 1) (tgt := 113) dX8_joined_1 (by rw [qc1_1]; decide) (by rw [qc1_1]; decide) (by rw [qc1_1]; rfl) rfl ?_
    refine ea_iload_n (pc := 113) dX8_joined_113 rfl 1 rfl ?_
    refine ea_iload_n (pc := 114) dX8_joined_114 rfl 2 rfl ?_
    refine ea_iand (pc := 115) dX8_joined_115 ?_
    exact ea_iretE (pc := 116) dX8_joined_116 rfl rfl EX rfl
  have EX := EX.trans (if_neg qc1_1)
  have K := K.2 qc1_1
  by_cases qc1_2 : Int32.toInt x0 = -17
  · have EX := EX.trans (if_pos qc1_2)
    have K := K.1 qc1_2
    refine ea_tswIn (pc := 1) (tgt := 121) dX8_joined_1 (by rw [qc1_2]; decide) (by rw [qc1_2]; decide) (by rw [qc1_2]; rfl) rfl ?_
    refine ea_iconst (pc := 121) dX8_joined_121 (v := 0) rfl ?_
    exact ea_iretE (pc := 122) dX8_joined_122 rfl rfl EX rfl
  have EX := EX.trans (if_neg qc1_2)
  have K := K.2 qc1_2
  by_cases qc1_3 : Int32.toInt x0 = -16
  · have EX := EX.trans (if_pos qc1_3)
    have K := K.1 qc1_3
    refine ea_tswIn (pc := 1) (tgt := 102) dX8_joined_1 (by rw [qc1_3]; decide) (by rw [qc1_3]; decide) (by rw [qc1_3]; rfl) rfl ?_
    refine ea_iload_n (pc := 102) dX8_joined_102 rfl 1 rfl ?_
    refine ea_iload_n (pc := 103) dX8_joined_103 rfl 2 rfl ?_
    refine ea_icmp_le (pc := 104) (tgt := 111) dX8_joined_104 rfl (fun c1 => ?_) (fun c1 => ?_)
    · have EX := EX.trans (if_pos c1)
      refine ea_iconst (pc := 111) dX8_joined_111 (v := 0) rfl ?_
      exact ea_iretE (pc := 112) dX8_joined_112 rfl rfl EX rfl
    · have EX := EX.trans (if_neg c1)
      refine ea_iconst (pc := 107) dX8_joined_107 (v := 1) rfl ?_
      refine ea_goto (pc := 108) (tgt := 112) dX8_joined_108 rfl ?_
      exact ea_iretE (pc := 112) dX8_joined_112 rfl rfl EX rfl
  have EX := EX.trans (if_neg qc1_3)
  have K := K.2 qc1_3
  by_cases qc1_4 : Int32.toInt x0 = -15
  · have EX := EX.trans (if_pos qc1_4)
    have K := K.1 qc1_4
    refine ea_tswIn (pc := 1) (tgt := 91) dX8_joined_1 (by rw [qc1_4]; decide) (by rw [qc1_4]; decide) (by rw [qc1_4]; rfl) rfl ?_
    refine ea_iload_n (pc := 91) dX8_joined_91 rfl 1 rfl ?_
    refine ea_iload_n (pc := 92) dX8_joined_92 rfl 2 rfl ?_
    refine ea_icmp_ne (pc := 93) (tgt := 100) dX8_joined_93 rfl (fun c2 => ?_) (fun c2 => ?_)
    · have EX := EX.trans (if_neg c2)
      refine ea_iconst (pc := 100) dX8_joined_100 (v := 0) rfl ?_
      exact ea_iretE (pc := 101) dX8_joined_101 rfl rfl EX rfl
    · have EX := EX.trans (if_pos c2)
      refine ea_iconst (pc := 96) dX8_joined_96 (v := 1) rfl ?_
      refine ea_goto (pc := 97) (tgt := 101) dX8_joined_97 rfl ?_
      exact ea_iretE (pc := 101) dX8_joined_101 rfl rfl EX rfl
  have EX := EX.trans (if_neg qc1_4)
  have K := K.2 qc1_4
  by_cases qc1_5 : Int32.toInt x0 = -14
  · have EX := EX.trans (if_pos qc1_5)
    have K := K.1 qc1_5
    refine ea_tswIn (pc := 1) (tgt := 80) dX8_joined_1 (by rw [qc1_5]; decide) (by rw [qc1_5]; decide) (by rw [qc1_5]; rfl) rfl ?_
    refine ea_iload_n (pc := 80) dX8_joined_80 rfl 1 rfl ?_
    refine ea_iload_n (pc := 81) dX8_joined_81 rfl 2 rfl ?_
    refine ea_icmp_ge (pc := 82) (tgt := 89) dX8_joined_82 rfl (fun c3 => ?_) (fun c3 => ?_)
    · have EX := EX.trans (if_pos c3)
      refine ea_iconst (pc := 89) dX8_joined_89 (v := 0) rfl ?_
      exact ea_iretE (pc := 90) dX8_joined_90 rfl rfl EX rfl
    · have EX := EX.trans (if_neg c3)
      refine ea_iconst (pc := 85) dX8_joined_85 (v := 1) rfl ?_
      refine ea_goto (pc := 86) (tgt := 90) dX8_joined_86 rfl ?_
      exact ea_iretE (pc := 90) dX8_joined_90 rfl rfl EX rfl
  have EX := EX.trans (if_neg qc1_5)
  have K := K.2 qc1_5
  by_cases qc1_6 : Int32.toInt x0 = -13
  · have EX := EX.trans (if_pos qc1_6)
    have K := K.1 qc1_6
    refine ea_tswIn (pc := 1) (tgt := 68) dX8_joined_1 (by rw [qc1_6]; decide) (by rw [qc1_6]; decide) (by rw [qc1_6]; rfl) rfl ?_
    refine ea_iload_n (pc := 68) dX8_joined_68 rfl 2 rfl ?_
    refine ea_if_ne (pc := 69) (tgt := 76) dX8_joined_69 rfl (fun c5 => ?_) (fun c5 => ?_)
    · have EX := EX.trans (if_neg c5)
      have K := K.2 c5
      refine ea_iload_n (pc := 76) dX8_joined_76 rfl 1 rfl ?_
      refine ea_iload_n (pc := 77) dX8_joined_77 rfl 2 rfl ?_
      have z4 := K
      refine ea_idiv (pc := 78) dX8_joined_78 z4 ?_
      exact ea_iretE (pc := 79) dX8_joined_79 rfl rfl EX rfl
    · have EX := EX.trans (if_pos c5)
      refine ea_iconst (pc := 72) dX8_joined_72 (v := 0) rfl ?_
      refine ea_goto (pc := 73) (tgt := 79) dX8_joined_73 rfl ?_
      exact ea_iretE (pc := 79) dX8_joined_79 rfl rfl EX rfl
  have EX := EX.trans (if_neg qc1_6)
  have K := K.2 qc1_6
  by_cases qc1_7 : Int32.toInt x0 = -12
  · have EX := EX.trans (if_pos qc1_7)
    have K := K.1 qc1_7
    refine ea_tswIn (pc := 1) (tgt := 64) dX8_joined_1 (by rw [qc1_7]; decide) (by rw [qc1_7]; decide) (by rw [qc1_7]; rfl) rfl ?_
    refine ea_iload_n (pc := 64) dX8_joined_64 rfl 1 rfl ?_
    refine ea_iload_n (pc := 65) dX8_joined_65 rfl 2 rfl ?_
    refine ea_imul (pc := 66) dX8_joined_66 ?_
    exact ea_iretE (pc := 67) dX8_joined_67 rfl rfl EX rfl
  have EX := EX.trans (if_neg qc1_7)
  have K := K.2 qc1_7
  by_cases qc1_8 : Int32.toInt x0 = -11
  · have EX := EX.trans (if_pos qc1_8)
    have K := K.1 qc1_8
    refine ea_tswIn (pc := 1) (tgt := 60) dX8_joined_1 (by rw [qc1_8]; decide) (by rw [qc1_8]; decide) (by rw [qc1_8]; rfl) rfl ?_
    refine ea_iload_n (pc := 60) dX8_joined_60 rfl 1 rfl ?_
    refine ea_iload_n (pc := 61) dX8_joined_61 rfl 2 rfl ?_
    refine ea_isub (pc := 62) dX8_joined_62 ?_
    exact ea_iretE (pc := 63) dX8_joined_63 rfl rfl EX rfl
  have EX := EX.trans (if_neg qc1_8)
  have K := K.2 qc1_8
  by_cases qc1_9 : Int32.toInt x0 = -10
  · have EX := EX.trans (if_pos qc1_9)
    have K := K.1 qc1_9
    refine ea_tswIn (pc := 1) (tgt := 56) dX8_joined_1 (by rw [qc1_9]; decide) (by rw [qc1_9]; decide) (by rw [qc1_9]; rfl) rfl ?_
    refine ea_iload_n (pc := 56) dX8_joined_56 rfl 1 rfl ?_
    refine ea_iload_n (pc := 57) dX8_joined_57 rfl 2 rfl ?_
    refine ea_iadd (pc := 58) dX8_joined_58 ?_
    exact ea_iretE (pc := 59) dX8_joined_59 rfl rfl EX rfl
  have EX := EX.trans (if_neg qc1_9)
  have K := K.2 qc1_9
  refine ea_tswOut (pc := 1) (tgt := 121) dX8_joined_1 (ec_sw_m19_m10 qc1_0 qc1_1 qc1_2 qc1_3 qc1_4 qc1_5 qc1_6 qc1_7 qc1_8 qc1_9) rfl ?_
  refine ea_iconst (pc := 121) dX8_joined_121 (v := 0) rfl ?_
  exact ea_iretE (pc := 122) dX8_joined_122 rfl rfl EX rfl
noncomputable def vX9_has (b0 : Nat) (x1 : Int32) (h : ea_H) : Int32 := (if x1 < (0 : Int32) then (0 : Int32) else (if (ea_i h (b0 + 5) 0) ≤ x1 then (0 : Int32) else (1 : Int32)))
theorem bo_vX9_has (b0 : Nat) (x1 : Int32) (h : ea_H) : vX9_has b0 x1 h = 0 ∨ vX9_has b0 x1 h = 1 := (ea_itB (Or.inl rfl) (ea_itB (Or.inl rfl) (Or.inr rfl)))
theorem sX9_has {d : Nat} {b0 : Nat} {x1 : Int32} {h : ea_H} (hd : 1 ≤ d) (hs : ShC b0 h) : ea_Met mX9_has d [vR (some (b0 + 5)), vI x1] h (some (vI (vX9_has b0 x1 h))) h := by
  obtain ⟨X, EX⟩ : ∃ z, z = vX9_has b0 x1 h := ⟨_, rfl⟩
  rw [← EX]
  unfold vX9_has at EX
  refine ea_enter rfl (Nat.le_of_ble_eq_true rfl) ?_
  refine ea_iload_n (pc := 0) dX9_has_0 rfl 1 rfl ?_
  refine ea_if_lt (pc := 1) (tgt := 16) dX9_has_1 rfl (fun c2 => ?_) (fun c2 => ?_)
  · have EX := EX.trans (if_pos c2)
    refine ea_iconst (pc := 16) dX9_has_16 (v := 0) rfl ?_
    exact ea_iretE (pc := 17) dX9_has_17 rfl (ea_bn (Or.inl rfl)) EX rfl
  · have EX := EX.trans (if_neg c2)
    refine ea_iload_n (pc := 4) dX9_has_4 rfl 1 rfl ?_
    refine ea_aload_n (pc := 5) dX9_has_5 rfl 0 rfl ?_
    refine ea_getI (pc := 6) dX9_has_6 ec_9 (k := 0) (Nat.le_of_ble_eq_true rfl) rfl (Or.inl ew_177) (hs.1 5 (by decide)).1 (hs.1 5 (by decide)).2.1 ?_
    refine ea_icmp_ge (pc := 9) (tgt := 16) dX9_has_9 rfl (fun c1 => ?_) (fun c1 => ?_)
    · have EX := EX.trans (if_pos c1)
      refine ea_iconst (pc := 16) dX9_has_16 (v := 0) rfl ?_
      exact ea_iretE (pc := 17) dX9_has_17 rfl (ea_bn (Or.inl rfl)) EX rfl
    · have EX := EX.trans (if_neg c1)
      refine ea_iconst (pc := 12) dX9_has_12 (v := 1) rfl ?_
      refine ea_goto (pc := 13) (tgt := 17) dX9_has_13 rfl ?_
      exact ea_iretE (pc := 17) dX9_has_17 rfl (ea_bn (Or.inr rfl)) EX rfl
noncomputable def vX9_hasRun (b0 : Nat) (x1 : Int32) (x2 : Int32) (h : ea_H) : Int32 := (if (vX9_has b0 (x1 : Int32) h) = (0 : Int32) then (0 : Int32) else (if x2 < (0 : Int32) then (0 : Int32) else (if (7 : Int32) ≤ x2 then (0 : Int32) else (1 : Int32))))
theorem bo_vX9_hasRun (b0 : Nat) (x1 : Int32) (x2 : Int32) (h : ea_H) : vX9_hasRun b0 x1 x2 h = 0 ∨ vX9_hasRun b0 x1 x2 h = 1 := (ea_itB (Or.inl rfl) (ea_itB (Or.inl rfl) (ea_itB (Or.inl rfl) (Or.inr rfl))))
theorem sX9_hasRun {d : Nat} {b0 : Nat} {x1 : Int32} {x2 : Int32} {h : ea_H} (hd : 2 ≤ d) (hs : ShC b0 h) : ea_Met mX9_hasRun d [vR (some (b0 + 5)), vI x1, vI x2] h (some (vI (vX9_hasRun b0 x1 x2 h))) h := by
  obtain ⟨X, EX⟩ : ∃ z, z = vX9_hasRun b0 x1 x2 h := ⟨_, rfl⟩
  rw [← EX]
  unfold vX9_hasRun at EX
  refine ea_enter rfl (Nat.le_of_ble_eq_true rfl) ?_
  refine ea_aload_n (pc := 0) dX9_hasRun_0 rfl 0 rfl ?_
  refine ea_iload_n (pc := 1) dX9_hasRun_1 rfl 1 rfl ?_
  refine ea_callV (pc := 2) (d' := d - 1) (As := [vI x1]) (st := []) dX9_hasRun_2 kX9_has (sX9_has (d := d - 1) (by omega) hs) (by omega) rfl (Nat.le_of_ble_eq_true rfl) ew_546 ew_519 ew_520 (ci := 9) rfl (by decide) (hs.1 5 (by decide)).1 (hs.1 5 (by decide)).2.1 ?_
  refine ea_if_eq (pc := 5) (tgt := 22) dX9_hasRun_5 rfl (fun c4 => ?_) (fun c4 => ?_)
  · have EX := EX.trans (if_pos c4)
    refine ea_iconst (pc := 22) dX9_hasRun_22 (v := 0) rfl ?_
    exact ea_iretE (pc := 23) dX9_hasRun_23 rfl (ea_bn (Or.inl rfl)) EX rfl
  · have EX := EX.trans (if_neg c4)
    refine ea_iload_n (pc := 8) dX9_hasRun_8 rfl 2 rfl ?_
    refine ea_if_lt (pc := 9) (tgt := 22) dX9_hasRun_9 rfl (fun c3 => ?_) (fun c3 => ?_)
    · have EX := EX.trans (if_pos c3)
      refine ea_iconst (pc := 22) dX9_hasRun_22 (v := 0) rfl ?_
      exact ea_iretE (pc := 23) dX9_hasRun_23 rfl (ea_bn (Or.inl rfl)) EX rfl
    · have EX := EX.trans (if_neg c3)
      refine ea_iload_n (pc := 12) dX9_hasRun_12 rfl 2 rfl ?_
      refine ea_bipush (pc := 13) dX9_hasRun_13 (v := 7) rfl ?_
      refine ea_icmp_ge (pc := 15) (tgt := 22) dX9_hasRun_15 rfl (fun c2 => ?_) (fun c2 => ?_)
      · have EX := EX.trans (if_pos c2)
        refine ea_iconst (pc := 22) dX9_hasRun_22 (v := 0) rfl ?_
        exact ea_iretE (pc := 23) dX9_hasRun_23 rfl (ea_bn (Or.inl rfl)) EX rfl
      · have EX := EX.trans (if_neg c2)
        refine ea_iconst (pc := 18) dX9_hasRun_18 (v := 1) rfl ?_
        refine ea_goto (pc := 19) (tgt := 23) dX9_hasRun_19 rfl ?_
        exact ea_iretE (pc := 23) dX9_hasRun_23 rfl (ea_bn (Or.inr rfl)) EX rfl
noncomputable def vX9_comesAt (b0 : Nat) (x1 : Int32) (x2 : Int32) (x3 : Int32) (h : ea_H) : Int32 := ((((1440 : Int32) * x2) + (ea_i h (b0 + 8) (Int32.toNatClampNeg (((8 : Int32) * x1) + x3)))) + (ea_i h (b0 + 11) (Int32.toNatClampNeg (((10 : Int32) * x2) + x1))))
def okX9_comesAt (b0 : Nat) (x1 : Int32) (x2 : Int32) (x3 : Int32) (h : ea_H) : Prop := vp_in (((8 : Int32) * x1) + x3) 80 ∧ (vp_in (((10 : Int32) * x2) + x1) 70)
theorem sX9_comesAt {d : Nat} {b0 : Nat} {x1 : Int32} {x2 : Int32} {x3 : Int32} {h : ea_H} (hd : 1 ≤ d) (hs : ShC b0 h) (K : okX9_comesAt b0 x1 x2 x3 h) : ea_Met mX9_comesAt d [vR (some (b0 + 5)), vI x1, vI x2, vI x3] h (some (vI (vX9_comesAt b0 x1 x2 x3 h))) h := by
  obtain ⟨X, EX⟩ : ∃ z, z = vX9_comesAt b0 x1 x2 x3 h := ⟨_, rfl⟩
  rw [← EX]
  unfold vX9_comesAt at EX
  unfold okX9_comesAt at K
  refine ea_enter rfl (Nat.le_of_ble_eq_true rfl) ?_
  refine ea_sipush (pc := 0) dX9_comesAt_0 (v := 1440) rfl ?_
  refine ea_iload_n (pc := 3) dX9_comesAt_3 rfl 2 rfl ?_
  refine ea_imul (pc := 4) dX9_comesAt_4 ?_
  refine ea_aload_n (pc := 5) dX9_comesAt_5 rfl 0 rfl ?_
  refine ea_getR (pc := 6) dX9_comesAt_6 ec_9 (k := 3) (Nat.le_of_ble_eq_true rfl) rfl (Or.inl ew_188) (hs.1 5 (by decide)).1 (hs.1 5 (by decide)).2.1 (hs.2 5 3 rfl) ?_
  refine ea_bipush (pc := 9) dX9_comesAt_9 (v := 8) rfl ?_
  refine ea_iload_n (pc := 11) dX9_comesAt_11 rfl 1 rfl ?_
  refine ea_imul (pc := 12) dX9_comesAt_12 ?_
  refine ea_iload_n (pc := 13) dX9_comesAt_13 rfl 3 rfl ?_
  refine ea_iadd (pc := 14) dX9_comesAt_14 ?_
  obtain ⟨z1, K⟩ := K
  refine ea_iald (pc := 15) dX9_comesAt_15 (hs.1 8 (by decide)).1 (hs.1 8 (by decide)).2.1 (ea_vpl (hs.1 8 (by decide)).2.2 z1) ?_
  refine ea_iadd (pc := 16) dX9_comesAt_16 ?_
  refine ea_aload_n (pc := 17) dX9_comesAt_17 rfl 0 rfl ?_
  refine ea_getR (pc := 18) dX9_comesAt_18 ec_9 (k := 6) (Nat.le_of_ble_eq_true rfl) rfl (Or.inl ew_196) (hs.1 5 (by decide)).1 (hs.1 5 (by decide)).2.1 (hs.2 5 6 rfl) ?_
  refine ea_bipush (pc := 21) dX9_comesAt_21 (v := 10) rfl ?_
  refine ea_iload_n (pc := 23) dX9_comesAt_23 rfl 2 rfl ?_
  refine ea_imul (pc := 24) dX9_comesAt_24 ?_
  refine ea_iload_n (pc := 25) dX9_comesAt_25 rfl 1 rfl ?_
  refine ea_iadd (pc := 26) dX9_comesAt_26 ?_
  have z2 := K
  refine ea_iald (pc := 27) dX9_comesAt_27 (hs.1 11 (by decide)).1 (hs.1 11 (by decide)).2.1 (ea_vpl (hs.1 11 (by decide)).2.2 z2) ?_
  refine ea_iadd (pc := 28) dX9_comesAt_28 ?_
  exact ea_iretE (pc := 29) dX9_comesAt_29 rfl rfl EX rfl
noncomputable def vX9_goesAt (b0 : Nat) (x1 : Int32) (x2 : Int32) (x3 : Int32) (h : ea_H) : Int32 := ((((1440 : Int32) * x2) + (ea_i h (b0 + 9) (Int32.toNatClampNeg (((8 : Int32) * x1) + x3)))) + (ea_i h (b0 + 11) (Int32.toNatClampNeg (((10 : Int32) * x2) + x1))))
def okX9_goesAt (b0 : Nat) (x1 : Int32) (x2 : Int32) (x3 : Int32) (h : ea_H) : Prop := vp_in (((8 : Int32) * x1) + x3) 80 ∧ (vp_in (((10 : Int32) * x2) + x1) 70)
theorem sX9_goesAt {d : Nat} {b0 : Nat} {x1 : Int32} {x2 : Int32} {x3 : Int32} {h : ea_H} (hd : 1 ≤ d) (hs : ShC b0 h) (K : okX9_goesAt b0 x1 x2 x3 h) : ea_Met mX9_goesAt d [vR (some (b0 + 5)), vI x1, vI x2, vI x3] h (some (vI (vX9_goesAt b0 x1 x2 x3 h))) h := by
  obtain ⟨X, EX⟩ : ∃ z, z = vX9_goesAt b0 x1 x2 x3 h := ⟨_, rfl⟩
  rw [← EX]
  unfold vX9_goesAt at EX
  unfold okX9_goesAt at K
  refine ea_enter rfl (Nat.le_of_ble_eq_true rfl) ?_
  refine ea_sipush (pc := 0) dX9_goesAt_0 (v := 1440) rfl ?_
  refine ea_iload_n (pc := 3) dX9_goesAt_3 rfl 2 rfl ?_
  refine ea_imul (pc := 4) dX9_goesAt_4 ?_
  refine ea_aload_n (pc := 5) dX9_goesAt_5 rfl 0 rfl ?_
  refine ea_getR (pc := 6) dX9_goesAt_6 ec_9 (k := 4) (Nat.le_of_ble_eq_true rfl) rfl (Or.inl ew_191) (hs.1 5 (by decide)).1 (hs.1 5 (by decide)).2.1 (hs.2 5 4 rfl) ?_
  refine ea_bipush (pc := 9) dX9_goesAt_9 (v := 8) rfl ?_
  refine ea_iload_n (pc := 11) dX9_goesAt_11 rfl 1 rfl ?_
  refine ea_imul (pc := 12) dX9_goesAt_12 ?_
  refine ea_iload_n (pc := 13) dX9_goesAt_13 rfl 3 rfl ?_
  refine ea_iadd (pc := 14) dX9_goesAt_14 ?_
  obtain ⟨z1, K⟩ := K
  refine ea_iald (pc := 15) dX9_goesAt_15 (hs.1 9 (by decide)).1 (hs.1 9 (by decide)).2.1 (ea_vpl (hs.1 9 (by decide)).2.2 z1) ?_
  refine ea_iadd (pc := 16) dX9_goesAt_16 ?_
  refine ea_aload_n (pc := 17) dX9_goesAt_17 rfl 0 rfl ?_
  refine ea_getR (pc := 18) dX9_goesAt_18 ec_9 (k := 6) (Nat.le_of_ble_eq_true rfl) rfl (Or.inl ew_196) (hs.1 5 (by decide)).1 (hs.1 5 (by decide)).2.1 (hs.2 5 6 rfl) ?_
  refine ea_bipush (pc := 21) dX9_goesAt_21 (v := 10) rfl ?_
  refine ea_iload_n (pc := 23) dX9_goesAt_23 rfl 2 rfl ?_
  refine ea_imul (pc := 24) dX9_goesAt_24 ?_
  refine ea_iload_n (pc := 25) dX9_goesAt_25 rfl 1 rfl ?_
  refine ea_iadd (pc := 26) dX9_goesAt_26 ?_
  have z2 := K
  refine ea_iald (pc := 27) dX9_goesAt_27 (hs.1 11 (by decide)).1 (hs.1 11 (by decide)).2.1 (ea_vpl (hs.1 11 (by decide)).2.2 z2) ?_
  refine ea_iadd (pc := 28) dX9_goesAt_28 ?_
  exact ea_iretE (pc := 29) dX9_goesAt_29 rfl rfl EX rfl
noncomputable def wX10_init (a0 : Nat) (r1 : Option Nat) (h : ea_H) : ea_H := (ea_wr (ea_wr (ea_new (ea_wr (ea_new h 20 12 12) a0 7 (some (ea_n h))) 20 12 12) a0 8 (some (ea_n (ea_wr (ea_new h 20 12 12) a0 7 (some (ea_n h)))))) a0 2 r1)
def okX10_init (a0 : Nat) (r1 : Option Nat) (h : ea_H) : Prop := (a0 < ea_n (ea_new h 20 12 12) ∧ ea_c (ea_new h 20 12 12) a0 = 10) ∧ ((a0 < ea_n (ea_new (ea_wr (ea_new h 20 12 12) a0 7 (some (ea_n h))) 20 12 12) ∧ ea_c (ea_new (ea_wr (ea_new h 20 12 12) a0 7 (some (ea_n h))) 20 12 12) a0 = 10) ∧ ((a0 < ea_n (ea_wr (ea_new (ea_wr (ea_new h 20 12 12) a0 7 (some (ea_n h))) 20 12 12) a0 8 (some (ea_n (ea_wr (ea_new h 20 12 12) a0 7 (some (ea_n h)))))) ∧ ea_c (ea_wr (ea_new (ea_wr (ea_new h 20 12 12) a0 7 (some (ea_n h))) 20 12 12) a0 8 (some (ea_n (ea_wr (ea_new h 20 12 12) a0 7 (some (ea_n h)))))) a0 = 10)))
theorem sX10_init {d : Nat} {a0 : Nat} {r1 : Option Nat} {h : ea_H} (hd : 2 ≤ d) (K : okX10_init a0 r1 h) : ea_Met mX10_init d [vR (some a0), vR r1] h none (wX10_init a0 r1 h) := by
  obtain ⟨Y, EY⟩ : ∃ z, z = wX10_init a0 r1 h := ⟨_, rfl⟩
  rw [← EY]
  unfold wX10_init at EY
  unfold okX10_init at K
  refine ea_enter rfl (Nat.le_of_ble_eq_true rfl) ?_
  refine ea_aload_n (pc := 0) dX10_init_0 rfl 0 rfl ?_
  refine ea_objInit (pc := 1) dX10_init_1 ew_224 ew_134 ew_135 (by omega) (Nat.le_of_ble_eq_true rfl) ?_
  refine ea_aload_n (pc := 4) dX10_init_4 rfl 0 rfl ?_
  refine ea_bipush (pc := 5) dX10_init_5 (v := 12) rfl ?_
  refine ea_newI (pc := 7) (N := 12) dX10_init_7 ew_170 (by decide) rfl (Nat.le_of_ble_eq_true rfl) ?_
  obtain ⟨f2, K⟩ := K
  refine ea_putR (pc := 9) dX10_init_9 ec_10 (k := 7) (Nat.le_of_ble_eq_true rfl) rfl (Or.inr ⟨rfl, rfl, rfl, ew_234⟩) f2.1 f2.2 ?_
  refine ea_aload_n (pc := 12) dX10_init_12 rfl 0 rfl ?_
  refine ea_bipush (pc := 13) dX10_init_13 (v := 12) rfl ?_
  refine ea_newI (pc := 15) (N := 12) dX10_init_15 ew_170 (by decide) rfl (Nat.le_of_ble_eq_true rfl) ?_
  obtain ⟨f5, K⟩ := K
  refine ea_putR (pc := 17) dX10_init_17 ec_10 (k := 8) (Nat.le_of_ble_eq_true rfl) rfl (Or.inr ⟨rfl, rfl, rfl, ew_235⟩) f5.1 f5.2 ?_
  refine ea_aload_n (pc := 20) dX10_init_20 rfl 0 rfl ?_
  refine ea_aload_n (pc := 21) dX10_init_21 rfl 1 rfl ?_
  have f7 := K
  refine ea_putR (pc := 22) dX10_init_22 ec_10 (k := 2) (Nat.le_of_ble_eq_true rfl) rfl (Or.inr ⟨rfl, rfl, rfl, ew_229⟩) f7.1 f7.2 ?_
  exact ea_vretE (pc := 25) dX10_init_25 rfl EY
noncomputable def vX10_minuteOf (y0 : Int64) (h : ea_H) : Int32 := (Int64.toInt32 (y0 >>> (Int32.toInt64 21 &&& 63)))
theorem sX10_minuteOf {d : Nat} {y0 : Int64} {h : ea_H} (hd : 1 ≤ d) : ea_Met mX10_minuteOf d [vJ y0] h (some (vI (vX10_minuteOf y0 h))) h := by
  obtain ⟨X, EX⟩ : ∃ z, z = vX10_minuteOf y0 h := ⟨_, rfl⟩
  rw [← EX]
  unfold vX10_minuteOf at EX
  refine ea_enter rfl (Nat.le_of_ble_eq_true rfl) ?_
  refine ea_lload_n (pc := 0) dX10_minuteOf_0 rfl 0 rfl ?_
  refine ea_bipush (pc := 1) dX10_minuteOf_1 (v := 21) rfl ?_
  refine ea_lshr (pc := 3) dX10_minuteOf_3 ?_
  refine ea_l2i (pc := 4) dX10_minuteOf_4 ?_
  exact ea_iretE (pc := 5) dX10_minuteOf_5 rfl rfl EX rfl
noncomputable def vX10_runsOf (y0 : Int64) (h : ea_H) : Int32 := ((Int64.toInt32 (y0 >>> (Int32.toInt64 13 &&& 63))) &&& (255 : Int32))
theorem sX10_runsOf {d : Nat} {y0 : Int64} {h : ea_H} (hd : 1 ≤ d) : ea_Met mX10_runsOf d [vJ y0] h (some (vI (vX10_runsOf y0 h))) h := by
  obtain ⟨X, EX⟩ : ∃ z, z = vX10_runsOf y0 h := ⟨_, rfl⟩
  rw [← EX]
  unfold vX10_runsOf at EX
  refine ea_enter rfl (Nat.le_of_ble_eq_true rfl) ?_
  refine ea_lload_n (pc := 0) dX10_runsOf_0 rfl 0 rfl ?_
  refine ea_bipush (pc := 1) dX10_runsOf_1 (v := 13) rfl ?_
  refine ea_lshr (pc := 3) dX10_runsOf_3 ?_
  refine ea_l2i (pc := 4) dX10_runsOf_4 ?_
  refine ea_sipush (pc := 5) dX10_runsOf_5 (v := 255) rfl ?_
  refine ea_iand (pc := 8) dX10_runsOf_8 ?_
  exact ea_iretE (pc := 9) dX10_runsOf_9 rfl rfl EX rfl
noncomputable def vX10_trainOf (y0 : Int64) (h : ea_H) : Int32 := ((Int64.toInt32 (y0 >>> (Int32.toInt64 9 &&& 63))) &&& (15 : Int32))
theorem sX10_trainOf {d : Nat} {y0 : Int64} {h : ea_H} (hd : 1 ≤ d) : ea_Met mX10_trainOf d [vJ y0] h (some (vI (vX10_trainOf y0 h))) h := by
  obtain ⟨X, EX⟩ : ∃ z, z = vX10_trainOf y0 h := ⟨_, rfl⟩
  rw [← EX]
  unfold vX10_trainOf at EX
  refine ea_enter rfl (Nat.le_of_ble_eq_true rfl) ?_
  refine ea_lload_n (pc := 0) dX10_trainOf_0 rfl 0 rfl ?_
  refine ea_bipush (pc := 1) dX10_trainOf_1 (v := 9) rfl ?_
  refine ea_lshr (pc := 3) dX10_trainOf_3 ?_
  refine ea_l2i (pc := 4) dX10_trainOf_4 ?_
  refine ea_bipush (pc := 5) dX10_trainOf_5 (v := 15) rfl ?_
  refine ea_iand (pc := 7) dX10_trainOf_7 ?_
  exact ea_iretE (pc := 8) dX10_trainOf_8 rfl rfl EX rfl
noncomputable def vX10_dayOf (y0 : Int64) (h : ea_H) : Int32 := ((Int64.toInt32 (y0 >>> (Int32.toInt64 6 &&& 63))) &&& (7 : Int32))
theorem sX10_dayOf {d : Nat} {y0 : Int64} {h : ea_H} (hd : 1 ≤ d) : ea_Met mX10_dayOf d [vJ y0] h (some (vI (vX10_dayOf y0 h))) h := by
  obtain ⟨X, EX⟩ : ∃ z, z = vX10_dayOf y0 h := ⟨_, rfl⟩
  rw [← EX]
  unfold vX10_dayOf at EX
  refine ea_enter rfl (Nat.le_of_ble_eq_true rfl) ?_
  refine ea_lload_n (pc := 0) dX10_dayOf_0 rfl 0 rfl ?_
  refine ea_bipush (pc := 1) dX10_dayOf_1 (v := 6) rfl ?_
  refine ea_lshr (pc := 3) dX10_dayOf_3 ?_
  refine ea_l2i (pc := 4) dX10_dayOf_4 ?_
  refine ea_bipush (pc := 5) dX10_dayOf_5 (v := 7) rfl ?_
  refine ea_iand (pc := 7) dX10_dayOf_7 ?_
  exact ea_iretE (pc := 8) dX10_dayOf_8 rfl rfl EX rfl
noncomputable def vX10_takenOf (y0 : Int64) (h : ea_H) : Int32 := ((Int64.toInt32 (y0 >>> (Int32.toInt64 3 &&& 63))) &&& (7 : Int32))
theorem sX10_takenOf {d : Nat} {y0 : Int64} {h : ea_H} (hd : 1 ≤ d) : ea_Met mX10_takenOf d [vJ y0] h (some (vI (vX10_takenOf y0 h))) h := by
  obtain ⟨X, EX⟩ : ∃ z, z = vX10_takenOf y0 h := ⟨_, rfl⟩
  rw [← EX]
  unfold vX10_takenOf at EX
  refine ea_enter rfl (Nat.le_of_ble_eq_true rfl) ?_
  refine ea_lload_n (pc := 0) dX10_takenOf_0 rfl 0 rfl ?_
  refine ea_iconst (pc := 1) dX10_takenOf_1 (v := 3) rfl ?_
  refine ea_lshr (pc := 2) dX10_takenOf_2 ?_
  refine ea_l2i (pc := 3) dX10_takenOf_3 ?_
  refine ea_bipush (pc := 4) dX10_takenOf_4 (v := 7) rfl ?_
  refine ea_iand (pc := 6) dX10_takenOf_6 ?_
  exact ea_iretE (pc := 7) dX10_takenOf_7 rfl rfl EX rfl
noncomputable def vX10_leftOf (y0 : Int64) (h : ea_H) : Int32 := ((Int64.toInt32 y0) &&& (7 : Int32))
theorem sX10_leftOf {d : Nat} {y0 : Int64} {h : ea_H} (hd : 1 ≤ d) : ea_Met mX10_leftOf d [vJ y0] h (some (vI (vX10_leftOf y0 h))) h := by
  obtain ⟨X, EX⟩ : ∃ z, z = vX10_leftOf y0 h := ⟨_, rfl⟩
  rw [← EX]
  unfold vX10_leftOf at EX
  refine ea_enter rfl (Nat.le_of_ble_eq_true rfl) ?_
  refine ea_lload_n (pc := 0) dX10_leftOf_0 rfl 0 rfl ?_
  refine ea_l2i (pc := 1) dX10_leftOf_1 ?_
  refine ea_bipush (pc := 2) dX10_leftOf_2 (v := 7) rfl ?_
  refine ea_iand (pc := 4) dX10_leftOf_4 ?_
  exact ea_iretE (pc := 5) dX10_leftOf_5 rfl rfl EX rfl
noncomputable def vX10_keyAt (b0 : Nat) (x1 : Int32) (h : ea_H) : Int32 := (if x1 < (0 : Int32) then (0 : Int32) else (if (ea_i h (b0 + 13) 1) ≤ x1 then (0 : Int32) else (if (ea_r h (b0 + 13) 3) = none then (0 : Int32) else (ea_i h (Option.getD (ea_r h (b0 + 13) 3) 0) (Int32.toNatClampNeg x1)))))
def okX10_keyAt (b0 : Nat) (x1 : Int32) (h : ea_H) : Prop := (x1 < (0 : Int32) → True) ∧ (¬ x1 < (0 : Int32) → ((ea_i h (b0 + 13) 1) ≤ x1 → True) ∧ (¬ (ea_i h (b0 + 13) 1) ≤ x1 → ((ea_r h (b0 + 13) 3) = none → True) ∧ (¬ (ea_r h (b0 + 13) 3) = none → (ea_r h (b0 + 13) 3) = some (Option.getD (ea_r h (b0 + 13) 3) 0) ∧ (((Option.getD (ea_r h (b0 + 13) 3) 0) < ea_n h ∧ ea_c h (Option.getD (ea_r h (b0 + 13) 3) 0) = 20) ∧ (vp_in x1 (ea_l h (Option.getD (ea_r h (b0 + 13) 3) 0)))))))
theorem sX10_keyAt {d : Nat} {b0 : Nat} {x1 : Int32} {h : ea_H} (hd : 1 ≤ d) (hs : ShC b0 h) (K : okX10_keyAt b0 x1 h) : ea_Met mX10_keyAt d [vR (some (b0 + 13)), vI x1] h (some (vI (vX10_keyAt b0 x1 h))) h := by
  obtain ⟨X, EX⟩ : ∃ z, z = vX10_keyAt b0 x1 h := ⟨_, rfl⟩
  rw [← EX]
  unfold vX10_keyAt at EX
  unfold okX10_keyAt at K
  refine ea_enter rfl (Nat.le_of_ble_eq_true rfl) ?_
  refine ea_iload_n (pc := 0) dX10_keyAt_0 rfl 1 rfl ?_
  refine ea_if_lt (pc := 1) (tgt := 28) dX10_keyAt_1 rfl (fun c7 => ?_) (fun c7 => ?_)
  · have EX := EX.trans (if_pos c7)
    refine ea_iconst (pc := 28) dX10_keyAt_28 (v := 0) rfl ?_
    exact ea_iretE (pc := 29) dX10_keyAt_29 rfl rfl EX rfl
  · have EX := EX.trans (if_neg c7)
    have K := K.2 c7
    refine ea_iload_n (pc := 4) dX10_keyAt_4 rfl 1 rfl ?_
    refine ea_aload_n (pc := 5) dX10_keyAt_5 rfl 0 rfl ?_
    refine ea_getI (pc := 6) dX10_keyAt_6 ec_10 (k := 1) (Nat.le_of_ble_eq_true rfl) rfl (Or.inl ew_227) (hs.1 13 (by decide)).1 (hs.1 13 (by decide)).2.1 ?_
    refine ea_icmp_ge (pc := 9) (tgt := 28) dX10_keyAt_9 rfl (fun c6 => ?_) (fun c6 => ?_)
    · have EX := EX.trans (if_pos c6)
      refine ea_iconst (pc := 28) dX10_keyAt_28 (v := 0) rfl ?_
      exact ea_iretE (pc := 29) dX10_keyAt_29 rfl rfl EX rfl
    · have EX := EX.trans (if_neg c6)
      have K := K.2 c6
      refine ea_aload_n (pc := 12) dX10_keyAt_12 rfl 0 rfl ?_
      refine ea_getR (pc := 13) dX10_keyAt_13 ec_10 (k := 3) (Nat.le_of_ble_eq_true rfl) rfl (Or.inl ew_230) (hs.1 13 (by decide)).1 (hs.1 13 (by decide)).2.1 rfl ?_
      refine ea_ifnull (pc := 16) (tgt := 28) dX10_keyAt_16 rfl (fun c4 => ?_) (fun a5 c4 => ?_)
      · have EX := EX.trans (if_pos c4)
        refine ea_iconst (pc := 28) dX10_keyAt_28 (v := 0) rfl ?_
        exact ea_iretE (pc := 29) dX10_keyAt_29 rfl rfl EX rfl
      · have c4n : ¬ (ea_r h (b0 + 13) 3) = none := by rw [c4]; exact fun q => nomatch q
        have EX := EX.trans (if_neg c4n)
        have K := K.2 c4n
        refine ea_aload_n (pc := 19) dX10_keyAt_19 rfl 0 rfl ?_
        refine ea_getR (pc := 20) dX10_keyAt_20 ec_10 (k := 3) (Nat.le_of_ble_eq_true rfl) rfl (Or.inl ew_230) (hs.1 13 (by decide)).1 (hs.1 13 (by decide)).2.1 rfl ?_
        refine ea_iload_n (pc := 23) dX10_keyAt_23 rfl 1 rfl ?_
        obtain ⟨e1, f2, z3⟩ := K
        refine ea_deref1 e1 ?_
        refine ea_iald (pc := 24) dX10_keyAt_24 f2.1 f2.2 z3 ?_
        refine ea_goto (pc := 25) (tgt := 29) dX10_keyAt_25 rfl ?_
        exact ea_iretE (pc := 29) dX10_keyAt_29 rfl rfl EX rfl
noncomputable def vX10_minuteIn (x0 : Int32) (h : ea_H) : Int32 := (x0 >>> ((11 : Int32) &&& 31))
theorem sX10_minuteIn {d : Nat} {x0 : Int32} {h : ea_H} (hd : 1 ≤ d) : ea_Met mX10_minuteIn d [vI x0] h (some (vI (vX10_minuteIn x0 h))) h := by
  obtain ⟨X, EX⟩ : ∃ z, z = vX10_minuteIn x0 h := ⟨_, rfl⟩
  rw [← EX]
  unfold vX10_minuteIn at EX
  refine ea_enter rfl (Nat.le_of_ble_eq_true rfl) ?_
  refine ea_iload_n (pc := 0) dX10_minuteIn_0 rfl 0 rfl ?_
  refine ea_bipush (pc := 1) dX10_minuteIn_1 (v := 11) rfl ?_
  refine ea_ishr (pc := 3) dX10_minuteIn_3 ?_
  exact ea_iretE (pc := 4) dX10_minuteIn_4 rfl rfl EX rfl
noncomputable def vX10_isGoing (x0 : Int32) (h : ea_H) : Int32 := (if (x0 &&& (1024 : Int32)) = (0 : Int32) then (0 : Int32) else (1 : Int32))
theorem bo_vX10_isGoing (x0 : Int32) (h : ea_H) : vX10_isGoing x0 h = 0 ∨ vX10_isGoing x0 h = 1 := (ea_itB (Or.inl rfl) (Or.inr rfl))
theorem sX10_isGoing {d : Nat} {x0 : Int32} {h : ea_H} (hd : 1 ≤ d) : ea_Met mX10_isGoing d [vI x0] h (some (vI (vX10_isGoing x0 h))) h := by
  obtain ⟨X, EX⟩ : ∃ z, z = vX10_isGoing x0 h := ⟨_, rfl⟩
  rw [← EX]
  unfold vX10_isGoing at EX
  refine ea_enter rfl (Nat.le_of_ble_eq_true rfl) ?_
  refine ea_iload_n (pc := 0) dX10_isGoing_0 rfl 0 rfl ?_
  refine ea_sipush (pc := 1) dX10_isGoing_1 (v := 1024) rfl ?_
  refine ea_iand (pc := 4) dX10_isGoing_4 ?_
  refine ea_if_eq (pc := 5) (tgt := 12) dX10_isGoing_5 rfl (fun c1 => ?_) (fun c1 => ?_)
  · have EX := EX.trans (if_pos c1)
    refine ea_iconst (pc := 12) dX10_isGoing_12 (v := 0) rfl ?_
    exact ea_iretE (pc := 13) dX10_isGoing_13 rfl (ea_bn (Or.inl rfl)) EX rfl
  · have EX := EX.trans (if_neg c1)
    refine ea_iconst (pc := 8) dX10_isGoing_8 (v := 1) rfl ?_
    refine ea_goto (pc := 9) (tgt := 13) dX10_isGoing_9 rfl ?_
    exact ea_iretE (pc := 13) dX10_isGoing_13 rfl (ea_bn (Or.inr rfl)) EX rfl
noncomputable def vX10_trainIn (x0 : Int32) (h : ea_H) : Int32 := ((x0 >>> ((6 : Int32) &&& 31)) &&& (15 : Int32))
theorem sX10_trainIn {d : Nat} {x0 : Int32} {h : ea_H} (hd : 1 ≤ d) : ea_Met mX10_trainIn d [vI x0] h (some (vI (vX10_trainIn x0 h))) h := by
  obtain ⟨X, EX⟩ : ∃ z, z = vX10_trainIn x0 h := ⟨_, rfl⟩
  rw [← EX]
  unfold vX10_trainIn at EX
  refine ea_enter rfl (Nat.le_of_ble_eq_true rfl) ?_
  refine ea_iload_n (pc := 0) dX10_trainIn_0 rfl 0 rfl ?_
  refine ea_bipush (pc := 1) dX10_trainIn_1 (v := 6) rfl ?_
  refine ea_ishr (pc := 3) dX10_trainIn_3 ?_
  refine ea_bipush (pc := 4) dX10_trainIn_4 (v := 15) rfl ?_
  refine ea_iand (pc := 6) dX10_trainIn_6 ?_
  exact ea_iretE (pc := 7) dX10_trainIn_7 rfl rfl EX rfl
noncomputable def vX10_dayIn (x0 : Int32) (h : ea_H) : Int32 := ((x0 >>> ((3 : Int32) &&& 31)) &&& (7 : Int32))
theorem sX10_dayIn {d : Nat} {x0 : Int32} {h : ea_H} (hd : 1 ≤ d) : ea_Met mX10_dayIn d [vI x0] h (some (vI (vX10_dayIn x0 h))) h := by
  obtain ⟨X, EX⟩ : ∃ z, z = vX10_dayIn x0 h := ⟨_, rfl⟩
  rw [← EX]
  unfold vX10_dayIn at EX
  refine ea_enter rfl (Nat.le_of_ble_eq_true rfl) ?_
  refine ea_iload_n (pc := 0) dX10_dayIn_0 rfl 0 rfl ?_
  refine ea_iconst (pc := 1) dX10_dayIn_1 (v := 3) rfl ?_
  refine ea_ishr (pc := 2) dX10_dayIn_2 ?_
  refine ea_bipush (pc := 3) dX10_dayIn_3 (v := 7) rfl ?_
  refine ea_iand (pc := 5) dX10_dayIn_5 ?_
  exact ea_iretE (pc := 6) dX10_dayIn_6 rfl rfl EX rfl
noncomputable def vX10_stopIn (x0 : Int32) (h : ea_H) : Int32 := (x0 &&& (7 : Int32))
theorem sX10_stopIn {d : Nat} {x0 : Int32} {h : ea_H} (hd : 1 ≤ d) : ea_Met mX10_stopIn d [vI x0] h (some (vI (vX10_stopIn x0 h))) h := by
  obtain ⟨X, EX⟩ : ∃ z, z = vX10_stopIn x0 h := ⟨_, rfl⟩
  rw [← EX]
  unfold vX10_stopIn at EX
  refine ea_enter rfl (Nat.le_of_ble_eq_true rfl) ?_
  refine ea_iload_n (pc := 0) dX10_stopIn_0 rfl 0 rfl ?_
  refine ea_bipush (pc := 1) dX10_stopIn_1 (v := 7) rfl ?_
  refine ea_iand (pc := 3) dX10_stopIn_3 ?_
  exact ea_iretE (pc := 4) dX10_stopIn_4 rfl rfl EX rfl
noncomputable def vX10_townIn (b0 : Nat) (x1 : Int32) (h : ea_H) : Int32 := (ea_i h (b0 + 7) (Int32.toNatClampNeg (((8 : Int32) * (vX10_trainIn (x1 : Int32) h)) + (vX10_stopIn (x1 : Int32) h))))
def okX10_townIn (b0 : Nat) (x1 : Int32) (h : ea_H) : Prop := vp_in (((8 : Int32) * (vX10_trainIn (x1 : Int32) h)) + (vX10_stopIn (x1 : Int32) h)) 80
theorem sX10_townIn {d : Nat} {b0 : Nat} {x1 : Int32} {h : ea_H} (hd : 2 ≤ d) (hs : ShC b0 h) (K : okX10_townIn b0 x1 h) : ea_Met mX10_townIn d [vR (some (b0 + 13)), vI x1] h (some (vI (vX10_townIn b0 x1 h))) h := by
  obtain ⟨X, EX⟩ : ∃ z, z = vX10_townIn b0 x1 h := ⟨_, rfl⟩
  rw [← EX]
  unfold vX10_townIn at EX
  unfold okX10_townIn at K
  refine ea_enter rfl (Nat.le_of_ble_eq_true rfl) ?_
  refine ea_aload_n (pc := 0) dX10_townIn_0 rfl 0 rfl ?_
  refine ea_getR (pc := 1) dX10_townIn_1 ec_10 (k := 2) (Nat.le_of_ble_eq_true rfl) rfl (Or.inl ew_229) (hs.1 13 (by decide)).1 (hs.1 13 (by decide)).2.1 (hs.2 13 2 rfl) ?_
  refine ea_getR (pc := 4) dX10_townIn_4 ec_9 (k := 2) (Nat.le_of_ble_eq_true rfl) rfl (Or.inl ew_187) (hs.1 5 (by decide)).1 (hs.1 5 (by decide)).2.1 (hs.2 5 2 rfl) ?_
  refine ea_bipush (pc := 7) dX10_townIn_7 (v := 8) rfl ?_
  refine ea_iload_n (pc := 9) dX10_townIn_9 rfl 1 rfl ?_
  refine ea_callS (pc := 10) (d' := d - 1) (As := [vI x1]) (st := [vI 8, vR (some (b0 + 7))]) dX10_townIn_10 kX10_trainIn (sX10_trainIn (d := d - 1) (by omega)) (by omega) rfl (Nat.le_of_ble_eq_true rfl) ew_596 ew_597 ?_
  refine ea_imul (pc := 13) dX10_townIn_13 ?_
  refine ea_iload_n (pc := 14) dX10_townIn_14 rfl 1 rfl ?_
  refine ea_callS (pc := 15) (d' := d - 1) (As := [vI x1]) (st := [vI ((8 : Int32) * (vX10_trainIn (x1 : Int32) h)), vR (some (b0 + 7))]) dX10_townIn_15 kX10_stopIn (sX10_stopIn (d := d - 1) (by omega)) (by omega) rfl (Nat.le_of_ble_eq_true rfl) ew_599 ew_600 ?_
  refine ea_iadd (pc := 18) dX10_townIn_18 ?_
  have z3 := K
  refine ea_iald (pc := 19) dX10_townIn_19 (hs.1 7 (by decide)).1 (hs.1 7 (by decide)).2.1 (ea_vpl (hs.1 7 (by decide)).2.2 z3) ?_
  exact ea_iretE (pc := 20) dX10_townIn_20 rfl rfl EX rfl
noncomputable def vX10_slotIn (x0 : Int32) (h : ea_H) : Int32 := (((8 : Int32) * (((10 : Int32) * (vX10_dayIn (x0 : Int32) h)) + (vX10_trainIn (x0 : Int32) h))) + (vX10_stopIn (x0 : Int32) h))
theorem sX10_slotIn {d : Nat} {x0 : Int32} {h : ea_H} (hd : 2 ≤ d) : ea_Met mX10_slotIn d [vI x0] h (some (vI (vX10_slotIn x0 h))) h := by
  obtain ⟨X, EX⟩ : ∃ z, z = vX10_slotIn x0 h := ⟨_, rfl⟩
  rw [← EX]
  unfold vX10_slotIn at EX
  refine ea_enter rfl (Nat.le_of_ble_eq_true rfl) ?_
  refine ea_bipush (pc := 0) dX10_slotIn_0 (v := 8) rfl ?_
  refine ea_bipush (pc := 2) dX10_slotIn_2 (v := 10) rfl ?_
  refine ea_iload_n (pc := 4) dX10_slotIn_4 rfl 0 rfl ?_
  refine ea_callS (pc := 5) (d' := d - 1) (As := [vI x0]) (st := [vI 10, vI 8]) dX10_slotIn_5 kX10_dayIn (sX10_dayIn (d := d - 1) (by omega)) (by omega) rfl (Nat.le_of_ble_eq_true rfl) ew_608 ew_609 ?_
  refine ea_imul (pc := 8) dX10_slotIn_8 ?_
  refine ea_iload_n (pc := 9) dX10_slotIn_9 rfl 0 rfl ?_
  refine ea_callS (pc := 10) (d' := d - 1) (As := [vI x0]) (st := [vI ((10 : Int32) * (vX10_dayIn (x0 : Int32) h)), vI 8]) dX10_slotIn_10 kX10_trainIn (sX10_trainIn (d := d - 1) (by omega)) (by omega) rfl (Nat.le_of_ble_eq_true rfl) ew_596 ew_597 ?_
  refine ea_iadd (pc := 13) dX10_slotIn_13 ?_
  refine ea_imul (pc := 14) dX10_slotIn_14 ?_
  refine ea_iload_n (pc := 15) dX10_slotIn_15 rfl 0 rfl ?_
  refine ea_callS (pc := 16) (d' := d - 1) (As := [vI x0]) (st := [vI ((8 : Int32) * (((10 : Int32) * (vX10_dayIn (x0 : Int32) h)) + (vX10_trainIn (x0 : Int32) h)))]) dX10_slotIn_16 kX10_stopIn (sX10_stopIn (d := d - 1) (by omega)) (by omega) rfl (Nat.le_of_ble_eq_true rfl) ew_599 ew_600 ?_
  refine ea_iadd (pc := 19) dX10_slotIn_19 ?_
  exact ea_iretE (pc := 20) dX10_slotIn_20 rfl rfl EX rfl
noncomputable def vX10_begins (y0 : Int64) (x2 : Int32) (h : ea_H) : Int32 := (if (lg_cmp y0 (9223372036854775807 : Int64)) = (0 : Int32) then (0 : Int32) else (if (vX10_trainOf (y0 : Int64) h) = (vX10_trainIn (x2 : Int32) h) then (if (vX10_dayOf (y0 : Int64) h) = (vX10_dayIn (x2 : Int32) h) then (if (vX10_takenOf (y0 : Int64) h) = (vX10_stopIn (x2 : Int32) h) then (1 : Int32) else (0 : Int32)) else (0 : Int32)) else (0 : Int32)))
theorem bo_vX10_begins (y0 : Int64) (x2 : Int32) (h : ea_H) : vX10_begins y0 x2 h = 0 ∨ vX10_begins y0 x2 h = 1 := (ea_itB (Or.inl rfl) (ea_itB (ea_itB (ea_itB (Or.inr rfl) (Or.inl rfl)) (Or.inl rfl)) (Or.inl rfl)))
theorem sX10_begins {d : Nat} {y0 : Int64} {x2 : Int32} {h : ea_H} (hd : 2 ≤ d) : ea_Met mX10_begins d [vJ y0, vI x2] h (some (vI (vX10_begins y0 x2 h))) h := by
  obtain ⟨X, EX⟩ : ∃ z, z = vX10_begins y0 x2 h := ⟨_, rfl⟩
  rw [← EX]
  unfold vX10_begins at EX
  refine ea_enter rfl (Nat.le_of_ble_eq_true rfl) ?_
  refine ea_lload_n (pc := 0) dX10_begins_0 rfl 0 rfl ?_
  refine ea_ldc2 (pc := 1) dX10_begins_1 ew_615 ?_
  refine ea_lcmp (pc := 4) dX10_begins_4 ?_
  refine ea_if_eq (pc := 5) (tgt := 45) dX10_begins_5 rfl (fun c10 => ?_) (fun c10 => ?_)
  · have EX := EX.trans (if_pos c10)
    refine ea_iconst (pc := 45) dX10_begins_45 (v := 0) rfl ?_
    exact ea_iretE (pc := 46) dX10_begins_46 rfl (ea_bn (Or.inl rfl)) EX rfl
  · have EX := EX.trans (if_neg c10)
    refine ea_lload_n (pc := 8) dX10_begins_8 rfl 0 rfl ?_
    refine ea_callS (pc := 9) (d' := d - 1) (As := [vJ y0]) (st := []) dX10_begins_9 kX10_trainOf (sX10_trainOf (d := d - 1) (by omega)) (by omega) rfl (Nat.le_of_ble_eq_true rfl) ew_680 ew_681 ?_
    refine ea_iload_n (pc := 12) dX10_begins_12 rfl 1 rfl ?_
    refine ea_callS (pc := 13) (d' := d - 1) (As := [vI x2]) (st := [vI (vX10_trainOf (y0 : Int64) h)]) dX10_begins_13 kX10_trainIn (sX10_trainIn (d := d - 1) (by omega)) (by omega) rfl (Nat.le_of_ble_eq_true rfl) ew_596 ew_597 ?_
    refine ea_icmp_ne (pc := 16) (tgt := 45) dX10_begins_16 rfl (fun c9 => ?_) (fun c9 => ?_)
    · have EX := EX.trans (if_neg c9)
      refine ea_iconst (pc := 45) dX10_begins_45 (v := 0) rfl ?_
      exact ea_iretE (pc := 46) dX10_begins_46 rfl (ea_bn (Or.inl rfl)) EX rfl
    · have EX := EX.trans (if_pos c9)
      refine ea_lload_n (pc := 19) dX10_begins_19 rfl 0 rfl ?_
      refine ea_callS (pc := 20) (d' := d - 1) (As := [vJ y0]) (st := []) dX10_begins_20 kX10_dayOf (sX10_dayOf (d := d - 1) (by omega)) (by omega) rfl (Nat.le_of_ble_eq_true rfl) ew_683 ew_684 ?_
      refine ea_iload_n (pc := 23) dX10_begins_23 rfl 1 rfl ?_
      refine ea_callS (pc := 24) (d' := d - 1) (As := [vI x2]) (st := [vI (vX10_dayOf (y0 : Int64) h)]) dX10_begins_24 kX10_dayIn (sX10_dayIn (d := d - 1) (by omega)) (by omega) rfl (Nat.le_of_ble_eq_true rfl) ew_608 ew_609 ?_
      refine ea_icmp_ne (pc := 27) (tgt := 45) dX10_begins_27 rfl (fun c8 => ?_) (fun c8 => ?_)
      · have EX := EX.trans (if_neg c8)
        refine ea_iconst (pc := 45) dX10_begins_45 (v := 0) rfl ?_
        exact ea_iretE (pc := 46) dX10_begins_46 rfl (ea_bn (Or.inl rfl)) EX rfl
      · have EX := EX.trans (if_pos c8)
        refine ea_lload_n (pc := 30) dX10_begins_30 rfl 0 rfl ?_
        refine ea_callS (pc := 31) (d' := d - 1) (As := [vJ y0]) (st := []) dX10_begins_31 kX10_takenOf (sX10_takenOf (d := d - 1) (by omega)) (by omega) rfl (Nat.le_of_ble_eq_true rfl) ew_686 ew_687 ?_
        refine ea_iload_n (pc := 34) dX10_begins_34 rfl 1 rfl ?_
        refine ea_callS (pc := 35) (d' := d - 1) (As := [vI x2]) (st := [vI (vX10_takenOf (y0 : Int64) h)]) dX10_begins_35 kX10_stopIn (sX10_stopIn (d := d - 1) (by omega)) (by omega) rfl (Nat.le_of_ble_eq_true rfl) ew_599 ew_600 ?_
        refine ea_icmp_ne (pc := 38) (tgt := 45) dX10_begins_38 rfl (fun c7 => ?_) (fun c7 => ?_)
        · have EX := EX.trans (if_neg c7)
          refine ea_iconst (pc := 45) dX10_begins_45 (v := 0) rfl ?_
          exact ea_iretE (pc := 46) dX10_begins_46 rfl (ea_bn (Or.inl rfl)) EX rfl
        · have EX := EX.trans (if_pos c7)
          refine ea_iconst (pc := 41) dX10_begins_41 (v := 1) rfl ?_
          refine ea_goto (pc := 42) (tgt := 46) dX10_begins_42 rfl ?_
          exact ea_iretE (pc := 46) dX10_begins_46 rfl (ea_bn (Or.inr rfl)) EX rfl
noncomputable def vX10_bestAtGoing (b0 : Nat) (x1 : Int32) (x2 : Int32) (x3 : Int32) (h : ea_H) : Int64 := (if (ea_r h (b0 + 13) 4) = none then (9223372036854775807 : Int64) else (if (ea_r h (b0 + 13) 6) = none then (9223372036854775807 : Int64) else (ea_j h (Option.getD (ea_r h (b0 + 13) 4) 0) (Int32.toNatClampNeg (((12 : Int32) * (ea_i h (Option.getD (ea_r h (b0 + 13) 6) 0) (Int32.toNatClampNeg (((8 : Int32) * x1) + x2)))) + x3)))))
def okX10_bestAtGoing (b0 : Nat) (x1 : Int32) (x2 : Int32) (x3 : Int32) (h : ea_H) : Prop := ((ea_r h (b0 + 13) 4) = none → True) ∧ (¬ (ea_r h (b0 + 13) 4) = none → ((ea_r h (b0 + 13) 6) = none → True) ∧ (¬ (ea_r h (b0 + 13) 6) = none → (ea_r h (b0 + 13) 6) = some (Option.getD (ea_r h (b0 + 13) 6) 0) ∧ (((Option.getD (ea_r h (b0 + 13) 6) 0) < ea_n h ∧ ea_c h (Option.getD (ea_r h (b0 + 13) 6) 0) = 20) ∧ (vp_in (((8 : Int32) * x1) + x2) (ea_l h (Option.getD (ea_r h (b0 + 13) 6) 0)) ∧ ((ea_r h (b0 + 13) 4) = some (Option.getD (ea_r h (b0 + 13) 4) 0) ∧ (((Option.getD (ea_r h (b0 + 13) 4) 0) < ea_n h ∧ ea_c h (Option.getD (ea_r h (b0 + 13) 4) 0) = 22) ∧ (vp_in (((12 : Int32) * (ea_i h (Option.getD (ea_r h (b0 + 13) 6) 0) (Int32.toNatClampNeg (((8 : Int32) * x1) + x2)))) + x3) (ea_l h (Option.getD (ea_r h (b0 + 13) 4) 0)))))))))
theorem sX10_bestAtGoing {d : Nat} {b0 : Nat} {x1 : Int32} {x2 : Int32} {x3 : Int32} {h : ea_H} (hd : 1 ≤ d) (hs : ShC b0 h) (K : okX10_bestAtGoing b0 x1 x2 x3 h) : ea_Met mX10_bestAtGoing d [vR (some (b0 + 13)), vI x1, vI x2, vI x3] h (some (vJ (vX10_bestAtGoing b0 x1 x2 x3 h))) h := by
  obtain ⟨X, EX⟩ : ∃ z, z = vX10_bestAtGoing b0 x1 x2 x3 h := ⟨_, rfl⟩
  rw [← EX]
  unfold vX10_bestAtGoing at EX
  unfold okX10_bestAtGoing at K
  refine ea_enter rfl (Nat.le_of_ble_eq_true rfl) ?_
  refine ea_aload_n (pc := 0) dX10_bestAtGoing_0 rfl 0 rfl ?_
  refine ea_getR (pc := 1) dX10_bestAtGoing_1 ec_10 (k := 4) (Nat.le_of_ble_eq_true rfl) rfl (Or.inl ew_231) (hs.1 13 (by decide)).1 (hs.1 13 (by decide)).2.1 rfl ?_
  refine ea_ifnull (pc := 4) (tgt := 14) dX10_bestAtGoing_4 rfl (fun c9 => ?_) (fun a10 c9 => ?_)
  · have EX := EX.trans (if_pos c9)
    refine ea_ldc2 (pc := 14) dX10_bestAtGoing_14 ew_615 ?_
    exact ea_lretE (pc := 17) dX10_bestAtGoing_17 rfl EX rfl
  · have c9n : ¬ (ea_r h (b0 + 13) 4) = none := by rw [c9]; exact fun q => nomatch q
    have EX := EX.trans (if_neg c9n)
    have K := K.2 c9n
    refine ea_aload_n (pc := 7) dX10_bestAtGoing_7 rfl 0 rfl ?_
    refine ea_getR (pc := 8) dX10_bestAtGoing_8 ec_10 (k := 6) (Nat.le_of_ble_eq_true rfl) rfl (Or.inl ew_233) (hs.1 13 (by decide)).1 (hs.1 13 (by decide)).2.1 rfl ?_
    refine ea_ifnonnull (pc := 11) (tgt := 18) dX10_bestAtGoing_11 rfl (fun a8 c7 => ?_) (fun c7 => ?_)
    · have c7n : ¬ (ea_r h (b0 + 13) 6) = none := by rw [c7]; exact fun q => nomatch q
      have EX := EX.trans (if_neg c7n)
      have K := K.2 c7n
      refine ea_aload_n (pc := 18) dX10_bestAtGoing_18 rfl 0 rfl ?_
      refine ea_getR (pc := 19) dX10_bestAtGoing_19 ec_10 (k := 4) (Nat.le_of_ble_eq_true rfl) rfl (Or.inl ew_231) (hs.1 13 (by decide)).1 (hs.1 13 (by decide)).2.1 rfl ?_
      refine ea_bipush (pc := 22) dX10_bestAtGoing_22 (v := 12) rfl ?_
      refine ea_aload_n (pc := 24) dX10_bestAtGoing_24 rfl 0 rfl ?_
      refine ea_getR (pc := 25) dX10_bestAtGoing_25 ec_10 (k := 6) (Nat.le_of_ble_eq_true rfl) rfl (Or.inl ew_233) (hs.1 13 (by decide)).1 (hs.1 13 (by decide)).2.1 rfl ?_
      refine ea_bipush (pc := 28) dX10_bestAtGoing_28 (v := 8) rfl ?_
      refine ea_iload_n (pc := 30) dX10_bestAtGoing_30 rfl 1 rfl ?_
      refine ea_imul (pc := 31) dX10_bestAtGoing_31 ?_
      refine ea_iload_n (pc := 32) dX10_bestAtGoing_32 rfl 2 rfl ?_
      refine ea_iadd (pc := 33) dX10_bestAtGoing_33 ?_
      obtain ⟨e1, f2, z3, K⟩ := K
      refine ea_deref1 e1 ?_
      refine ea_iald (pc := 34) dX10_bestAtGoing_34 f2.1 f2.2 z3 ?_
      refine ea_imul (pc := 35) dX10_bestAtGoing_35 ?_
      refine ea_iload_n (pc := 36) dX10_bestAtGoing_36 rfl 3 rfl ?_
      refine ea_iadd (pc := 37) dX10_bestAtGoing_37 ?_
      obtain ⟨e4, f5, z6⟩ := K
      refine ea_deref1 e4 ?_
      refine ea_lald (pc := 38) dX10_bestAtGoing_38 f5.1 f5.2 z6 ?_
      exact ea_lretE (pc := 39) dX10_bestAtGoing_39 rfl EX rfl
    · have EX := EX.trans (if_pos c7)
      refine ea_ldc2 (pc := 14) dX10_bestAtGoing_14 ew_615 ?_
      exact ea_lretE (pc := 17) dX10_bestAtGoing_17 rfl EX rfl
noncomputable def wX10_addKey (b0 : Nat) (x1 : Int32) (x2 : Int32) (h : ea_H) : ea_H := (if (10079 : Int32) < x1 then h else (if (1120 : Int32) ≤ (ea_i h (b0 + 13) 1) then h else (ea_wi (ea_wi h (Option.getD (ea_r h (b0 + 13) 3) 0) (Int32.toNatClampNeg (ea_i h (b0 + 13) 1)) ((x1 <<< ((11 : Int32) &&& 31)) ||| x2)) (b0 + 13) 1 ((ea_i (ea_wi h (Option.getD (ea_r h (b0 + 13) 3) 0) (Int32.toNatClampNeg (ea_i h (b0 + 13) 1)) ((x1 <<< ((11 : Int32) &&& 31)) ||| x2)) (b0 + 13) 1) + (1 : Int32)))))
def okX10_addKey (b0 : Nat) (x1 : Int32) (x2 : Int32) (h : ea_H) : Prop := ((10079 : Int32) < x1 → True) ∧ (¬ (10079 : Int32) < x1 → ((1120 : Int32) ≤ (ea_i h (b0 + 13) 1) → True) ∧ (¬ (1120 : Int32) ≤ (ea_i h (b0 + 13) 1) → (ea_r h (b0 + 13) 3) = some (Option.getD (ea_r h (b0 + 13) 3) 0) ∧ (((Option.getD (ea_r h (b0 + 13) 3) 0) < ea_n h ∧ ea_c h (Option.getD (ea_r h (b0 + 13) 3) 0) = 20) ∧ (vp_in (ea_i h (b0 + 13) 1) (ea_l h (Option.getD (ea_r h (b0 + 13) 3) 0))))))
theorem shX10_addKey {b0 : Nat} {x1 : Int32} {x2 : Int32} {h : ea_H} (hs : ShC b0 h) : ShC b0 (wX10_addKey b0 x1 x2 h) := (ShC_it hs (ShC_it hs (ShC_wi (ShC_wi hs))))
theorem sX10_addKey {d : Nat} {b0 : Nat} {x1 : Int32} {x2 : Int32} {h : ea_H} (hd : 1 ≤ d) (hs : ShC b0 h) (K : okX10_addKey b0 x1 x2 h) : ea_Met mX10_addKey d [vR (some (b0 + 13)), vI x1, vI x2] h none (wX10_addKey b0 x1 x2 h) := by
  obtain ⟨Y, EY⟩ : ∃ z, z = wX10_addKey b0 x1 x2 h := ⟨_, rfl⟩
  rw [← EY]
  unfold wX10_addKey at EY
  unfold okX10_addKey at K
  refine ea_enter rfl (Nat.le_of_ble_eq_true rfl) ?_
  refine ea_iload_n (pc := 0) dX10_addKey_0 rfl 1 rfl ?_
  refine ea_sipush (pc := 1) dX10_addKey_1 (v := 10079) rfl ?_
  refine ea_icmp_gt (pc := 4) (tgt := 42) dX10_addKey_4 rfl (fun c7 => ?_) (fun c7 => ?_)
  · have EY := EY.trans (if_pos c7)
    exact ea_vretE (pc := 42) dX10_addKey_42 rfl EY
  · have EY := EY.trans (if_neg c7)
    have K := K.2 c7
    refine ea_aload_n (pc := 7) dX10_addKey_7 rfl 0 rfl ?_
    refine ea_getI (pc := 8) dX10_addKey_8 ec_10 (k := 1) (Nat.le_of_ble_eq_true rfl) rfl (Or.inl ew_227) (hs.1 13 (by decide)).1 (hs.1 13 (by decide)).2.1 ?_
    refine ea_sipush (pc := 11) dX10_addKey_11 (v := 1120) rfl ?_
    refine ea_icmp_ge (pc := 14) (tgt := 42) dX10_addKey_14 rfl (fun c6 => ?_) (fun c6 => ?_)
    · have EY := EY.trans (if_pos c6)
      exact ea_vretE (pc := 42) dX10_addKey_42 rfl EY
    · have EY := EY.trans (if_neg c6)
      have K := K.2 c6
      refine ea_aload_n (pc := 17) dX10_addKey_17 rfl 0 rfl ?_
      refine ea_getR (pc := 18) dX10_addKey_18 ec_10 (k := 3) (Nat.le_of_ble_eq_true rfl) rfl (Or.inl ew_230) (hs.1 13 (by decide)).1 (hs.1 13 (by decide)).2.1 rfl ?_
      refine ea_aload_n (pc := 21) dX10_addKey_21 rfl 0 rfl ?_
      refine ea_getI (pc := 22) dX10_addKey_22 ec_10 (k := 1) (Nat.le_of_ble_eq_true rfl) rfl (Or.inl ew_227) (hs.1 13 (by decide)).1 (hs.1 13 (by decide)).2.1 ?_
      refine ea_iload_n (pc := 25) dX10_addKey_25 rfl 1 rfl ?_
      refine ea_bipush (pc := 26) dX10_addKey_26 (v := 11) rfl ?_
      refine ea_ishl (pc := 28) dX10_addKey_28 ?_
      refine ea_iload_n (pc := 29) dX10_addKey_29 rfl 2 rfl ?_
      refine ea_ior (pc := 30) dX10_addKey_30 ?_
      obtain ⟨e1, f2, z3⟩ := K
      refine ea_deref2 e1 ?_
      refine ea_iast (pc := 31) dX10_addKey_31 f2.1 f2.2 z3 ?_
      have hs4 : ShC b0 (ea_wi h (Option.getD (ea_r h (b0 + 13) 3) 0) (Int32.toNatClampNeg (ea_i h (b0 + 13) 1)) ((x1 <<< ((11 : Int32) &&& 31)) ||| x2)) := ShC_wi hs
      refine ea_aload_n (pc := 32) dX10_addKey_32 rfl 0 rfl ?_
      refine ea_dup (pc := 33) dX10_addKey_33 rfl ?_
      refine ea_getI (pc := 34) dX10_addKey_34 ec_10 (k := 1) (Nat.le_of_ble_eq_true rfl) rfl (Or.inl ew_227) (hs4.1 13 (by decide)).1 (hs4.1 13 (by decide)).2.1 ?_
      refine ea_iconst (pc := 37) dX10_addKey_37 (v := 1) rfl ?_
      refine ea_iadd (pc := 38) dX10_addKey_38 ?_
      refine ea_putI (pc := 39) dX10_addKey_39 ec_10 (k := 1) (Nat.le_of_ble_eq_true rfl) rfl (Or.inl ⟨rfl, Or.inl ew_227⟩) rfl rfl (hs4.1 13 (by decide)).1 (hs4.1 13 (by decide)).2.1 ?_
      have hs5 : ShC b0 (ea_wi (ea_wi h (Option.getD (ea_r h (b0 + 13) 3) 0) (Int32.toNatClampNeg (ea_i h (b0 + 13) 1)) ((x1 <<< ((11 : Int32) &&& 31)) ||| x2)) (b0 + 13) 1 ((ea_i (ea_wi h (Option.getD (ea_r h (b0 + 13) 3) 0) (Int32.toNatClampNeg (ea_i h (b0 + 13) 1)) ((x1 <<< ((11 : Int32) &&& 31)) ||| x2)) (b0 + 13) 1) + (1 : Int32))) := ShC_wi hs4
      exact ea_vretE (pc := 42) dX10_addKey_42 rfl EY
noncomputable def vX11_miles (b0 : Nat) (x1 : Int32) (x2 : Int32) (h : ea_H) : Int32 := (if (vX6_has b0 (x1 : Int32) h) = (0 : Int32) then ((-1) : Int32) else (if (vX6_has b0 (x2 : Int32) h) = (0 : Int32) then ((-1) : Int32) else (vX6_between b0 (x1 : Int32) (x2 : Int32) h)))
def okX11_miles (b0 : Nat) (x1 : Int32) (x2 : Int32) (h : ea_H) : Prop := ((vX6_has b0 (x1 : Int32) h) = (0 : Int32) → True) ∧ (¬ (vX6_has b0 (x1 : Int32) h) = (0 : Int32) → ((vX6_has b0 (x2 : Int32) h) = (0 : Int32) → True) ∧ (¬ (vX6_has b0 (x2 : Int32) h) = (0 : Int32) → (okX6_between b0 (x1 : Int32) (x2 : Int32) h)))
theorem sX11_miles {d : Nat} {b0 : Nat} {x1 : Int32} {x2 : Int32} {h : ea_H} (hd : 2 ≤ d) (hs : ShC b0 h) (K : okX11_miles b0 x1 x2 h) : ea_Met mX11_miles d [vR (some (b0 + 0)), vI x1, vI x2] h (some (vI (vX11_miles b0 x1 x2 h))) h := by
  obtain ⟨X, EX⟩ : ∃ z, z = vX11_miles b0 x1 x2 h := ⟨_, rfl⟩
  rw [← EX]
  unfold vX11_miles at EX
  unfold okX11_miles at K
  refine ea_enter rfl (Nat.le_of_ble_eq_true rfl) ?_
  refine ea_aload_n (pc := 0) dX11_miles_0 rfl 0 rfl ?_
  refine ea_getR (pc := 1) dX11_miles_1 ec_11 (k := 0) (Nat.le_of_ble_eq_true rfl) rfl (Or.inl ew_437) (hs.1 0 (by decide)).1 (hs.1 0 (by decide)).2.1 (hs.2 0 0 rfl) ?_
  refine ea_iload_n (pc := 4) dX11_miles_4 rfl 1 rfl ?_
  refine ea_callV (pc := 5) (d' := d - 1) (As := [vI x1]) (st := []) dX11_miles_5 kX6_has (sX6_has (d := d - 1) (by omega) hs) (by omega) rfl (Nat.le_of_ble_eq_true rfl) ew_494 ew_495 ew_496 (ci := 6) rfl (by decide) (hs.1 1 (by decide)).1 (hs.1 1 (by decide)).2.1 ?_
  refine ea_if_eq (pc := 8) (tgt := 22) dX11_miles_8 rfl (fun c5 => ?_) (fun c5 => ?_)
  · have EX := EX.trans (if_pos c5)
    refine ea_iconst (pc := 22) dX11_miles_22 (v := (-1)) rfl ?_
    exact ea_iretE (pc := 23) dX11_miles_23 rfl rfl EX rfl
  · have EX := EX.trans (if_neg c5)
    have K := K.2 c5
    refine ea_aload_n (pc := 11) dX11_miles_11 rfl 0 rfl ?_
    refine ea_getR (pc := 12) dX11_miles_12 ec_11 (k := 0) (Nat.le_of_ble_eq_true rfl) rfl (Or.inl ew_437) (hs.1 0 (by decide)).1 (hs.1 0 (by decide)).2.1 (hs.2 0 0 rfl) ?_
    refine ea_iload_n (pc := 15) dX11_miles_15 rfl 2 rfl ?_
    refine ea_callV (pc := 16) (d' := d - 1) (As := [vI x2]) (st := []) dX11_miles_16 kX6_has (sX6_has (d := d - 1) (by omega) hs) (by omega) rfl (Nat.le_of_ble_eq_true rfl) ew_494 ew_495 ew_496 (ci := 6) rfl (by decide) (hs.1 1 (by decide)).1 (hs.1 1 (by decide)).2.1 ?_
    refine ea_if_ne (pc := 19) (tgt := 24) dX11_miles_19 rfl (fun c4 => ?_) (fun c4 => ?_)
    · have EX := EX.trans (if_neg c4)
      have K := K.2 c4
      refine ea_aload_n (pc := 24) dX11_miles_24 rfl 0 rfl ?_
      refine ea_getR (pc := 25) dX11_miles_25 ec_11 (k := 0) (Nat.le_of_ble_eq_true rfl) rfl (Or.inl ew_437) (hs.1 0 (by decide)).1 (hs.1 0 (by decide)).2.1 (hs.2 0 0 rfl) ?_
      refine ea_iload_n (pc := 28) dX11_miles_28 rfl 1 rfl ?_
      refine ea_iload_n (pc := 29) dX11_miles_29 rfl 2 rfl ?_
      have z3 := K
      refine ea_callV (pc := 30) (d' := d - 1) (As := [vI x1, vI x2]) (st := []) dX11_miles_30 kX6_between (sX6_between (d := d - 1) (by omega) hs z3) (by omega) rfl (Nat.le_of_ble_eq_true rfl) ew_506 ew_507 ew_508 (ci := 6) rfl (by decide) (hs.1 1 (by decide)).1 (hs.1 1 (by decide)).2.1 ?_
      exact ea_iretE (pc := 33) dX11_miles_33 rfl rfl EX rfl
    · have EX := EX.trans (if_pos c4)
      refine ea_iconst (pc := 22) dX11_miles_22 (v := (-1)) rfl ?_
      exact ea_iretE (pc := 23) dX11_miles_23 rfl rfl EX rfl
noncomputable def vX11_stopOf (b0 : Nat) (x1 : Int32) (x2 : Int32) (x3 : Int32) (h : ea_H) : Int32 := (if (vX9_has b0 (x1 : Int32) h) = (0 : Int32) then ((-1) : Int32) else (if x2 = ((-1) : Int32) then (if x3 = (0 : Int32) then (ea_i h (b0 + 6) (Int32.toNatClampNeg x1)) else ((-1) : Int32)) else (if x2 < (0 : Int32) then ((-1) : Int32) else (if x2 < (ea_i h (b0 + 6) (Int32.toNatClampNeg x1)) then (if Int32.toInt x3 = 0 then (ea_i h (b0 + 7) (Int32.toNatClampNeg (((8 : Int32) * x1) + x2))) else (if Int32.toInt x3 = 1 then (ea_i h (b0 + 8) (Int32.toNatClampNeg (((8 : Int32) * x1) + x2))) else (if Int32.toInt x3 = 2 then (ea_i h (b0 + 9) (Int32.toNatClampNeg (((8 : Int32) * x1) + x2))) else (if Int32.toInt x3 = 3 then (if (ea_i h (b0 + 10) (Int32.toNatClampNeg (((8 : Int32) * x1) + x2))) = (0 : Int32) then (0 : Int32) else (1 : Int32)) else ((-1) : Int32))))) else ((-1) : Int32)))))
def okX11_stopOf (b0 : Nat) (x1 : Int32) (x2 : Int32) (x3 : Int32) (h : ea_H) : Prop := ((vX9_has b0 (x1 : Int32) h) = (0 : Int32) → True) ∧ (¬ (vX9_has b0 (x1 : Int32) h) = (0 : Int32) → (x2 = ((-1) : Int32) → (x3 = (0 : Int32) → vp_in x1 10) ∧ (¬ x3 = (0 : Int32) → True)) ∧ (¬ x2 = ((-1) : Int32) → (x2 < (0 : Int32) → True) ∧ (¬ x2 < (0 : Int32) → vp_in x1 10 ∧ ((x2 < (ea_i h (b0 + 6) (Int32.toNatClampNeg x1)) → (Int32.toInt x3 = 0 → vp_in (((8 : Int32) * x1) + x2) 80) ∧ (¬ Int32.toInt x3 = 0 → (Int32.toInt x3 = 1 → vp_in (((8 : Int32) * x1) + x2) 80) ∧ (¬ Int32.toInt x3 = 1 → (Int32.toInt x3 = 2 → vp_in (((8 : Int32) * x1) + x2) 80) ∧ (¬ Int32.toInt x3 = 2 → (Int32.toInt x3 = 3 → vp_in (((8 : Int32) * x1) + x2) 80) ∧ (¬ Int32.toInt x3 = 3 → True))))) ∧ (¬ x2 < (ea_i h (b0 + 6) (Int32.toNatClampNeg x1)) → True)))))
theorem sX11_stopOf {d : Nat} {b0 : Nat} {x1 : Int32} {x2 : Int32} {x3 : Int32} {h : ea_H} (hd : 2 ≤ d) (hs : ShC b0 h) (K : okX11_stopOf b0 x1 x2 x3 h) : ea_Met mX11_stopOf d [vR (some (b0 + 0)), vI x1, vI x2, vI x3] h (some (vI (vX11_stopOf b0 x1 x2 x3 h))) h := by
  obtain ⟨X, EX⟩ : ∃ z, z = vX11_stopOf b0 x1 x2 x3 h := ⟨_, rfl⟩
  rw [← EX]
  unfold vX11_stopOf at EX
  unfold okX11_stopOf at K
  refine ea_enter rfl (Nat.le_of_ble_eq_true rfl) ?_
  refine ea_aload_n (pc := 0) dX11_stopOf_0 rfl 0 rfl ?_
  refine ea_getR (pc := 1) dX11_stopOf_1 ec_11 (k := 1) (Nat.le_of_ble_eq_true rfl) rfl (Or.inl ew_438) (hs.1 0 (by decide)).1 (hs.1 0 (by decide)).2.1 (hs.2 0 1 rfl) ?_
  refine ea_iload_n (pc := 4) dX11_stopOf_4 rfl 1 rfl ?_
  refine ea_callV (pc := 5) (d' := d - 1) (As := [vI x1]) (st := []) dX11_stopOf_5 kX9_has (sX9_has (d := d - 1) (by omega) hs) (by omega) rfl (Nat.le_of_ble_eq_true rfl) ew_518 ew_519 ew_520 (ci := 9) rfl (by decide) (hs.1 5 (by decide)).1 (hs.1 5 (by decide)).2.1 ?_
  refine ea_if_ne (pc := 8) (tgt := 13) dX11_stopOf_8 rfl (fun c13 => ?_) (fun c13 => ?_)
  · have EX := EX.trans (if_neg c13)
    have K := K.2 c13
    refine ea_iload_n (pc := 13) dX11_stopOf_13 rfl 2 rfl ?_
    refine ea_iconst (pc := 14) dX11_stopOf_14 (v := (-1)) rfl ?_
    refine ea_icmp_ne (pc := 15) (tgt := 36) dX11_stopOf_15 rfl (fun c12 => ?_) (fun c12 => ?_)
    · have EX := EX.trans (if_neg c12)
      have K := K.2 c12
      refine ea_iload_n (pc := 36) dX11_stopOf_36 rfl 2 rfl ?_
      refine ea_if_lt (pc := 37) (tgt := 53) dX11_stopOf_37 rfl (fun c9 => ?_) (fun c9 => ?_)
      · have EX := EX.trans (if_pos c9)
        refine ea_iconst (pc := 53) dX11_stopOf_53 (v := (-1)) rfl ?_
        exact ea_iretE (pc := 54) dX11_stopOf_54 rfl rfl EX rfl
      · have EX := EX.trans (if_neg c9)
        have K := K.2 c9
        refine ea_iload_n (pc := 40) dX11_stopOf_40 rfl 2 rfl ?_
        refine ea_aload_n (pc := 41) dX11_stopOf_41 rfl 0 rfl ?_
        refine ea_getR (pc := 42) dX11_stopOf_42 ec_11 (k := 1) (Nat.le_of_ble_eq_true rfl) rfl (Or.inl ew_438) (hs.1 0 (by decide)).1 (hs.1 0 (by decide)).2.1 (hs.2 0 1 rfl) ?_
        refine ea_getR (pc := 45) dX11_stopOf_45 ec_9 (k := 1) (Nat.le_of_ble_eq_true rfl) rfl (Or.inl ew_181) (hs.1 5 (by decide)).1 (hs.1 5 (by decide)).2.1 (hs.2 5 1 rfl) ?_
        refine ea_iload_n (pc := 48) dX11_stopOf_48 rfl 1 rfl ?_
        obtain ⟨z2, K⟩ := K
        refine ea_iald (pc := 49) dX11_stopOf_49 (hs.1 6 (by decide)).1 (hs.1 6 (by decide)).2.1 (ea_vpl (hs.1 6 (by decide)).2.2 z2) ?_
        refine ea_icmp_lt (pc := 50) (tgt := 55) dX11_stopOf_50 rfl (fun c8 => ?_) (fun c8 => ?_)
        · have EX := EX.trans (if_pos c8)
          have K := K.1 c8
          refine ea_bipush (pc := 55) dX11_stopOf_55 (v := 8) rfl ?_
          refine ea_iload_n (pc := 57) dX11_stopOf_57 rfl 1 rfl ?_
          refine ea_imul (pc := 58) dX11_stopOf_58 ?_
          refine ea_iload_n (pc := 59) dX11_stopOf_59 rfl 2 rfl ?_
          refine ea_iadd (pc := 60) dX11_stopOf_60 ?_
          refine ea_istore (pc := 61) (lv' := [(0, vR (some (b0 + 0))), (3, vI x3), (4, vI (((8 : Int32) * x1) + x2))]) dX11_stopOf_61 (Nat.le_of_ble_eq_true rfl) [1, 4, 0] rfl ?_
          refine ea_iload_n (pc := 63) dX11_stopOf_63 rfl 1 rfl ?_
          by_cases qc64_0 : Int32.toInt x3 = 0
          · have EX := EX.trans (if_pos qc64_0)
            have K := K.1 qc64_0
            refine ea_tswIn (pc := 64) (tgt := 96) dX11_stopOf_64 (by rw [qc64_0]; decide) (by rw [qc64_0]; decide) (by rw [qc64_0]; rfl) rfl ?_
            refine ea_aload_n (pc := 96) dX11_stopOf_96 rfl 0 rfl ?_
            refine ea_getR (pc := 97) dX11_stopOf_97 ec_11 (k := 1) (Nat.le_of_ble_eq_true rfl) rfl (Or.inl ew_438) (hs.1 0 (by decide)).1 (hs.1 0 (by decide)).2.1 (hs.2 0 1 rfl) ?_
            refine ea_getR (pc := 100) dX11_stopOf_100 ec_9 (k := 2) (Nat.le_of_ble_eq_true rfl) rfl (Or.inl ew_185) (hs.1 5 (by decide)).1 (hs.1 5 (by decide)).2.1 (hs.2 5 2 rfl) ?_
            refine ea_iload (pc := 103) dX11_stopOf_103 2 rfl ?_
            have z3 := K
            refine ea_iald (pc := 105) dX11_stopOf_105 (hs.1 7 (by decide)).1 (hs.1 7 (by decide)).2.1 (ea_vpl (hs.1 7 (by decide)).2.2 z3) ?_
            exact ea_iretE (pc := 106) dX11_stopOf_106 rfl rfl EX rfl
          have EX := EX.trans (if_neg qc64_0)
          have K := K.2 qc64_0
          by_cases qc64_1 : Int32.toInt x3 = 1
          · have EX := EX.trans (if_pos qc64_1)
            have K := K.1 qc64_1
            refine ea_tswIn (pc := 64) (tgt := 107) dX11_stopOf_64 (by rw [qc64_1]; decide) (by rw [qc64_1]; decide) (by rw [qc64_1]; rfl) rfl ?_
            refine ea_aload_n (pc := 107) dX11_stopOf_107 rfl 0 rfl ?_
            refine ea_getR (pc := 108) dX11_stopOf_108 ec_11 (k := 1) (Nat.le_of_ble_eq_true rfl) rfl (Or.inl ew_438) (hs.1 0 (by decide)).1 (hs.1 0 (by decide)).2.1 (hs.2 0 1 rfl) ?_
            refine ea_getR (pc := 111) dX11_stopOf_111 ec_9 (k := 3) (Nat.le_of_ble_eq_true rfl) rfl (Or.inl ew_189) (hs.1 5 (by decide)).1 (hs.1 5 (by decide)).2.1 (hs.2 5 3 rfl) ?_
            refine ea_iload (pc := 114) dX11_stopOf_114 2 rfl ?_
            have z4 := K
            refine ea_iald (pc := 116) dX11_stopOf_116 (hs.1 8 (by decide)).1 (hs.1 8 (by decide)).2.1 (ea_vpl (hs.1 8 (by decide)).2.2 z4) ?_
            exact ea_iretE (pc := 117) dX11_stopOf_117 rfl rfl EX rfl
          have EX := EX.trans (if_neg qc64_1)
          have K := K.2 qc64_1
          by_cases qc64_2 : Int32.toInt x3 = 2
          · have EX := EX.trans (if_pos qc64_2)
            have K := K.1 qc64_2
            refine ea_tswIn (pc := 64) (tgt := 118) dX11_stopOf_64 (by rw [qc64_2]; decide) (by rw [qc64_2]; decide) (by rw [qc64_2]; rfl) rfl ?_
            refine ea_aload_n (pc := 118) dX11_stopOf_118 rfl 0 rfl ?_
            refine ea_getR (pc := 119) dX11_stopOf_119 ec_11 (k := 1) (Nat.le_of_ble_eq_true rfl) rfl (Or.inl ew_438) (hs.1 0 (by decide)).1 (hs.1 0 (by decide)).2.1 (hs.2 0 1 rfl) ?_
            refine ea_getR (pc := 122) dX11_stopOf_122 ec_9 (k := 4) (Nat.le_of_ble_eq_true rfl) rfl (Or.inl ew_192) (hs.1 5 (by decide)).1 (hs.1 5 (by decide)).2.1 (hs.2 5 4 rfl) ?_
            refine ea_iload (pc := 125) dX11_stopOf_125 2 rfl ?_
            have z5 := K
            refine ea_iald (pc := 127) dX11_stopOf_127 (hs.1 9 (by decide)).1 (hs.1 9 (by decide)).2.1 (ea_vpl (hs.1 9 (by decide)).2.2 z5) ?_
            exact ea_iretE (pc := 128) dX11_stopOf_128 rfl rfl EX rfl
          have EX := EX.trans (if_neg qc64_2)
          have K := K.2 qc64_2
          by_cases qc64_3 : Int32.toInt x3 = 3
          · have EX := EX.trans (if_pos qc64_3)
            have K := K.1 qc64_3
            refine ea_tswIn (pc := 64) (tgt := 129) dX11_stopOf_64 (by rw [qc64_3]; decide) (by rw [qc64_3]; decide) (by rw [qc64_3]; rfl) rfl ?_
            refine ea_aload_n (pc := 129) dX11_stopOf_129 rfl 0 rfl ?_
            refine ea_getR (pc := 130) dX11_stopOf_130 ec_11 (k := 1) (Nat.le_of_ble_eq_true rfl) rfl (Or.inl ew_438) (hs.1 0 (by decide)).1 (hs.1 0 (by decide)).2.1 (hs.2 0 1 rfl) ?_
            refine ea_getR (pc := 133) dX11_stopOf_133 ec_9 (k := 5) (Nat.le_of_ble_eq_true rfl) rfl (Or.inl ew_195) (hs.1 5 (by decide)).1 (hs.1 5 (by decide)).2.1 (hs.2 5 5 rfl) ?_
            refine ea_iload (pc := 136) dX11_stopOf_136 2 rfl ?_
            have z6 := K
            refine ea_zald (pc := 138) dX11_stopOf_138 (hs.1 10 (by decide)).1 (hs.1 10 (by decide)).2.1 (ea_vpl (hs.1 10 (by decide)).2.2 z6) ?_
            refine ea_if_eq (pc := 139) (tgt := 146) dX11_stopOf_139 rfl (fun c7 => ?_) (fun c7 => ?_)
            · have EX := EX.trans (if_pos c7)
              refine ea_iconst (pc := 146) dX11_stopOf_146 (v := 0) rfl ?_
              exact ea_iretE (pc := 147) dX11_stopOf_147 rfl rfl EX rfl
            · have EX := EX.trans (if_neg c7)
              refine ea_iconst (pc := 142) dX11_stopOf_142 (v := 1) rfl ?_
              refine ea_goto (pc := 143) (tgt := 147) dX11_stopOf_143 rfl ?_
              exact ea_iretE (pc := 147) dX11_stopOf_147 rfl rfl EX rfl
          have EX := EX.trans (if_neg qc64_3)
          have K := K.2 qc64_3
          refine ea_tswOut (pc := 64) (tgt := 148) dX11_stopOf_64 (ec_sw_0_3 qc64_0 qc64_1 qc64_2 qc64_3) rfl ?_
          refine ea_iconst (pc := 148) dX11_stopOf_148 (v := (-1)) rfl ?_
          exact ea_iretE (pc := 149) dX11_stopOf_149 rfl rfl EX rfl
        · have EX := EX.trans (if_neg c8)
          refine ea_iconst (pc := 53) dX11_stopOf_53 (v := (-1)) rfl ?_
          exact ea_iretE (pc := 54) dX11_stopOf_54 rfl rfl EX rfl
    · have EX := EX.trans (if_pos c12)
      have K := K.1 c12
      refine ea_iload_n (pc := 18) dX11_stopOf_18 rfl 3 rfl ?_
      refine ea_if_ne (pc := 19) (tgt := 34) dX11_stopOf_19 rfl (fun c11 => ?_) (fun c11 => ?_)
      · have EX := EX.trans (if_neg c11)
        refine ea_iconst (pc := 34) dX11_stopOf_34 (v := (-1)) rfl ?_
        exact ea_iretE (pc := 35) dX11_stopOf_35 rfl rfl EX rfl
      · have EX := EX.trans (if_pos c11)
        have K := K.1 c11
        refine ea_aload_n (pc := 22) dX11_stopOf_22 rfl 0 rfl ?_
        refine ea_getR (pc := 23) dX11_stopOf_23 ec_11 (k := 1) (Nat.le_of_ble_eq_true rfl) rfl (Or.inl ew_438) (hs.1 0 (by decide)).1 (hs.1 0 (by decide)).2.1 (hs.2 0 1 rfl) ?_
        refine ea_getR (pc := 26) dX11_stopOf_26 ec_9 (k := 1) (Nat.le_of_ble_eq_true rfl) rfl (Or.inl ew_181) (hs.1 5 (by decide)).1 (hs.1 5 (by decide)).2.1 (hs.2 5 1 rfl) ?_
        refine ea_iload_n (pc := 29) dX11_stopOf_29 rfl 1 rfl ?_
        have z10 := K
        refine ea_iald (pc := 30) dX11_stopOf_30 (hs.1 6 (by decide)).1 (hs.1 6 (by decide)).2.1 (ea_vpl (hs.1 6 (by decide)).2.2 z10) ?_
        refine ea_goto (pc := 31) (tgt := 35) dX11_stopOf_31 rfl ?_
        exact ea_iretE (pc := 35) dX11_stopOf_35 rfl rfl EX rfl
  · have EX := EX.trans (if_pos c13)
    refine ea_iconst (pc := 11) dX11_stopOf_11 (v := (-1)) rfl ?_
    exact ea_iretE (pc := 12) dX11_stopOf_12 rfl rfl EX rfl
noncomputable def vX11_miss (b0 : Nat) (x1 : Int32) (x2 : Int32) (x3 : Int32) (h : ea_H) : Int32 := (if (vX9_hasRun b0 (x1 : Int32) (x2 : Int32) h) = (0 : Int32) then (0 : Int32) else (if x3 < (0 : Int32) then (0 : Int32) else (if x3 < ((ea_i h (b0 + 6) (Int32.toNatClampNeg x1)) - (1 : Int32)) then (if (ea_i h (b0 + 10) (Int32.toNatClampNeg (((8 : Int32) * x1) + x3))) = (0 : Int32) then (0 : Int32) else (if (ea_i h (b0 + 12) (Int32.toNatClampNeg (((8 : Int32) * (((10 : Int32) * x2) + x1)) + x3))) = (0 : Int32) then (if (ea_i h (b0 + 0) 11) < (vX9_comesAt b0 (x1 : Int32) (x2 : Int32) (x3 : Int32) h) then (1 : Int32) else (0 : Int32)) else (0 : Int32))) else (0 : Int32))))
noncomputable def wX11_miss (b0 : Nat) (x1 : Int32) (x2 : Int32) (x3 : Int32) (h : ea_H) : ea_H := (if (vX9_hasRun b0 (x1 : Int32) (x2 : Int32) h) = (0 : Int32) then h else (if x3 < (0 : Int32) then h else (if x3 < ((ea_i h (b0 + 6) (Int32.toNatClampNeg x1)) - (1 : Int32)) then (if (ea_i h (b0 + 10) (Int32.toNatClampNeg (((8 : Int32) * x1) + x3))) = (0 : Int32) then h else (if (ea_i h (b0 + 12) (Int32.toNatClampNeg (((8 : Int32) * (((10 : Int32) * x2) + x1)) + x3))) = (0 : Int32) then (if (ea_i h (b0 + 0) 11) < (vX9_comesAt b0 (x1 : Int32) (x2 : Int32) (x3 : Int32) h) then (ea_wi (ea_wi h (b0 + 12) (Int32.toNatClampNeg (((8 : Int32) * (((10 : Int32) * x2) + x1)) + x3)) 1) (b0 + 0) 12 0) else h) else h)) else h)))
def okX11_miss (b0 : Nat) (x1 : Int32) (x2 : Int32) (x3 : Int32) (h : ea_H) : Prop := ((vX9_hasRun b0 (x1 : Int32) (x2 : Int32) h) = (0 : Int32) → True) ∧ (¬ (vX9_hasRun b0 (x1 : Int32) (x2 : Int32) h) = (0 : Int32) → (x3 < (0 : Int32) → True) ∧ (¬ x3 < (0 : Int32) → vp_in x1 10 ∧ ((x3 < ((ea_i h (b0 + 6) (Int32.toNatClampNeg x1)) - (1 : Int32)) → vp_in (((8 : Int32) * x1) + x3) 80 ∧ (((ea_i h (b0 + 10) (Int32.toNatClampNeg (((8 : Int32) * x1) + x3))) = (0 : Int32) → True) ∧ (¬ (ea_i h (b0 + 10) (Int32.toNatClampNeg (((8 : Int32) * x1) + x3))) = (0 : Int32) → vp_in (((8 : Int32) * (((10 : Int32) * x2) + x1)) + x3) 560 ∧ (((ea_i h (b0 + 12) (Int32.toNatClampNeg (((8 : Int32) * (((10 : Int32) * x2) + x1)) + x3))) = (0 : Int32) → (okX9_comesAt b0 (x1 : Int32) (x2 : Int32) (x3 : Int32) h) ∧ (((ea_i h (b0 + 0) 11) < (vX9_comesAt b0 (x1 : Int32) (x2 : Int32) (x3 : Int32) h) → vp_in (((8 : Int32) * (((10 : Int32) * x2) + x1)) + x3) 560) ∧ (¬ (ea_i h (b0 + 0) 11) < (vX9_comesAt b0 (x1 : Int32) (x2 : Int32) (x3 : Int32) h) → True))) ∧ (¬ (ea_i h (b0 + 12) (Int32.toNatClampNeg (((8 : Int32) * (((10 : Int32) * x2) + x1)) + x3))) = (0 : Int32) → True))))) ∧ (¬ x3 < ((ea_i h (b0 + 6) (Int32.toNatClampNeg x1)) - (1 : Int32)) → True))))
theorem bo_vX11_miss (b0 : Nat) (x1 : Int32) (x2 : Int32) (x3 : Int32) (h : ea_H) : vX11_miss b0 x1 x2 x3 h = 0 ∨ vX11_miss b0 x1 x2 x3 h = 1 := (ea_itB (Or.inl rfl) (ea_itB (Or.inl rfl) (ea_itB (ea_itB (Or.inl rfl) (ea_itB (ea_itB (Or.inr rfl) (Or.inl rfl)) (Or.inl rfl))) (Or.inl rfl))))
theorem shX11_miss {b0 : Nat} {x1 : Int32} {x2 : Int32} {x3 : Int32} {h : ea_H} (hs : ShC b0 h) : ShC b0 (wX11_miss b0 x1 x2 x3 h) := (ShC_it hs (ShC_it hs (ShC_it (ShC_it hs (ShC_it (ShC_it (ShC_wi (ShC_wi hs)) hs) hs)) hs)))
theorem sX11_miss {d : Nat} {b0 : Nat} {x1 : Int32} {x2 : Int32} {x3 : Int32} {h : ea_H} (hd : 3 ≤ d) (hs : ShC b0 h) (K : okX11_miss b0 x1 x2 x3 h) : ea_Met mX11_miss d [vR (some (b0 + 0)), vI x1, vI x2, vI x3] h (some (vI (vX11_miss b0 x1 x2 x3 h))) (wX11_miss b0 x1 x2 x3 h) := by
  obtain ⟨X, EX⟩ : ∃ z, z = vX11_miss b0 x1 x2 x3 h := ⟨_, rfl⟩
  rw [← EX]
  unfold vX11_miss at EX
  obtain ⟨Y, EY⟩ : ∃ z, z = wX11_miss b0 x1 x2 x3 h := ⟨_, rfl⟩
  rw [← EY]
  unfold wX11_miss at EY
  unfold okX11_miss at K
  refine ea_enter rfl (Nat.le_of_ble_eq_true rfl) ?_
  refine ea_aload_n (pc := 0) dX11_miss_0 rfl 0 rfl ?_
  refine ea_getR (pc := 1) dX11_miss_1 ec_11 (k := 1) (Nat.le_of_ble_eq_true rfl) rfl (Or.inl ew_438) (hs.1 0 (by decide)).1 (hs.1 0 (by decide)).2.1 (hs.2 0 1 rfl) ?_
  refine ea_iload_n (pc := 4) dX11_miss_4 rfl 1 rfl ?_
  refine ea_iload_n (pc := 5) dX11_miss_5 rfl 2 rfl ?_
  refine ea_callV (pc := 6) (d' := d - 1) (As := [vI x1, vI x2]) (st := []) dX11_miss_6 kX9_hasRun (sX9_hasRun (d := d - 1) (by omega) hs) (by omega) rfl (Nat.le_of_ble_eq_true rfl) ew_542 ew_543 ew_544 (ci := 9) rfl (by decide) (hs.1 5 (by decide)).1 (hs.1 5 (by decide)).2.1 ?_
  refine ea_if_eq (pc := 9) (tgt := 31) dX11_miss_9 rfl (fun c14 => ?_) (fun c14 => ?_)
  · have EX := EX.trans (if_pos c14)
    have EY := EY.trans (if_pos c14)
    refine ea_iconst (pc := 31) dX11_miss_31 (v := 0) rfl ?_
    exact ea_iretE (pc := 32) dX11_miss_32 rfl (ea_bn (Or.inl rfl)) EX EY
  · have EX := EX.trans (if_neg c14)
    have EY := EY.trans (if_neg c14)
    have K := K.2 c14
    refine ea_iload_n (pc := 12) dX11_miss_12 rfl 3 rfl ?_
    refine ea_if_lt (pc := 13) (tgt := 31) dX11_miss_13 rfl (fun c13 => ?_) (fun c13 => ?_)
    · have EX := EX.trans (if_pos c13)
      have EY := EY.trans (if_pos c13)
      refine ea_iconst (pc := 31) dX11_miss_31 (v := 0) rfl ?_
      exact ea_iretE (pc := 32) dX11_miss_32 rfl (ea_bn (Or.inl rfl)) EX EY
    · have EX := EX.trans (if_neg c13)
      have EY := EY.trans (if_neg c13)
      have K := K.2 c13
      refine ea_iload_n (pc := 16) dX11_miss_16 rfl 3 rfl ?_
      refine ea_aload_n (pc := 17) dX11_miss_17 rfl 0 rfl ?_
      refine ea_getR (pc := 18) dX11_miss_18 ec_11 (k := 1) (Nat.le_of_ble_eq_true rfl) rfl (Or.inl ew_438) (hs.1 0 (by decide)).1 (hs.1 0 (by decide)).2.1 (hs.2 0 1 rfl) ?_
      refine ea_getR (pc := 21) dX11_miss_21 ec_9 (k := 1) (Nat.le_of_ble_eq_true rfl) rfl (Or.inl ew_181) (hs.1 5 (by decide)).1 (hs.1 5 (by decide)).2.1 (hs.2 5 1 rfl) ?_
      refine ea_iload_n (pc := 24) dX11_miss_24 rfl 1 rfl ?_
      obtain ⟨z2, K⟩ := K
      refine ea_iald (pc := 25) dX11_miss_25 (hs.1 6 (by decide)).1 (hs.1 6 (by decide)).2.1 (ea_vpl (hs.1 6 (by decide)).2.2 z2) ?_
      refine ea_iconst (pc := 26) dX11_miss_26 (v := 1) rfl ?_
      refine ea_isub (pc := 27) dX11_miss_27 ?_
      refine ea_icmp_lt (pc := 28) (tgt := 33) dX11_miss_28 rfl (fun c12 => ?_) (fun c12 => ?_)
      · have EX := EX.trans (if_pos c12)
        have EY := EY.trans (if_pos c12)
        have K := K.1 c12
        refine ea_bipush (pc := 33) dX11_miss_33 (v := 8) rfl ?_
        refine ea_bipush (pc := 35) dX11_miss_35 (v := 10) rfl ?_
        refine ea_iload_n (pc := 37) dX11_miss_37 rfl 2 rfl ?_
        refine ea_imul (pc := 38) dX11_miss_38 ?_
        refine ea_iload_n (pc := 39) dX11_miss_39 rfl 1 rfl ?_
        refine ea_iadd (pc := 40) dX11_miss_40 ?_
        refine ea_imul (pc := 41) dX11_miss_41 ?_
        refine ea_iload_n (pc := 42) dX11_miss_42 rfl 3 rfl ?_
        refine ea_iadd (pc := 43) dX11_miss_43 ?_
        refine ea_istore (pc := 44) (lv' := [(0, vR (some (b0 + 0))), (1, vI x1), (2, vI x2), (3, vI x3), (4, vI (((8 : Int32) * (((10 : Int32) * x2) + x1)) + x3))]) dX11_miss_44 (Nat.le_of_ble_eq_true rfl) [1, 2, 3, 4, 0] rfl ?_
        refine ea_aload_n (pc := 46) dX11_miss_46 rfl 0 rfl ?_
        refine ea_getR (pc := 47) dX11_miss_47 ec_11 (k := 1) (Nat.le_of_ble_eq_true rfl) rfl (Or.inl ew_438) (hs.1 0 (by decide)).1 (hs.1 0 (by decide)).2.1 (hs.2 0 1 rfl) ?_
        refine ea_getR (pc := 50) dX11_miss_50 ec_9 (k := 5) (Nat.le_of_ble_eq_true rfl) rfl (Or.inl ew_195) (hs.1 5 (by decide)).1 (hs.1 5 (by decide)).2.1 (hs.2 5 5 rfl) ?_
        refine ea_bipush (pc := 53) dX11_miss_53 (v := 8) rfl ?_
        refine ea_iload_n (pc := 55) dX11_miss_55 rfl 1 rfl ?_
        refine ea_imul (pc := 56) dX11_miss_56 ?_
        refine ea_iload_n (pc := 57) dX11_miss_57 rfl 3 rfl ?_
        refine ea_iadd (pc := 58) dX11_miss_58 ?_
        obtain ⟨z3, K⟩ := K
        refine ea_zald (pc := 59) dX11_miss_59 (hs.1 10 (by decide)).1 (hs.1 10 (by decide)).2.1 (ea_vpl (hs.1 10 (by decide)).2.2 z3) ?_
        refine ea_if_eq (pc := 60) (tgt := 93) dX11_miss_60 rfl (fun c11 => ?_) (fun c11 => ?_)
        · have EX := EX.trans (if_pos c11)
          have EY := EY.trans (if_pos c11)
          refine ea_iconst (pc := 93) dX11_miss_93 (v := 0) rfl ?_
          exact ea_iretE (pc := 94) dX11_miss_94 rfl (ea_bn (Or.inl rfl)) EX EY
        · have EX := EX.trans (if_neg c11)
          have EY := EY.trans (if_neg c11)
          have K := K.2 c11
          refine ea_aload_n (pc := 63) dX11_miss_63 rfl 0 rfl ?_
          refine ea_getR (pc := 64) dX11_miss_64 ec_11 (k := 1) (Nat.le_of_ble_eq_true rfl) rfl (Or.inl ew_438) (hs.1 0 (by decide)).1 (hs.1 0 (by decide)).2.1 (hs.2 0 1 rfl) ?_
          refine ea_getR (pc := 67) dX11_miss_67 ec_9 (k := 7) (Nat.le_of_ble_eq_true rfl) rfl (Or.inl ew_199) (hs.1 5 (by decide)).1 (hs.1 5 (by decide)).2.1 (hs.2 5 7 rfl) ?_
          refine ea_iload (pc := 70) dX11_miss_70 4 rfl ?_
          obtain ⟨z4, K⟩ := K
          refine ea_zald (pc := 72) dX11_miss_72 (hs.1 12 (by decide)).1 (hs.1 12 (by decide)).2.1 (ea_vpl (hs.1 12 (by decide)).2.2 z4) ?_
          refine ea_if_ne (pc := 73) (tgt := 93) dX11_miss_73 rfl (fun c10 => ?_) (fun c10 => ?_)
          · have EX := EX.trans (if_neg c10)
            have EY := EY.trans (if_neg c10)
            refine ea_iconst (pc := 93) dX11_miss_93 (v := 0) rfl ?_
            exact ea_iretE (pc := 94) dX11_miss_94 rfl (ea_bn (Or.inl rfl)) EX EY
          · have EX := EX.trans (if_pos c10)
            have EY := EY.trans (if_pos c10)
            have K := K.1 c10
            refine ea_aload_n (pc := 76) dX11_miss_76 rfl 0 rfl ?_
            refine ea_getR (pc := 77) dX11_miss_77 ec_11 (k := 1) (Nat.le_of_ble_eq_true rfl) rfl (Or.inl ew_438) (hs.1 0 (by decide)).1 (hs.1 0 (by decide)).2.1 (hs.2 0 1 rfl) ?_
            refine ea_iload_n (pc := 80) dX11_miss_80 rfl 1 rfl ?_
            refine ea_iload_n (pc := 81) dX11_miss_81 rfl 2 rfl ?_
            refine ea_iload_n (pc := 82) dX11_miss_82 rfl 3 rfl ?_
            obtain ⟨z5, K⟩ := K
            refine ea_callV (pc := 83) (d' := d - 1) (As := [vI x1, vI x2, vI x3]) (st := []) dX11_miss_83 kX9_comesAt (sX9_comesAt (d := d - 1) (by omega) hs z5) (by omega) rfl (Nat.le_of_ble_eq_true rfl) ew_551 ew_552 ew_553 (ci := 9) rfl (by decide) (hs.1 5 (by decide)).1 (hs.1 5 (by decide)).2.1 ?_
            refine ea_aload_n (pc := 86) dX11_miss_86 rfl 0 rfl ?_
            refine ea_getI (pc := 87) dX11_miss_87 ec_11 (k := 11) (Nat.le_of_ble_eq_true rfl) rfl (Or.inl ew_448) (hs.1 0 (by decide)).1 (hs.1 0 (by decide)).2.1 ?_
            refine ea_icmp_gt (pc := 90) (tgt := 95) dX11_miss_90 rfl (fun c9 => ?_) (fun c9 => ?_)
            · have EX := EX.trans (if_pos c9)
              have EY := EY.trans (if_pos c9)
              have K := K.1 c9
              refine ea_aload_n (pc := 95) dX11_miss_95 rfl 0 rfl ?_
              refine ea_getR (pc := 96) dX11_miss_96 ec_11 (k := 1) (Nat.le_of_ble_eq_true rfl) rfl (Or.inl ew_438) (hs.1 0 (by decide)).1 (hs.1 0 (by decide)).2.1 (hs.2 0 1 rfl) ?_
              refine ea_getR (pc := 99) dX11_miss_99 ec_9 (k := 7) (Nat.le_of_ble_eq_true rfl) rfl (Or.inl ew_199) (hs.1 5 (by decide)).1 (hs.1 5 (by decide)).2.1 (hs.2 5 7 rfl) ?_
              refine ea_iload (pc := 102) dX11_miss_102 4 rfl ?_
              refine ea_iconst (pc := 104) dX11_miss_104 (v := 1) rfl ?_
              have z6 := K
              refine ea_zast (pc := 105) dX11_miss_105 (y := 1) (ea_bn (Or.inr rfl)) (hs.1 12 (by decide)).1 (hs.1 12 (by decide)).2.1 (ea_vpl (hs.1 12 (by decide)).2.2 z6) ?_
              have hs7 : ShC b0 (ea_wi h (b0 + 12) (Int32.toNatClampNeg (((8 : Int32) * (((10 : Int32) * x2) + x1)) + x3)) 1) := ShC_wi hs
              refine ea_aload_n (pc := 106) dX11_miss_106 rfl 0 rfl ?_
              refine ea_iconst (pc := 107) dX11_miss_107 (v := 0) rfl ?_
              refine ea_putI (pc := 108) dX11_miss_108 ec_11 (k := 12) (Nat.le_of_ble_eq_true rfl) rfl (Or.inl ⟨rfl, Or.inl ew_449⟩) (ea_bn (Or.inl rfl)) (ea_bf (Or.inl rfl)) (hs7.1 0 (by decide)).1 (hs7.1 0 (by decide)).2.1 ?_
              have hs8 : ShC b0 (ea_wi (ea_wi h (b0 + 12) (Int32.toNatClampNeg (((8 : Int32) * (((10 : Int32) * x2) + x1)) + x3)) 1) (b0 + 0) 12 0) := ShC_wi hs7
              refine ea_iconst (pc := 111) dX11_miss_111 (v := 1) rfl ?_
              exact ea_iretE (pc := 112) dX11_miss_112 rfl (ea_bn (Or.inr rfl)) EX EY
            · have EX := EX.trans (if_neg c9)
              have EY := EY.trans (if_neg c9)
              refine ea_iconst (pc := 93) dX11_miss_93 (v := 0) rfl ?_
              exact ea_iretE (pc := 94) dX11_miss_94 rfl (ea_bn (Or.inl rfl)) EX EY
      · have EX := EX.trans (if_neg c12)
        have EY := EY.trans (if_neg c12)
        refine ea_iconst (pc := 31) dX11_miss_31 (v := 0) rfl ?_
        exact ea_iretE (pc := 32) dX11_miss_32 rfl (ea_bn (Or.inl rfl)) EX EY
noncomputable def vX11_charge (b0 : Nat) (x1 : Int32) (x2 : Int32) (h : ea_H) : Int32 := (if (vX11_letterOf b0 (x1 : Int32) h) = none then ((-1) : Int32) else (if Int32.toInt x2 = 0 then (ea_i h (Option.getD (vX11_letterOf b0 (x1 : Int32) h) 0) 10) else (if Int32.toInt x2 = 1 then (ea_i h (Option.getD (vX11_letterOf b0 (x1 : Int32) h) 0) 11) else (if Int32.toInt x2 = 2 then (ea_i h (Option.getD (vX11_letterOf b0 (x1 : Int32) h) 0) 12) else (if Int32.toInt x2 = 3 then (vX4_owed b0 (Option.getD (vX11_letterOf b0 (x1 : Int32) h) 0) h) else (if Int32.toInt x2 = 4 then ((ea_i h (Option.getD (vX11_letterOf b0 (x1 : Int32) h) 0) 10) - (vX4_owed b0 (Option.getD (vX11_letterOf b0 (x1 : Int32) h) 0) h)) else (if Int32.toInt x2 = 5 then (if (ea_i h (Option.getD (vX11_letterOf b0 (x1 : Int32) h) 0) 13) = (0 : Int32) then (0 : Int32) else (1 : Int32)) else ((-1) : Int32))))))))
def okX11_charge (b0 : Nat) (x1 : Int32) (x2 : Int32) (h : ea_H) : Prop := (okX11_letterOf b0 (x1 : Int32) h) ∧ (((vX11_letterOf b0 (x1 : Int32) h) = none → True) ∧ (¬ (vX11_letterOf b0 (x1 : Int32) h) = none → (Int32.toInt x2 = 0 → (vX11_letterOf b0 (x1 : Int32) h) = some (Option.getD (vX11_letterOf b0 (x1 : Int32) h) 0) ∧ (((Option.getD (vX11_letterOf b0 (x1 : Int32) h) 0) < ea_n h ∧ ea_c h (Option.getD (vX11_letterOf b0 (x1 : Int32) h) 0) = 4))) ∧ (¬ Int32.toInt x2 = 0 → (Int32.toInt x2 = 1 → (vX11_letterOf b0 (x1 : Int32) h) = some (Option.getD (vX11_letterOf b0 (x1 : Int32) h) 0) ∧ (((Option.getD (vX11_letterOf b0 (x1 : Int32) h) 0) < ea_n h ∧ ea_c h (Option.getD (vX11_letterOf b0 (x1 : Int32) h) 0) = 4))) ∧ (¬ Int32.toInt x2 = 1 → (Int32.toInt x2 = 2 → (vX11_letterOf b0 (x1 : Int32) h) = some (Option.getD (vX11_letterOf b0 (x1 : Int32) h) 0) ∧ (((Option.getD (vX11_letterOf b0 (x1 : Int32) h) 0) < ea_n h ∧ ea_c h (Option.getD (vX11_letterOf b0 (x1 : Int32) h) 0) = 4))) ∧ (¬ Int32.toInt x2 = 2 → (Int32.toInt x2 = 3 → (vX11_letterOf b0 (x1 : Int32) h) = some (Option.getD (vX11_letterOf b0 (x1 : Int32) h) 0) ∧ (((Option.getD (vX11_letterOf b0 (x1 : Int32) h) 0) < ea_n h ∧ ea_c h (Option.getD (vX11_letterOf b0 (x1 : Int32) h) 0) = 4) ∧ ((okX4_owed b0 (Option.getD (vX11_letterOf b0 (x1 : Int32) h) 0) h)))) ∧ (¬ Int32.toInt x2 = 3 → (Int32.toInt x2 = 4 → (vX11_letterOf b0 (x1 : Int32) h) = some (Option.getD (vX11_letterOf b0 (x1 : Int32) h) 0) ∧ (((Option.getD (vX11_letterOf b0 (x1 : Int32) h) 0) < ea_n h ∧ ea_c h (Option.getD (vX11_letterOf b0 (x1 : Int32) h) 0) = 4) ∧ ((vX11_letterOf b0 (x1 : Int32) h) = some (Option.getD (vX11_letterOf b0 (x1 : Int32) h) 0) ∧ (((Option.getD (vX11_letterOf b0 (x1 : Int32) h) 0) < ea_n h ∧ ea_c h (Option.getD (vX11_letterOf b0 (x1 : Int32) h) 0) = 4) ∧ ((okX4_owed b0 (Option.getD (vX11_letterOf b0 (x1 : Int32) h) 0) h)))))) ∧ (¬ Int32.toInt x2 = 4 → (Int32.toInt x2 = 5 → (vX11_letterOf b0 (x1 : Int32) h) = some (Option.getD (vX11_letterOf b0 (x1 : Int32) h) 0) ∧ (((Option.getD (vX11_letterOf b0 (x1 : Int32) h) 0) < ea_n h ∧ ea_c h (Option.getD (vX11_letterOf b0 (x1 : Int32) h) 0) = 4))) ∧ (¬ Int32.toInt x2 = 5 → True))))))))
theorem sX11_charge {d : Nat} {b0 : Nat} {x1 : Int32} {x2 : Int32} {h : ea_H} (hd : 2 ≤ d) (hs : ShC b0 h) (K : okX11_charge b0 x1 x2 h) : ea_Met mX11_charge d [vR (some (b0 + 0)), vI x1, vI x2] h (some (vI (vX11_charge b0 x1 x2 h))) h := by
  obtain ⟨X, EX⟩ : ∃ z, z = vX11_charge b0 x1 x2 h := ⟨_, rfl⟩
  rw [← EX]
  unfold vX11_charge at EX
  unfold okX11_charge at K
  refine ea_enter rfl (Nat.le_of_ble_eq_true rfl) ?_
  refine ea_aload_n (pc := 0) dX11_charge_0 rfl 0 rfl ?_
  refine ea_iload_n (pc := 1) dX11_charge_1 rfl 1 rfl ?_
  obtain ⟨z1, K⟩ := K
  refine ea_callV (pc := 2) (d' := d - 1) (As := [vI x1]) (st := []) dX11_charge_2 kX11_letterOf (sX11_letterOf (d := d - 1) (by omega) hs z1) (by omega) rfl (Nat.le_of_ble_eq_true rfl) ew_1076 ew_1078 ew_37 (ci := 11) rfl (by decide) (hs.1 0 (by decide)).1 (hs.1 0 (by decide)).2.1 ?_
  refine ea_astore_n (pc := 5) (lv' := [(2, vI x2), (3, vR (vX11_letterOf b0 (x1 : Int32) h))]) dX11_charge_5 rfl (Nat.le_of_ble_eq_true rfl) [3, 0] rfl ?_
  refine ea_aload_n (pc := 6) dX11_charge_6 rfl 1 rfl ?_
  refine ea_ifnonnull (pc := 7) (tgt := 12) dX11_charge_7 rfl (fun a20 c19 => ?_) (fun c19 => ?_)
  · have c19n : ¬ (vX11_letterOf b0 (x1 : Int32) h) = none := by rw [c19]; exact fun q => nomatch q
    have EX := EX.trans (if_neg c19n)
    have K := K.2 c19n
    refine ea_iload_n (pc := 12) dX11_charge_12 rfl 0 rfl ?_
    by_cases qc13_0 : Int32.toInt x2 = 0
    · have EX := EX.trans (if_pos qc13_0)
      have K := K.1 qc13_0
      refine ea_tswIn (pc := 13) (tgt := 52) dX11_charge_13 (by rw [qc13_0]; decide) (by rw [qc13_0]; decide) (by rw [qc13_0]; rfl) rfl ?_
      refine ea_aload_n (pc := 52) dX11_charge_52 rfl 1 rfl ?_
      obtain ⟨e2, f3⟩ := K
      refine ea_deref0 e2 ?_
      refine ea_getI (pc := 53) dX11_charge_53 ec_4 (k := 10) (Nat.le_of_ble_eq_true rfl) rfl (Or.inl ew_960) f3.1 f3.2 ?_
      exact ea_iretE (pc := 56) dX11_charge_56 rfl rfl EX rfl
    have EX := EX.trans (if_neg qc13_0)
    have K := K.2 qc13_0
    by_cases qc13_1 : Int32.toInt x2 = 1
    · have EX := EX.trans (if_pos qc13_1)
      have K := K.1 qc13_1
      refine ea_tswIn (pc := 13) (tgt := 57) dX11_charge_13 (by rw [qc13_1]; decide) (by rw [qc13_1]; decide) (by rw [qc13_1]; rfl) rfl ?_
      refine ea_aload_n (pc := 57) dX11_charge_57 rfl 1 rfl ?_
      obtain ⟨e4, f5⟩ := K
      refine ea_deref0 e4 ?_
      refine ea_getI (pc := 58) dX11_charge_58 ec_4 (k := 11) (Nat.le_of_ble_eq_true rfl) rfl (Or.inl ew_963) f5.1 f5.2 ?_
      exact ea_iretE (pc := 61) dX11_charge_61 rfl rfl EX rfl
    have EX := EX.trans (if_neg qc13_1)
    have K := K.2 qc13_1
    by_cases qc13_2 : Int32.toInt x2 = 2
    · have EX := EX.trans (if_pos qc13_2)
      have K := K.1 qc13_2
      refine ea_tswIn (pc := 13) (tgt := 62) dX11_charge_13 (by rw [qc13_2]; decide) (by rw [qc13_2]; decide) (by rw [qc13_2]; rfl) rfl ?_
      refine ea_aload_n (pc := 62) dX11_charge_62 rfl 1 rfl ?_
      obtain ⟨e6, f7⟩ := K
      refine ea_deref0 e6 ?_
      refine ea_getI (pc := 63) dX11_charge_63 ec_4 (k := 12) (Nat.le_of_ble_eq_true rfl) rfl (Or.inl ew_966) f7.1 f7.2 ?_
      exact ea_iretE (pc := 66) dX11_charge_66 rfl rfl EX rfl
    have EX := EX.trans (if_neg qc13_2)
    have K := K.2 qc13_2
    by_cases qc13_3 : Int32.toInt x2 = 3
    · have EX := EX.trans (if_pos qc13_3)
      have K := K.1 qc13_3
      refine ea_tswIn (pc := 13) (tgt := 67) dX11_charge_13 (by rw [qc13_3]; decide) (by rw [qc13_3]; decide) (by rw [qc13_3]; rfl) rfl ?_
      refine ea_aload_n (pc := 67) dX11_charge_67 rfl 1 rfl ?_
      obtain ⟨e8, f9, z10⟩ := K
      refine ea_deref0 e8 ?_
      refine ea_callV (pc := 68) (d' := d - 1) (As := []) (st := []) dX11_charge_68 kX4_owed (sX4_owed (d := d - 1) (by omega) hs z10) (by omega) rfl (Nat.le_of_ble_eq_true rfl) ew_1084 ew_1085 ew_1086 (ci := 4) rfl (by decide) f9.1 f9.2 ?_
      exact ea_iretE (pc := 71) dX11_charge_71 rfl rfl EX rfl
    have EX := EX.trans (if_neg qc13_3)
    have K := K.2 qc13_3
    by_cases qc13_4 : Int32.toInt x2 = 4
    · have EX := EX.trans (if_pos qc13_4)
      have K := K.1 qc13_4
      refine ea_tswIn (pc := 13) (tgt := 72) dX11_charge_13 (by rw [qc13_4]; decide) (by rw [qc13_4]; decide) (by rw [qc13_4]; rfl) rfl ?_
      refine ea_aload_n (pc := 72) dX11_charge_72 rfl 1 rfl ?_
      obtain ⟨e11, f12, K⟩ := K
      refine ea_deref0 e11 ?_
      refine ea_getI (pc := 73) dX11_charge_73 ec_4 (k := 10) (Nat.le_of_ble_eq_true rfl) rfl (Or.inl ew_960) f12.1 f12.2 ?_
      refine ea_aload_n (pc := 76) dX11_charge_76 rfl 1 rfl ?_
      obtain ⟨e13, f14, z15⟩ := K
      refine ea_deref0 e13 ?_
      refine ea_callV (pc := 77) (d' := d - 1) (As := []) (st := [vI (ea_i h (Option.getD (vX11_letterOf b0 (x1 : Int32) h) 0) 10)]) dX11_charge_77 kX4_owed (sX4_owed (d := d - 1) (by omega) hs z15) (by omega) rfl (Nat.le_of_ble_eq_true rfl) ew_1084 ew_1085 ew_1086 (ci := 4) rfl (by decide) f14.1 f14.2 ?_
      refine ea_isub (pc := 80) dX11_charge_80 ?_
      exact ea_iretE (pc := 81) dX11_charge_81 rfl rfl EX rfl
    have EX := EX.trans (if_neg qc13_4)
    have K := K.2 qc13_4
    by_cases qc13_5 : Int32.toInt x2 = 5
    · have EX := EX.trans (if_pos qc13_5)
      have K := K.1 qc13_5
      refine ea_tswIn (pc := 13) (tgt := 82) dX11_charge_13 (by rw [qc13_5]; decide) (by rw [qc13_5]; decide) (by rw [qc13_5]; rfl) rfl ?_
      refine ea_aload_n (pc := 82) dX11_charge_82 rfl 1 rfl ?_
      obtain ⟨e16, f17⟩ := K
      refine ea_deref0 e16 ?_
      refine ea_getI (pc := 83) dX11_charge_83 ec_4 (k := 13) (Nat.le_of_ble_eq_true rfl) rfl (Or.inl ew_968) f17.1 f17.2 ?_
      refine ea_if_eq (pc := 86) (tgt := 93) dX11_charge_86 rfl (fun c18 => ?_) (fun c18 => ?_)
      · have EX := EX.trans (if_pos c18)
        refine ea_iconst (pc := 93) dX11_charge_93 (v := 0) rfl ?_
        exact ea_iretE (pc := 94) dX11_charge_94 rfl rfl EX rfl
      · have EX := EX.trans (if_neg c18)
        refine ea_iconst (pc := 89) dX11_charge_89 (v := 1) rfl ?_
        refine ea_goto (pc := 90) (tgt := 94) dX11_charge_90 rfl ?_
        exact ea_iretE (pc := 94) dX11_charge_94 rfl rfl EX rfl
    have EX := EX.trans (if_neg qc13_5)
    have K := K.2 qc13_5
    refine ea_tswOut (pc := 13) (tgt := 95) dX11_charge_13 (ec_sw_0_5 qc13_0 qc13_1 qc13_2 qc13_3 qc13_4 qc13_5) rfl ?_
    refine ea_iconst (pc := 95) dX11_charge_95 (v := (-1)) rfl ?_
    exact ea_iretE (pc := 96) dX11_charge_96 rfl rfl EX rfl
  · have EX := EX.trans (if_pos c19)
    refine ea_iconst (pc := 10) dX11_charge_10 (v := (-1)) rfl ?_
    exact ea_iretE (pc := 11) dX11_charge_11 rfl rfl EX rfl
noncomputable def vX11_lead (b0 : Nat) (x1 : Int32) (x2 : Int32) (x3 : Int32) (h : ea_H) : Int32 := (if (vX11_letterOf b0 (x1 : Int32) h) = none then ((-1) : Int32) else (if x2 < (0 : Int32) then ((-1) : Int32) else (if x2 < (ea_i h (Option.getD (vX11_letterOf b0 (x1 : Int32) h) 0) 16) then (if Int32.toInt x3 = 0 then (vX4_rowMinute b0 (Option.getD (vX11_letterOf b0 (x1 : Int32) h) 0) (x2 : Int32) h) else (if Int32.toInt x3 = 1 then (vX4_rowState b0 (Option.getD (vX11_letterOf b0 (x1 : Int32) h) 0) (x2 : Int32) h) else (if Int32.toInt x3 = 2 then (vX4_rowPlace b0 (Option.getD (vX11_letterOf b0 (x1 : Int32) h) 0) (x2 : Int32) h) else ((-1) : Int32)))) else ((-1) : Int32))))
def okX11_lead (b0 : Nat) (x1 : Int32) (x2 : Int32) (x3 : Int32) (h : ea_H) : Prop := (okX11_letterOf b0 (x1 : Int32) h) ∧ (((vX11_letterOf b0 (x1 : Int32) h) = none → True) ∧ (¬ (vX11_letterOf b0 (x1 : Int32) h) = none → (x2 < (0 : Int32) → True) ∧ (¬ x2 < (0 : Int32) → (vX11_letterOf b0 (x1 : Int32) h) = some (Option.getD (vX11_letterOf b0 (x1 : Int32) h) 0) ∧ (((Option.getD (vX11_letterOf b0 (x1 : Int32) h) 0) < ea_n h ∧ ea_c h (Option.getD (vX11_letterOf b0 (x1 : Int32) h) 0) = 4) ∧ ((x2 < (ea_i h (Option.getD (vX11_letterOf b0 (x1 : Int32) h) 0) 16) → (Int32.toInt x3 = 0 → (vX11_letterOf b0 (x1 : Int32) h) = some (Option.getD (vX11_letterOf b0 (x1 : Int32) h) 0) ∧ (((Option.getD (vX11_letterOf b0 (x1 : Int32) h) 0) < ea_n h ∧ ea_c h (Option.getD (vX11_letterOf b0 (x1 : Int32) h) 0) = 4) ∧ ((okX4_rowMinute b0 (Option.getD (vX11_letterOf b0 (x1 : Int32) h) 0) (x2 : Int32) h)))) ∧ (¬ Int32.toInt x3 = 0 → (Int32.toInt x3 = 1 → (vX11_letterOf b0 (x1 : Int32) h) = some (Option.getD (vX11_letterOf b0 (x1 : Int32) h) 0) ∧ (((Option.getD (vX11_letterOf b0 (x1 : Int32) h) 0) < ea_n h ∧ ea_c h (Option.getD (vX11_letterOf b0 (x1 : Int32) h) 0) = 4) ∧ ((okX4_rowState b0 (Option.getD (vX11_letterOf b0 (x1 : Int32) h) 0) (x2 : Int32) h)))) ∧ (¬ Int32.toInt x3 = 1 → (Int32.toInt x3 = 2 → (vX11_letterOf b0 (x1 : Int32) h) = some (Option.getD (vX11_letterOf b0 (x1 : Int32) h) 0) ∧ (((Option.getD (vX11_letterOf b0 (x1 : Int32) h) 0) < ea_n h ∧ ea_c h (Option.getD (vX11_letterOf b0 (x1 : Int32) h) 0) = 4) ∧ ((okX4_rowPlace b0 (Option.getD (vX11_letterOf b0 (x1 : Int32) h) 0) (x2 : Int32) h)))) ∧ (¬ Int32.toInt x3 = 2 → True)))) ∧ (¬ x2 < (ea_i h (Option.getD (vX11_letterOf b0 (x1 : Int32) h) 0) 16) → True))))))
theorem sX11_lead {d : Nat} {b0 : Nat} {x1 : Int32} {x2 : Int32} {x3 : Int32} {h : ea_H} (hd : 2 ≤ d) (hs : ShC b0 h) (K : okX11_lead b0 x1 x2 x3 h) : ea_Met mX11_lead d [vR (some (b0 + 0)), vI x1, vI x2, vI x3] h (some (vI (vX11_lead b0 x1 x2 x3 h))) h := by
  obtain ⟨X, EX⟩ : ∃ z, z = vX11_lead b0 x1 x2 x3 h := ⟨_, rfl⟩
  rw [← EX]
  unfold vX11_lead at EX
  unfold okX11_lead at K
  refine ea_enter rfl (Nat.le_of_ble_eq_true rfl) ?_
  refine ea_aload_n (pc := 0) dX11_lead_0 rfl 0 rfl ?_
  refine ea_iload_n (pc := 1) dX11_lead_1 rfl 1 rfl ?_
  obtain ⟨z1, K⟩ := K
  refine ea_callV (pc := 2) (d' := d - 1) (As := [vI x1]) (st := []) dX11_lead_2 kX11_letterOf (sX11_letterOf (d := d - 1) (by omega) hs z1) (by omega) rfl (Nat.le_of_ble_eq_true rfl) ew_1076 ew_1078 ew_37 (ci := 11) rfl (by decide) (hs.1 0 (by decide)).1 (hs.1 0 (by decide)).2.1 ?_
  refine ea_astore (pc := 5) (lv' := [(2, vI x2), (3, vI x3), (4, vR (vX11_letterOf b0 (x1 : Int32) h))]) dX11_lead_5 (Nat.le_of_ble_eq_true rfl) [3, 4, 0] rfl ?_
  refine ea_aload (pc := 7) dX11_lead_7 2 rfl ?_
  refine ea_ifnull (pc := 9) (tgt := 25) dX11_lead_9 rfl (fun c15 => ?_) (fun a16 c15 => ?_)
  · have EX := EX.trans (if_pos c15)
    refine ea_iconst (pc := 25) dX11_lead_25 (v := (-1)) rfl ?_
    exact ea_iretE (pc := 26) dX11_lead_26 rfl rfl EX rfl
  · have c15n : ¬ (vX11_letterOf b0 (x1 : Int32) h) = none := by rw [c15]; exact fun q => nomatch q
    have EX := EX.trans (if_neg c15n)
    have K := K.2 c15n
    refine ea_iload_n (pc := 12) dX11_lead_12 rfl 0 rfl ?_
    refine ea_if_lt (pc := 13) (tgt := 25) dX11_lead_13 rfl (fun c14 => ?_) (fun c14 => ?_)
    · have EX := EX.trans (if_pos c14)
      refine ea_iconst (pc := 25) dX11_lead_25 (v := (-1)) rfl ?_
      exact ea_iretE (pc := 26) dX11_lead_26 rfl rfl EX rfl
    · have EX := EX.trans (if_neg c14)
      have K := K.2 c14
      refine ea_iload_n (pc := 16) dX11_lead_16 rfl 0 rfl ?_
      refine ea_aload (pc := 17) dX11_lead_17 2 rfl ?_
      obtain ⟨e2, f3, K⟩ := K
      refine ea_deref0 e2 ?_
      refine ea_getI (pc := 19) dX11_lead_19 ec_4 (k := 16) (Nat.le_of_ble_eq_true rfl) rfl (Or.inl ew_975) f3.1 f3.2 ?_
      refine ea_icmp_lt (pc := 22) (tgt := 27) dX11_lead_22 rfl (fun c13 => ?_) (fun c13 => ?_)
      · have EX := EX.trans (if_pos c13)
        have K := K.1 c13
        refine ea_iload_n (pc := 27) dX11_lead_27 rfl 1 rfl ?_
        by_cases qc28_0 : Int32.toInt x3 = 0
        · have EX := EX.trans (if_pos qc28_0)
          have K := K.1 qc28_0
          refine ea_tswIn (pc := 28) (tgt := 56) dX11_lead_28 (by rw [qc28_0]; decide) (by rw [qc28_0]; decide) (by rw [qc28_0]; rfl) rfl ?_
          refine ea_aload (pc := 56) dX11_lead_56 2 rfl ?_
          refine ea_iload_n (pc := 58) dX11_lead_58 rfl 0 rfl ?_
          obtain ⟨e4, f5, z6⟩ := K
          refine ea_deref1 e4 ?_
          refine ea_callV (pc := 59) (d' := d - 1) (As := [vI x2]) (st := []) dX11_lead_59 kX4_rowMinute (sX4_rowMinute (d := d - 1) (by omega) hs z6) (by omega) rfl (Nat.le_of_ble_eq_true rfl) ew_1112 ew_1113 ew_1114 (ci := 4) rfl (by decide) f5.1 f5.2 ?_
          exact ea_iretE (pc := 62) dX11_lead_62 rfl rfl EX rfl
        have EX := EX.trans (if_neg qc28_0)
        have K := K.2 qc28_0
        by_cases qc28_1 : Int32.toInt x3 = 1
        · have EX := EX.trans (if_pos qc28_1)
          have K := K.1 qc28_1
          refine ea_tswIn (pc := 28) (tgt := 63) dX11_lead_28 (by rw [qc28_1]; decide) (by rw [qc28_1]; decide) (by rw [qc28_1]; rfl) rfl ?_
          refine ea_aload (pc := 63) dX11_lead_63 2 rfl ?_
          refine ea_iload_n (pc := 65) dX11_lead_65 rfl 0 rfl ?_
          obtain ⟨e7, f8, z9⟩ := K
          refine ea_deref1 e7 ?_
          refine ea_callV (pc := 66) (d' := d - 1) (As := [vI x2]) (st := []) dX11_lead_66 kX4_rowState (sX4_rowState (d := d - 1) (by omega) hs z9) (by omega) rfl (Nat.le_of_ble_eq_true rfl) ew_1116 ew_1117 ew_1118 (ci := 4) rfl (by decide) f8.1 f8.2 ?_
          exact ea_iretE (pc := 69) dX11_lead_69 rfl rfl EX rfl
        have EX := EX.trans (if_neg qc28_1)
        have K := K.2 qc28_1
        by_cases qc28_2 : Int32.toInt x3 = 2
        · have EX := EX.trans (if_pos qc28_2)
          have K := K.1 qc28_2
          refine ea_tswIn (pc := 28) (tgt := 70) dX11_lead_28 (by rw [qc28_2]; decide) (by rw [qc28_2]; decide) (by rw [qc28_2]; rfl) rfl ?_
          refine ea_aload (pc := 70) dX11_lead_70 2 rfl ?_
          refine ea_iload_n (pc := 72) dX11_lead_72 rfl 0 rfl ?_
          obtain ⟨e10, f11, z12⟩ := K
          refine ea_deref1 e10 ?_
          refine ea_callV (pc := 73) (d' := d - 1) (As := [vI x2]) (st := []) dX11_lead_73 kX4_rowPlace (sX4_rowPlace (d := d - 1) (by omega) hs z12) (by omega) rfl (Nat.le_of_ble_eq_true rfl) ew_1120 ew_1121 ew_1122 (ci := 4) rfl (by decide) f11.1 f11.2 ?_
          exact ea_iretE (pc := 76) dX11_lead_76 rfl rfl EX rfl
        have EX := EX.trans (if_neg qc28_2)
        have K := K.2 qc28_2
        refine ea_tswOut (pc := 28) (tgt := 77) dX11_lead_28 (ec_sw_0_2 qc28_0 qc28_1 qc28_2) rfl ?_
        refine ea_iconst (pc := 77) dX11_lead_77 (v := (-1)) rfl ?_
        exact ea_iretE (pc := 78) dX11_lead_78 rfl rfl EX rfl
      · have EX := EX.trans (if_neg c13)
        refine ea_iconst (pc := 25) dX11_lead_25 (v := (-1)) rfl ?_
        exact ea_iretE (pc := 26) dX11_lead_26 rfl rfl EX rfl
noncomputable def vX11_sorter (b0 : Nat) (x1 : Int32) (x2 : Int32) (h : ea_H) : Int32 := (if x1 < (1 : Int32) then ((-1) : Int32) else (if (99 : Int32) < x1 then ((-1) : Int32) else (if x2 < (0 : Int32) then ((-1) : Int32) else (if x2 < (4096 : Int32) then (vX3_add b0 (x1 : Int32) (x2 : Int32) (ea_wi h (b0 + 0) 12 0)) else ((-1) : Int32)))))
noncomputable def wX11_sorter (b0 : Nat) (x1 : Int32) (x2 : Int32) (h : ea_H) : ea_H := (if x1 < (1 : Int32) then h else (if (99 : Int32) < x1 then h else (if x2 < (0 : Int32) then h else (if x2 < (4096 : Int32) then (wX3_add b0 (x1 : Int32) (x2 : Int32) (ea_wi h (b0 + 0) 12 0)) else h))))
def okX11_sorter (b0 : Nat) (x1 : Int32) (x2 : Int32) (h : ea_H) : Prop := (x1 < (1 : Int32) → True) ∧ (¬ x1 < (1 : Int32) → ((99 : Int32) < x1 → True) ∧ (¬ (99 : Int32) < x1 → (x2 < (0 : Int32) → True) ∧ (¬ x2 < (0 : Int32) → (x2 < (4096 : Int32) → (okX3_add b0 (x1 : Int32) (x2 : Int32) (ea_wi h (b0 + 0) 12 0))) ∧ (¬ x2 < (4096 : Int32) → True))))
theorem shX11_sorter {b0 : Nat} {x1 : Int32} {x2 : Int32} {h : ea_H} (hs : ShC b0 h) : ShC b0 (wX11_sorter b0 x1 x2 h) := (ShC_it hs (ShC_it hs (ShC_it hs (ShC_it (shX3_add (ShC_wi hs)) hs))))
theorem sX11_sorter {d : Nat} {b0 : Nat} {x1 : Int32} {x2 : Int32} {h : ea_H} (hd : 2 ≤ d) (hs : ShC b0 h) (K : okX11_sorter b0 x1 x2 h) : ea_Met mX11_sorter d [vR (some (b0 + 0)), vI x1, vI x2] h (some (vI (vX11_sorter b0 x1 x2 h))) (wX11_sorter b0 x1 x2 h) := by
  obtain ⟨X, EX⟩ : ∃ z, z = vX11_sorter b0 x1 x2 h := ⟨_, rfl⟩
  rw [← EX]
  unfold vX11_sorter at EX
  obtain ⟨Y, EY⟩ : ∃ z, z = wX11_sorter b0 x1 x2 h := ⟨_, rfl⟩
  rw [← EY]
  unfold wX11_sorter at EY
  unfold okX11_sorter at K
  refine ea_enter rfl (Nat.le_of_ble_eq_true rfl) ?_
  refine ea_iload_n (pc := 0) dX11_sorter_0 rfl 1 rfl ?_
  refine ea_iconst (pc := 1) dX11_sorter_1 (v := 1) rfl ?_
  refine ea_icmp_lt (pc := 2) (tgt := 22) dX11_sorter_2 rfl (fun c7 => ?_) (fun c7 => ?_)
  · have EX := EX.trans (if_pos c7)
    have EY := EY.trans (if_pos c7)
    refine ea_iconst (pc := 22) dX11_sorter_22 (v := (-1)) rfl ?_
    exact ea_iretE (pc := 23) dX11_sorter_23 rfl rfl EX EY
  · have EX := EX.trans (if_neg c7)
    have EY := EY.trans (if_neg c7)
    have K := K.2 c7
    refine ea_iload_n (pc := 5) dX11_sorter_5 rfl 1 rfl ?_
    refine ea_bipush (pc := 6) dX11_sorter_6 (v := 99) rfl ?_
    refine ea_icmp_gt (pc := 8) (tgt := 22) dX11_sorter_8 rfl (fun c6 => ?_) (fun c6 => ?_)
    · have EX := EX.trans (if_pos c6)
      have EY := EY.trans (if_pos c6)
      refine ea_iconst (pc := 22) dX11_sorter_22 (v := (-1)) rfl ?_
      exact ea_iretE (pc := 23) dX11_sorter_23 rfl rfl EX EY
    · have EX := EX.trans (if_neg c6)
      have EY := EY.trans (if_neg c6)
      have K := K.2 c6
      refine ea_iload_n (pc := 11) dX11_sorter_11 rfl 2 rfl ?_
      refine ea_if_lt (pc := 12) (tgt := 22) dX11_sorter_12 rfl (fun c5 => ?_) (fun c5 => ?_)
      · have EX := EX.trans (if_pos c5)
        have EY := EY.trans (if_pos c5)
        refine ea_iconst (pc := 22) dX11_sorter_22 (v := (-1)) rfl ?_
        exact ea_iretE (pc := 23) dX11_sorter_23 rfl rfl EX EY
      · have EX := EX.trans (if_neg c5)
        have EY := EY.trans (if_neg c5)
        have K := K.2 c5
        refine ea_iload_n (pc := 15) dX11_sorter_15 rfl 2 rfl ?_
        refine ea_sipush (pc := 16) dX11_sorter_16 (v := 4096) rfl ?_
        refine ea_icmp_lt (pc := 19) (tgt := 24) dX11_sorter_19 rfl (fun c4 => ?_) (fun c4 => ?_)
        · have EX := EX.trans (if_pos c4)
          have EY := EY.trans (if_pos c4)
          have K := K.1 c4
          refine ea_aload_n (pc := 24) dX11_sorter_24 rfl 0 rfl ?_
          refine ea_iconst (pc := 25) dX11_sorter_25 (v := 0) rfl ?_
          refine ea_putI (pc := 26) dX11_sorter_26 ec_11 (k := 12) (Nat.le_of_ble_eq_true rfl) rfl (Or.inl ⟨rfl, Or.inl ew_449⟩) (ea_bn (Or.inl rfl)) (ea_bf (Or.inl rfl)) (hs.1 0 (by decide)).1 (hs.1 0 (by decide)).2.1 ?_
          have hs1 : ShC b0 (ea_wi h (b0 + 0) 12 0) := ShC_wi hs
          refine ea_aload_n (pc := 29) dX11_sorter_29 rfl 0 rfl ?_
          refine ea_getR (pc := 30) dX11_sorter_30 ec_11 (k := 3) (Nat.le_of_ble_eq_true rfl) rfl (Or.inl ew_440) (hs1.1 0 (by decide)).1 (hs1.1 0 (by decide)).2.1 (hs1.2 0 3 rfl) ?_
          refine ea_iload_n (pc := 33) dX11_sorter_33 rfl 1 rfl ?_
          refine ea_iload_n (pc := 34) dX11_sorter_34 rfl 2 rfl ?_
          have z2 := K
          refine ea_callV (pc := 35) (d' := d - 1) (As := [vI x1, vI x2]) (st := []) dX11_sorter_35 kX3_add (sX3_add (d := d - 1) (by omega) hs1 z2) (by omega) rfl (Nat.le_of_ble_eq_true rfl) ew_1137 ew_1138 ew_1139 (ci := 3) rfl (by decide) (hs1.1 16 (by decide)).1 (hs1.1 16 (by decide)).2.1 ?_
          have hs3 : ShC b0 (wX3_add b0 (x1 : Int32) (x2 : Int32) (ea_wi h (b0 + 0) 12 0)) := shX3_add hs1
          exact ea_iretE (pc := 38) dX11_sorter_38 rfl rfl EX EY
        · have EX := EX.trans (if_neg c4)
          have EY := EY.trans (if_neg c4)
          refine ea_iconst (pc := 22) dX11_sorter_22 (v := (-1)) rfl ?_
          exact ea_iretE (pc := 23) dX11_sorter_23 rfl rfl EX EY
noncomputable def vX11_seat (b0 : Nat) (x1 : Int32) (x2 : Int32) (h : ea_H) : Int32 := (if x1 < (0 : Int32) then (0 : Int32) else (if (ea_i h (b0 + 16) 0) ≤ x1 then (0 : Int32) else (if x2 = ((-1) : Int32) then (1 : Int32) else (if (vX9_has b0 (x2 : Int32) h) = (0 : Int32) then (0 : Int32) else (1 : Int32)))))
noncomputable def wX11_seat (b0 : Nat) (x1 : Int32) (x2 : Int32) (h : ea_H) : ea_H := (if x1 < (0 : Int32) then h else (if (ea_i h (b0 + 16) 0) ≤ x1 then h else (if x2 = ((-1) : Int32) then (ea_wi (ea_wi h (b0 + 17) (Int32.toNatClampNeg x1) x2) (b0 + 0) 12 0) else (if (vX9_has b0 (x2 : Int32) h) = (0 : Int32) then h else (ea_wi (ea_wi h (b0 + 17) (Int32.toNatClampNeg x1) x2) (b0 + 0) 12 0)))))
def okX11_seat (b0 : Nat) (x1 : Int32) (x2 : Int32) (h : ea_H) : Prop := (x1 < (0 : Int32) → True) ∧ (¬ x1 < (0 : Int32) → ((ea_i h (b0 + 16) 0) ≤ x1 → True) ∧ (¬ (ea_i h (b0 + 16) 0) ≤ x1 → (x2 = ((-1) : Int32) → vp_in x1 8) ∧ (¬ x2 = ((-1) : Int32) → ((vX9_has b0 (x2 : Int32) h) = (0 : Int32) → True) ∧ (¬ (vX9_has b0 (x2 : Int32) h) = (0 : Int32) → vp_in x1 8))))
theorem bo_vX11_seat (b0 : Nat) (x1 : Int32) (x2 : Int32) (h : ea_H) : vX11_seat b0 x1 x2 h = 0 ∨ vX11_seat b0 x1 x2 h = 1 := (ea_itB (Or.inl rfl) (ea_itB (Or.inl rfl) (ea_itB (Or.inr rfl) (ea_itB (Or.inl rfl) (Or.inr rfl)))))
theorem shX11_seat {b0 : Nat} {x1 : Int32} {x2 : Int32} {h : ea_H} (hs : ShC b0 h) : ShC b0 (wX11_seat b0 x1 x2 h) := (ShC_it hs (ShC_it hs (ShC_it (ShC_wi (ShC_wi hs)) (ShC_it hs (ShC_wi (ShC_wi hs))))))
theorem sX11_seat {d : Nat} {b0 : Nat} {x1 : Int32} {x2 : Int32} {h : ea_H} (hd : 2 ≤ d) (hs : ShC b0 h) (K : okX11_seat b0 x1 x2 h) : ea_Met mX11_seat d [vR (some (b0 + 0)), vI x1, vI x2] h (some (vI (vX11_seat b0 x1 x2 h))) (wX11_seat b0 x1 x2 h) := by
  obtain ⟨X, EX⟩ : ∃ z, z = vX11_seat b0 x1 x2 h := ⟨_, rfl⟩
  rw [← EX]
  unfold vX11_seat at EX
  obtain ⟨Y, EY⟩ : ∃ z, z = wX11_seat b0 x1 x2 h := ⟨_, rfl⟩
  rw [← EY]
  unfold wX11_seat at EY
  unfold okX11_seat at K
  refine ea_enter rfl (Nat.le_of_ble_eq_true rfl) ?_
  refine ea_iload_n (pc := 0) dX11_seat_0 rfl 1 rfl ?_
  refine ea_if_lt (pc := 1) (tgt := 31) dX11_seat_1 rfl (fun c11 => ?_) (fun c11 => ?_)
  · have EX := EX.trans (if_pos c11)
    have EY := EY.trans (if_pos c11)
    refine ea_iconst (pc := 31) dX11_seat_31 (v := 0) rfl ?_
    exact ea_iretE (pc := 32) dX11_seat_32 rfl (ea_bn (Or.inl rfl)) EX EY
  · have EX := EX.trans (if_neg c11)
    have EY := EY.trans (if_neg c11)
    have K := K.2 c11
    refine ea_iload_n (pc := 4) dX11_seat_4 rfl 1 rfl ?_
    refine ea_aload_n (pc := 5) dX11_seat_5 rfl 0 rfl ?_
    refine ea_getR (pc := 6) dX11_seat_6 ec_11 (k := 3) (Nat.le_of_ble_eq_true rfl) rfl (Or.inl ew_440) (hs.1 0 (by decide)).1 (hs.1 0 (by decide)).2.1 (hs.2 0 3 rfl) ?_
    refine ea_getI (pc := 9) dX11_seat_9 ec_3 (k := 0) (Nat.le_of_ble_eq_true rfl) rfl (Or.inl ew_262) (hs.1 16 (by decide)).1 (hs.1 16 (by decide)).2.1 ?_
    refine ea_icmp_ge (pc := 12) (tgt := 31) dX11_seat_12 rfl (fun c10 => ?_) (fun c10 => ?_)
    · have EX := EX.trans (if_pos c10)
      have EY := EY.trans (if_pos c10)
      refine ea_iconst (pc := 31) dX11_seat_31 (v := 0) rfl ?_
      exact ea_iretE (pc := 32) dX11_seat_32 rfl (ea_bn (Or.inl rfl)) EX EY
    · have EX := EX.trans (if_neg c10)
      have EY := EY.trans (if_neg c10)
      have K := K.2 c10
      refine ea_iload_n (pc := 15) dX11_seat_15 rfl 2 rfl ?_
      refine ea_iconst (pc := 16) dX11_seat_16 (v := (-1)) rfl ?_
      refine ea_icmp_eq (pc := 17) (tgt := 33) dX11_seat_17 rfl (fun c9 => ?_) (fun c9 => ?_)
      · have EX := EX.trans (if_pos c9)
        have EY := EY.trans (if_pos c9)
        have K := K.1 c9
        refine ea_aload_n (pc := 33) dX11_seat_33 rfl 0 rfl ?_
        refine ea_getR (pc := 34) dX11_seat_34 ec_11 (k := 3) (Nat.le_of_ble_eq_true rfl) rfl (Or.inl ew_440) (hs.1 0 (by decide)).1 (hs.1 0 (by decide)).2.1 (hs.2 0 3 rfl) ?_
        refine ea_getR (pc := 37) dX11_seat_37 ec_3 (k := 1) (Nat.le_of_ble_eq_true rfl) rfl (Or.inl ew_264) (hs.1 16 (by decide)).1 (hs.1 16 (by decide)).2.1 (hs.2 16 1 rfl) ?_
        refine ea_iload_n (pc := 40) dX11_seat_40 rfl 1 rfl ?_
        refine ea_iload_n (pc := 41) dX11_seat_41 rfl 2 rfl ?_
        have z1 := K
        refine ea_iast (pc := 42) dX11_seat_42 (hs.1 17 (by decide)).1 (hs.1 17 (by decide)).2.1 (ea_vpl (hs.1 17 (by decide)).2.2 z1) ?_
        have hs2 : ShC b0 (ea_wi h (b0 + 17) (Int32.toNatClampNeg x1) x2) := ShC_wi hs
        refine ea_aload_n (pc := 43) dX11_seat_43 rfl 0 rfl ?_
        refine ea_iconst (pc := 44) dX11_seat_44 (v := 0) rfl ?_
        refine ea_putI (pc := 45) dX11_seat_45 ec_11 (k := 12) (Nat.le_of_ble_eq_true rfl) rfl (Or.inl ⟨rfl, Or.inl ew_449⟩) (ea_bn (Or.inl rfl)) (ea_bf (Or.inl rfl)) (hs2.1 0 (by decide)).1 (hs2.1 0 (by decide)).2.1 ?_
        have hs3 : ShC b0 (ea_wi (ea_wi h (b0 + 17) (Int32.toNatClampNeg x1) x2) (b0 + 0) 12 0) := ShC_wi hs2
        refine ea_iconst (pc := 48) dX11_seat_48 (v := 1) rfl ?_
        exact ea_iretE (pc := 49) dX11_seat_49 rfl (ea_bn (Or.inr rfl)) EX EY
      · have EX := EX.trans (if_neg c9)
        have EY := EY.trans (if_neg c9)
        have K := K.2 c9
        refine ea_aload_n (pc := 20) dX11_seat_20 rfl 0 rfl ?_
        refine ea_getR (pc := 21) dX11_seat_21 ec_11 (k := 1) (Nat.le_of_ble_eq_true rfl) rfl (Or.inl ew_438) (hs.1 0 (by decide)).1 (hs.1 0 (by decide)).2.1 (hs.2 0 1 rfl) ?_
        refine ea_iload_n (pc := 24) dX11_seat_24 rfl 2 rfl ?_
        refine ea_callV (pc := 25) (d' := d - 1) (As := [vI x2]) (st := []) dX11_seat_25 kX9_has (sX9_has (d := d - 1) (by omega) hs) (by omega) rfl (Nat.le_of_ble_eq_true rfl) ew_518 ew_519 ew_520 (ci := 9) rfl (by decide) (hs.1 5 (by decide)).1 (hs.1 5 (by decide)).2.1 ?_
        refine ea_if_ne (pc := 28) (tgt := 33) dX11_seat_28 rfl (fun c8 => ?_) (fun c8 => ?_)
        · have EX := EX.trans (if_neg c8)
          have EY := EY.trans (if_neg c8)
          have K := K.2 c8
          refine ea_aload_n (pc := 33) dX11_seat_33 rfl 0 rfl ?_
          refine ea_getR (pc := 34) dX11_seat_34 ec_11 (k := 3) (Nat.le_of_ble_eq_true rfl) rfl (Or.inl ew_440) (hs.1 0 (by decide)).1 (hs.1 0 (by decide)).2.1 (hs.2 0 3 rfl) ?_
          refine ea_getR (pc := 37) dX11_seat_37 ec_3 (k := 1) (Nat.le_of_ble_eq_true rfl) rfl (Or.inl ew_264) (hs.1 16 (by decide)).1 (hs.1 16 (by decide)).2.1 (hs.2 16 1 rfl) ?_
          refine ea_iload_n (pc := 40) dX11_seat_40 rfl 1 rfl ?_
          refine ea_iload_n (pc := 41) dX11_seat_41 rfl 2 rfl ?_
          have z5 := K
          refine ea_iast (pc := 42) dX11_seat_42 (hs.1 17 (by decide)).1 (hs.1 17 (by decide)).2.1 (ea_vpl (hs.1 17 (by decide)).2.2 z5) ?_
          have hs6 : ShC b0 (ea_wi h (b0 + 17) (Int32.toNatClampNeg x1) x2) := ShC_wi hs
          refine ea_aload_n (pc := 43) dX11_seat_43 rfl 0 rfl ?_
          refine ea_iconst (pc := 44) dX11_seat_44 (v := 0) rfl ?_
          refine ea_putI (pc := 45) dX11_seat_45 ec_11 (k := 12) (Nat.le_of_ble_eq_true rfl) rfl (Or.inl ⟨rfl, Or.inl ew_449⟩) (ea_bn (Or.inl rfl)) (ea_bf (Or.inl rfl)) (hs6.1 0 (by decide)).1 (hs6.1 0 (by decide)).2.1 ?_
          have hs7 : ShC b0 (ea_wi (ea_wi h (b0 + 17) (Int32.toNatClampNeg x1) x2) (b0 + 0) 12 0) := ShC_wi hs6
          refine ea_iconst (pc := 48) dX11_seat_48 (v := 1) rfl ?_
          exact ea_iretE (pc := 49) dX11_seat_49 rfl (ea_bn (Or.inr rfl)) EX EY
        · have EX := EX.trans (if_pos c8)
          have EY := EY.trans (if_pos c8)
          refine ea_iconst (pc := 31) dX11_seat_31 (v := 0) rfl ?_
          exact ea_iretE (pc := 32) dX11_seat_32 rfl (ea_bn (Or.inl rfl)) EX EY
noncomputable def vX11_nobody (b0 : Nat) (x1 : Int32) (h : ea_H) : Int32 := (if (vX11_letterOf b0 (x1 : Int32) h) = none then (0 : Int32) else (if (ea_i h (Option.getD (vX11_letterOf b0 (x1 : Int32) h) 0) 15) = (0 : Int32) then (if (ea_i h (b0 + 33) (Int32.toNatClampNeg x1)) ≤ (1 : Int32) then (1 : Int32) else (0 : Int32)) else (0 : Int32)))
noncomputable def wX11_nobody (b0 : Nat) (x1 : Int32) (h : ea_H) : ea_H := (if (vX11_letterOf b0 (x1 : Int32) h) = none then h else (if (ea_i h (Option.getD (vX11_letterOf b0 (x1 : Int32) h) 0) 15) = (0 : Int32) then (if (ea_i h (b0 + 33) (Int32.toNatClampNeg x1)) ≤ (1 : Int32) then (ea_wi (ea_wi h (Option.getD (vX11_letterOf b0 (x1 : Int32) h) 0) 15 1) (b0 + 0) 12 0) else h) else h))
def okX11_nobody (b0 : Nat) (x1 : Int32) (h : ea_H) : Prop := (okX11_letterOf b0 (x1 : Int32) h) ∧ (((vX11_letterOf b0 (x1 : Int32) h) = none → True) ∧ (¬ (vX11_letterOf b0 (x1 : Int32) h) = none → (vX11_letterOf b0 (x1 : Int32) h) = some (Option.getD (vX11_letterOf b0 (x1 : Int32) h) 0) ∧ (((Option.getD (vX11_letterOf b0 (x1 : Int32) h) 0) < ea_n h ∧ ea_c h (Option.getD (vX11_letterOf b0 (x1 : Int32) h) 0) = 4) ∧ (((ea_i h (Option.getD (vX11_letterOf b0 (x1 : Int32) h) 0) 15) = (0 : Int32) → vp_in x1 120 ∧ (((ea_i h (b0 + 33) (Int32.toNatClampNeg x1)) ≤ (1 : Int32) → (vX11_letterOf b0 (x1 : Int32) h) = some (Option.getD (vX11_letterOf b0 (x1 : Int32) h) 0) ∧ (((Option.getD (vX11_letterOf b0 (x1 : Int32) h) 0) < ea_n h ∧ ea_c h (Option.getD (vX11_letterOf b0 (x1 : Int32) h) 0) = 4))) ∧ (¬ (ea_i h (b0 + 33) (Int32.toNatClampNeg x1)) ≤ (1 : Int32) → True))) ∧ (¬ (ea_i h (Option.getD (vX11_letterOf b0 (x1 : Int32) h) 0) 15) = (0 : Int32) → True)))))
theorem bo_vX11_nobody (b0 : Nat) (x1 : Int32) (h : ea_H) : vX11_nobody b0 x1 h = 0 ∨ vX11_nobody b0 x1 h = 1 := (ea_itB (Or.inl rfl) (ea_itB (ea_itB (Or.inr rfl) (Or.inl rfl)) (Or.inl rfl)))
theorem shX11_nobody {b0 : Nat} {x1 : Int32} {h : ea_H} (hs : ShC b0 h) : ShC b0 (wX11_nobody b0 x1 h) := (ShC_it hs (ShC_it (ShC_it (ShC_wi (ShC_wi hs)) hs) hs))
theorem sX11_nobody {d : Nat} {b0 : Nat} {x1 : Int32} {h : ea_H} (hd : 2 ≤ d) (hs : ShC b0 h) (K : okX11_nobody b0 x1 h) : ea_Met mX11_nobody d [vR (some (b0 + 0)), vI x1] h (some (vI (vX11_nobody b0 x1 h))) (wX11_nobody b0 x1 h) := by
  obtain ⟨X, EX⟩ : ∃ z, z = vX11_nobody b0 x1 h := ⟨_, rfl⟩
  rw [← EX]
  unfold vX11_nobody at EX
  obtain ⟨Y, EY⟩ : ∃ z, z = wX11_nobody b0 x1 h := ⟨_, rfl⟩
  rw [← EY]
  unfold wX11_nobody at EY
  unfold okX11_nobody at K
  refine ea_enter rfl (Nat.le_of_ble_eq_true rfl) ?_
  refine ea_aload_n (pc := 0) dX11_nobody_0 rfl 0 rfl ?_
  refine ea_iload_n (pc := 1) dX11_nobody_1 rfl 1 rfl ?_
  obtain ⟨z1, K⟩ := K
  refine ea_callV (pc := 2) (d' := d - 1) (As := [vI x1]) (st := []) dX11_nobody_2 kX11_letterOf (sX11_letterOf (d := d - 1) (by omega) hs z1) (by omega) rfl (Nat.le_of_ble_eq_true rfl) ew_1076 ew_1078 ew_37 (ci := 11) rfl (by decide) (hs.1 0 (by decide)).1 (hs.1 0 (by decide)).2.1 ?_
  refine ea_astore_n (pc := 5) (lv' := [(0, vR (some (b0 + 0))), (1, vI x1), (2, vR (vX11_letterOf b0 (x1 : Int32) h))]) dX11_nobody_5 rfl (Nat.le_of_ble_eq_true rfl) [1, 2, 0] rfl ?_
  refine ea_aload_n (pc := 6) dX11_nobody_6 rfl 2 rfl ?_
  refine ea_ifnull (pc := 7) (tgt := 30) dX11_nobody_7 rfl (fun c11 => ?_) (fun a12 c11 => ?_)
  · have EX := EX.trans (if_pos c11)
    have EY := EY.trans (if_pos c11)
    refine ea_iconst (pc := 30) dX11_nobody_30 (v := 0) rfl ?_
    exact ea_iretE (pc := 31) dX11_nobody_31 rfl (ea_bn (Or.inl rfl)) EX EY
  · have c11n : ¬ (vX11_letterOf b0 (x1 : Int32) h) = none := by rw [c11]; exact fun q => nomatch q
    have EX := EX.trans (if_neg c11n)
    have EY := EY.trans (if_neg c11n)
    have K := K.2 c11n
    refine ea_aload_n (pc := 10) dX11_nobody_10 rfl 2 rfl ?_
    obtain ⟨e2, f3, K⟩ := K
    refine ea_deref0 e2 ?_
    refine ea_getI (pc := 11) dX11_nobody_11 ec_4 (k := 15) (Nat.le_of_ble_eq_true rfl) rfl (Or.inl ew_973) f3.1 f3.2 ?_
    refine ea_if_ne (pc := 14) (tgt := 30) dX11_nobody_14 rfl (fun c10 => ?_) (fun c10 => ?_)
    · have EX := EX.trans (if_neg c10)
      have EY := EY.trans (if_neg c10)
      refine ea_iconst (pc := 30) dX11_nobody_30 (v := 0) rfl ?_
      exact ea_iretE (pc := 31) dX11_nobody_31 rfl (ea_bn (Or.inl rfl)) EX EY
    · have EX := EX.trans (if_pos c10)
      have EY := EY.trans (if_pos c10)
      have K := K.1 c10
      refine ea_aload_n (pc := 17) dX11_nobody_17 rfl 0 rfl ?_
      refine ea_getR (pc := 18) dX11_nobody_18 ec_11 (k := 6) (Nat.le_of_ble_eq_true rfl) rfl (Or.inl ew_443) (hs.1 0 (by decide)).1 (hs.1 0 (by decide)).2.1 (hs.2 0 6 rfl) ?_
      refine ea_getR (pc := 21) dX11_nobody_21 ec_1 (k := 1) (Nat.le_of_ble_eq_true rfl) rfl (Or.inl ew_362) (hs.1 32 (by decide)).1 (hs.1 32 (by decide)).2.1 (hs.2 32 1 rfl) ?_
      refine ea_iload_n (pc := 24) dX11_nobody_24 rfl 1 rfl ?_
      obtain ⟨z4, K⟩ := K
      refine ea_iald (pc := 25) dX11_nobody_25 (hs.1 33 (by decide)).1 (hs.1 33 (by decide)).2.1 (ea_vpl (hs.1 33 (by decide)).2.2 z4) ?_
      refine ea_iconst (pc := 26) dX11_nobody_26 (v := 1) rfl ?_
      refine ea_icmp_le (pc := 27) (tgt := 32) dX11_nobody_27 rfl (fun c9 => ?_) (fun c9 => ?_)
      · have EX := EX.trans (if_pos c9)
        have EY := EY.trans (if_pos c9)
        have K := K.1 c9
        refine ea_aload_n (pc := 32) dX11_nobody_32 rfl 2 rfl ?_
        refine ea_iconst (pc := 33) dX11_nobody_33 (v := 1) rfl ?_
        obtain ⟨e5, f6⟩ := K
        refine ea_deref1 e5 ?_
        refine ea_putI (pc := 34) dX11_nobody_34 ec_4 (k := 15) (Nat.le_of_ble_eq_true rfl) rfl (Or.inl ⟨rfl, Or.inl ew_973⟩) (ea_bn (Or.inr rfl)) (ea_bf (Or.inr rfl)) f6.1 f6.2 ?_
        have hs7 : ShC b0 (ea_wi h (Option.getD (vX11_letterOf b0 (x1 : Int32) h) 0) 15 1) := ShC_wi hs
        refine ea_aload_n (pc := 37) dX11_nobody_37 rfl 0 rfl ?_
        refine ea_iconst (pc := 38) dX11_nobody_38 (v := 0) rfl ?_
        refine ea_putI (pc := 39) dX11_nobody_39 ec_11 (k := 12) (Nat.le_of_ble_eq_true rfl) rfl (Or.inl ⟨rfl, Or.inl ew_449⟩) (ea_bn (Or.inl rfl)) (ea_bf (Or.inl rfl)) (hs7.1 0 (by decide)).1 (hs7.1 0 (by decide)).2.1 ?_
        have hs8 : ShC b0 (ea_wi (ea_wi h (Option.getD (vX11_letterOf b0 (x1 : Int32) h) 0) 15 1) (b0 + 0) 12 0) := ShC_wi hs7
        refine ea_iconst (pc := 42) dX11_nobody_42 (v := 1) rfl ?_
        exact ea_iretE (pc := 43) dX11_nobody_43 rfl (ea_bn (Or.inr rfl)) EX EY
      · have EX := EX.trans (if_neg c9)
        have EY := EY.trans (if_neg c9)
        refine ea_iconst (pc := 30) dX11_nobody_30 (v := 0) rfl ?_
        exact ea_iretE (pc := 31) dX11_nobody_31 rfl (ea_bn (Or.inl rfl)) EX EY
noncomputable def vX11_robbery (b0 : Nat) (x1 : Int32) (x2 : Int32) (h : ea_H) : Int32 := (if x1 < (0 : Int32) then ((-1) : Int32) else (if x1 < (ea_i h (b0 + 0) 10) then (if Int32.toInt x2 = 0 then (ea_i h (Option.getD (ea_r h (b0 + 53) (Int32.toNatClampNeg x1)) 0) 0) else (if Int32.toInt x2 = 1 then (ea_i h (Option.getD (ea_r h (b0 + 53) (Int32.toNatClampNeg x1)) 0) 1) else (if Int32.toInt x2 = 2 then (ea_i h (Option.getD (ea_r h (b0 + 53) (Int32.toNatClampNeg x1)) 0) 2) else (if Int32.toInt x2 = 3 then (ea_i h (Option.getD (ea_r h (b0 + 53) (Int32.toNatClampNeg x1)) 0) 3) else (if (10 : Int32) ≤ x2 then (vX7_letterAt b0 (Option.getD (ea_r h (b0 + 53) (Int32.toNatClampNeg x1)) 0) ((x2 - (10 : Int32)) : Int32) h) else ((-1) : Int32)))))) else ((-1) : Int32)))
def okX11_robbery (b0 : Nat) (x1 : Int32) (x2 : Int32) (h : ea_H) : Prop := (x1 < (0 : Int32) → True) ∧ (¬ x1 < (0 : Int32) → (x1 < (ea_i h (b0 + 0) 10) → vp_in x1 20 ∧ ((Int32.toInt x2 = 0 → (ea_r h (b0 + 53) (Int32.toNatClampNeg x1)) = some (Option.getD (ea_r h (b0 + 53) (Int32.toNatClampNeg x1)) 0) ∧ (((Option.getD (ea_r h (b0 + 53) (Int32.toNatClampNeg x1)) 0) < ea_n h ∧ ea_c h (Option.getD (ea_r h (b0 + 53) (Int32.toNatClampNeg x1)) 0) = 7))) ∧ (¬ Int32.toInt x2 = 0 → (Int32.toInt x2 = 1 → (ea_r h (b0 + 53) (Int32.toNatClampNeg x1)) = some (Option.getD (ea_r h (b0 + 53) (Int32.toNatClampNeg x1)) 0) ∧ (((Option.getD (ea_r h (b0 + 53) (Int32.toNatClampNeg x1)) 0) < ea_n h ∧ ea_c h (Option.getD (ea_r h (b0 + 53) (Int32.toNatClampNeg x1)) 0) = 7))) ∧ (¬ Int32.toInt x2 = 1 → (Int32.toInt x2 = 2 → (ea_r h (b0 + 53) (Int32.toNatClampNeg x1)) = some (Option.getD (ea_r h (b0 + 53) (Int32.toNatClampNeg x1)) 0) ∧ (((Option.getD (ea_r h (b0 + 53) (Int32.toNatClampNeg x1)) 0) < ea_n h ∧ ea_c h (Option.getD (ea_r h (b0 + 53) (Int32.toNatClampNeg x1)) 0) = 7))) ∧ (¬ Int32.toInt x2 = 2 → (Int32.toInt x2 = 3 → (ea_r h (b0 + 53) (Int32.toNatClampNeg x1)) = some (Option.getD (ea_r h (b0 + 53) (Int32.toNatClampNeg x1)) 0) ∧ (((Option.getD (ea_r h (b0 + 53) (Int32.toNatClampNeg x1)) 0) < ea_n h ∧ ea_c h (Option.getD (ea_r h (b0 + 53) (Int32.toNatClampNeg x1)) 0) = 7))) ∧ (¬ Int32.toInt x2 = 3 → ((10 : Int32) ≤ x2 → (ea_r h (b0 + 53) (Int32.toNatClampNeg x1)) = some (Option.getD (ea_r h (b0 + 53) (Int32.toNatClampNeg x1)) 0) ∧ (((Option.getD (ea_r h (b0 + 53) (Int32.toNatClampNeg x1)) 0) < ea_n h ∧ ea_c h (Option.getD (ea_r h (b0 + 53) (Int32.toNatClampNeg x1)) 0) = 7) ∧ ((okX7_letterAt b0 (Option.getD (ea_r h (b0 + 53) (Int32.toNatClampNeg x1)) 0) ((x2 - (10 : Int32)) : Int32) h)))) ∧ (¬ (10 : Int32) ≤ x2 → True))))))) ∧ (¬ x1 < (ea_i h (b0 + 0) 10) → True))
theorem sX11_robbery {d : Nat} {b0 : Nat} {x1 : Int32} {x2 : Int32} {h : ea_H} (hd : 2 ≤ d) (hs : ShC b0 h) (K : okX11_robbery b0 x1 x2 h) : ea_Met mX11_robbery d [vR (some (b0 + 0)), vI x1, vI x2] h (some (vI (vX11_robbery b0 x1 x2 h))) h := by
  obtain ⟨X, EX⟩ : ∃ z, z = vX11_robbery b0 x1 x2 h := ⟨_, rfl⟩
  rw [← EX]
  unfold vX11_robbery at EX
  unfold okX11_robbery at K
  refine ea_enter rfl (Nat.le_of_ble_eq_true rfl) ?_
  refine ea_iload_n (pc := 0) dX11_robbery_0 rfl 1 rfl ?_
  refine ea_if_lt (pc := 1) (tgt := 12) dX11_robbery_1 rfl (fun c15 => ?_) (fun c15 => ?_)
  · have EX := EX.trans (if_pos c15)
    refine ea_iconst (pc := 12) dX11_robbery_12 (v := (-1)) rfl ?_
    exact ea_iretE (pc := 13) dX11_robbery_13 rfl rfl EX rfl
  · have EX := EX.trans (if_neg c15)
    have K := K.2 c15
    refine ea_iload_n (pc := 4) dX11_robbery_4 rfl 1 rfl ?_
    refine ea_aload_n (pc := 5) dX11_robbery_5 rfl 0 rfl ?_
    refine ea_getI (pc := 6) dX11_robbery_6 ec_11 (k := 10) (Nat.le_of_ble_eq_true rfl) rfl (Or.inl ew_447) (hs.1 0 (by decide)).1 (hs.1 0 (by decide)).2.1 ?_
    refine ea_icmp_lt (pc := 9) (tgt := 14) dX11_robbery_9 rfl (fun c14 => ?_) (fun c14 => ?_)
    · have EX := EX.trans (if_pos c14)
      have K := K.1 c14
      refine ea_aload_n (pc := 14) dX11_robbery_14 rfl 0 rfl ?_
      refine ea_getR (pc := 15) dX11_robbery_15 ec_11 (k := 9) (Nat.le_of_ble_eq_true rfl) rfl (Or.inl ew_446) (hs.1 0 (by decide)).1 (hs.1 0 (by decide)).2.1 (hs.2 0 9 rfl) ?_
      refine ea_iload_n (pc := 18) dX11_robbery_18 rfl 1 rfl ?_
      obtain ⟨z1, K⟩ := K
      refine ea_aald25 (pc := 19) dX11_robbery_19 (hs.1 53 (by decide)).1 (hs.1 53 (by decide)).2.1 (ea_vpl (hs.1 53 (by decide)).2.2 z1) rfl ?_
      refine ea_astore_n (pc := 20) (lv' := [(2, vI x2), (3, vR (ea_r h (b0 + 53) (Int32.toNatClampNeg x1)))]) dX11_robbery_20 rfl (Nat.le_of_ble_eq_true rfl) [3, 0] rfl ?_
      refine ea_iload_n (pc := 21) dX11_robbery_21 rfl 0 rfl ?_
      by_cases qc22_0 : Int32.toInt x2 = 0
      · have EX := EX.trans (if_pos qc22_0)
        have K := K.1 qc22_0
        refine ea_tswIn (pc := 22) (tgt := 52) dX11_robbery_22 (by rw [qc22_0]; decide) (by rw [qc22_0]; decide) (by rw [qc22_0]; rfl) rfl ?_
        refine ea_aload_n (pc := 52) dX11_robbery_52 rfl 1 rfl ?_
        obtain ⟨e6, f7⟩ := K
        refine ea_deref0 e6 ?_
        refine ea_getI (pc := 53) dX11_robbery_53 ec_7 (k := 0) (Nat.le_of_ble_eq_true rfl) rfl (Or.inl ew_1240) f7.1 f7.2 ?_
        exact ea_iretE (pc := 56) dX11_robbery_56 rfl rfl EX rfl
      have EX := EX.trans (if_neg qc22_0)
      have K := K.2 qc22_0
      by_cases qc22_1 : Int32.toInt x2 = 1
      · have EX := EX.trans (if_pos qc22_1)
        have K := K.1 qc22_1
        refine ea_tswIn (pc := 22) (tgt := 57) dX11_robbery_22 (by rw [qc22_1]; decide) (by rw [qc22_1]; decide) (by rw [qc22_1]; rfl) rfl ?_
        refine ea_aload_n (pc := 57) dX11_robbery_57 rfl 1 rfl ?_
        obtain ⟨e8, f9⟩ := K
        refine ea_deref0 e8 ?_
        refine ea_getI (pc := 58) dX11_robbery_58 ec_7 (k := 1) (Nat.le_of_ble_eq_true rfl) rfl (Or.inl ew_1242) f9.1 f9.2 ?_
        exact ea_iretE (pc := 61) dX11_robbery_61 rfl rfl EX rfl
      have EX := EX.trans (if_neg qc22_1)
      have K := K.2 qc22_1
      by_cases qc22_2 : Int32.toInt x2 = 2
      · have EX := EX.trans (if_pos qc22_2)
        have K := K.1 qc22_2
        refine ea_tswIn (pc := 22) (tgt := 62) dX11_robbery_22 (by rw [qc22_2]; decide) (by rw [qc22_2]; decide) (by rw [qc22_2]; rfl) rfl ?_
        refine ea_aload_n (pc := 62) dX11_robbery_62 rfl 1 rfl ?_
        obtain ⟨e10, f11⟩ := K
        refine ea_deref0 e10 ?_
        refine ea_getI (pc := 63) dX11_robbery_63 ec_7 (k := 2) (Nat.le_of_ble_eq_true rfl) rfl (Or.inl ew_1244) f11.1 f11.2 ?_
        exact ea_iretE (pc := 66) dX11_robbery_66 rfl rfl EX rfl
      have EX := EX.trans (if_neg qc22_2)
      have K := K.2 qc22_2
      by_cases qc22_3 : Int32.toInt x2 = 3
      · have EX := EX.trans (if_pos qc22_3)
        have K := K.1 qc22_3
        refine ea_tswIn (pc := 22) (tgt := 67) dX11_robbery_22 (by rw [qc22_3]; decide) (by rw [qc22_3]; decide) (by rw [qc22_3]; rfl) rfl ?_
        refine ea_aload_n (pc := 67) dX11_robbery_67 rfl 1 rfl ?_
        obtain ⟨e12, f13⟩ := K
        refine ea_deref0 e12 ?_
        refine ea_getI (pc := 68) dX11_robbery_68 ec_7 (k := 3) (Nat.le_of_ble_eq_true rfl) rfl (Or.inl ew_1246) f13.1 f13.2 ?_
        exact ea_iretE (pc := 71) dX11_robbery_71 rfl rfl EX rfl
      have EX := EX.trans (if_neg qc22_3)
      have K := K.2 qc22_3
      refine ea_tswOut (pc := 22) (tgt := 72) dX11_robbery_22 (ec_sw_0_3 qc22_0 qc22_1 qc22_2 qc22_3) rfl ?_
      refine ea_iload_n (pc := 72) dX11_robbery_72 rfl 0 rfl ?_
      refine ea_bipush (pc := 73) dX11_robbery_73 (v := 10) rfl ?_
      refine ea_icmp_ge (pc := 75) (tgt := 82) dX11_robbery_75 rfl (fun c5 => ?_) (fun c5 => ?_)
      · have EX := EX.trans (if_pos c5)
        have K := K.1 c5
        refine ea_aload_n (pc := 82) dX11_robbery_82 rfl 1 rfl ?_
        refine ea_iload_n (pc := 83) dX11_robbery_83 rfl 0 rfl ?_
        refine ea_bipush (pc := 84) dX11_robbery_84 (v := 10) rfl ?_
        refine ea_isub (pc := 86) dX11_robbery_86 ?_
        obtain ⟨e2, f3, z4⟩ := K
        refine ea_deref1 e2 ?_
        refine ea_callV (pc := 87) (d' := d - 1) (As := [vI (x2 - (10 : Int32))]) (st := []) dX11_robbery_87 kX7_letterAt (sX7_letterAt (d := d - 1) (by omega) hs z4) (by omega) rfl (Nat.le_of_ble_eq_true rfl) ew_1268 ew_1269 ew_1270 (ci := 7) rfl (by decide) f3.1 f3.2 ?_
        exact ea_iretE (pc := 90) dX11_robbery_90 rfl rfl EX rfl
      · have EX := EX.trans (if_neg c5)
        refine ea_iconst (pc := 78) dX11_robbery_78 (v := (-1)) rfl ?_
        refine ea_goto (pc := 79) (tgt := 90) dX11_robbery_79 rfl ?_
        exact ea_iretE (pc := 90) dX11_robbery_90 rfl rfl EX rfl
    · have EX := EX.trans (if_neg c14)
      refine ea_iconst (pc := 12) dX11_robbery_12 (v := (-1)) rfl ?_
      exact ea_iretE (pc := 13) dX11_robbery_13 rfl rfl EX rfl
noncomputable def vX11_set (b0 : Nat) (x1 : Int32) (h : ea_H) : Int32 := (if (vX9_has b0 (x1 : Int32) h) = (0 : Int32) then (0 : Int32) else (1 : Int32))
noncomputable def wX11_set (b0 : Nat) (x1 : Int32) (h : ea_H) : ea_H := (if (vX9_has b0 (x1 : Int32) h) = (0 : Int32) then h else (ea_wi h (Option.getD (ea_r h (b0 + 52) (Int32.toNatClampNeg x1)) 0) 0 (ea_i h (b0 + 0) 11)))
def okX11_set (b0 : Nat) (x1 : Int32) (h : ea_H) : Prop := ((vX9_has b0 (x1 : Int32) h) = (0 : Int32) → True) ∧ (¬ (vX9_has b0 (x1 : Int32) h) = (0 : Int32) → vp_in x1 10 ∧ ((ea_r h (b0 + 52) (Int32.toNatClampNeg x1)) = some (Option.getD (ea_r h (b0 + 52) (Int32.toNatClampNeg x1)) 0) ∧ (((Option.getD (ea_r h (b0 + 52) (Int32.toNatClampNeg x1)) 0) < ea_n h ∧ ea_c h (Option.getD (ea_r h (b0 + 52) (Int32.toNatClampNeg x1)) 0) = 2))))
theorem bo_vX11_set (b0 : Nat) (x1 : Int32) (h : ea_H) : vX11_set b0 x1 h = 0 ∨ vX11_set b0 x1 h = 1 := (ea_itB (Or.inl rfl) (Or.inr rfl))
theorem shX11_set {b0 : Nat} {x1 : Int32} {h : ea_H} (hs : ShC b0 h) : ShC b0 (wX11_set b0 x1 h) := (ShC_it hs (ShC_wi hs))
theorem sX11_set {d : Nat} {b0 : Nat} {x1 : Int32} {h : ea_H} (hd : 2 ≤ d) (hs : ShC b0 h) (K : okX11_set b0 x1 h) : ea_Met mX11_set d [vR (some (b0 + 0)), vI x1] h (some (vI (vX11_set b0 x1 h))) (wX11_set b0 x1 h) := by
  obtain ⟨X, EX⟩ : ∃ z, z = vX11_set b0 x1 h := ⟨_, rfl⟩
  rw [← EX]
  unfold vX11_set at EX
  obtain ⟨Y, EY⟩ : ∃ z, z = wX11_set b0 x1 h := ⟨_, rfl⟩
  rw [← EY]
  unfold wX11_set at EY
  unfold okX11_set at K
  refine ea_enter rfl (Nat.le_of_ble_eq_true rfl) ?_
  refine ea_aload_n (pc := 0) dX11_set_0 rfl 0 rfl ?_
  refine ea_getR (pc := 1) dX11_set_1 ec_11 (k := 1) (Nat.le_of_ble_eq_true rfl) rfl (Or.inl ew_438) (hs.1 0 (by decide)).1 (hs.1 0 (by decide)).2.1 (hs.2 0 1 rfl) ?_
  refine ea_iload_n (pc := 4) dX11_set_4 rfl 1 rfl ?_
  refine ea_callV (pc := 5) (d' := d - 1) (As := [vI x1]) (st := []) dX11_set_5 kX9_has (sX9_has (d := d - 1) (by omega) hs) (by omega) rfl (Nat.le_of_ble_eq_true rfl) ew_518 ew_519 ew_520 (ci := 9) rfl (by decide) (hs.1 5 (by decide)).1 (hs.1 5 (by decide)).2.1 ?_
  refine ea_if_ne (pc := 8) (tgt := 13) dX11_set_8 rfl (fun c6 => ?_) (fun c6 => ?_)
  · have EX := EX.trans (if_neg c6)
    have EY := EY.trans (if_neg c6)
    have K := K.2 c6
    refine ea_aload_n (pc := 13) dX11_set_13 rfl 0 rfl ?_
    refine ea_getR (pc := 14) dX11_set_14 ec_11 (k := 8) (Nat.le_of_ble_eq_true rfl) rfl (Or.inl ew_445) (hs.1 0 (by decide)).1 (hs.1 0 (by decide)).2.1 (hs.2 0 8 rfl) ?_
    refine ea_iload_n (pc := 17) dX11_set_17 rfl 1 rfl ?_
    obtain ⟨z2, K⟩ := K
    refine ea_aald24 (pc := 18) dX11_set_18 (hs.1 52 (by decide)).1 (hs.1 52 (by decide)).2.1 (ea_vpl (hs.1 52 (by decide)).2.2 z2) rfl ?_
    refine ea_aload_n (pc := 19) dX11_set_19 rfl 0 rfl ?_
    refine ea_getI (pc := 20) dX11_set_20 ec_11 (k := 11) (Nat.le_of_ble_eq_true rfl) rfl (Or.inl ew_448) (hs.1 0 (by decide)).1 (hs.1 0 (by decide)).2.1 ?_
    obtain ⟨e3, f4⟩ := K
    refine ea_deref1 e3 ?_
    refine ea_putI (pc := 23) dX11_set_23 ec_2 (k := 0) (Nat.le_of_ble_eq_true rfl) rfl (Or.inl ⟨rfl, Or.inl ew_425⟩) rfl rfl f4.1 f4.2 ?_
    have hs5 : ShC b0 (ea_wi h (Option.getD (ea_r h (b0 + 52) (Int32.toNatClampNeg x1)) 0) 0 (ea_i h (b0 + 0) 11)) := ShC_wi hs
    refine ea_iconst (pc := 26) dX11_set_26 (v := 1) rfl ?_
    exact ea_iretE (pc := 27) dX11_set_27 rfl (ea_bn (Or.inr rfl)) EX EY
  · have EX := EX.trans (if_pos c6)
    have EY := EY.trans (if_pos c6)
    refine ea_iconst (pc := 11) dX11_set_11 (v := 0) rfl ?_
    exact ea_iretE (pc := 12) dX11_set_12 rfl (ea_bn (Or.inl rfl)) EX EY
noncomputable def vX11_clock (b0 : Nat) (x1 : Int32) (x2 : Int32) (h : ea_H) : Int32 := (if (vX9_has b0 (x1 : Int32) h) = (0 : Int32) then ((-1000) : Int32) else (if Int32.toInt x2 = 0 then (ea_i h (Option.getD (ea_r h (b0 + 52) (Int32.toNatClampNeg x1)) 0) 1) else (if Int32.toInt x2 = 1 then (ea_i h (Option.getD (ea_r h (b0 + 52) (Int32.toNatClampNeg x1)) 0) 2) else (if Int32.toInt x2 = 2 then (ea_i h (Option.getD (ea_r h (b0 + 52) (Int32.toNatClampNeg x1)) 0) 0) else ((-1000) : Int32)))))
def okX11_clock (b0 : Nat) (x1 : Int32) (x2 : Int32) (h : ea_H) : Prop := ((vX9_has b0 (x1 : Int32) h) = (0 : Int32) → True) ∧ (¬ (vX9_has b0 (x1 : Int32) h) = (0 : Int32) → (Int32.toInt x2 = 0 → vp_in x1 10 ∧ ((ea_r h (b0 + 52) (Int32.toNatClampNeg x1)) = some (Option.getD (ea_r h (b0 + 52) (Int32.toNatClampNeg x1)) 0) ∧ (((Option.getD (ea_r h (b0 + 52) (Int32.toNatClampNeg x1)) 0) < ea_n h ∧ ea_c h (Option.getD (ea_r h (b0 + 52) (Int32.toNatClampNeg x1)) 0) = 2)))) ∧ (¬ Int32.toInt x2 = 0 → (Int32.toInt x2 = 1 → vp_in x1 10 ∧ ((ea_r h (b0 + 52) (Int32.toNatClampNeg x1)) = some (Option.getD (ea_r h (b0 + 52) (Int32.toNatClampNeg x1)) 0) ∧ (((Option.getD (ea_r h (b0 + 52) (Int32.toNatClampNeg x1)) 0) < ea_n h ∧ ea_c h (Option.getD (ea_r h (b0 + 52) (Int32.toNatClampNeg x1)) 0) = 2)))) ∧ (¬ Int32.toInt x2 = 1 → (Int32.toInt x2 = 2 → vp_in x1 10 ∧ ((ea_r h (b0 + 52) (Int32.toNatClampNeg x1)) = some (Option.getD (ea_r h (b0 + 52) (Int32.toNatClampNeg x1)) 0) ∧ (((Option.getD (ea_r h (b0 + 52) (Int32.toNatClampNeg x1)) 0) < ea_n h ∧ ea_c h (Option.getD (ea_r h (b0 + 52) (Int32.toNatClampNeg x1)) 0) = 2)))) ∧ (¬ Int32.toInt x2 = 2 → True))))
theorem sX11_clock {d : Nat} {b0 : Nat} {x1 : Int32} {x2 : Int32} {h : ea_H} (hd : 2 ≤ d) (hs : ShC b0 h) (K : okX11_clock b0 x1 x2 h) : ea_Met mX11_clock d [vR (some (b0 + 0)), vI x1, vI x2] h (some (vI (vX11_clock b0 x1 x2 h))) h := by
  obtain ⟨X, EX⟩ : ∃ z, z = vX11_clock b0 x1 x2 h := ⟨_, rfl⟩
  rw [← EX]
  unfold vX11_clock at EX
  unfold okX11_clock at K
  refine ea_enter rfl (Nat.le_of_ble_eq_true rfl) ?_
  refine ea_aload_n (pc := 0) dX11_clock_0 rfl 0 rfl ?_
  refine ea_getR (pc := 1) dX11_clock_1 ec_11 (k := 1) (Nat.le_of_ble_eq_true rfl) rfl (Or.inl ew_438) (hs.1 0 (by decide)).1 (hs.1 0 (by decide)).2.1 (hs.2 0 1 rfl) ?_
  refine ea_iload_n (pc := 4) dX11_clock_4 rfl 1 rfl ?_
  refine ea_callV (pc := 5) (d' := d - 1) (As := [vI x1]) (st := []) dX11_clock_5 kX9_has (sX9_has (d := d - 1) (by omega) hs) (by omega) rfl (Nat.le_of_ble_eq_true rfl) ew_518 ew_519 ew_520 (ci := 9) rfl (by decide) (hs.1 5 (by decide)).1 (hs.1 5 (by decide)).2.1 ?_
  refine ea_if_ne (pc := 8) (tgt := 15) dX11_clock_8 rfl (fun c11 => ?_) (fun c11 => ?_)
  · have EX := EX.trans (if_neg c11)
    have K := K.2 c11
    refine ea_iload_n (pc := 15) dX11_clock_15 rfl 2 rfl ?_
    by_cases qc16_0 : Int32.toInt x2 = 0
    · have EX := EX.trans (if_pos qc16_0)
      have K := K.1 qc16_0
      refine ea_tswIn (pc := 16) (tgt := 44) dX11_clock_16 (by rw [qc16_0]; decide) (by rw [qc16_0]; decide) (by rw [qc16_0]; rfl) rfl ?_
      refine ea_aload_n (pc := 44) dX11_clock_44 rfl 0 rfl ?_
      refine ea_getR (pc := 45) dX11_clock_45 ec_11 (k := 8) (Nat.le_of_ble_eq_true rfl) rfl (Or.inl ew_445) (hs.1 0 (by decide)).1 (hs.1 0 (by decide)).2.1 (hs.2 0 8 rfl) ?_
      refine ea_iload_n (pc := 48) dX11_clock_48 rfl 1 rfl ?_
      obtain ⟨z2, K⟩ := K
      refine ea_aald24 (pc := 49) dX11_clock_49 (hs.1 52 (by decide)).1 (hs.1 52 (by decide)).2.1 (ea_vpl (hs.1 52 (by decide)).2.2 z2) rfl ?_
      obtain ⟨e3, f4⟩ := K
      refine ea_deref0 e3 ?_
      refine ea_getI (pc := 50) dX11_clock_50 ec_2 (k := 1) (Nat.le_of_ble_eq_true rfl) rfl (Or.inl ew_427) f4.1 f4.2 ?_
      exact ea_iretE (pc := 53) dX11_clock_53 rfl rfl EX rfl
    have EX := EX.trans (if_neg qc16_0)
    have K := K.2 qc16_0
    by_cases qc16_1 : Int32.toInt x2 = 1
    · have EX := EX.trans (if_pos qc16_1)
      have K := K.1 qc16_1
      refine ea_tswIn (pc := 16) (tgt := 54) dX11_clock_16 (by rw [qc16_1]; decide) (by rw [qc16_1]; decide) (by rw [qc16_1]; rfl) rfl ?_
      refine ea_aload_n (pc := 54) dX11_clock_54 rfl 0 rfl ?_
      refine ea_getR (pc := 55) dX11_clock_55 ec_11 (k := 8) (Nat.le_of_ble_eq_true rfl) rfl (Or.inl ew_445) (hs.1 0 (by decide)).1 (hs.1 0 (by decide)).2.1 (hs.2 0 8 rfl) ?_
      refine ea_iload_n (pc := 58) dX11_clock_58 rfl 1 rfl ?_
      obtain ⟨z5, K⟩ := K
      refine ea_aald24 (pc := 59) dX11_clock_59 (hs.1 52 (by decide)).1 (hs.1 52 (by decide)).2.1 (ea_vpl (hs.1 52 (by decide)).2.2 z5) rfl ?_
      obtain ⟨e6, f7⟩ := K
      refine ea_deref0 e6 ?_
      refine ea_getI (pc := 60) dX11_clock_60 ec_2 (k := 2) (Nat.le_of_ble_eq_true rfl) rfl (Or.inl ew_429) f7.1 f7.2 ?_
      exact ea_iretE (pc := 63) dX11_clock_63 rfl rfl EX rfl
    have EX := EX.trans (if_neg qc16_1)
    have K := K.2 qc16_1
    by_cases qc16_2 : Int32.toInt x2 = 2
    · have EX := EX.trans (if_pos qc16_2)
      have K := K.1 qc16_2
      refine ea_tswIn (pc := 16) (tgt := 64) dX11_clock_16 (by rw [qc16_2]; decide) (by rw [qc16_2]; decide) (by rw [qc16_2]; rfl) rfl ?_
      refine ea_aload_n (pc := 64) dX11_clock_64 rfl 0 rfl ?_
      refine ea_getR (pc := 65) dX11_clock_65 ec_11 (k := 8) (Nat.le_of_ble_eq_true rfl) rfl (Or.inl ew_445) (hs.1 0 (by decide)).1 (hs.1 0 (by decide)).2.1 (hs.2 0 8 rfl) ?_
      refine ea_iload_n (pc := 68) dX11_clock_68 rfl 1 rfl ?_
      obtain ⟨z8, K⟩ := K
      refine ea_aald24 (pc := 69) dX11_clock_69 (hs.1 52 (by decide)).1 (hs.1 52 (by decide)).2.1 (ea_vpl (hs.1 52 (by decide)).2.2 z8) rfl ?_
      obtain ⟨e9, f10⟩ := K
      refine ea_deref0 e9 ?_
      refine ea_getI (pc := 70) dX11_clock_70 ec_2 (k := 0) (Nat.le_of_ble_eq_true rfl) rfl (Or.inl ew_425) f10.1 f10.2 ?_
      exact ea_iretE (pc := 73) dX11_clock_73 rfl rfl EX rfl
    have EX := EX.trans (if_neg qc16_2)
    have K := K.2 qc16_2
    refine ea_tswOut (pc := 16) (tgt := 74) dX11_clock_16 (ec_sw_0_2 qc16_0 qc16_1 qc16_2) rfl ?_
    refine ea_sipush (pc := 74) dX11_clock_74 (v := (-1000)) rfl ?_
    exact ea_iretE (pc := 77) dX11_clock_77 rfl rfl EX rfl
  · have EX := EX.trans (if_pos c11)
    refine ea_sipush (pc := 11) dX11_clock_11 (v := (-1000)) rfl ?_
    exact ea_iretE (pc := 14) dX11_clock_14 rfl rfl EX rfl
noncomputable def vX11_mayBeTold (b0 : Nat) (x1 : Int32) (x2 : Int32) (x3 : Int32) (h : ea_H) : Int32 := (if (vX9_hasRun b0 (x1 : Int32) (x2 : Int32) h) = (0 : Int32) then (0 : Int32) else (if x3 < (0 : Int32) then (0 : Int32) else (if (300 : Int32) < x3 then (0 : Int32) else (if (ea_i h (b0 + 6) (Int32.toNatClampNeg x1)) ≤ (0 : Int32) then (0 : Int32) else (if (((1440 : Int32) * x2) + (ea_i h (b0 + 9) (Int32.toNatClampNeg ((8 : Int32) * x1)))) ≤ (ea_i h (b0 + 0) 11) then (0 : Int32) else (1 : Int32))))))
def okX11_mayBeTold (b0 : Nat) (x1 : Int32) (x2 : Int32) (x3 : Int32) (h : ea_H) : Prop := ((vX9_hasRun b0 (x1 : Int32) (x2 : Int32) h) = (0 : Int32) → True) ∧ (¬ (vX9_hasRun b0 (x1 : Int32) (x2 : Int32) h) = (0 : Int32) → (x3 < (0 : Int32) → True) ∧ (¬ x3 < (0 : Int32) → ((300 : Int32) < x3 → True) ∧ (¬ (300 : Int32) < x3 → vp_in x1 10 ∧ (((ea_i h (b0 + 6) (Int32.toNatClampNeg x1)) ≤ (0 : Int32) → True) ∧ (¬ (ea_i h (b0 + 6) (Int32.toNatClampNeg x1)) ≤ (0 : Int32) → vp_in ((8 : Int32) * x1) 80)))))
theorem bo_vX11_mayBeTold (b0 : Nat) (x1 : Int32) (x2 : Int32) (x3 : Int32) (h : ea_H) : vX11_mayBeTold b0 x1 x2 x3 h = 0 ∨ vX11_mayBeTold b0 x1 x2 x3 h = 1 := (ea_itB (Or.inl rfl) (ea_itB (Or.inl rfl) (ea_itB (Or.inl rfl) (ea_itB (Or.inl rfl) (ea_itB (Or.inl rfl) (Or.inr rfl))))))
theorem sX11_mayBeTold {d : Nat} {b0 : Nat} {x1 : Int32} {x2 : Int32} {x3 : Int32} {h : ea_H} (hd : 3 ≤ d) (hs : ShC b0 h) (K : okX11_mayBeTold b0 x1 x2 x3 h) : ea_Met mX11_mayBeTold d [vR (some (b0 + 0)), vI x1, vI x2, vI x3] h (some (vI (vX11_mayBeTold b0 x1 x2 x3 h))) h := by
  obtain ⟨X, EX⟩ : ∃ z, z = vX11_mayBeTold b0 x1 x2 x3 h := ⟨_, rfl⟩
  rw [← EX]
  unfold vX11_mayBeTold at EX
  unfold okX11_mayBeTold at K
  refine ea_enter rfl (Nat.le_of_ble_eq_true rfl) ?_
  refine ea_aload_n (pc := 0) dX11_mayBeTold_0 rfl 0 rfl ?_
  refine ea_getR (pc := 1) dX11_mayBeTold_1 ec_11 (k := 1) (Nat.le_of_ble_eq_true rfl) rfl (Or.inl ew_438) (hs.1 0 (by decide)).1 (hs.1 0 (by decide)).2.1 (hs.2 0 1 rfl) ?_
  refine ea_iload_n (pc := 4) dX11_mayBeTold_4 rfl 1 rfl ?_
  refine ea_iload_n (pc := 5) dX11_mayBeTold_5 rfl 2 rfl ?_
  refine ea_callV (pc := 6) (d' := d - 1) (As := [vI x1, vI x2]) (st := []) dX11_mayBeTold_6 kX9_hasRun (sX9_hasRun (d := d - 1) (by omega) hs) (by omega) rfl (Nat.le_of_ble_eq_true rfl) ew_542 ew_543 ew_544 (ci := 9) rfl (by decide) (hs.1 5 (by decide)).1 (hs.1 5 (by decide)).2.1 ?_
  refine ea_if_eq (pc := 9) (tgt := 64) dX11_mayBeTold_9 rfl (fun c8 => ?_) (fun c8 => ?_)
  · have EX := EX.trans (if_pos c8)
    refine ea_iconst (pc := 64) dX11_mayBeTold_64 (v := 0) rfl ?_
    exact ea_iretE (pc := 65) dX11_mayBeTold_65 rfl (ea_bn (Or.inl rfl)) EX rfl
  · have EX := EX.trans (if_neg c8)
    have K := K.2 c8
    refine ea_iload_n (pc := 12) dX11_mayBeTold_12 rfl 3 rfl ?_
    refine ea_if_lt (pc := 13) (tgt := 64) dX11_mayBeTold_13 rfl (fun c7 => ?_) (fun c7 => ?_)
    · have EX := EX.trans (if_pos c7)
      refine ea_iconst (pc := 64) dX11_mayBeTold_64 (v := 0) rfl ?_
      exact ea_iretE (pc := 65) dX11_mayBeTold_65 rfl (ea_bn (Or.inl rfl)) EX rfl
    · have EX := EX.trans (if_neg c7)
      have K := K.2 c7
      refine ea_iload_n (pc := 16) dX11_mayBeTold_16 rfl 3 rfl ?_
      refine ea_sipush (pc := 17) dX11_mayBeTold_17 (v := 300) rfl ?_
      refine ea_icmp_gt (pc := 20) (tgt := 64) dX11_mayBeTold_20 rfl (fun c6 => ?_) (fun c6 => ?_)
      · have EX := EX.trans (if_pos c6)
        refine ea_iconst (pc := 64) dX11_mayBeTold_64 (v := 0) rfl ?_
        exact ea_iretE (pc := 65) dX11_mayBeTold_65 rfl (ea_bn (Or.inl rfl)) EX rfl
      · have EX := EX.trans (if_neg c6)
        have K := K.2 c6
        refine ea_aload_n (pc := 23) dX11_mayBeTold_23 rfl 0 rfl ?_
        refine ea_getR (pc := 24) dX11_mayBeTold_24 ec_11 (k := 1) (Nat.le_of_ble_eq_true rfl) rfl (Or.inl ew_438) (hs.1 0 (by decide)).1 (hs.1 0 (by decide)).2.1 (hs.2 0 1 rfl) ?_
        refine ea_getR (pc := 27) dX11_mayBeTold_27 ec_9 (k := 1) (Nat.le_of_ble_eq_true rfl) rfl (Or.inl ew_181) (hs.1 5 (by decide)).1 (hs.1 5 (by decide)).2.1 (hs.2 5 1 rfl) ?_
        refine ea_iload_n (pc := 30) dX11_mayBeTold_30 rfl 1 rfl ?_
        obtain ⟨z2, K⟩ := K
        refine ea_iald (pc := 31) dX11_mayBeTold_31 (hs.1 6 (by decide)).1 (hs.1 6 (by decide)).2.1 (ea_vpl (hs.1 6 (by decide)).2.2 z2) ?_
        refine ea_if_le (pc := 32) (tgt := 64) dX11_mayBeTold_32 rfl (fun c5 => ?_) (fun c5 => ?_)
        · have EX := EX.trans (if_pos c5)
          refine ea_iconst (pc := 64) dX11_mayBeTold_64 (v := 0) rfl ?_
          exact ea_iretE (pc := 65) dX11_mayBeTold_65 rfl (ea_bn (Or.inl rfl)) EX rfl
        · have EX := EX.trans (if_neg c5)
          have K := K.2 c5
          refine ea_sipush (pc := 35) dX11_mayBeTold_35 (v := 1440) rfl ?_
          refine ea_iload_n (pc := 38) dX11_mayBeTold_38 rfl 2 rfl ?_
          refine ea_imul (pc := 39) dX11_mayBeTold_39 ?_
          refine ea_aload_n (pc := 40) dX11_mayBeTold_40 rfl 0 rfl ?_
          refine ea_getR (pc := 41) dX11_mayBeTold_41 ec_11 (k := 1) (Nat.le_of_ble_eq_true rfl) rfl (Or.inl ew_438) (hs.1 0 (by decide)).1 (hs.1 0 (by decide)).2.1 (hs.2 0 1 rfl) ?_
          refine ea_getR (pc := 44) dX11_mayBeTold_44 ec_9 (k := 4) (Nat.le_of_ble_eq_true rfl) rfl (Or.inl ew_192) (hs.1 5 (by decide)).1 (hs.1 5 (by decide)).2.1 (hs.2 5 4 rfl) ?_
          refine ea_bipush (pc := 47) dX11_mayBeTold_47 (v := 8) rfl ?_
          refine ea_iload_n (pc := 49) dX11_mayBeTold_49 rfl 1 rfl ?_
          refine ea_imul (pc := 50) dX11_mayBeTold_50 ?_
          have z3 := K
          refine ea_iald (pc := 51) dX11_mayBeTold_51 (hs.1 9 (by decide)).1 (hs.1 9 (by decide)).2.1 (ea_vpl (hs.1 9 (by decide)).2.2 z3) ?_
          refine ea_iadd (pc := 52) dX11_mayBeTold_52 ?_
          refine ea_aload_n (pc := 53) dX11_mayBeTold_53 rfl 0 rfl ?_
          refine ea_getI (pc := 54) dX11_mayBeTold_54 ec_11 (k := 11) (Nat.le_of_ble_eq_true rfl) rfl (Or.inl ew_448) (hs.1 0 (by decide)).1 (hs.1 0 (by decide)).2.1 ?_
          refine ea_icmp_le (pc := 57) (tgt := 64) dX11_mayBeTold_57 rfl (fun c4 => ?_) (fun c4 => ?_)
          · have EX := EX.trans (if_pos c4)
            refine ea_iconst (pc := 64) dX11_mayBeTold_64 (v := 0) rfl ?_
            exact ea_iretE (pc := 65) dX11_mayBeTold_65 rfl (ea_bn (Or.inl rfl)) EX rfl
          · have EX := EX.trans (if_neg c4)
            refine ea_iconst (pc := 60) dX11_mayBeTold_60 (v := 1) rfl ?_
            refine ea_goto (pc := 61) (tgt := 65) dX11_mayBeTold_61 rfl ?_
            exact ea_iretE (pc := 65) dX11_mayBeTold_65 rfl (ea_bn (Or.inr rfl)) EX rfl
noncomputable def vX11_differs (b0 : Nat) (x1 : Int32) (x2 : Int32) (x3 : Int32) (h : ea_H) : Int32 := (if (vX11_isBetween b0 (x1 : Int32) (x2 : Int32) (x3 : Int32) h) = (0 : Int32) then (0 : Int32) else (if (vX4_owed b0 (Option.getD (ea_r h (b0 + 31) (Int32.toNatClampNeg x1)) 0) h) ≤ (0 : Int32) then (0 : Int32) else (if (ea_i h (b0 + 33) (Int32.toNatClampNeg x1)) = (2 : Int32) then (0 : Int32) else (1 : Int32))))
def okX11_differs (b0 : Nat) (x1 : Int32) (x2 : Int32) (x3 : Int32) (h : ea_H) : Prop := (okX11_isBetween b0 (x1 : Int32) (x2 : Int32) (x3 : Int32) h) ∧ (((vX11_isBetween b0 (x1 : Int32) (x2 : Int32) (x3 : Int32) h) = (0 : Int32) → True) ∧ (¬ (vX11_isBetween b0 (x1 : Int32) (x2 : Int32) (x3 : Int32) h) = (0 : Int32) → vp_in x1 120 ∧ ((ea_r h (b0 + 31) (Int32.toNatClampNeg x1)) = some (Option.getD (ea_r h (b0 + 31) (Int32.toNatClampNeg x1)) 0) ∧ (((Option.getD (ea_r h (b0 + 31) (Int32.toNatClampNeg x1)) 0) < ea_n h ∧ ea_c h (Option.getD (ea_r h (b0 + 31) (Int32.toNatClampNeg x1)) 0) = 4) ∧ ((okX4_owed b0 (Option.getD (ea_r h (b0 + 31) (Int32.toNatClampNeg x1)) 0) h) ∧ (((vX4_owed b0 (Option.getD (ea_r h (b0 + 31) (Int32.toNatClampNeg x1)) 0) h) ≤ (0 : Int32) → True) ∧ (¬ (vX4_owed b0 (Option.getD (ea_r h (b0 + 31) (Int32.toNatClampNeg x1)) 0) h) ≤ (0 : Int32) → vp_in x1 120)))))))
theorem bo_vX11_differs (b0 : Nat) (x1 : Int32) (x2 : Int32) (x3 : Int32) (h : ea_H) : vX11_differs b0 x1 x2 x3 h = 0 ∨ vX11_differs b0 x1 x2 x3 h = 1 := (ea_itB (Or.inl rfl) (ea_itB (Or.inl rfl) (ea_itB (Or.inl rfl) (Or.inr rfl))))
theorem sX11_differs {d : Nat} {b0 : Nat} {x1 : Int32} {x2 : Int32} {x3 : Int32} {h : ea_H} (hd : 2 ≤ d) (hs : ShC b0 h) (K : okX11_differs b0 x1 x2 x3 h) : ea_Met mX11_differs d [vR (some (b0 + 0)), vI x1, vI x2, vI x3] h (some (vI (vX11_differs b0 x1 x2 x3 h))) h := by
  obtain ⟨X, EX⟩ : ∃ z, z = vX11_differs b0 x1 x2 x3 h := ⟨_, rfl⟩
  rw [← EX]
  unfold vX11_differs at EX
  unfold okX11_differs at K
  refine ea_enter rfl (Nat.le_of_ble_eq_true rfl) ?_
  refine ea_aload_n (pc := 0) dX11_differs_0 rfl 0 rfl ?_
  refine ea_iload_n (pc := 1) dX11_differs_1 rfl 1 rfl ?_
  refine ea_iload_n (pc := 2) dX11_differs_2 rfl 2 rfl ?_
  refine ea_iload_n (pc := 3) dX11_differs_3 rfl 3 rfl ?_
  obtain ⟨z1, K⟩ := K
  refine ea_callV (pc := 4) (d' := d - 1) (As := [vI x1, vI x2, vI x3]) (st := []) dX11_differs_4 kX11_isBetween (sX11_isBetween (d := d - 1) (by omega) hs z1) (by omega) rfl (Nat.le_of_ble_eq_true rfl) ew_1166 ew_1168 ew_39 (ci := 11) rfl (by decide) (hs.1 0 (by decide)).1 (hs.1 0 (by decide)).2.1 ?_
  refine ea_if_eq (pc := 7) (tgt := 39) dX11_differs_7 rfl (fun c9 => ?_) (fun c9 => ?_)
  · have EX := EX.trans (if_pos c9)
    refine ea_iconst (pc := 39) dX11_differs_39 (v := 0) rfl ?_
    exact ea_iretE (pc := 40) dX11_differs_40 rfl (ea_bn (Or.inl rfl)) EX rfl
  · have EX := EX.trans (if_neg c9)
    have K := K.2 c9
    refine ea_aload_n (pc := 10) dX11_differs_10 rfl 0 rfl ?_
    refine ea_getR (pc := 11) dX11_differs_11 ec_11 (k := 5) (Nat.le_of_ble_eq_true rfl) rfl (Or.inl ew_442) (hs.1 0 (by decide)).1 (hs.1 0 (by decide)).2.1 (hs.2 0 5 rfl) ?_
    refine ea_iload_n (pc := 14) dX11_differs_14 rfl 1 rfl ?_
    obtain ⟨z2, K⟩ := K
    refine ea_aald23 (pc := 15) dX11_differs_15 (hs.1 31 (by decide)).1 (hs.1 31 (by decide)).2.1 (ea_vpl (hs.1 31 (by decide)).2.2 z2) rfl ?_
    obtain ⟨e3, f4, z5, K⟩ := K
    refine ea_deref0 e3 ?_
    refine ea_callV (pc := 16) (d' := d - 1) (As := []) (st := []) dX11_differs_16 kX4_owed (sX4_owed (d := d - 1) (by omega) hs z5) (by omega) rfl (Nat.le_of_ble_eq_true rfl) ew_1084 ew_1085 ew_1086 (ci := 4) rfl (by decide) f4.1 f4.2 ?_
    refine ea_if_le (pc := 19) (tgt := 39) dX11_differs_19 rfl (fun c8 => ?_) (fun c8 => ?_)
    · have EX := EX.trans (if_pos c8)
      refine ea_iconst (pc := 39) dX11_differs_39 (v := 0) rfl ?_
      exact ea_iretE (pc := 40) dX11_differs_40 rfl (ea_bn (Or.inl rfl)) EX rfl
    · have EX := EX.trans (if_neg c8)
      have K := K.2 c8
      refine ea_aload_n (pc := 22) dX11_differs_22 rfl 0 rfl ?_
      refine ea_getR (pc := 23) dX11_differs_23 ec_11 (k := 6) (Nat.le_of_ble_eq_true rfl) rfl (Or.inl ew_443) (hs.1 0 (by decide)).1 (hs.1 0 (by decide)).2.1 (hs.2 0 6 rfl) ?_
      refine ea_getR (pc := 26) dX11_differs_26 ec_1 (k := 1) (Nat.le_of_ble_eq_true rfl) rfl (Or.inl ew_362) (hs.1 32 (by decide)).1 (hs.1 32 (by decide)).2.1 (hs.2 32 1 rfl) ?_
      refine ea_iload_n (pc := 29) dX11_differs_29 rfl 1 rfl ?_
      have z6 := K
      refine ea_iald (pc := 30) dX11_differs_30 (hs.1 33 (by decide)).1 (hs.1 33 (by decide)).2.1 (ea_vpl (hs.1 33 (by decide)).2.2 z6) ?_
      refine ea_iconst (pc := 31) dX11_differs_31 (v := 2) rfl ?_
      refine ea_icmp_eq (pc := 32) (tgt := 39) dX11_differs_32 rfl (fun c7 => ?_) (fun c7 => ?_)
      · have EX := EX.trans (if_pos c7)
        refine ea_iconst (pc := 39) dX11_differs_39 (v := 0) rfl ?_
        exact ea_iretE (pc := 40) dX11_differs_40 rfl (ea_bn (Or.inl rfl)) EX rfl
      · have EX := EX.trans (if_neg c7)
        refine ea_iconst (pc := 35) dX11_differs_35 (v := 1) rfl ?_
        refine ea_goto (pc := 36) (tgt := 40) dX11_differs_36 rfl ?_
        exact ea_iretE (pc := 40) dX11_differs_40 rfl (ea_bn (Or.inr rfl)) EX rfl
noncomputable def vX5_skip (b0 : Nat) (x1 : Int32) (h : ea_H) : Int32 := (if (ea_i h (b0 + 22) 9) = x1 then (1 : Int32) else (vX5_refuse b0 (1 : Int32) h))
noncomputable def wX5_skip (b0 : Nat) (x1 : Int32) (h : ea_H) : ea_H := (if (ea_i h (b0 + 22) 9) = x1 then (wX5_step b0 h) else (wX5_refuse b0 (1 : Int32) h))
def okX5_skip (b0 : Nat) (x1 : Int32) (h : ea_H) : Prop := ((ea_i h (b0 + 22) 9) = x1 → (okX5_step b0 h)) ∧ (¬ (ea_i h (b0 + 22) 9) = x1 → (okX5_refuse b0 (1 : Int32) h))
theorem bo_vX5_skip (b0 : Nat) (x1 : Int32) (h : ea_H) : vX5_skip b0 x1 h = 0 ∨ vX5_skip b0 x1 h = 1 := (ea_itB (Or.inr rfl) (bo_vX5_refuse _ _ _))
theorem shX5_skip {b0 : Nat} {x1 : Int32} {h : ea_H} (hs : ShC b0 h) : ShC b0 (wX5_skip b0 x1 h) := (ShC_it (shX5_step hs) (shX5_refuse hs))
theorem sX5_skip {d : Nat} {b0 : Nat} {x1 : Int32} {h : ea_H} (hd : 2 ≤ d) (hs : ShC b0 h) (K : okX5_skip b0 x1 h) : ea_Met mX5_skip d [vR (some (b0 + 22)), vI x1] h (some (vI (vX5_skip b0 x1 h))) (wX5_skip b0 x1 h) := by
  obtain ⟨X, EX⟩ : ∃ z, z = vX5_skip b0 x1 h := ⟨_, rfl⟩
  rw [← EX]
  unfold vX5_skip at EX
  obtain ⟨Y, EY⟩ : ∃ z, z = wX5_skip b0 x1 h := ⟨_, rfl⟩
  rw [← EY]
  unfold wX5_skip at EY
  unfold okX5_skip at K
  refine ea_enter rfl (Nat.le_of_ble_eq_true rfl) ?_
  refine ea_aload_n (pc := 0) dX5_skip_0 rfl 0 rfl ?_
  refine ea_getI (pc := 1) dX5_skip_1 ec_5 (k := 9) (Nat.le_of_ble_eq_true rfl) rfl (Or.inl ew_303) (hs.1 22 (by decide)).1 (hs.1 22 (by decide)).2.1 ?_
  refine ea_iload_n (pc := 4) dX5_skip_4 rfl 1 rfl ?_
  refine ea_icmp_eq (pc := 5) (tgt := 14) dX5_skip_5 rfl (fun c5 => ?_) (fun c5 => ?_)
  · have EX := EX.trans (if_pos c5)
    have EY := EY.trans (if_pos c5)
    have K := K.1 c5
    refine ea_aload_n (pc := 14) dX5_skip_14 rfl 0 rfl ?_
    have z1 := K
    refine ea_callV (pc := 15) (d' := d - 1) (As := []) (st := []) dX5_skip_15 kX5_step (sX5_step (d := d - 1) (by omega) hs z1) (by omega) rfl (Nat.le_of_ble_eq_true rfl) ew_859 ew_861 ew_22 (ci := 5) rfl (by decide) (hs.1 22 (by decide)).1 (hs.1 22 (by decide)).2.1 ?_
    have hs2 : ShC b0 (wX5_step b0 h) := shX5_step hs
    refine ea_iconst (pc := 18) dX5_skip_18 (v := 1) rfl ?_
    exact ea_iretE (pc := 19) dX5_skip_19 rfl (ea_bn (Or.inr rfl)) EX EY
  · have EX := EX.trans (if_neg c5)
    have EY := EY.trans (if_neg c5)
    have K := K.2 c5
    refine ea_aload_n (pc := 8) dX5_skip_8 rfl 0 rfl ?_
    refine ea_iconst (pc := 9) dX5_skip_9 (v := 1) rfl ?_
    have z3 := K
    refine ea_callV (pc := 10) (d' := d - 1) (As := [vI 1]) (st := []) dX5_skip_10 kX5_refuse (sX5_refuse (d := d - 1) (by omega) hs z3) (by omega) rfl (Nat.le_of_ble_eq_true rfl) ew_851 ew_853 ew_20 (ci := 5) rfl (by decide) (hs.1 22 (by decide)).1 (hs.1 22 (by decide)).2.1 ?_
    have hs4 : ShC b0 (wX5_refuse b0 (1 : Int32) h) := shX5_refuse hs
    exact ea_iretE (pc := 13) dX5_skip_13 rfl (ea_bn (bo_vX5_refuse ..)) EX EY
noncomputable def vX11_late (b0 : Nat) (x1 : Int32) (x2 : Int32) (x3 : Int32) (h : ea_H) : Int32 := (if (vX11_mayBeTold b0 (x1 : Int32) (x2 : Int32) (x3 : Int32) h) = (0 : Int32) then (0 : Int32) else (1 : Int32))
noncomputable def wX11_late (b0 : Nat) (x1 : Int32) (x2 : Int32) (x3 : Int32) (h : ea_H) : ea_H := (if (vX11_mayBeTold b0 (x1 : Int32) (x2 : Int32) (x3 : Int32) h) = (0 : Int32) then h else (wX11_tableChanged b0 (ea_wi h (b0 + 11) (Int32.toNatClampNeg (((10 : Int32) * x2) + x1)) x3)))
def okX11_late (b0 : Nat) (x1 : Int32) (x2 : Int32) (x3 : Int32) (h : ea_H) : Prop := (okX11_mayBeTold b0 (x1 : Int32) (x2 : Int32) (x3 : Int32) h) ∧ (((vX11_mayBeTold b0 (x1 : Int32) (x2 : Int32) (x3 : Int32) h) = (0 : Int32) → True) ∧ (¬ (vX11_mayBeTold b0 (x1 : Int32) (x2 : Int32) (x3 : Int32) h) = (0 : Int32) → vp_in (((10 : Int32) * x2) + x1) 70))
theorem bo_vX11_late (b0 : Nat) (x1 : Int32) (x2 : Int32) (x3 : Int32) (h : ea_H) : vX11_late b0 x1 x2 x3 h = 0 ∨ vX11_late b0 x1 x2 x3 h = 1 := (ea_itB (Or.inl rfl) (Or.inr rfl))
theorem shX11_late {b0 : Nat} {x1 : Int32} {x2 : Int32} {x3 : Int32} {h : ea_H} (hs : ShC b0 h) : ShC b0 (wX11_late b0 x1 x2 x3 h) := (ShC_it hs (shX11_tableChanged (ShC_wi hs)))
theorem sX11_late {d : Nat} {b0 : Nat} {x1 : Int32} {x2 : Int32} {x3 : Int32} {h : ea_H} (hd : 4 ≤ d) (hs : ShC b0 h) (K : okX11_late b0 x1 x2 x3 h) : ea_Met mX11_late d [vR (some (b0 + 0)), vI x1, vI x2, vI x3] h (some (vI (vX11_late b0 x1 x2 x3 h))) (wX11_late b0 x1 x2 x3 h) := by
  obtain ⟨X, EX⟩ : ∃ z, z = vX11_late b0 x1 x2 x3 h := ⟨_, rfl⟩
  rw [← EX]
  unfold vX11_late at EX
  obtain ⟨Y, EY⟩ : ∃ z, z = wX11_late b0 x1 x2 x3 h := ⟨_, rfl⟩
  rw [← EY]
  unfold wX11_late at EY
  unfold okX11_late at K
  refine ea_enter rfl (Nat.le_of_ble_eq_true rfl) ?_
  refine ea_aload_n (pc := 0) dX11_late_0 rfl 0 rfl ?_
  refine ea_iload_n (pc := 1) dX11_late_1 rfl 1 rfl ?_
  refine ea_iload_n (pc := 2) dX11_late_2 rfl 2 rfl ?_
  refine ea_iload_n (pc := 3) dX11_late_3 rfl 3 rfl ?_
  obtain ⟨z1, K⟩ := K
  refine ea_callV (pc := 4) (d' := d - 1) (As := [vI x1, vI x2, vI x3]) (st := []) dX11_late_4 kX11_mayBeTold (sX11_mayBeTold (d := d - 1) (by omega) hs z1) (by omega) rfl (Nat.le_of_ble_eq_true rfl) ew_538 ew_540 ew_2 (ci := 11) rfl (by decide) (hs.1 0 (by decide)).1 (hs.1 0 (by decide)).2.1 ?_
  refine ea_if_ne (pc := 7) (tgt := 12) dX11_late_7 rfl (fun c6 => ?_) (fun c6 => ?_)
  · have EX := EX.trans (if_neg c6)
    have EY := EY.trans (if_neg c6)
    have K := K.2 c6
    refine ea_aload_n (pc := 12) dX11_late_12 rfl 0 rfl ?_
    refine ea_getR (pc := 13) dX11_late_13 ec_11 (k := 1) (Nat.le_of_ble_eq_true rfl) rfl (Or.inl ew_438) (hs.1 0 (by decide)).1 (hs.1 0 (by decide)).2.1 (hs.2 0 1 rfl) ?_
    refine ea_getR (pc := 16) dX11_late_16 ec_9 (k := 6) (Nat.le_of_ble_eq_true rfl) rfl (Or.inl ew_197) (hs.1 5 (by decide)).1 (hs.1 5 (by decide)).2.1 (hs.2 5 6 rfl) ?_
    refine ea_bipush (pc := 19) dX11_late_19 (v := 10) rfl ?_
    refine ea_iload_n (pc := 21) dX11_late_21 rfl 2 rfl ?_
    refine ea_imul (pc := 22) dX11_late_22 ?_
    refine ea_iload_n (pc := 23) dX11_late_23 rfl 1 rfl ?_
    refine ea_iadd (pc := 24) dX11_late_24 ?_
    refine ea_iload_n (pc := 25) dX11_late_25 rfl 3 rfl ?_
    have z2 := K
    refine ea_iast (pc := 26) dX11_late_26 (hs.1 11 (by decide)).1 (hs.1 11 (by decide)).2.1 (ea_vpl (hs.1 11 (by decide)).2.2 z2) ?_
    have hs3 : ShC b0 (ea_wi h (b0 + 11) (Int32.toNatClampNeg (((10 : Int32) * x2) + x1)) x3) := ShC_wi hs
    refine ea_aload_n (pc := 27) dX11_late_27 rfl 0 rfl ?_
    refine ea_callV (pc := 28) (d' := d - 1) (As := []) (st := []) dX11_late_28 kX11_tableChanged (sX11_tableChanged (d := d - 1) (by omega) hs3) (by omega) rfl (Nat.le_of_ble_eq_true rfl) ew_526 ew_528 ew_1 (ci := 11) rfl (by decide) (hs3.1 0 (by decide)).1 (hs3.1 0 (by decide)).2.1 ?_
    have hs5 : ShC b0 (wX11_tableChanged b0 (ea_wi h (b0 + 11) (Int32.toNatClampNeg (((10 : Int32) * x2) + x1)) x3)) := shX11_tableChanged hs3
    refine ea_iconst (pc := 31) dX11_late_31 (v := 1) rfl ?_
    exact ea_iretE (pc := 32) dX11_late_32 rfl (ea_bn (Or.inr rfl)) EX EY
  · have EX := EX.trans (if_pos c6)
    have EY := EY.trans (if_pos c6)
    refine ea_iconst (pc := 10) dX11_late_10 (v := 0) rfl ?_
    exact ea_iretE (pc := 11) dX11_late_11 rfl (ea_bn (Or.inl rfl)) EX EY
noncomputable def vX5_readAfter (b0 : Nat) (r1 : Option Nat) (x2 : Int32) (h : ea_H) : Int32 := (if (vX5_skip b0 (14 : Int32) h) = (0 : Int32) then (0 : Int32) else (if (ea_i (wX5_skip b0 (14 : Int32) h) (b0 + 22) 9) = (18 : Int32) then (if (ea_i (wX5_skip b0 (14 : Int32) h) (b0 + 26) (Int32.toNatClampNeg (ea_i (wX5_skip b0 (14 : Int32) h) (b0 + 22) 8))) ≤ (1439 : Int32) then (1 : Int32) else (vX5_refuse b0 (2 : Int32) (wX5_skip b0 (14 : Int32) h))) else (vX5_refuse b0 (1 : Int32) (wX5_skip b0 (14 : Int32) h))))
noncomputable def wX5_readAfter (b0 : Nat) (r1 : Option Nat) (x2 : Int32) (h : ea_H) : ea_H := (if (vX5_skip b0 (14 : Int32) h) = (0 : Int32) then (wX5_skip b0 (14 : Int32) h) else (if (ea_i (wX5_skip b0 (14 : Int32) h) (b0 + 22) 9) = (18 : Int32) then (if (ea_i (wX5_skip b0 (14 : Int32) h) (b0 + 26) (Int32.toNatClampNeg (ea_i (wX5_skip b0 (14 : Int32) h) (b0 + 22) 8))) ≤ (1439 : Int32) then (wX5_step b0 (ea_wi (ea_wi (wX5_skip b0 (14 : Int32) h) (Option.getD r1 0) 2 x2) (Option.getD r1 0) 3 (ea_i (ea_wi (wX5_skip b0 (14 : Int32) h) (Option.getD r1 0) 2 x2) (b0 + 26) (Int32.toNatClampNeg (ea_i (ea_wi (wX5_skip b0 (14 : Int32) h) (Option.getD r1 0) 2 x2) (b0 + 22) 8))))) else (wX5_refuse b0 (2 : Int32) (wX5_skip b0 (14 : Int32) h))) else (wX5_refuse b0 (1 : Int32) (wX5_skip b0 (14 : Int32) h))))
def okX5_readAfter (b0 : Nat) (r1 : Option Nat) (x2 : Int32) (h : ea_H) : Prop := (okX5_skip b0 (14 : Int32) h) ∧ (((vX5_skip b0 (14 : Int32) h) = (0 : Int32) → True) ∧ (¬ (vX5_skip b0 (14 : Int32) h) = (0 : Int32) → ((ea_i (wX5_skip b0 (14 : Int32) h) (b0 + 22) 9) = (18 : Int32) → vp_in (ea_i (wX5_skip b0 (14 : Int32) h) (b0 + 22) 8) 601 ∧ (((ea_i (wX5_skip b0 (14 : Int32) h) (b0 + 26) (Int32.toNatClampNeg (ea_i (wX5_skip b0 (14 : Int32) h) (b0 + 22) 8))) ≤ (1439 : Int32) → r1 = some (Option.getD r1 0) ∧ (((Option.getD r1 0) < ea_n (wX5_skip b0 (14 : Int32) h) ∧ ea_c (wX5_skip b0 (14 : Int32) h) (Option.getD r1 0) = 0) ∧ (vp_in (ea_i (ea_wi (wX5_skip b0 (14 : Int32) h) (Option.getD r1 0) 2 x2) (b0 + 22) 8) 601 ∧ (r1 = some (Option.getD r1 0) ∧ (((Option.getD r1 0) < ea_n (ea_wi (wX5_skip b0 (14 : Int32) h) (Option.getD r1 0) 2 x2) ∧ ea_c (ea_wi (wX5_skip b0 (14 : Int32) h) (Option.getD r1 0) 2 x2) (Option.getD r1 0) = 0) ∧ ((okX5_step b0 (ea_wi (ea_wi (wX5_skip b0 (14 : Int32) h) (Option.getD r1 0) 2 x2) (Option.getD r1 0) 3 (ea_i (ea_wi (wX5_skip b0 (14 : Int32) h) (Option.getD r1 0) 2 x2) (b0 + 26) (Int32.toNatClampNeg (ea_i (ea_wi (wX5_skip b0 (14 : Int32) h) (Option.getD r1 0) 2 x2) (b0 + 22) 8))))))))))) ∧ (¬ (ea_i (wX5_skip b0 (14 : Int32) h) (b0 + 26) (Int32.toNatClampNeg (ea_i (wX5_skip b0 (14 : Int32) h) (b0 + 22) 8))) ≤ (1439 : Int32) → (okX5_refuse b0 (2 : Int32) (wX5_skip b0 (14 : Int32) h))))) ∧ (¬ (ea_i (wX5_skip b0 (14 : Int32) h) (b0 + 22) 9) = (18 : Int32) → (okX5_refuse b0 (1 : Int32) (wX5_skip b0 (14 : Int32) h)))))
theorem bo_vX5_readAfter (b0 : Nat) (r1 : Option Nat) (x2 : Int32) (h : ea_H) : vX5_readAfter b0 r1 x2 h = 0 ∨ vX5_readAfter b0 r1 x2 h = 1 := (ea_itB (Or.inl rfl) (ea_itB (ea_itB (Or.inr rfl) (bo_vX5_refuse _ _ _)) (bo_vX5_refuse _ _ _)))
theorem shX5_readAfter {b0 : Nat} {r1 : Option Nat} {x2 : Int32} {h : ea_H} (hs : ShC b0 h) : ShC b0 (wX5_readAfter b0 r1 x2 h) := (ShC_it (shX5_skip hs) (ShC_it (ShC_it (shX5_step (ShC_wi (ShC_wi (shX5_skip hs)))) (shX5_refuse (shX5_skip hs))) (shX5_refuse (shX5_skip hs))))
theorem sX5_readAfter {d : Nat} {b0 : Nat} {r1 : Option Nat} {x2 : Int32} {h : ea_H} (hd : 3 ≤ d) (hs : ShC b0 h) (K : okX5_readAfter b0 r1 x2 h) : ea_Met mX5_readAfter d [vR (some (b0 + 22)), vR r1, vI x2] h (some (vI (vX5_readAfter b0 r1 x2 h))) (wX5_readAfter b0 r1 x2 h) := by
  obtain ⟨X, EX⟩ : ∃ z, z = vX5_readAfter b0 r1 x2 h := ⟨_, rfl⟩
  rw [← EX]
  unfold vX5_readAfter at EX
  obtain ⟨Y, EY⟩ : ∃ z, z = wX5_readAfter b0 r1 x2 h := ⟨_, rfl⟩
  rw [← EY]
  unfold wX5_readAfter at EY
  unfold okX5_readAfter at K
  refine ea_enter rfl (Nat.le_of_ble_eq_true rfl) ?_
  refine ea_aload_n (pc := 0) dX5_readAfter_0 rfl 0 rfl ?_
  refine ea_bipush (pc := 1) dX5_readAfter_1 (v := 14) rfl ?_
  obtain ⟨z1, K⟩ := K
  refine ea_callV (pc := 3) (d' := d - 1) (As := [vI 14]) (st := []) dX5_readAfter_3 kX5_skip (sX5_skip (d := d - 1) (by omega) hs z1) (by omega) rfl (Nat.le_of_ble_eq_true rfl) ew_899 ew_901 ew_32 (ci := 5) rfl (by decide) (hs.1 22 (by decide)).1 (hs.1 22 (by decide)).2.1 ?_
  have hs2 : ShC b0 (wX5_skip b0 (14 : Int32) h) := shX5_skip hs
  refine ea_if_ne (pc := 6) (tgt := 11) dX5_readAfter_6 rfl (fun c19 => ?_) (fun c19 => ?_)
  · have EX := EX.trans (if_neg c19)
    have EY := EY.trans (if_neg c19)
    have K := K.2 c19
    refine ea_aload_n (pc := 11) dX5_readAfter_11 rfl 0 rfl ?_
    refine ea_getI (pc := 12) dX5_readAfter_12 ec_5 (k := 9) (Nat.le_of_ble_eq_true rfl) rfl (Or.inl ew_303) (hs2.1 22 (by decide)).1 (hs2.1 22 (by decide)).2.1 ?_
    refine ea_bipush (pc := 15) dX5_readAfter_15 (v := 18) rfl ?_
    refine ea_icmp_eq (pc := 17) (tgt := 26) dX5_readAfter_17 rfl (fun c18 => ?_) (fun c18 => ?_)
    · have EX := EX.trans (if_pos c18)
      have EY := EY.trans (if_pos c18)
      have K := K.1 c18
      refine ea_aload_n (pc := 26) dX5_readAfter_26 rfl 0 rfl ?_
      refine ea_getR (pc := 27) dX5_readAfter_27 ec_5 (k := 6) (Nat.le_of_ble_eq_true rfl) rfl (Or.inl ew_300) (hs2.1 22 (by decide)).1 (hs2.1 22 (by decide)).2.1 (hs2.2 22 6 rfl) ?_
      refine ea_aload_n (pc := 30) dX5_readAfter_30 rfl 0 rfl ?_
      refine ea_getI (pc := 31) dX5_readAfter_31 ec_5 (k := 8) (Nat.le_of_ble_eq_true rfl) rfl (Or.inl ew_302) (hs2.1 22 (by decide)).1 (hs2.1 22 (by decide)).2.1 ?_
      obtain ⟨z3, K⟩ := K
      refine ea_iald (pc := 34) dX5_readAfter_34 (hs2.1 26 (by decide)).1 (hs2.1 26 (by decide)).2.1 (ea_vpl (hs2.1 26 (by decide)).2.2 z3) ?_
      refine ea_sipush (pc := 35) dX5_readAfter_35 (v := 1439) rfl ?_
      refine ea_icmp_le (pc := 38) (tgt := 47) dX5_readAfter_38 rfl (fun c15 => ?_) (fun c15 => ?_)
      · have EX := EX.trans (if_pos c15)
        have EY := EY.trans (if_pos c15)
        have K := K.1 c15
        refine ea_aload_n (pc := 47) dX5_readAfter_47 rfl 1 rfl ?_
        refine ea_iload_n (pc := 48) dX5_readAfter_48 rfl 2 rfl ?_
        obtain ⟨e4, f5, K⟩ := K
        refine ea_deref1 e4 ?_
        refine ea_putI (pc := 49) dX5_readAfter_49 ec_0 (k := 2) (Nat.le_of_ble_eq_true rfl) rfl (Or.inl ⟨rfl, Or.inl ew_796⟩) rfl rfl f5.1 f5.2 ?_
        have hs6 : ShC b0 (ea_wi (wX5_skip b0 (14 : Int32) h) (Option.getD r1 0) 2 x2) := ShC_wi hs2
        refine ea_aload_n (pc := 52) dX5_readAfter_52 rfl 1 rfl ?_
        refine ea_aload_n (pc := 53) dX5_readAfter_53 rfl 0 rfl ?_
        refine ea_getR (pc := 54) dX5_readAfter_54 ec_5 (k := 6) (Nat.le_of_ble_eq_true rfl) rfl (Or.inl ew_300) (hs6.1 22 (by decide)).1 (hs6.1 22 (by decide)).2.1 (hs6.2 22 6 rfl) ?_
        refine ea_aload_n (pc := 57) dX5_readAfter_57 rfl 0 rfl ?_
        refine ea_getI (pc := 58) dX5_readAfter_58 ec_5 (k := 8) (Nat.le_of_ble_eq_true rfl) rfl (Or.inl ew_302) (hs6.1 22 (by decide)).1 (hs6.1 22 (by decide)).2.1 ?_
        obtain ⟨z7, K⟩ := K
        refine ea_iald (pc := 61) dX5_readAfter_61 (hs6.1 26 (by decide)).1 (hs6.1 26 (by decide)).2.1 (ea_vpl (hs6.1 26 (by decide)).2.2 z7) ?_
        obtain ⟨e8, f9, K⟩ := K
        refine ea_deref1 e8 ?_
        refine ea_putI (pc := 62) dX5_readAfter_62 ec_0 (k := 3) (Nat.le_of_ble_eq_true rfl) rfl (Or.inl ⟨rfl, Or.inl ew_800⟩) rfl rfl f9.1 f9.2 ?_
        have hs10 : ShC b0 (ea_wi (ea_wi (wX5_skip b0 (14 : Int32) h) (Option.getD r1 0) 2 x2) (Option.getD r1 0) 3 (ea_i (ea_wi (wX5_skip b0 (14 : Int32) h) (Option.getD r1 0) 2 x2) (b0 + 26) (Int32.toNatClampNeg (ea_i (ea_wi (wX5_skip b0 (14 : Int32) h) (Option.getD r1 0) 2 x2) (b0 + 22) 8)))) := ShC_wi hs6
        refine ea_aload_n (pc := 65) dX5_readAfter_65 rfl 0 rfl ?_
        have z11 := K
        refine ea_callV (pc := 66) (d' := d - 1) (As := []) (st := []) dX5_readAfter_66 kX5_step (sX5_step (d := d - 1) (by omega) hs10 z11) (by omega) rfl (Nat.le_of_ble_eq_true rfl) ew_859 ew_861 ew_22 (ci := 5) rfl (by decide) (hs10.1 22 (by decide)).1 (hs10.1 22 (by decide)).2.1 ?_
        have hs12 : ShC b0 (wX5_step b0 (ea_wi (ea_wi (wX5_skip b0 (14 : Int32) h) (Option.getD r1 0) 2 x2) (Option.getD r1 0) 3 (ea_i (ea_wi (wX5_skip b0 (14 : Int32) h) (Option.getD r1 0) 2 x2) (b0 + 26) (Int32.toNatClampNeg (ea_i (ea_wi (wX5_skip b0 (14 : Int32) h) (Option.getD r1 0) 2 x2) (b0 + 22) 8))))) := shX5_step hs10
        refine ea_iconst (pc := 69) dX5_readAfter_69 (v := 1) rfl ?_
        exact ea_iretE (pc := 70) dX5_readAfter_70 rfl (ea_bn (Or.inr rfl)) EX EY
      · have EX := EX.trans (if_neg c15)
        have EY := EY.trans (if_neg c15)
        have K := K.2 c15
        refine ea_aload_n (pc := 41) dX5_readAfter_41 rfl 0 rfl ?_
        refine ea_iconst (pc := 42) dX5_readAfter_42 (v := 2) rfl ?_
        have z13 := K
        refine ea_callV (pc := 43) (d' := d - 1) (As := [vI 2]) (st := []) dX5_readAfter_43 kX5_refuse (sX5_refuse (d := d - 1) (by omega) hs2 z13) (by omega) rfl (Nat.le_of_ble_eq_true rfl) ew_851 ew_853 ew_20 (ci := 5) rfl (by decide) (hs2.1 22 (by decide)).1 (hs2.1 22 (by decide)).2.1 ?_
        have hs14 : ShC b0 (wX5_refuse b0 (2 : Int32) (wX5_skip b0 (14 : Int32) h)) := shX5_refuse hs2
        exact ea_iretE (pc := 46) dX5_readAfter_46 rfl (ea_bn (bo_vX5_refuse ..)) EX EY
    · have EX := EX.trans (if_neg c18)
      have EY := EY.trans (if_neg c18)
      have K := K.2 c18
      refine ea_aload_n (pc := 20) dX5_readAfter_20 rfl 0 rfl ?_
      refine ea_iconst (pc := 21) dX5_readAfter_21 (v := 1) rfl ?_
      have z16 := K
      refine ea_callV (pc := 22) (d' := d - 1) (As := [vI 1]) (st := []) dX5_readAfter_22 kX5_refuse (sX5_refuse (d := d - 1) (by omega) hs2 z16) (by omega) rfl (Nat.le_of_ble_eq_true rfl) ew_851 ew_853 ew_20 (ci := 5) rfl (by decide) (hs2.1 22 (by decide)).1 (hs2.1 22 (by decide)).2.1 ?_
      have hs17 : ShC b0 (wX5_refuse b0 (1 : Int32) (wX5_skip b0 (14 : Int32) h)) := shX5_refuse hs2
      exact ea_iretE (pc := 25) dX5_readAfter_25 rfl (ea_bn (bo_vX5_refuse ..)) EX EY
  · have EX := EX.trans (if_pos c19)
    have EY := EY.trans (if_pos c19)
    refine ea_iconst (pc := 9) dX5_readAfter_9 (v := 0) rfl ?_
    exact ea_iretE (pc := 10) dX5_readAfter_10 rfl (ea_bn (Or.inl rfl)) EX EY
noncomputable def vX5_readRule (b0 : Nat) (r1 : Option Nat) (h : ea_H) : Int32 := (if (ea_i (wX5_step b0 h) (b0 + 22) 9) = (18 : Int32) then (if (ea_i h (b0 + 22) 9) = (2 : Int32) then (if (ea_i (wX5_step b0 h) (b0 + 26) (Int32.toNatClampNeg (ea_i (wX5_step b0 h) (b0 + 22) 8))) ≤ (99 : Int32) then (if Int32.toInt (ea_i h (b0 + 22) 9) = 1 then (vX5_readAfter b0 (r1 : Option Nat) ((ea_i (wX5_step b0 h) (b0 + 26) (Int32.toNatClampNeg (ea_i (wX5_step b0 h) (b0 + 22) 8))) : Int32) (wX5_step b0 (wX5_step b0 h))) else (1 : Int32)) else (vX5_refuse b0 (2 : Int32) (wX5_step b0 h))) else (if Int32.toInt (ea_i h (b0 + 22) 9) = 1 then (vX5_readAfter b0 (r1 : Option Nat) ((ea_i (wX5_step b0 h) (b0 + 26) (Int32.toNatClampNeg (ea_i (wX5_step b0 h) (b0 + 22) 8))) : Int32) (wX5_step b0 (wX5_step b0 h))) else (1 : Int32))) else (vX5_refuse b0 (1 : Int32) (wX5_step b0 h)))
noncomputable def wX5_readRule (b0 : Nat) (r1 : Option Nat) (h : ea_H) : ea_H := (if (ea_i (wX5_step b0 h) (b0 + 22) 9) = (18 : Int32) then (if (ea_i h (b0 + 22) 9) = (2 : Int32) then (if (ea_i (wX5_step b0 h) (b0 + 26) (Int32.toNatClampNeg (ea_i (wX5_step b0 h) (b0 + 22) 8))) ≤ (99 : Int32) then (if Int32.toInt (ea_i h (b0 + 22) 9) = 1 then (wX5_readAfter b0 (r1 : Option Nat) ((ea_i (wX5_step b0 h) (b0 + 26) (Int32.toNatClampNeg (ea_i (wX5_step b0 h) (b0 + 22) 8))) : Int32) (wX5_step b0 (wX5_step b0 h))) else (if Int32.toInt (ea_i h (b0 + 22) 9) = 2 then (ea_wi (wX5_step b0 (wX5_step b0 h)) (Option.getD r1 0) 4 (ea_i (wX5_step b0 h) (b0 + 26) (Int32.toNatClampNeg (ea_i (wX5_step b0 h) (b0 + 22) 8)))) else (if Int32.toInt (ea_i h (b0 + 22) 9) = 3 then (ea_wi (wX5_step b0 (wX5_step b0 h)) (Option.getD r1 0) 5 (ea_i (wX5_step b0 h) (b0 + 26) (Int32.toNatClampNeg (ea_i (wX5_step b0 h) (b0 + 22) 8)))) else (if Int32.toInt (ea_i h (b0 + 22) 9) = 4 then (ea_wi (wX5_step b0 (wX5_step b0 h)) (Option.getD r1 0) 6 (ea_i (wX5_step b0 h) (b0 + 26) (Int32.toNatClampNeg (ea_i (wX5_step b0 h) (b0 + 22) 8)))) else (ea_wi (wX5_step b0 (wX5_step b0 h)) (Option.getD r1 0) 7 (ea_i (wX5_step b0 h) (b0 + 26) (Int32.toNatClampNeg (ea_i (wX5_step b0 h) (b0 + 22) 8)))))))) else (wX5_refuse b0 (2 : Int32) (wX5_step b0 h))) else (if Int32.toInt (ea_i h (b0 + 22) 9) = 1 then (wX5_readAfter b0 (r1 : Option Nat) ((ea_i (wX5_step b0 h) (b0 + 26) (Int32.toNatClampNeg (ea_i (wX5_step b0 h) (b0 + 22) 8))) : Int32) (wX5_step b0 (wX5_step b0 h))) else (if Int32.toInt (ea_i h (b0 + 22) 9) = 2 then (ea_wi (wX5_step b0 (wX5_step b0 h)) (Option.getD r1 0) 4 (ea_i (wX5_step b0 h) (b0 + 26) (Int32.toNatClampNeg (ea_i (wX5_step b0 h) (b0 + 22) 8)))) else (if Int32.toInt (ea_i h (b0 + 22) 9) = 3 then (ea_wi (wX5_step b0 (wX5_step b0 h)) (Option.getD r1 0) 5 (ea_i (wX5_step b0 h) (b0 + 26) (Int32.toNatClampNeg (ea_i (wX5_step b0 h) (b0 + 22) 8)))) else (if Int32.toInt (ea_i h (b0 + 22) 9) = 4 then (ea_wi (wX5_step b0 (wX5_step b0 h)) (Option.getD r1 0) 6 (ea_i (wX5_step b0 h) (b0 + 26) (Int32.toNatClampNeg (ea_i (wX5_step b0 h) (b0 + 22) 8)))) else (ea_wi (wX5_step b0 (wX5_step b0 h)) (Option.getD r1 0) 7 (ea_i (wX5_step b0 h) (b0 + 26) (Int32.toNatClampNeg (ea_i (wX5_step b0 h) (b0 + 22) 8))))))))) else (wX5_refuse b0 (1 : Int32) (wX5_step b0 h)))
def okX5_readRule (b0 : Nat) (r1 : Option Nat) (h : ea_H) : Prop := (okX5_step b0 h) ∧ (((ea_i (wX5_step b0 h) (b0 + 22) 9) = (18 : Int32) → vp_in (ea_i (wX5_step b0 h) (b0 + 22) 8) 601 ∧ (((ea_i h (b0 + 22) 9) = (2 : Int32) → ((ea_i (wX5_step b0 h) (b0 + 26) (Int32.toNatClampNeg (ea_i (wX5_step b0 h) (b0 + 22) 8))) ≤ (99 : Int32) → (okX5_step b0 (wX5_step b0 h)) ∧ ((Int32.toInt (ea_i h (b0 + 22) 9) = 1 → (okX5_readAfter b0 (r1 : Option Nat) ((ea_i (wX5_step b0 h) (b0 + 26) (Int32.toNatClampNeg (ea_i (wX5_step b0 h) (b0 + 22) 8))) : Int32) (wX5_step b0 (wX5_step b0 h)))) ∧ (¬ Int32.toInt (ea_i h (b0 + 22) 9) = 1 → (Int32.toInt (ea_i h (b0 + 22) 9) = 2 → r1 = some (Option.getD r1 0) ∧ (((Option.getD r1 0) < ea_n (wX5_step b0 (wX5_step b0 h)) ∧ ea_c (wX5_step b0 (wX5_step b0 h)) (Option.getD r1 0) = 0))) ∧ (¬ Int32.toInt (ea_i h (b0 + 22) 9) = 2 → (Int32.toInt (ea_i h (b0 + 22) 9) = 3 → r1 = some (Option.getD r1 0) ∧ (((Option.getD r1 0) < ea_n (wX5_step b0 (wX5_step b0 h)) ∧ ea_c (wX5_step b0 (wX5_step b0 h)) (Option.getD r1 0) = 0))) ∧ (¬ Int32.toInt (ea_i h (b0 + 22) 9) = 3 → (Int32.toInt (ea_i h (b0 + 22) 9) = 4 → r1 = some (Option.getD r1 0) ∧ (((Option.getD r1 0) < ea_n (wX5_step b0 (wX5_step b0 h)) ∧ ea_c (wX5_step b0 (wX5_step b0 h)) (Option.getD r1 0) = 0))) ∧ (¬ Int32.toInt (ea_i h (b0 + 22) 9) = 4 → r1 = some (Option.getD r1 0) ∧ (((Option.getD r1 0) < ea_n (wX5_step b0 (wX5_step b0 h)) ∧ ea_c (wX5_step b0 (wX5_step b0 h)) (Option.getD r1 0) = 0)))))))) ∧ (¬ (ea_i (wX5_step b0 h) (b0 + 26) (Int32.toNatClampNeg (ea_i (wX5_step b0 h) (b0 + 22) 8))) ≤ (99 : Int32) → (okX5_refuse b0 (2 : Int32) (wX5_step b0 h)))) ∧ (¬ (ea_i h (b0 + 22) 9) = (2 : Int32) → (okX5_step b0 (wX5_step b0 h)) ∧ ((Int32.toInt (ea_i h (b0 + 22) 9) = 1 → (okX5_readAfter b0 (r1 : Option Nat) ((ea_i (wX5_step b0 h) (b0 + 26) (Int32.toNatClampNeg (ea_i (wX5_step b0 h) (b0 + 22) 8))) : Int32) (wX5_step b0 (wX5_step b0 h)))) ∧ (¬ Int32.toInt (ea_i h (b0 + 22) 9) = 1 → (Int32.toInt (ea_i h (b0 + 22) 9) = 2 → r1 = some (Option.getD r1 0) ∧ (((Option.getD r1 0) < ea_n (wX5_step b0 (wX5_step b0 h)) ∧ ea_c (wX5_step b0 (wX5_step b0 h)) (Option.getD r1 0) = 0))) ∧ (¬ Int32.toInt (ea_i h (b0 + 22) 9) = 2 → (Int32.toInt (ea_i h (b0 + 22) 9) = 3 → r1 = some (Option.getD r1 0) ∧ (((Option.getD r1 0) < ea_n (wX5_step b0 (wX5_step b0 h)) ∧ ea_c (wX5_step b0 (wX5_step b0 h)) (Option.getD r1 0) = 0))) ∧ (¬ Int32.toInt (ea_i h (b0 + 22) 9) = 3 → (Int32.toInt (ea_i h (b0 + 22) 9) = 4 → r1 = some (Option.getD r1 0) ∧ (((Option.getD r1 0) < ea_n (wX5_step b0 (wX5_step b0 h)) ∧ ea_c (wX5_step b0 (wX5_step b0 h)) (Option.getD r1 0) = 0))) ∧ (¬ Int32.toInt (ea_i h (b0 + 22) 9) = 4 → r1 = some (Option.getD r1 0) ∧ (((Option.getD r1 0) < ea_n (wX5_step b0 (wX5_step b0 h)) ∧ ea_c (wX5_step b0 (wX5_step b0 h)) (Option.getD r1 0) = 0)))))))))) ∧ (¬ (ea_i (wX5_step b0 h) (b0 + 22) 9) = (18 : Int32) → (okX5_refuse b0 (1 : Int32) (wX5_step b0 h))))
theorem bo_vX5_readRule (b0 : Nat) (r1 : Option Nat) (h : ea_H) : vX5_readRule b0 r1 h = 0 ∨ vX5_readRule b0 r1 h = 1 := (ea_itB (ea_itB (ea_itB (ea_itB (bo_vX5_readAfter _ _ _ _) (Or.inr rfl)) (bo_vX5_refuse _ _ _)) (ea_itB (bo_vX5_readAfter _ _ _ _) (Or.inr rfl))) (bo_vX5_refuse _ _ _))
theorem shX5_readRule {b0 : Nat} {r1 : Option Nat} {h : ea_H} (hs : ShC b0 h) : ShC b0 (wX5_readRule b0 r1 h) := (ShC_it (ShC_it (ShC_it (ShC_it (shX5_readAfter (shX5_step (shX5_step hs))) (ShC_it (ShC_wi (shX5_step (shX5_step hs))) (ShC_it (ShC_wi (shX5_step (shX5_step hs))) (ShC_it (ShC_wi (shX5_step (shX5_step hs))) (ShC_wi (shX5_step (shX5_step hs))))))) (shX5_refuse (shX5_step hs))) (ShC_it (shX5_readAfter (shX5_step (shX5_step hs))) (ShC_it (ShC_wi (shX5_step (shX5_step hs))) (ShC_it (ShC_wi (shX5_step (shX5_step hs))) (ShC_it (ShC_wi (shX5_step (shX5_step hs))) (ShC_wi (shX5_step (shX5_step hs)))))))) (shX5_refuse (shX5_step hs)))
theorem sX5_readRule {d : Nat} {b0 : Nat} {r1 : Option Nat} {h : ea_H} (hd : 4 ≤ d) (hs : ShC b0 h) (K : okX5_readRule b0 r1 h) : ea_Met mX5_readRule d [vR (some (b0 + 22)), vR r1] h (some (vI (vX5_readRule b0 r1 h))) (wX5_readRule b0 r1 h) := by
  obtain ⟨X, EX⟩ : ∃ z, z = vX5_readRule b0 r1 h := ⟨_, rfl⟩
  rw [← EX]
  unfold vX5_readRule at EX
  obtain ⟨Y, EY⟩ : ∃ z, z = wX5_readRule b0 r1 h := ⟨_, rfl⟩
  rw [← EY]
  unfold wX5_readRule at EY
  unfold okX5_readRule at K
  refine ea_enter rfl (Nat.le_of_ble_eq_true rfl) ?_
  refine ea_aload_n (pc := 0) dX5_readRule_0 rfl 0 rfl ?_
  refine ea_getI (pc := 1) dX5_readRule_1 ec_5 (k := 9) (Nat.le_of_ble_eq_true rfl) rfl (Or.inl ew_303) (hs.1 22 (by decide)).1 (hs.1 22 (by decide)).2.1 ?_
  refine ea_istore_n (pc := 4) (lv' := [(0, vR (some (b0 + 22))), (1, vR r1), (2, vI (ea_i h (b0 + 22) 9))]) dX5_readRule_4 rfl (Nat.le_of_ble_eq_true rfl) [1, 2, 0] rfl ?_
  refine ea_aload_n (pc := 5) dX5_readRule_5 rfl 0 rfl ?_
  obtain ⟨z1, K⟩ := K
  refine ea_callV (pc := 6) (d' := d - 1) (As := []) (st := []) dX5_readRule_6 kX5_step (sX5_step (d := d - 1) (by omega) hs z1) (by omega) rfl (Nat.le_of_ble_eq_true rfl) ew_859 ew_861 ew_22 (ci := 5) rfl (by decide) (hs.1 22 (by decide)).1 (hs.1 22 (by decide)).2.1 ?_
  have hs2 : ShC b0 (wX5_step b0 h) := shX5_step hs
  refine ea_aload_n (pc := 9) dX5_readRule_9 rfl 0 rfl ?_
  refine ea_getI (pc := 10) dX5_readRule_10 ec_5 (k := 9) (Nat.le_of_ble_eq_true rfl) rfl (Or.inl ew_303) (hs2.1 22 (by decide)).1 (hs2.1 22 (by decide)).2.1 ?_
  refine ea_bipush (pc := 13) dX5_readRule_13 (v := 18) rfl ?_
  refine ea_icmp_eq (pc := 15) (tgt := 24) dX5_readRule_15 rfl (fun c42 => ?_) (fun c42 => ?_)
  · have EX := EX.trans (if_pos c42)
    have EY := EY.trans (if_pos c42)
    have K := K.1 c42
    refine ea_aload_n (pc := 24) dX5_readRule_24 rfl 0 rfl ?_
    refine ea_getR (pc := 25) dX5_readRule_25 ec_5 (k := 6) (Nat.le_of_ble_eq_true rfl) rfl (Or.inl ew_300) (hs2.1 22 (by decide)).1 (hs2.1 22 (by decide)).2.1 (hs2.2 22 6 rfl) ?_
    refine ea_aload_n (pc := 28) dX5_readRule_28 rfl 0 rfl ?_
    refine ea_getI (pc := 29) dX5_readRule_29 ec_5 (k := 8) (Nat.le_of_ble_eq_true rfl) rfl (Or.inl ew_302) (hs2.1 22 (by decide)).1 (hs2.1 22 (by decide)).2.1 ?_
    obtain ⟨z3, K⟩ := K
    refine ea_iald (pc := 32) dX5_readRule_32 (hs2.1 26 (by decide)).1 (hs2.1 26 (by decide)).2.1 (ea_vpl (hs2.1 26 (by decide)).2.2 z3) ?_
    refine ea_istore_n (pc := 33) (lv' := [(0, vR (some (b0 + 22))), (1, vR r1), (2, vI (ea_i h (b0 + 22) 9)), (3, vI (ea_i (wX5_step b0 h) (b0 + 26) (Int32.toNatClampNeg (ea_i (wX5_step b0 h) (b0 + 22) 8))))]) dX5_readRule_33 rfl (Nat.le_of_ble_eq_true rfl) [1, 2, 3, 0] rfl ?_
    refine ea_iload_n (pc := 34) dX5_readRule_34 rfl 2 rfl ?_
    refine ea_iconst (pc := 35) dX5_readRule_35 (v := 2) rfl ?_
    refine ea_icmp_ne (pc := 36) (tgt := 51) dX5_readRule_36 rfl (fun c39 => ?_) (fun c39 => ?_)
    · have EX := EX.trans (if_neg c39)
      have EY := EY.trans (if_neg c39)
      have K := K.2 c39
      refine ea_aload_n (pc := 51) dX5_readRule_51 rfl 0 rfl ?_
      obtain ⟨z4, K⟩ := K
      refine ea_callV (pc := 52) (d' := d - 1) (As := []) (st := []) dX5_readRule_52 kX5_step (sX5_step (d := d - 1) (by omega) hs2 z4) (by omega) rfl (Nat.le_of_ble_eq_true rfl) ew_859 ew_861 ew_22 (ci := 5) rfl (by decide) (hs2.1 22 (by decide)).1 (hs2.1 22 (by decide)).2.1 ?_
      have hs5 : ShC b0 (wX5_step b0 (wX5_step b0 h)) := shX5_step hs2
      refine ea_iload_n (pc := 55) dX5_readRule_55 rfl 2 rfl ?_
      by_cases qc56_0 : Int32.toInt (ea_i h (b0 + 22) 9) = 1
      · have EX := EX.trans (if_pos qc56_0)
        have EY := EY.trans (if_pos qc56_0)
        have K := K.1 qc56_0
        refine ea_tswIn (pc := 56) (tgt := 88) dX5_readRule_56 (by rw [qc56_0]; decide) (by rw [qc56_0]; decide) (by rw [qc56_0]; rfl) rfl ?_
        refine ea_aload_n (pc := 88) dX5_readRule_88 rfl 0 rfl ?_
        refine ea_aload_n (pc := 89) dX5_readRule_89 rfl 1 rfl ?_
        refine ea_iload_n (pc := 90) dX5_readRule_90 rfl 3 rfl ?_
        have z9 := K
        refine ea_callV (pc := 91) (d' := d - 1) (As := [vR r1, vI (ea_i (wX5_step b0 h) (b0 + 26) (Int32.toNatClampNeg (ea_i (wX5_step b0 h) (b0 + 22) 8)))]) (st := []) dX5_readRule_91 kX5_readAfter (sX5_readAfter (d := d - 1) (by omega) hs5 z9) (by omega) rfl (Nat.le_of_ble_eq_true rfl) ew_895 ew_897 ew_31 (ci := 5) rfl (by decide) (hs5.1 22 (by decide)).1 (hs5.1 22 (by decide)).2.1 ?_
        have hs10 : ShC b0 (wX5_readAfter b0 (r1 : Option Nat) ((ea_i (wX5_step b0 h) (b0 + 26) (Int32.toNatClampNeg (ea_i (wX5_step b0 h) (b0 + 22) 8))) : Int32) (wX5_step b0 (wX5_step b0 h))) := shX5_readAfter hs5
        exact ea_iretE (pc := 94) dX5_readRule_94 rfl (ea_bn (bo_vX5_readAfter ..)) EX EY
      have EX := EX.trans (if_neg qc56_0)
      have EY := EY.trans (if_neg qc56_0)
      have K := K.2 qc56_0
      by_cases qc56_1 : Int32.toInt (ea_i h (b0 + 22) 9) = 2
      · have EY := EY.trans (if_pos qc56_1)
        have K := K.1 qc56_1
        refine ea_tswIn (pc := 56) (tgt := 95) dX5_readRule_56 (by rw [qc56_1]; decide) (by rw [qc56_1]; decide) (by rw [qc56_1]; rfl) rfl ?_
        refine ea_aload_n (pc := 95) dX5_readRule_95 rfl 1 rfl ?_
        refine ea_iload_n (pc := 96) dX5_readRule_96 rfl 3 rfl ?_
        obtain ⟨e11, f12⟩ := K
        refine ea_deref1 e11 ?_
        refine ea_putI (pc := 97) dX5_readRule_97 ec_0 (k := 4) (Nat.le_of_ble_eq_true rfl) rfl (Or.inl ⟨rfl, Or.inl ew_803⟩) rfl rfl f12.1 f12.2 ?_
        have hs13 : ShC b0 (ea_wi (wX5_step b0 (wX5_step b0 h)) (Option.getD r1 0) 4 (ea_i (wX5_step b0 h) (b0 + 26) (Int32.toNatClampNeg (ea_i (wX5_step b0 h) (b0 + 22) 8)))) := ShC_wi hs5
        refine ea_goto (pc := 100) (tgt := 124) dX5_readRule_100 rfl ?_
        refine ea_iconst (pc := 124) dX5_readRule_124 (v := 1) rfl ?_
        exact ea_iretE (pc := 125) dX5_readRule_125 rfl (ea_bn (Or.inr rfl)) EX EY
      have EY := EY.trans (if_neg qc56_1)
      have K := K.2 qc56_1
      by_cases qc56_2 : Int32.toInt (ea_i h (b0 + 22) 9) = 3
      · have EY := EY.trans (if_pos qc56_2)
        have K := K.1 qc56_2
        refine ea_tswIn (pc := 56) (tgt := 103) dX5_readRule_56 (by rw [qc56_2]; decide) (by rw [qc56_2]; decide) (by rw [qc56_2]; rfl) rfl ?_
        refine ea_aload_n (pc := 103) dX5_readRule_103 rfl 1 rfl ?_
        refine ea_iload_n (pc := 104) dX5_readRule_104 rfl 3 rfl ?_
        obtain ⟨e14, f15⟩ := K
        refine ea_deref1 e14 ?_
        refine ea_putI (pc := 105) dX5_readRule_105 ec_0 (k := 5) (Nat.le_of_ble_eq_true rfl) rfl (Or.inl ⟨rfl, Or.inl ew_806⟩) rfl rfl f15.1 f15.2 ?_
        have hs16 : ShC b0 (ea_wi (wX5_step b0 (wX5_step b0 h)) (Option.getD r1 0) 5 (ea_i (wX5_step b0 h) (b0 + 26) (Int32.toNatClampNeg (ea_i (wX5_step b0 h) (b0 + 22) 8)))) := ShC_wi hs5
        refine ea_goto (pc := 108) (tgt := 124) dX5_readRule_108 rfl ?_
        refine ea_iconst (pc := 124) dX5_readRule_124 (v := 1) rfl ?_
        exact ea_iretE (pc := 125) dX5_readRule_125 rfl (ea_bn (Or.inr rfl)) EX EY
      have EY := EY.trans (if_neg qc56_2)
      have K := K.2 qc56_2
      by_cases qc56_3 : Int32.toInt (ea_i h (b0 + 22) 9) = 4
      · have EY := EY.trans (if_pos qc56_3)
        have K := K.1 qc56_3
        refine ea_tswIn (pc := 56) (tgt := 111) dX5_readRule_56 (by rw [qc56_3]; decide) (by rw [qc56_3]; decide) (by rw [qc56_3]; rfl) rfl ?_
        refine ea_aload_n (pc := 111) dX5_readRule_111 rfl 1 rfl ?_
        refine ea_iload_n (pc := 112) dX5_readRule_112 rfl 3 rfl ?_
        obtain ⟨e17, f18⟩ := K
        refine ea_deref1 e17 ?_
        refine ea_putI (pc := 113) dX5_readRule_113 ec_0 (k := 6) (Nat.le_of_ble_eq_true rfl) rfl (Or.inl ⟨rfl, Or.inl ew_809⟩) rfl rfl f18.1 f18.2 ?_
        have hs19 : ShC b0 (ea_wi (wX5_step b0 (wX5_step b0 h)) (Option.getD r1 0) 6 (ea_i (wX5_step b0 h) (b0 + 26) (Int32.toNatClampNeg (ea_i (wX5_step b0 h) (b0 + 22) 8)))) := ShC_wi hs5
        refine ea_goto (pc := 116) (tgt := 124) dX5_readRule_116 rfl ?_
        refine ea_iconst (pc := 124) dX5_readRule_124 (v := 1) rfl ?_
        exact ea_iretE (pc := 125) dX5_readRule_125 rfl (ea_bn (Or.inr rfl)) EX EY
      have EY := EY.trans (if_neg qc56_3)
      have K := K.2 qc56_3
      refine ea_tswOut (pc := 56) (tgt := 119) dX5_readRule_56 (ec_sw_1_4 qc56_0 qc56_1 qc56_2 qc56_3) rfl ?_
      refine ea_aload_n (pc := 119) dX5_readRule_119 rfl 1 rfl ?_
      refine ea_iload_n (pc := 120) dX5_readRule_120 rfl 3 rfl ?_
      obtain ⟨e6, f7⟩ := K
      refine ea_deref1 e6 ?_
      refine ea_putI (pc := 121) dX5_readRule_121 ec_0 (k := 7) (Nat.le_of_ble_eq_true rfl) rfl (Or.inl ⟨rfl, Or.inl ew_813⟩) rfl rfl f7.1 f7.2 ?_
      have hs8 : ShC b0 (ea_wi (wX5_step b0 (wX5_step b0 h)) (Option.getD r1 0) 7 (ea_i (wX5_step b0 h) (b0 + 26) (Int32.toNatClampNeg (ea_i (wX5_step b0 h) (b0 + 22) 8)))) := ShC_wi hs5
      refine ea_iconst (pc := 124) dX5_readRule_124 (v := 1) rfl ?_
      exact ea_iretE (pc := 125) dX5_readRule_125 rfl (ea_bn (Or.inr rfl)) EX EY
    · have EX := EX.trans (if_pos c39)
      have EY := EY.trans (if_pos c39)
      have K := K.1 c39
      refine ea_iload_n (pc := 39) dX5_readRule_39 rfl 3 rfl ?_
      refine ea_bipush (pc := 40) dX5_readRule_40 (v := 99) rfl ?_
      refine ea_icmp_le (pc := 42) (tgt := 51) dX5_readRule_42 rfl (fun c38 => ?_) (fun c38 => ?_)
      · have EX := EX.trans (if_pos c38)
        have EY := EY.trans (if_pos c38)
        have K := K.1 c38
        refine ea_aload_n (pc := 51) dX5_readRule_51 rfl 0 rfl ?_
        obtain ⟨z20, K⟩ := K
        refine ea_callV (pc := 52) (d' := d - 1) (As := []) (st := []) dX5_readRule_52 kX5_step (sX5_step (d := d - 1) (by omega) hs2 z20) (by omega) rfl (Nat.le_of_ble_eq_true rfl) ew_859 ew_861 ew_22 (ci := 5) rfl (by decide) (hs2.1 22 (by decide)).1 (hs2.1 22 (by decide)).2.1 ?_
        have hs21 : ShC b0 (wX5_step b0 (wX5_step b0 h)) := shX5_step hs2
        refine ea_iload_n (pc := 55) dX5_readRule_55 rfl 2 rfl ?_
        by_cases qc56_0 : Int32.toInt (ea_i h (b0 + 22) 9) = 1
        · have EX := EX.trans (if_pos qc56_0)
          have EY := EY.trans (if_pos qc56_0)
          have K := K.1 qc56_0
          refine ea_tswIn (pc := 56) (tgt := 88) dX5_readRule_56 (by rw [qc56_0]; decide) (by rw [qc56_0]; decide) (by rw [qc56_0]; rfl) rfl ?_
          refine ea_aload_n (pc := 88) dX5_readRule_88 rfl 0 rfl ?_
          refine ea_aload_n (pc := 89) dX5_readRule_89 rfl 1 rfl ?_
          refine ea_iload_n (pc := 90) dX5_readRule_90 rfl 3 rfl ?_
          have z25 := K
          refine ea_callV (pc := 91) (d' := d - 1) (As := [vR r1, vI (ea_i (wX5_step b0 h) (b0 + 26) (Int32.toNatClampNeg (ea_i (wX5_step b0 h) (b0 + 22) 8)))]) (st := []) dX5_readRule_91 kX5_readAfter (sX5_readAfter (d := d - 1) (by omega) hs21 z25) (by omega) rfl (Nat.le_of_ble_eq_true rfl) ew_895 ew_897 ew_31 (ci := 5) rfl (by decide) (hs21.1 22 (by decide)).1 (hs21.1 22 (by decide)).2.1 ?_
          have hs26 : ShC b0 (wX5_readAfter b0 (r1 : Option Nat) ((ea_i (wX5_step b0 h) (b0 + 26) (Int32.toNatClampNeg (ea_i (wX5_step b0 h) (b0 + 22) 8))) : Int32) (wX5_step b0 (wX5_step b0 h))) := shX5_readAfter hs21
          exact ea_iretE (pc := 94) dX5_readRule_94 rfl (ea_bn (bo_vX5_readAfter ..)) EX EY
        have EX := EX.trans (if_neg qc56_0)
        have EY := EY.trans (if_neg qc56_0)
        have K := K.2 qc56_0
        by_cases qc56_1 : Int32.toInt (ea_i h (b0 + 22) 9) = 2
        · have EY := EY.trans (if_pos qc56_1)
          have K := K.1 qc56_1
          refine ea_tswIn (pc := 56) (tgt := 95) dX5_readRule_56 (by rw [qc56_1]; decide) (by rw [qc56_1]; decide) (by rw [qc56_1]; rfl) rfl ?_
          refine ea_aload_n (pc := 95) dX5_readRule_95 rfl 1 rfl ?_
          refine ea_iload_n (pc := 96) dX5_readRule_96 rfl 3 rfl ?_
          obtain ⟨e27, f28⟩ := K
          refine ea_deref1 e27 ?_
          refine ea_putI (pc := 97) dX5_readRule_97 ec_0 (k := 4) (Nat.le_of_ble_eq_true rfl) rfl (Or.inl ⟨rfl, Or.inl ew_803⟩) rfl rfl f28.1 f28.2 ?_
          have hs29 : ShC b0 (ea_wi (wX5_step b0 (wX5_step b0 h)) (Option.getD r1 0) 4 (ea_i (wX5_step b0 h) (b0 + 26) (Int32.toNatClampNeg (ea_i (wX5_step b0 h) (b0 + 22) 8)))) := ShC_wi hs21
          refine ea_goto (pc := 100) (tgt := 124) dX5_readRule_100 rfl ?_
          refine ea_iconst (pc := 124) dX5_readRule_124 (v := 1) rfl ?_
          exact ea_iretE (pc := 125) dX5_readRule_125 rfl (ea_bn (Or.inr rfl)) EX EY
        have EY := EY.trans (if_neg qc56_1)
        have K := K.2 qc56_1
        by_cases qc56_2 : Int32.toInt (ea_i h (b0 + 22) 9) = 3
        · have EY := EY.trans (if_pos qc56_2)
          have K := K.1 qc56_2
          refine ea_tswIn (pc := 56) (tgt := 103) dX5_readRule_56 (by rw [qc56_2]; decide) (by rw [qc56_2]; decide) (by rw [qc56_2]; rfl) rfl ?_
          refine ea_aload_n (pc := 103) dX5_readRule_103 rfl 1 rfl ?_
          refine ea_iload_n (pc := 104) dX5_readRule_104 rfl 3 rfl ?_
          obtain ⟨e30, f31⟩ := K
          refine ea_deref1 e30 ?_
          refine ea_putI (pc := 105) dX5_readRule_105 ec_0 (k := 5) (Nat.le_of_ble_eq_true rfl) rfl (Or.inl ⟨rfl, Or.inl ew_806⟩) rfl rfl f31.1 f31.2 ?_
          have hs32 : ShC b0 (ea_wi (wX5_step b0 (wX5_step b0 h)) (Option.getD r1 0) 5 (ea_i (wX5_step b0 h) (b0 + 26) (Int32.toNatClampNeg (ea_i (wX5_step b0 h) (b0 + 22) 8)))) := ShC_wi hs21
          refine ea_goto (pc := 108) (tgt := 124) dX5_readRule_108 rfl ?_
          refine ea_iconst (pc := 124) dX5_readRule_124 (v := 1) rfl ?_
          exact ea_iretE (pc := 125) dX5_readRule_125 rfl (ea_bn (Or.inr rfl)) EX EY
        have EY := EY.trans (if_neg qc56_2)
        have K := K.2 qc56_2
        by_cases qc56_3 : Int32.toInt (ea_i h (b0 + 22) 9) = 4
        · have EY := EY.trans (if_pos qc56_3)
          have K := K.1 qc56_3
          refine ea_tswIn (pc := 56) (tgt := 111) dX5_readRule_56 (by rw [qc56_3]; decide) (by rw [qc56_3]; decide) (by rw [qc56_3]; rfl) rfl ?_
          refine ea_aload_n (pc := 111) dX5_readRule_111 rfl 1 rfl ?_
          refine ea_iload_n (pc := 112) dX5_readRule_112 rfl 3 rfl ?_
          obtain ⟨e33, f34⟩ := K
          refine ea_deref1 e33 ?_
          refine ea_putI (pc := 113) dX5_readRule_113 ec_0 (k := 6) (Nat.le_of_ble_eq_true rfl) rfl (Or.inl ⟨rfl, Or.inl ew_809⟩) rfl rfl f34.1 f34.2 ?_
          have hs35 : ShC b0 (ea_wi (wX5_step b0 (wX5_step b0 h)) (Option.getD r1 0) 6 (ea_i (wX5_step b0 h) (b0 + 26) (Int32.toNatClampNeg (ea_i (wX5_step b0 h) (b0 + 22) 8)))) := ShC_wi hs21
          refine ea_goto (pc := 116) (tgt := 124) dX5_readRule_116 rfl ?_
          refine ea_iconst (pc := 124) dX5_readRule_124 (v := 1) rfl ?_
          exact ea_iretE (pc := 125) dX5_readRule_125 rfl (ea_bn (Or.inr rfl)) EX EY
        have EY := EY.trans (if_neg qc56_3)
        have K := K.2 qc56_3
        refine ea_tswOut (pc := 56) (tgt := 119) dX5_readRule_56 (ec_sw_1_4 qc56_0 qc56_1 qc56_2 qc56_3) rfl ?_
        refine ea_aload_n (pc := 119) dX5_readRule_119 rfl 1 rfl ?_
        refine ea_iload_n (pc := 120) dX5_readRule_120 rfl 3 rfl ?_
        obtain ⟨e22, f23⟩ := K
        refine ea_deref1 e22 ?_
        refine ea_putI (pc := 121) dX5_readRule_121 ec_0 (k := 7) (Nat.le_of_ble_eq_true rfl) rfl (Or.inl ⟨rfl, Or.inl ew_813⟩) rfl rfl f23.1 f23.2 ?_
        have hs24 : ShC b0 (ea_wi (wX5_step b0 (wX5_step b0 h)) (Option.getD r1 0) 7 (ea_i (wX5_step b0 h) (b0 + 26) (Int32.toNatClampNeg (ea_i (wX5_step b0 h) (b0 + 22) 8)))) := ShC_wi hs21
        refine ea_iconst (pc := 124) dX5_readRule_124 (v := 1) rfl ?_
        exact ea_iretE (pc := 125) dX5_readRule_125 rfl (ea_bn (Or.inr rfl)) EX EY
      · have EX := EX.trans (if_neg c38)
        have EY := EY.trans (if_neg c38)
        have K := K.2 c38
        refine ea_aload_n (pc := 45) dX5_readRule_45 rfl 0 rfl ?_
        refine ea_iconst (pc := 46) dX5_readRule_46 (v := 2) rfl ?_
        have z36 := K
        refine ea_callV (pc := 47) (d' := d - 1) (As := [vI 2]) (st := []) dX5_readRule_47 kX5_refuse (sX5_refuse (d := d - 1) (by omega) hs2 z36) (by omega) rfl (Nat.le_of_ble_eq_true rfl) ew_851 ew_853 ew_20 (ci := 5) rfl (by decide) (hs2.1 22 (by decide)).1 (hs2.1 22 (by decide)).2.1 ?_
        have hs37 : ShC b0 (wX5_refuse b0 (2 : Int32) (wX5_step b0 h)) := shX5_refuse hs2
        exact ea_iretE (pc := 50) dX5_readRule_50 rfl (ea_bn (bo_vX5_refuse ..)) EX EY
  · have EX := EX.trans (if_neg c42)
    have EY := EY.trans (if_neg c42)
    have K := K.2 c42
    refine ea_aload_n (pc := 18) dX5_readRule_18 rfl 0 rfl ?_
    refine ea_iconst (pc := 19) dX5_readRule_19 (v := 1) rfl ?_
    have z40 := K
    refine ea_callV (pc := 20) (d' := d - 1) (As := [vI 1]) (st := []) dX5_readRule_20 kX5_refuse (sX5_refuse (d := d - 1) (by omega) hs2 z40) (by omega) rfl (Nat.le_of_ble_eq_true rfl) ew_851 ew_853 ew_20 (ci := 5) rfl (by decide) (hs2.1 22 (by decide)).1 (hs2.1 22 (by decide)).2.1 ?_
    have hs41 : ShC b0 (wX5_refuse b0 (1 : Int32) (wX5_step b0 h)) := shX5_refuse hs2
    exact ea_iretE (pc := 23) dX5_readRule_23 rfl (ea_bn (bo_vX5_refuse ..)) EX EY
noncomputable def gX11_of (b0 : Nat) : Nat → Nat → Option Nat → Int32 → Int32 → Int32 → ea_H → Option (Int32 × ea_H)
  | 0, _, _, _, _, _, _ => none
  | f + 1, lbl, r3, sx0, x1, x2, h =>
    if lbl = 0 then (gd ((okX11_letterOf b0 (x1 : Int32) h)) (if (vX11_letterOf b0 (x1 : Int32) h) = none then (some (((-1) : Int32), h)) else (gd (vp_in x1 120) (if (ea_i h (b0 + 33) (Int32.toNatClampNeg x1)) = (1 : Int32) then (gX11_of b0 f 30 ((vX11_letterOf b0 (x1 : Int32) h) : Option Nat) (1 : Int32) (x1 : Int32) (x2 : Int32) h) else (gX11_of b0 f 30 ((vX11_letterOf b0 (x1 : Int32) h) : Option Nat) (0 : Int32) (x1 : Int32) (x2 : Int32) h))))) else
    if lbl = 30 then (if Int32.toInt x2 = 0 then (gd (r3 = some (Option.getD r3 0)) (gd (((Option.getD r3 0) < ea_n h ∧ ea_c h (Option.getD r3 0) = 4)) (some ((ea_i h (Option.getD r3 0) 0), h)))) else (if Int32.toInt x2 = 1 then (gd (r3 = some (Option.getD r3 0)) (gd (((Option.getD r3 0) < ea_n h ∧ ea_c h (Option.getD r3 0) = 4)) (some ((ea_i h (Option.getD r3 0) 1), h)))) else (if Int32.toInt x2 = 2 then (gd (r3 = some (Option.getD r3 0)) (gd (((Option.getD r3 0) < ea_n h ∧ ea_c h (Option.getD r3 0) = 4)) (some ((ea_i h (Option.getD r3 0) 2), h)))) else (if Int32.toInt x2 = 3 then (gd (r3 = some (Option.getD r3 0)) (gd (((Option.getD r3 0) < ea_n h ∧ ea_c h (Option.getD r3 0) = 4)) (some ((ea_i h (Option.getD r3 0) 3), h)))) else (if Int32.toInt x2 = 4 then (gd (r3 = some (Option.getD r3 0)) (gd (((Option.getD r3 0) < ea_n h ∧ ea_c h (Option.getD r3 0) = 4)) (some ((ea_i h (Option.getD r3 0) 4), h)))) else (if Int32.toInt x2 = 5 then (gd (r3 = some (Option.getD r3 0)) (gd (((Option.getD r3 0) < ea_n h ∧ ea_c h (Option.getD r3 0) = 4)) (some ((ea_i h (Option.getD r3 0) 5), h)))) else (if Int32.toInt x2 = 6 then (gd (r3 = some (Option.getD r3 0)) (gd (((Option.getD r3 0) < ea_n h ∧ ea_c h (Option.getD r3 0) = 4)) (some ((ea_i h (Option.getD r3 0) 6), h)))) else (if Int32.toInt x2 = 7 then (gd (vp_in x1 120) (some ((ea_i h (b0 + 33) (Int32.toNatClampNeg x1)), h))) else (if Int32.toInt x2 = 8 then (gd (vp_in x1 120) (some ((ea_i h (b0 + 34) (Int32.toNatClampNeg x1)), h))) else (if Int32.toInt x2 = 9 then (gd (r3 = some (Option.getD r3 0)) (gd (((Option.getD r3 0) < ea_n h ∧ ea_c h (Option.getD r3 0) = 4)) (if (ea_i h (Option.getD r3 0) 8) = (0 : Int32) then (some ((0 : Int32), h)) else (some ((1 : Int32), h))))) else (if Int32.toInt x2 = 10 then (if sx0 = (0 : Int32) then (some ((0 : Int32), h)) else (gd (vp_in x1 120) (if (ea_i h (b0 + 37) (Int32.toNatClampNeg x1)) = (0 : Int32) then (some ((0 : Int32), h)) else (some ((1 : Int32), h))))) else (if Int32.toInt x2 = 11 then (if sx0 = (0 : Int32) then (some (((-1) : Int32), h)) else (gd (vp_in x1 120) (some ((ea_i h (b0 + 35) (Int32.toNatClampNeg x1)), h)))) else (if Int32.toInt x2 = 12 then (gd (vp_in x1 120) (some ((ea_i h (b0 + 36) (Int32.toNatClampNeg x1)), h))) else (some (((-1) : Int32), h))))))))))))))) else none
theorem tX11_of {d : Nat} {b0 : Nat} {h0 : ea_H} (hd : 2 ≤ d) : ∀ (f lbl : Nat) (r3 : Option Nat) (sx0 : Int32) (x1 : Int32) (x2 : Int32) (h : ea_H) (r : Int32) (h' : ea_H), gX11_of b0 f lbl r3 sx0 x1 x2 h = some (r, h') → ShC b0 h → (lbl = 0 → ea_W mX11_of d h0 (some (vI r)) h' 0 [(0, vR (some (b0 + 0))), (1, vI x1), (2, vI x2)] [] h) ∧ (lbl = 30 → ea_W mX11_of d h0 (some (vI r)) h' 30 [(0, vR (some (b0 + 0))), (1, vI x1), (2, vI x2), (3, vR r3)] [vI sx0] h) := by
  intro f
  induction f with
  | zero => intro lbl r3 sx0 x1 x2 h r h' E; cases E
  | succ f ih =>
    intro lbl r3 sx0 x1 x2 h r h' E hs
    unfold gX11_of at E
    refine ⟨?_, ?_⟩
    · intro el
      subst el
      have E := (if_pos rfl).symm.trans E
      refine ea_aload_n (pc := 0) dX11_of_0 rfl 0 rfl ?_
      refine ea_iload_n (pc := 1) dX11_of_1 rfl 1 rfl ?_
      obtain ⟨z1, E⟩ := gd_some E
      refine ea_callV (pc := 2) (d' := d - 1) (As := [vI x1]) (st := []) dX11_of_2 kX11_letterOf (sX11_letterOf (d := d - 1) (by omega) hs z1) (by omega) rfl (Nat.le_of_ble_eq_true rfl) ew_1076 ew_1078 ew_37 (ci := 11) rfl (by decide) (hs.1 0 (by decide)).1 (hs.1 0 (by decide)).2.1 ?_
      refine ea_astore_n (pc := 5) (lv' := [(0, vR (some (b0 + 0))), (1, vI x1), (2, vI x2), (3, vR (vX11_letterOf b0 (x1 : Int32) h))]) dX11_of_5 rfl (Nat.le_of_ble_eq_true rfl) [1, 2, 3, 0] rfl ?_
      refine ea_aload_n (pc := 6) dX11_of_6 rfl 3 rfl ?_
      refine ea_ifnonnull (pc := 7) (tgt := 12) dX11_of_7 rfl (fun a5 c4 => ?_) (fun c4 => ?_)
      · have c4n : ¬ (vX11_letterOf b0 (x1 : Int32) h) = none := by rw [c4]; exact fun q => nomatch q
        have E := (if_neg c4n).symm.trans E
        refine ea_aload_n (pc := 12) dX11_of_12 rfl 0 rfl ?_
        refine ea_getR (pc := 13) dX11_of_13 ec_11 (k := 6) (Nat.le_of_ble_eq_true rfl) rfl (Or.inl ew_443) (hs.1 0 (by decide)).1 (hs.1 0 (by decide)).2.1 (hs.2 0 6 rfl) ?_
        refine ea_getR (pc := 16) dX11_of_16 ec_1 (k := 1) (Nat.le_of_ble_eq_true rfl) rfl (Or.inl ew_362) (hs.1 32 (by decide)).1 (hs.1 32 (by decide)).2.1 (hs.2 32 1 rfl) ?_
        refine ea_iload_n (pc := 19) dX11_of_19 rfl 1 rfl ?_
        obtain ⟨z2, E⟩ := gd_some E
        refine ea_iald (pc := 20) dX11_of_20 (hs.1 33 (by decide)).1 (hs.1 33 (by decide)).2.1 (ea_vpl (hs.1 33 (by decide)).2.2 z2) ?_
        refine ea_iconst (pc := 21) dX11_of_21 (v := 1) rfl ?_
        refine ea_icmp_ne (pc := 22) (tgt := 29) dX11_of_22 rfl (fun c3 => ?_) (fun c3 => ?_)
        · have E := (if_neg c3).symm.trans E
          refine ea_iconst (pc := 29) dX11_of_29 (v := 0) rfl ?_
          exact ((ih 30 ((vX11_letterOf b0 (x1 : Int32) h) : Option Nat) (0 : Int32) (x1 : Int32) (x2 : Int32) h _ _ E hs).2 rfl)
        · have E := (if_pos c3).symm.trans E
          refine ea_iconst (pc := 25) dX11_of_25 (v := 1) rfl ?_
          refine ea_goto (pc := 26) (tgt := 30) dX11_of_26 rfl ?_
          exact ((ih 30 ((vX11_letterOf b0 (x1 : Int32) h) : Option Nat) (1 : Int32) (x1 : Int32) (x2 : Int32) h _ _ E hs).2 rfl)
      · have E := (if_pos c4).symm.trans E
        refine ea_iconst (pc := 10) dX11_of_10 (v := (-1)) rfl ?_
        exact ea_iretO (pc := 11) dX11_of_11 rfl rfl E
    intro el
    subst el
    have E := (if_neg (by decide)).symm.trans E
    have E := (if_pos rfl).symm.trans E
    refine ea_istore (pc := 30) (lv' := [(0, vR (some (b0 + 0))), (1, vI x1), (2, vI x2), (3, vR r3), (4, vI sx0)]) dX11_of_30 (Nat.le_of_ble_eq_true rfl) [1, 2, 3, 4, 0] rfl ?_
    refine ea_iload_n (pc := 32) dX11_of_32 rfl 2 rfl ?_
    by_cases qc33_0 : Int32.toInt x2 = 0
    · have E := (if_pos qc33_0).symm.trans E
      refine ea_tswIn (pc := 33) (tgt := 100) dX11_of_33 (by rw [qc33_0]; decide) (by rw [qc33_0]; decide) (by rw [qc33_0]; rfl) rfl ?_
      refine ea_aload_n (pc := 100) dX11_of_100 rfl 3 rfl ?_
      obtain ⟨e6, E⟩ := gd_some E
      obtain ⟨f7, E⟩ := gd_some E
      refine ea_deref0 e6 ?_
      refine ea_getI (pc := 101) dX11_of_101 ec_4 (k := 0) (Nat.le_of_ble_eq_true rfl) rfl (Or.inl ew_935) f7.1 f7.2 ?_
      exact ea_iretO (pc := 104) dX11_of_104 rfl rfl E
    have E := (if_neg qc33_0).symm.trans E
    by_cases qc33_1 : Int32.toInt x2 = 1
    · have E := (if_pos qc33_1).symm.trans E
      refine ea_tswIn (pc := 33) (tgt := 105) dX11_of_33 (by rw [qc33_1]; decide) (by rw [qc33_1]; decide) (by rw [qc33_1]; rfl) rfl ?_
      refine ea_aload_n (pc := 105) dX11_of_105 rfl 3 rfl ?_
      obtain ⟨e8, E⟩ := gd_some E
      obtain ⟨f9, E⟩ := gd_some E
      refine ea_deref0 e8 ?_
      refine ea_getI (pc := 106) dX11_of_106 ec_4 (k := 1) (Nat.le_of_ble_eq_true rfl) rfl (Or.inl ew_937) f9.1 f9.2 ?_
      exact ea_iretO (pc := 109) dX11_of_109 rfl rfl E
    have E := (if_neg qc33_1).symm.trans E
    by_cases qc33_2 : Int32.toInt x2 = 2
    · have E := (if_pos qc33_2).symm.trans E
      refine ea_tswIn (pc := 33) (tgt := 110) dX11_of_33 (by rw [qc33_2]; decide) (by rw [qc33_2]; decide) (by rw [qc33_2]; rfl) rfl ?_
      refine ea_aload_n (pc := 110) dX11_of_110 rfl 3 rfl ?_
      obtain ⟨e10, E⟩ := gd_some E
      obtain ⟨f11, E⟩ := gd_some E
      refine ea_deref0 e10 ?_
      refine ea_getI (pc := 111) dX11_of_111 ec_4 (k := 2) (Nat.le_of_ble_eq_true rfl) rfl (Or.inl ew_940) f11.1 f11.2 ?_
      exact ea_iretO (pc := 114) dX11_of_114 rfl rfl E
    have E := (if_neg qc33_2).symm.trans E
    by_cases qc33_3 : Int32.toInt x2 = 3
    · have E := (if_pos qc33_3).symm.trans E
      refine ea_tswIn (pc := 33) (tgt := 115) dX11_of_33 (by rw [qc33_3]; decide) (by rw [qc33_3]; decide) (by rw [qc33_3]; rfl) rfl ?_
      refine ea_aload_n (pc := 115) dX11_of_115 rfl 3 rfl ?_
      obtain ⟨e12, E⟩ := gd_some E
      obtain ⟨f13, E⟩ := gd_some E
      refine ea_deref0 e12 ?_
      refine ea_getI (pc := 116) dX11_of_116 ec_4 (k := 3) (Nat.le_of_ble_eq_true rfl) rfl (Or.inl ew_943) f13.1 f13.2 ?_
      exact ea_iretO (pc := 119) dX11_of_119 rfl rfl E
    have E := (if_neg qc33_3).symm.trans E
    by_cases qc33_4 : Int32.toInt x2 = 4
    · have E := (if_pos qc33_4).symm.trans E
      refine ea_tswIn (pc := 33) (tgt := 120) dX11_of_33 (by rw [qc33_4]; decide) (by rw [qc33_4]; decide) (by rw [qc33_4]; rfl) rfl ?_
      refine ea_aload_n (pc := 120) dX11_of_120 rfl 3 rfl ?_
      obtain ⟨e14, E⟩ := gd_some E
      obtain ⟨f15, E⟩ := gd_some E
      refine ea_deref0 e14 ?_
      refine ea_getI (pc := 121) dX11_of_121 ec_4 (k := 4) (Nat.le_of_ble_eq_true rfl) rfl (Or.inl ew_946) f15.1 f15.2 ?_
      exact ea_iretO (pc := 124) dX11_of_124 rfl rfl E
    have E := (if_neg qc33_4).symm.trans E
    by_cases qc33_5 : Int32.toInt x2 = 5
    · have E := (if_pos qc33_5).symm.trans E
      refine ea_tswIn (pc := 33) (tgt := 125) dX11_of_33 (by rw [qc33_5]; decide) (by rw [qc33_5]; decide) (by rw [qc33_5]; rfl) rfl ?_
      refine ea_aload_n (pc := 125) dX11_of_125 rfl 3 rfl ?_
      obtain ⟨e16, E⟩ := gd_some E
      obtain ⟨f17, E⟩ := gd_some E
      refine ea_deref0 e16 ?_
      refine ea_getI (pc := 126) dX11_of_126 ec_4 (k := 5) (Nat.le_of_ble_eq_true rfl) rfl (Or.inl ew_948) f17.1 f17.2 ?_
      exact ea_iretO (pc := 129) dX11_of_129 rfl rfl E
    have E := (if_neg qc33_5).symm.trans E
    by_cases qc33_6 : Int32.toInt x2 = 6
    · have E := (if_pos qc33_6).symm.trans E
      refine ea_tswIn (pc := 33) (tgt := 130) dX11_of_33 (by rw [qc33_6]; decide) (by rw [qc33_6]; decide) (by rw [qc33_6]; rfl) rfl ?_
      refine ea_aload_n (pc := 130) dX11_of_130 rfl 3 rfl ?_
      obtain ⟨e18, E⟩ := gd_some E
      obtain ⟨f19, E⟩ := gd_some E
      refine ea_deref0 e18 ?_
      refine ea_getI (pc := 131) dX11_of_131 ec_4 (k := 6) (Nat.le_of_ble_eq_true rfl) rfl (Or.inl ew_951) f19.1 f19.2 ?_
      exact ea_iretO (pc := 134) dX11_of_134 rfl rfl E
    have E := (if_neg qc33_6).symm.trans E
    by_cases qc33_7 : Int32.toInt x2 = 7
    · have E := (if_pos qc33_7).symm.trans E
      refine ea_tswIn (pc := 33) (tgt := 135) dX11_of_33 (by rw [qc33_7]; decide) (by rw [qc33_7]; decide) (by rw [qc33_7]; rfl) rfl ?_
      refine ea_aload_n (pc := 135) dX11_of_135 rfl 0 rfl ?_
      refine ea_getR (pc := 136) dX11_of_136 ec_11 (k := 6) (Nat.le_of_ble_eq_true rfl) rfl (Or.inl ew_443) (hs.1 0 (by decide)).1 (hs.1 0 (by decide)).2.1 (hs.2 0 6 rfl) ?_
      refine ea_getR (pc := 139) dX11_of_139 ec_1 (k := 1) (Nat.le_of_ble_eq_true rfl) rfl (Or.inl ew_362) (hs.1 32 (by decide)).1 (hs.1 32 (by decide)).2.1 (hs.2 32 1 rfl) ?_
      refine ea_iload_n (pc := 142) dX11_of_142 rfl 1 rfl ?_
      obtain ⟨z20, E⟩ := gd_some E
      refine ea_iald (pc := 143) dX11_of_143 (hs.1 33 (by decide)).1 (hs.1 33 (by decide)).2.1 (ea_vpl (hs.1 33 (by decide)).2.2 z20) ?_
      exact ea_iretO (pc := 144) dX11_of_144 rfl rfl E
    have E := (if_neg qc33_7).symm.trans E
    by_cases qc33_8 : Int32.toInt x2 = 8
    · have E := (if_pos qc33_8).symm.trans E
      refine ea_tswIn (pc := 33) (tgt := 145) dX11_of_33 (by rw [qc33_8]; decide) (by rw [qc33_8]; decide) (by rw [qc33_8]; rfl) rfl ?_
      refine ea_aload_n (pc := 145) dX11_of_145 rfl 0 rfl ?_
      refine ea_getR (pc := 146) dX11_of_146 ec_11 (k := 6) (Nat.le_of_ble_eq_true rfl) rfl (Or.inl ew_443) (hs.1 0 (by decide)).1 (hs.1 0 (by decide)).2.1 (hs.2 0 6 rfl) ?_
      refine ea_getR (pc := 149) dX11_of_149 ec_1 (k := 2) (Nat.le_of_ble_eq_true rfl) rfl (Or.inl ew_364) (hs.1 32 (by decide)).1 (hs.1 32 (by decide)).2.1 (hs.2 32 2 rfl) ?_
      refine ea_iload_n (pc := 152) dX11_of_152 rfl 1 rfl ?_
      obtain ⟨z21, E⟩ := gd_some E
      refine ea_iald (pc := 153) dX11_of_153 (hs.1 34 (by decide)).1 (hs.1 34 (by decide)).2.1 (ea_vpl (hs.1 34 (by decide)).2.2 z21) ?_
      exact ea_iretO (pc := 154) dX11_of_154 rfl rfl E
    have E := (if_neg qc33_8).symm.trans E
    by_cases qc33_9 : Int32.toInt x2 = 9
    · have E := (if_pos qc33_9).symm.trans E
      refine ea_tswIn (pc := 33) (tgt := 155) dX11_of_33 (by rw [qc33_9]; decide) (by rw [qc33_9]; decide) (by rw [qc33_9]; rfl) rfl ?_
      refine ea_aload_n (pc := 155) dX11_of_155 rfl 3 rfl ?_
      obtain ⟨e22, E⟩ := gd_some E
      obtain ⟨f23, E⟩ := gd_some E
      refine ea_deref0 e22 ?_
      refine ea_getI (pc := 156) dX11_of_156 ec_4 (k := 8) (Nat.le_of_ble_eq_true rfl) rfl (Or.inl ew_955) f23.1 f23.2 ?_
      refine ea_if_eq (pc := 159) (tgt := 166) dX11_of_159 rfl (fun c24 => ?_) (fun c24 => ?_)
      · have E := (if_pos c24).symm.trans E
        refine ea_iconst (pc := 166) dX11_of_166 (v := 0) rfl ?_
        exact ea_iretO (pc := 167) dX11_of_167 rfl rfl E
      · have E := (if_neg c24).symm.trans E
        refine ea_iconst (pc := 162) dX11_of_162 (v := 1) rfl ?_
        refine ea_goto (pc := 163) (tgt := 167) dX11_of_163 rfl ?_
        exact ea_iretO (pc := 167) dX11_of_167 rfl rfl E
    have E := (if_neg qc33_9).symm.trans E
    by_cases qc33_10 : Int32.toInt x2 = 10
    · have E := (if_pos qc33_10).symm.trans E
      refine ea_tswIn (pc := 33) (tgt := 168) dX11_of_33 (by rw [qc33_10]; decide) (by rw [qc33_10]; decide) (by rw [qc33_10]; rfl) rfl ?_
      refine ea_iload (pc := 168) dX11_of_168 4 rfl ?_
      refine ea_if_eq (pc := 170) (tgt := 189) dX11_of_170 rfl (fun c27 => ?_) (fun c27 => ?_)
      · have E := (if_pos c27).symm.trans E
        refine ea_iconst (pc := 189) dX11_of_189 (v := 0) rfl ?_
        exact ea_iretO (pc := 190) dX11_of_190 rfl rfl E
      · have E := (if_neg c27).symm.trans E
        refine ea_aload_n (pc := 173) dX11_of_173 rfl 0 rfl ?_
        refine ea_getR (pc := 174) dX11_of_174 ec_11 (k := 6) (Nat.le_of_ble_eq_true rfl) rfl (Or.inl ew_443) (hs.1 0 (by decide)).1 (hs.1 0 (by decide)).2.1 (hs.2 0 6 rfl) ?_
        refine ea_getR (pc := 177) dX11_of_177 ec_1 (k := 5) (Nat.le_of_ble_eq_true rfl) rfl (Or.inl ew_370) (hs.1 32 (by decide)).1 (hs.1 32 (by decide)).2.1 (hs.2 32 5 rfl) ?_
        refine ea_iload_n (pc := 180) dX11_of_180 rfl 1 rfl ?_
        obtain ⟨z25, E⟩ := gd_some E
        refine ea_zald (pc := 181) dX11_of_181 (hs.1 37 (by decide)).1 (hs.1 37 (by decide)).2.1 (ea_vpl (hs.1 37 (by decide)).2.2 z25) ?_
        refine ea_if_eq (pc := 182) (tgt := 189) dX11_of_182 rfl (fun c26 => ?_) (fun c26 => ?_)
        · have E := (if_pos c26).symm.trans E
          refine ea_iconst (pc := 189) dX11_of_189 (v := 0) rfl ?_
          exact ea_iretO (pc := 190) dX11_of_190 rfl rfl E
        · have E := (if_neg c26).symm.trans E
          refine ea_iconst (pc := 185) dX11_of_185 (v := 1) rfl ?_
          refine ea_goto (pc := 186) (tgt := 190) dX11_of_186 rfl ?_
          exact ea_iretO (pc := 190) dX11_of_190 rfl rfl E
    have E := (if_neg qc33_10).symm.trans E
    by_cases qc33_11 : Int32.toInt x2 = 11
    · have E := (if_pos qc33_11).symm.trans E
      refine ea_tswIn (pc := 33) (tgt := 191) dX11_of_33 (by rw [qc33_11]; decide) (by rw [qc33_11]; decide) (by rw [qc33_11]; rfl) rfl ?_
      refine ea_iload (pc := 191) dX11_of_191 4 rfl ?_
      refine ea_if_eq (pc := 193) (tgt := 208) dX11_of_193 rfl (fun c29 => ?_) (fun c29 => ?_)
      · have E := (if_pos c29).symm.trans E
        refine ea_iconst (pc := 208) dX11_of_208 (v := (-1)) rfl ?_
        exact ea_iretO (pc := 209) dX11_of_209 rfl rfl E
      · have E := (if_neg c29).symm.trans E
        refine ea_aload_n (pc := 196) dX11_of_196 rfl 0 rfl ?_
        refine ea_getR (pc := 197) dX11_of_197 ec_11 (k := 6) (Nat.le_of_ble_eq_true rfl) rfl (Or.inl ew_443) (hs.1 0 (by decide)).1 (hs.1 0 (by decide)).2.1 (hs.2 0 6 rfl) ?_
        refine ea_getR (pc := 200) dX11_of_200 ec_1 (k := 3) (Nat.le_of_ble_eq_true rfl) rfl (Or.inl ew_366) (hs.1 32 (by decide)).1 (hs.1 32 (by decide)).2.1 (hs.2 32 3 rfl) ?_
        refine ea_iload_n (pc := 203) dX11_of_203 rfl 1 rfl ?_
        obtain ⟨z28, E⟩ := gd_some E
        refine ea_iald (pc := 204) dX11_of_204 (hs.1 35 (by decide)).1 (hs.1 35 (by decide)).2.1 (ea_vpl (hs.1 35 (by decide)).2.2 z28) ?_
        refine ea_goto (pc := 205) (tgt := 209) dX11_of_205 rfl ?_
        exact ea_iretO (pc := 209) dX11_of_209 rfl rfl E
    have E := (if_neg qc33_11).symm.trans E
    by_cases qc33_12 : Int32.toInt x2 = 12
    · have E := (if_pos qc33_12).symm.trans E
      refine ea_tswIn (pc := 33) (tgt := 210) dX11_of_33 (by rw [qc33_12]; decide) (by rw [qc33_12]; decide) (by rw [qc33_12]; rfl) rfl ?_
      refine ea_aload_n (pc := 210) dX11_of_210 rfl 0 rfl ?_
      refine ea_getR (pc := 211) dX11_of_211 ec_11 (k := 6) (Nat.le_of_ble_eq_true rfl) rfl (Or.inl ew_443) (hs.1 0 (by decide)).1 (hs.1 0 (by decide)).2.1 (hs.2 0 6 rfl) ?_
      refine ea_getR (pc := 214) dX11_of_214 ec_1 (k := 4) (Nat.le_of_ble_eq_true rfl) rfl (Or.inl ew_368) (hs.1 32 (by decide)).1 (hs.1 32 (by decide)).2.1 (hs.2 32 4 rfl) ?_
      refine ea_iload_n (pc := 217) dX11_of_217 rfl 1 rfl ?_
      obtain ⟨z30, E⟩ := gd_some E
      refine ea_iald (pc := 218) dX11_of_218 (hs.1 36 (by decide)).1 (hs.1 36 (by decide)).2.1 (ea_vpl (hs.1 36 (by decide)).2.2 z30) ?_
      exact ea_iretO (pc := 219) dX11_of_219 rfl rfl E
    have E := (if_neg qc33_12).symm.trans E
    refine ea_tswOut (pc := 33) (tgt := 220) dX11_of_33 (ec_sw_0_12 qc33_0 qc33_1 qc33_2 qc33_3 qc33_4 qc33_5 qc33_6 qc33_7 qc33_8 qc33_9 qc33_10 qc33_11 qc33_12) rfl ?_
    refine ea_iconst (pc := 220) dX11_of_220 (v := (-1)) rfl ?_
    exact ea_iretO (pc := 221) dX11_of_221 rfl rfl E
noncomputable def qX11_of (b0 : Nat) (x1 : Int32) (x2 : Int32) (h : ea_H) : Option (Int32 × ea_H) := gX11_of b0 1000000000 0 none 0 x1 x2 h
def okX11_of (b0 : Nat) (x1 : Int32) (x2 : Int32) (h : ea_H) : Prop := ∃ x, qX11_of b0 x1 x2 h = some x
noncomputable def vX11_of (b0 : Nat) (x1 : Int32) (x2 : Int32) (h : ea_H) : Int32 := ((qX11_of b0 x1 x2 h).getD (0, h)).1
noncomputable def wX11_of (b0 : Nat) (x1 : Int32) (x2 : Int32) (h : ea_H) : ea_H := ((qX11_of b0 x1 x2 h).getD (0, h)).2
theorem sX11_of {d : Nat} {b0 : Nat} {x1 : Int32} {x2 : Int32} {h : ea_H} (hd : 2 ≤ d) (hs : ShC b0 h) (K : okX11_of b0 x1 x2 h) : ea_Met mX11_of d [vR (some (b0 + 0)), vI x1, vI x2] h (some (vI (vX11_of b0 x1 x2 h))) (wX11_of b0 x1 x2 h) := by
  obtain ⟨⟨x, y⟩, K⟩ := K
  unfold wX11_of vX11_of
  rw [K]
  unfold qX11_of at K
  exact ea_enter rfl (Nat.le_of_ble_eq_true rfl) ((tX11_of hd 1000000000 0 none 0 x1 x2 h x y K hs).1 rfl)
theorem zX11_of {b0 : Nat} : ∀ (f lbl : Nat) (r3 : Option Nat) (sx0 : Int32) (x1 : Int32) (x2 : Int32) (h : ea_H) (r : Int32) (h' : ea_H), gX11_of b0 f lbl r3 sx0 x1 x2 h = some (r, h') → ShC b0 h → ShC b0 h' := by
  intro f
  induction f with
  | zero => intro lbl r3 sx0 x1 x2 h r h' E; cases E
  | succ f ih =>
    intro lbl r3 sx0 x1 x2 h r h' E hs
    unfold gX11_of at E
    by_cases el0 : lbl = 0
    · have E := (if_pos el0).symm.trans E
      obtain ⟨z1, E⟩ := gd_some E
      by_cases c4 : (vX11_letterOf b0 (x1 : Int32) h) = none
      · have E := (if_pos c4).symm.trans E
        exact ea_shO E hs
      have E := (if_neg c4).symm.trans E
      obtain ⟨z2, E⟩ := gd_some E
      by_cases c3 : (ea_i h (b0 + 33) (Int32.toNatClampNeg x1)) = (1 : Int32)
      · have E := (if_pos c3).symm.trans E
        exact ih 30 ((vX11_letterOf b0 (x1 : Int32) h) : Option Nat) (1 : Int32) (x1 : Int32) (x2 : Int32) h _ _ E hs
      have E := (if_neg c3).symm.trans E
      exact ih 30 ((vX11_letterOf b0 (x1 : Int32) h) : Option Nat) (0 : Int32) (x1 : Int32) (x2 : Int32) h _ _ E hs
    have E := (if_neg el0).symm.trans E
    by_cases el1 : lbl = 30
    · have E := (if_pos el1).symm.trans E
      by_cases qc33_0 : Int32.toInt x2 = 0
      · have E := (if_pos qc33_0).symm.trans E
        obtain ⟨e6, E⟩ := gd_some E
        obtain ⟨f7, E⟩ := gd_some E
        exact ea_shO E hs
      have E := (if_neg qc33_0).symm.trans E
      by_cases qc33_1 : Int32.toInt x2 = 1
      · have E := (if_pos qc33_1).symm.trans E
        obtain ⟨e8, E⟩ := gd_some E
        obtain ⟨f9, E⟩ := gd_some E
        exact ea_shO E hs
      have E := (if_neg qc33_1).symm.trans E
      by_cases qc33_2 : Int32.toInt x2 = 2
      · have E := (if_pos qc33_2).symm.trans E
        obtain ⟨e10, E⟩ := gd_some E
        obtain ⟨f11, E⟩ := gd_some E
        exact ea_shO E hs
      have E := (if_neg qc33_2).symm.trans E
      by_cases qc33_3 : Int32.toInt x2 = 3
      · have E := (if_pos qc33_3).symm.trans E
        obtain ⟨e12, E⟩ := gd_some E
        obtain ⟨f13, E⟩ := gd_some E
        exact ea_shO E hs
      have E := (if_neg qc33_3).symm.trans E
      by_cases qc33_4 : Int32.toInt x2 = 4
      · have E := (if_pos qc33_4).symm.trans E
        obtain ⟨e14, E⟩ := gd_some E
        obtain ⟨f15, E⟩ := gd_some E
        exact ea_shO E hs
      have E := (if_neg qc33_4).symm.trans E
      by_cases qc33_5 : Int32.toInt x2 = 5
      · have E := (if_pos qc33_5).symm.trans E
        obtain ⟨e16, E⟩ := gd_some E
        obtain ⟨f17, E⟩ := gd_some E
        exact ea_shO E hs
      have E := (if_neg qc33_5).symm.trans E
      by_cases qc33_6 : Int32.toInt x2 = 6
      · have E := (if_pos qc33_6).symm.trans E
        obtain ⟨e18, E⟩ := gd_some E
        obtain ⟨f19, E⟩ := gd_some E
        exact ea_shO E hs
      have E := (if_neg qc33_6).symm.trans E
      by_cases qc33_7 : Int32.toInt x2 = 7
      · have E := (if_pos qc33_7).symm.trans E
        obtain ⟨z20, E⟩ := gd_some E
        exact ea_shO E hs
      have E := (if_neg qc33_7).symm.trans E
      by_cases qc33_8 : Int32.toInt x2 = 8
      · have E := (if_pos qc33_8).symm.trans E
        obtain ⟨z21, E⟩ := gd_some E
        exact ea_shO E hs
      have E := (if_neg qc33_8).symm.trans E
      by_cases qc33_9 : Int32.toInt x2 = 9
      · have E := (if_pos qc33_9).symm.trans E
        obtain ⟨e22, E⟩ := gd_some E
        obtain ⟨f23, E⟩ := gd_some E
        by_cases c24 : (ea_i h (Option.getD r3 0) 8) = (0 : Int32)
        · have E := (if_pos c24).symm.trans E
          exact ea_shO E hs
        have E := (if_neg c24).symm.trans E
        exact ea_shO E hs
      have E := (if_neg qc33_9).symm.trans E
      by_cases qc33_10 : Int32.toInt x2 = 10
      · have E := (if_pos qc33_10).symm.trans E
        by_cases c27 : sx0 = (0 : Int32)
        · have E := (if_pos c27).symm.trans E
          exact ea_shO E hs
        have E := (if_neg c27).symm.trans E
        obtain ⟨z25, E⟩ := gd_some E
        by_cases c26 : (ea_i h (b0 + 37) (Int32.toNatClampNeg x1)) = (0 : Int32)
        · have E := (if_pos c26).symm.trans E
          exact ea_shO E hs
        have E := (if_neg c26).symm.trans E
        exact ea_shO E hs
      have E := (if_neg qc33_10).symm.trans E
      by_cases qc33_11 : Int32.toInt x2 = 11
      · have E := (if_pos qc33_11).symm.trans E
        by_cases c29 : sx0 = (0 : Int32)
        · have E := (if_pos c29).symm.trans E
          exact ea_shO E hs
        have E := (if_neg c29).symm.trans E
        obtain ⟨z28, E⟩ := gd_some E
        exact ea_shO E hs
      have E := (if_neg qc33_11).symm.trans E
      by_cases qc33_12 : Int32.toInt x2 = 12
      · have E := (if_pos qc33_12).symm.trans E
        obtain ⟨z30, E⟩ := gd_some E
        exact ea_shO E hs
      have E := (if_neg qc33_12).symm.trans E
      exact ea_shO E hs
    have E := (if_neg el1).symm.trans E
    cases E
theorem shX11_of {b0 : Nat} {x1 : Int32} {x2 : Int32} {h : ea_H} (hs : ShC b0 h) : ShC b0 (wX11_of b0 x1 x2 h) := by
  unfold wX11_of
  cases K : qX11_of b0 x1 x2 h with
  | none => exact hs
  | some x => obtain ⟨x, y⟩ := x; unfold qX11_of at K; exact zX11_of _ _ _ _ _ _ _ _ _ K hs
noncomputable def gX11_franksAhead (b0 : Nat) : Nat → Nat → Option Nat → Int32 → Int32 → ea_H → Option (Int32 × ea_H)
  | 0, _, _, _, _, _ => none
  | f + 1, lbl, r1, x2, x3, h =>
    if lbl = 0 then (gX11_franksAhead b0 f 4 (r1 : Option Nat) (0 : Int32) (0 : Int32) h) else
    if lbl = 4 then (if (ea_i h (b0 + 32) 0) ≤ x3 then (some (x2, h)) else (gd (vp_in x3 120) (gd ((ea_r h (b0 + 31) (Int32.toNatClampNeg x3)) = some (Option.getD (ea_r h (b0 + 31) (Int32.toNatClampNeg x3)) 0)) (gd (((Option.getD (ea_r h (b0 + 31) (Int32.toNatClampNeg x3)) 0) < ea_n h ∧ ea_c h (Option.getD (ea_r h (b0 + 31) (Int32.toNatClampNeg x3)) 0) = 4)) (if (ea_i h (Option.getD (ea_r h (b0 + 31) (Int32.toNatClampNeg x3)) 0) 0) = (2 : Int32) then (gd ((ea_r h (b0 + 31) (Int32.toNatClampNeg x3)) = some (Option.getD (ea_r h (b0 + 31) (Int32.toNatClampNeg x3)) 0)) (gd (((Option.getD (ea_r h (b0 + 31) (Int32.toNatClampNeg x3)) 0) < ea_n h ∧ ea_c h (Option.getD (ea_r h (b0 + 31) (Int32.toNatClampNeg x3)) 0) = 4)) (gd (r1 = some (Option.getD r1 0)) (gd (((Option.getD r1 0) < ea_n h ∧ ea_c h (Option.getD r1 0) = 4)) (if (ea_i h (Option.getD (ea_r h (b0 + 31) (Int32.toNatClampNeg x3)) 0) 5) = (ea_i h (Option.getD r1 0) 5) then (gd ((ea_r h (b0 + 31) (Int32.toNatClampNeg x3)) = some (Option.getD (ea_r h (b0 + 31) (Int32.toNatClampNeg x3)) 0)) (gd (((Option.getD (ea_r h (b0 + 31) (Int32.toNatClampNeg x3)) 0) < ea_n h ∧ ea_c h (Option.getD (ea_r h (b0 + 31) (Int32.toNatClampNeg x3)) 0) = 4)) (gd ((okX4_dayOf b0 (Option.getD (ea_r h (b0 + 31) (Int32.toNatClampNeg x3)) 0) h)) (gd (r1 = some (Option.getD r1 0)) (gd (((Option.getD r1 0) < ea_n h ∧ ea_c h (Option.getD r1 0) = 4)) (gd ((okX4_dayOf b0 (Option.getD r1 0) h)) (if (vX4_dayOf b0 (Option.getD (ea_r h (b0 + 31) (Int32.toNatClampNeg x3)) 0) h) = (vX4_dayOf b0 (Option.getD r1 0) h) then (gX11_franksAhead b0 f 4 (r1 : Option Nat) ((x2 + (1 : Int32)) : Int32) ((x3 + (1 : Int32)) : Int32) h) else (gX11_franksAhead b0 f 4 (r1 : Option Nat) (x2 : Int32) ((x3 + (1 : Int32)) : Int32) h)))))))) else (gX11_franksAhead b0 f 4 (r1 : Option Nat) (x2 : Int32) ((x3 + (1 : Int32)) : Int32) h)))))) else (gX11_franksAhead b0 f 4 (r1 : Option Nat) (x2 : Int32) ((x3 + (1 : Int32)) : Int32) h)))))) else none
theorem tX11_franksAhead {d : Nat} {b0 : Nat} {h0 : ea_H} (hd : 2 ≤ d) : ∀ (f lbl : Nat) (r1 : Option Nat) (x2 : Int32) (x3 : Int32) (h : ea_H) (r : Int32) (h' : ea_H), gX11_franksAhead b0 f lbl r1 x2 x3 h = some (r, h') → ShC b0 h → (lbl = 0 → ea_W mX11_franksAhead d h0 (some (vI r)) h' 0 [(0, vR (some (b0 + 0))), (1, vR r1)] [] h) ∧ (lbl = 4 → ea_W mX11_franksAhead d h0 (some (vI r)) h' 4 [(0, vR (some (b0 + 0))), (1, vR r1), (2, vI x2), (3, vI x3)] [] h) := by
  intro f
  induction f with
  | zero => intro lbl r1 x2 x3 h r h' E; cases E
  | succ f ih =>
    intro lbl r1 x2 x3 h r h' E hs
    unfold gX11_franksAhead at E
    refine ⟨?_, ?_⟩
    · intro el
      subst el
      have E := (if_pos rfl).symm.trans E
      refine ea_iconst (pc := 0) dX11_franksAhead_0 (v := 0) rfl ?_
      refine ea_istore_n (pc := 1) (lv' := [(0, vR (some (b0 + 0))), (1, vR r1), (2, vI 0)]) dX11_franksAhead_1 rfl (Nat.le_of_ble_eq_true rfl) [1, 2, 0] rfl ?_
      refine ea_iconst (pc := 2) dX11_franksAhead_2 (v := 0) rfl ?_
      refine ea_istore_n (pc := 3) (lv' := [(0, vR (some (b0 + 0))), (1, vR r1), (2, vI 0), (3, vI 0)]) dX11_franksAhead_3 rfl (Nat.le_of_ble_eq_true rfl) [1, 2, 3, 0] rfl ?_
      exact ((ih 4 (r1 : Option Nat) (0 : Int32) (0 : Int32) h _ _ E hs).2 rfl)
    intro el
    subst el
    have E := (if_neg (by decide)).symm.trans E
    have E := (if_pos rfl).symm.trans E
    refine ea_iload_n (pc := 4) dX11_franksAhead_4 rfl 3 rfl ?_
    refine ea_aload_n (pc := 5) dX11_franksAhead_5 rfl 0 rfl ?_
    refine ea_getR (pc := 6) dX11_franksAhead_6 ec_11 (k := 6) (Nat.le_of_ble_eq_true rfl) rfl (Or.inl ew_443) (hs.1 0 (by decide)).1 (hs.1 0 (by decide)).2.1 (hs.2 0 6 rfl) ?_
    refine ea_getI (pc := 9) dX11_franksAhead_9 ec_1 (k := 0) (Nat.le_of_ble_eq_true rfl) rfl (Or.inl ew_360) (hs.1 32 (by decide)).1 (hs.1 32 (by decide)).2.1 ?_
    refine ea_icmp_ge (pc := 12) (tgt := 65) dX11_franksAhead_12 rfl (fun c17 => ?_) (fun c17 => ?_)
    · have E := (if_pos c17).symm.trans E
      refine ea_iload_n (pc := 65) dX11_franksAhead_65 rfl 2 rfl ?_
      exact ea_iretO (pc := 66) dX11_franksAhead_66 rfl rfl E
    · have E := (if_neg c17).symm.trans E
      refine ea_aload_n (pc := 15) dX11_franksAhead_15 rfl 0 rfl ?_
      refine ea_getR (pc := 16) dX11_franksAhead_16 ec_11 (k := 5) (Nat.le_of_ble_eq_true rfl) rfl (Or.inl ew_442) (hs.1 0 (by decide)).1 (hs.1 0 (by decide)).2.1 (hs.2 0 5 rfl) ?_
      refine ea_iload_n (pc := 19) dX11_franksAhead_19 rfl 3 rfl ?_
      obtain ⟨z1, E⟩ := gd_some E
      refine ea_aald23 (pc := 20) dX11_franksAhead_20 (hs.1 31 (by decide)).1 (hs.1 31 (by decide)).2.1 (ea_vpl (hs.1 31 (by decide)).2.2 z1) rfl ?_
      refine ea_astore (pc := 21) (lv' := [(0, vR (some (b0 + 0))), (1, vR r1), (2, vI x2), (3, vI x3), (4, vR (ea_r h (b0 + 31) (Int32.toNatClampNeg x3)))]) dX11_franksAhead_21 (Nat.le_of_ble_eq_true rfl) [1, 2, 3, 4, 0] rfl ?_
      refine ea_aload (pc := 23) dX11_franksAhead_23 4 rfl ?_
      obtain ⟨e2, E⟩ := gd_some E
      obtain ⟨f3, E⟩ := gd_some E
      refine ea_deref0 e2 ?_
      refine ea_getI (pc := 25) dX11_franksAhead_25 ec_4 (k := 0) (Nat.le_of_ble_eq_true rfl) rfl (Or.inl ew_935) f3.1 f3.2 ?_
      refine ea_iconst (pc := 28) dX11_franksAhead_28 (v := 2) rfl ?_
      refine ea_icmp_ne (pc := 29) (tgt := 59) dX11_franksAhead_29 rfl (fun c16 => ?_) (fun c16 => ?_)
      · have E := (if_neg c16).symm.trans E
        refine ea_iinc (pc := 59) (v := 1) (lv' := [(0, vR (some (b0 + 0))), (1, vR r1), (2, vI x2), (3, vI (x3 + (1 : Int32)))]) dX11_franksAhead_59 3 rfl rfl (Nat.le_of_ble_eq_true rfl) [1, 2, 3, 0] rfl ?_
        refine ea_goto (pc := 62) (tgt := 4) dX11_franksAhead_62 rfl ?_
        exact ((ih 4 (r1 : Option Nat) (x2 : Int32) ((x3 + (1 : Int32)) : Int32) h _ _ E hs).2 rfl)
      · have E := (if_pos c16).symm.trans E
        refine ea_aload (pc := 32) dX11_franksAhead_32 4 rfl ?_
        obtain ⟨e4, E⟩ := gd_some E
        obtain ⟨f5, E⟩ := gd_some E
        refine ea_deref0 e4 ?_
        refine ea_getI (pc := 34) dX11_franksAhead_34 ec_4 (k := 5) (Nat.le_of_ble_eq_true rfl) rfl (Or.inl ew_948) f5.1 f5.2 ?_
        refine ea_aload_n (pc := 37) dX11_franksAhead_37 rfl 1 rfl ?_
        obtain ⟨e6, E⟩ := gd_some E
        obtain ⟨f7, E⟩ := gd_some E
        refine ea_deref0 e6 ?_
        refine ea_getI (pc := 38) dX11_franksAhead_38 ec_4 (k := 5) (Nat.le_of_ble_eq_true rfl) rfl (Or.inl ew_948) f7.1 f7.2 ?_
        refine ea_icmp_ne (pc := 41) (tgt := 59) dX11_franksAhead_41 rfl (fun c15 => ?_) (fun c15 => ?_)
        · have E := (if_neg c15).symm.trans E
          refine ea_iinc (pc := 59) (v := 1) (lv' := [(0, vR (some (b0 + 0))), (1, vR r1), (2, vI x2), (3, vI (x3 + (1 : Int32)))]) dX11_franksAhead_59 3 rfl rfl (Nat.le_of_ble_eq_true rfl) [1, 2, 3, 0] rfl ?_
          refine ea_goto (pc := 62) (tgt := 4) dX11_franksAhead_62 rfl ?_
          exact ((ih 4 (r1 : Option Nat) (x2 : Int32) ((x3 + (1 : Int32)) : Int32) h _ _ E hs).2 rfl)
        · have E := (if_pos c15).symm.trans E
          refine ea_aload (pc := 44) dX11_franksAhead_44 4 rfl ?_
          obtain ⟨e8, E⟩ := gd_some E
          obtain ⟨f9, E⟩ := gd_some E
          obtain ⟨z10, E⟩ := gd_some E
          refine ea_deref0 e8 ?_
          refine ea_callV (pc := 46) (d' := d - 1) (As := []) (st := []) dX11_franksAhead_46 kX4_dayOf (sX4_dayOf (d := d - 1) (by omega) hs z10) (by omega) rfl (Nat.le_of_ble_eq_true rfl) ew_1032 ew_1033 ew_1034 (ci := 4) rfl (by decide) f9.1 f9.2 ?_
          refine ea_aload_n (pc := 49) dX11_franksAhead_49 rfl 1 rfl ?_
          obtain ⟨e11, E⟩ := gd_some E
          obtain ⟨f12, E⟩ := gd_some E
          obtain ⟨z13, E⟩ := gd_some E
          refine ea_deref0 e11 ?_
          refine ea_callV (pc := 50) (d' := d - 1) (As := []) (st := [vI (vX4_dayOf b0 (Option.getD (ea_r h (b0 + 31) (Int32.toNatClampNeg x3)) 0) h)]) dX11_franksAhead_50 kX4_dayOf (sX4_dayOf (d := d - 1) (by omega) hs z13) (by omega) rfl (Nat.le_of_ble_eq_true rfl) ew_1032 ew_1033 ew_1034 (ci := 4) rfl (by decide) f12.1 f12.2 ?_
          refine ea_icmp_ne (pc := 53) (tgt := 59) dX11_franksAhead_53 rfl (fun c14 => ?_) (fun c14 => ?_)
          · have E := (if_neg c14).symm.trans E
            refine ea_iinc (pc := 59) (v := 1) (lv' := [(0, vR (some (b0 + 0))), (1, vR r1), (2, vI x2), (3, vI (x3 + (1 : Int32)))]) dX11_franksAhead_59 3 rfl rfl (Nat.le_of_ble_eq_true rfl) [1, 2, 3, 0] rfl ?_
            refine ea_goto (pc := 62) (tgt := 4) dX11_franksAhead_62 rfl ?_
            exact ((ih 4 (r1 : Option Nat) (x2 : Int32) ((x3 + (1 : Int32)) : Int32) h _ _ E hs).2 rfl)
          · have E := (if_pos c14).symm.trans E
            refine ea_iinc (pc := 56) (v := 1) (lv' := [(0, vR (some (b0 + 0))), (1, vR r1), (2, vI (x2 + (1 : Int32))), (3, vI x3)]) dX11_franksAhead_56 2 rfl rfl (Nat.le_of_ble_eq_true rfl) [1, 2, 0, 3] rfl ?_
            refine ea_iinc (pc := 59) (v := 1) (lv' := [(0, vR (some (b0 + 0))), (1, vR r1), (2, vI (x2 + (1 : Int32))), (3, vI (x3 + (1 : Int32)))]) dX11_franksAhead_59 3 rfl rfl (Nat.le_of_ble_eq_true rfl) [1, 2, 3, 0] rfl ?_
            refine ea_goto (pc := 62) (tgt := 4) dX11_franksAhead_62 rfl ?_
            exact ((ih 4 (r1 : Option Nat) ((x2 + (1 : Int32)) : Int32) ((x3 + (1 : Int32)) : Int32) h _ _ E hs).2 rfl)
noncomputable def qX11_franksAhead (b0 : Nat) (r1 : Option Nat) (h : ea_H) : Option (Int32 × ea_H) := gX11_franksAhead b0 1000000000 0 r1 0 0 h
def okX11_franksAhead (b0 : Nat) (r1 : Option Nat) (h : ea_H) : Prop := ∃ x, qX11_franksAhead b0 r1 h = some x
noncomputable def vX11_franksAhead (b0 : Nat) (r1 : Option Nat) (h : ea_H) : Int32 := ((qX11_franksAhead b0 r1 h).getD (0, h)).1
noncomputable def wX11_franksAhead (b0 : Nat) (r1 : Option Nat) (h : ea_H) : ea_H := ((qX11_franksAhead b0 r1 h).getD (0, h)).2
theorem sX11_franksAhead {d : Nat} {b0 : Nat} {r1 : Option Nat} {h : ea_H} (hd : 2 ≤ d) (hs : ShC b0 h) (K : okX11_franksAhead b0 r1 h) : ea_Met mX11_franksAhead d [vR (some (b0 + 0)), vR r1] h (some (vI (vX11_franksAhead b0 r1 h))) (wX11_franksAhead b0 r1 h) := by
  obtain ⟨⟨x, y⟩, K⟩ := K
  unfold wX11_franksAhead vX11_franksAhead
  rw [K]
  unfold qX11_franksAhead at K
  exact ea_enter rfl (Nat.le_of_ble_eq_true rfl) ((tX11_franksAhead hd 1000000000 0 r1 0 0 h x y K hs).1 rfl)
