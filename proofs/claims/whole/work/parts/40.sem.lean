/-! numbers: ints and longs as integers -/
theorem n_lt {x y : Int32} : x < y ↔ x.toInt < y.toInt := Int32.lt_iff_toInt_lt
theorem n_le {x y : Int32} : x ≤ y ↔ x.toInt ≤ y.toInt := Int32.le_iff_toInt_le
theorem n_eq {x y : Int32} : x = y ↔ x.toInt = y.toInt := Int32.toInt_inj.symm
theorem n_lo (x : Int32) : -2147483648 ≤ x.toInt := Int32.le_toInt x
theorem n_hi (x : Int32) : x.toInt < 2147483648 := Int32.toInt_lt x
theorem n_bm {z : Int} (h1 : -2147483648 ≤ z) (h2 : z < 2147483648) : z.bmod 4294967296 = z := Int.bmod_eq_of_le (by omega) (by omega)
theorem n_add (x y : Int32) : (x + y).toInt = (x.toInt + y.toInt).bmod 4294967296 := Int32.toInt_add x y
theorem n_sub (x y : Int32) : (x - y).toInt = (x.toInt - y.toInt).bmod 4294967296 := Int32.toInt_sub x y
theorem n_mul (x y : Int32) : (x * y).toInt = (x.toInt * y.toInt).bmod 4294967296 := Int32.toInt_mul x y
theorem n_neg (x : Int32) : (-x).toInt = (-x.toInt).bmod 4294967296 := Int32.toInt_neg x
theorem n_idx (x : Int32) : x.toNatClampNeg = x.toInt.toNat := rfl
theorem n_in {i : Int32} {n : Nat} (h0 : 0 ≤ i.toInt) (h1 : i.toInt < (n : Int)) : vp_in i n := by
  unfold vp_in
  rw [n_lt]
  intro h
  rcases h with h | h
  · have : (0 : Int32).toInt = 0 := rfl
    omega
  · have : i.toNatClampNeg = i.toInt.toNat := rfl
    omega
theorem n_if {c : Prop} {_ : Decidable c} {x y : Int32} : (if c then x else y).toInt = if c then x.toInt else y.toInt := by split <;> rfl
/-- reading a heap -/
def hI (h : ea_H) (a k : Nat) : Int := (ea_i h a k).toInt
def hJ (h : ea_H) (a k : Nat) : Int := (ea_j h a k).toInt
theorem hI_eq (h : ea_H) (a k : Nat) : (ea_i h a k).toInt = hI h a k := rfl
theorem hJ_eq (h : ea_H) (a k : Nat) : (ea_j h a k).toInt = hJ h a k := rfl
theorem hI_wi (h : ea_H) (a k b j : Nat) (x : Int32) : hI (ea_wi h a k x) b j = if b = a ∧ j = k then x.toInt else hI h b j := by
  show (if b = a ∧ j = k then x else ea_i h b j).toInt = _
  split <;> rfl
theorem hI_wj (h : ea_H) (a k b j : Nat) (x : Int64) : hI (ea_wj h a k x) b j = hI h b j := rfl
theorem hI_wa (h : ea_H) (a b j : Nat) (f : Nat → Int32) : hI (ea_wa h a f) b j = if b = a then (f j).toInt else hI h b j := by
  show ((if b = a then f else ea_i h b) j).toInt = _
  split <;> rfl
theorem hJ_wj (h : ea_H) (a k b j : Nat) (x : Int64) : hJ (ea_wj h a k x) b j = if b = a ∧ j = k then x.toInt else hJ h b j := by
  show (if b = a ∧ j = k then x else ea_j h b j).toInt = _
  split <;> rfl
theorem hJ_wi (h : ea_H) (a k b j : Nat) (x : Int32) : hJ (ea_wi h a k x) b j = hJ h b j := rfl
theorem hJ_wa (h : ea_H) (a b j : Nat) (f : Nat → Int32) : hJ (ea_wa h a f) b j = hJ h b j := rfl
/-- outside these ranges of cells nothing has changed -/
def inB : List (Nat × Nat) → Nat → Bool
  | [], _ => false
  | q :: l, x => (decide (q.1 ≤ x) && decide (x ≤ q.2)) || inB l x
def fr (A : List (Nat × Nat)) (h h' : ea_H) : Prop := ea_core h' = ea_core h ∧ ∀ a, inB A a = false → (∀ k, hI h' a k = hI h a k) ∧ ∀ k, hJ h' a k = hJ h a k
theorem fr.I {A : List (Nat × Nat)} {h h' : ea_H} (f : fr A h h') (a : Nat) (ha : inB A a = false) (k : Nat) : hI h' a k = hI h a k := (f.2 a ha).1 k
theorem fr.J {A : List (Nat × Nat)} {h h' : ea_H} (f : fr A h h') (a : Nat) (ha : inB A a = false) (k : Nat) : hJ h' a k = hJ h a k := (f.2 a ha).2 k
theorem fr_rfl (A : List (Nat × Nat)) (h : ea_H) : fr A h h := ⟨rfl, fun _ _ => ⟨fun _ => rfl, fun _ => rfl⟩⟩
theorem fr.tr {A : List (Nat × Nat)} {h1 h2 h3 : ea_H} (f : fr A h1 h2) (g : fr A h2 h3) : fr A h1 h3 := ⟨g.1.trans f.1, fun a ha => ⟨fun k => (g.I a ha k).trans (f.I a ha k), fun k => (g.J a ha k).trans (f.J a ha k)⟩⟩
theorem fr.wid {A B : List (Nat × Nat)} {h h' : ea_H} (f : fr A h h') (w : ∀ a, inB B a = false → inB A a = false) : fr B h h' := ⟨f.1, fun a ha => f.2 a (w a ha)⟩
theorem fr_wi {A : List (Nat × Nat)} {h : ea_H} {a k : Nat} {x : Int32} (ha : inB A a = true) : fr A h (ea_wi h a k x) := by
  refine ⟨rfl, fun b hb => ⟨fun j => ?_, fun j => rfl⟩⟩
  rw [hI_wi, if_neg]
  rintro ⟨rfl, -⟩
  rw [ha] at hb
  cases hb
theorem fr_wj {A : List (Nat × Nat)} {h : ea_H} {a k : Nat} {x : Int64} (ha : inB A a = true) : fr A h (ea_wj h a k x) := by
  refine ⟨rfl, fun b hb => ⟨fun j => rfl, fun j => ?_⟩⟩
  rw [hJ_wj, if_neg]
  rintro ⟨rfl, -⟩
  rw [ha] at hb
  cases hb
theorem fr_wa {A : List (Nat × Nat)} {h : ea_H} {a : Nat} {f : Nat → Int32} (ha : inB A a = true) : fr A h (ea_wa h a f) := by
  refine ⟨rfl, fun b hb => ⟨fun j => ?_, fun j => rfl⟩⟩
  rw [hI_wa, if_neg]
  rintro rfl
  rw [ha] at hb
  cases hb
theorem l_m1000 : ((-1000) : Int32).toInt = -1000 := rfl
theorem l_m100 : ((-100) : Int32).toInt = -100 := rfl
theorem l_m60 : ((-60) : Int32).toInt = -60 := rfl
theorem l_m19 : ((-19) : Int32).toInt = -19 := rfl
theorem l_m18 : ((-18) : Int32).toInt = -18 := rfl
theorem l_m17 : ((-17) : Int32).toInt = -17 := rfl
theorem l_m16 : ((-16) : Int32).toInt = -16 := rfl
theorem l_m15 : ((-15) : Int32).toInt = -15 := rfl
theorem l_m14 : ((-14) : Int32).toInt = -14 := rfl
theorem l_m13 : ((-13) : Int32).toInt = -13 := rfl
theorem l_m12 : ((-12) : Int32).toInt = -12 := rfl
theorem l_m11 : ((-11) : Int32).toInt = -11 := rfl
theorem l_m10 : ((-10) : Int32).toInt = -10 := rfl
theorem l_m8 : ((-8) : Int32).toInt = -8 := rfl
theorem l_m1 : ((-1) : Int32).toInt = -1 := rfl
theorem l_0 : (0 : Int32).toInt = 0 := rfl
theorem l_1 : (1 : Int32).toInt = 1 := rfl
theorem l_2 : (2 : Int32).toInt = 2 := rfl
theorem l_3 : (3 : Int32).toInt = 3 := rfl
theorem l_4 : (4 : Int32).toInt = 4 := rfl
theorem l_5 : (5 : Int32).toInt = 5 := rfl
theorem l_6 : (6 : Int32).toInt = 6 := rfl
theorem l_7 : (7 : Int32).toInt = 7 := rfl
theorem l_8 : (8 : Int32).toInt = 8 := rfl
theorem l_9 : (9 : Int32).toInt = 9 := rfl
theorem l_10 : (10 : Int32).toInt = 10 := rfl
theorem l_11 : (11 : Int32).toInt = 11 := rfl
theorem l_12 : (12 : Int32).toInt = 12 := rfl
theorem l_13 : (13 : Int32).toInt = 13 := rfl
theorem l_14 : (14 : Int32).toInt = 14 := rfl
theorem l_15 : (15 : Int32).toInt = 15 := rfl
theorem l_16 : (16 : Int32).toInt = 16 := rfl
theorem l_17 : (17 : Int32).toInt = 17 := rfl
theorem l_18 : (18 : Int32).toInt = 18 := rfl
theorem l_19 : (19 : Int32).toInt = 19 := rfl
theorem l_20 : (20 : Int32).toInt = 20 := rfl
theorem l_21 : (21 : Int32).toInt = 21 := rfl
theorem l_24 : (24 : Int32).toInt = 24 := rfl
theorem l_25 : (25 : Int32).toInt = 25 := rfl
theorem l_32 : (32 : Int32).toInt = 32 := rfl
theorem l_40 : (40 : Int32).toInt = 40 := rfl
theorem l_41 : (41 : Int32).toInt = 41 := rfl
theorem l_42 : (42 : Int32).toInt = 42 := rfl
theorem l_43 : (43 : Int32).toInt = 43 := rfl
theorem l_45 : (45 : Int32).toInt = 45 := rfl
theorem l_47 : (47 : Int32).toInt = 47 := rfl
theorem l_48 : (48 : Int32).toInt = 48 := rfl
theorem l_57 : (57 : Int32).toInt = 57 := rfl
theorem l_59 : (59 : Int32).toInt = 59 := rfl
theorem l_60 : (60 : Int32).toInt = 60 := rfl
theorem l_61 : (61 : Int32).toInt = 61 := rfl
theorem l_62 : (62 : Int32).toInt = 62 := rfl
theorem l_63 : (63 : Int32).toInt = 63 := rfl
theorem l_64 : (64 : Int32).toInt = 64 := rfl
theorem l_65 : (65 : Int32).toInt = 65 := rfl
theorem l_70 : (70 : Int32).toInt = 70 := rfl
theorem l_80 : (80 : Int32).toInt = 80 := rfl
theorem l_90 : (90 : Int32).toInt = 90 := rfl
theorem l_97 : (97 : Int32).toInt = 97 := rfl
theorem l_99 : (99 : Int32).toInt = 99 := rfl
theorem l_100 : (100 : Int32).toInt = 100 := rfl
theorem l_120 : (120 : Int32).toInt = 120 := rfl
theorem l_122 : (122 : Int32).toInt = 122 := rfl
theorem l_127 : (127 : Int32).toInt = 127 := rfl
theorem l_144 : (144 : Int32).toInt = 144 := rfl
theorem l_150 : (150 : Int32).toInt = 150 := rfl
theorem l_201 : (201 : Int32).toInt = 201 := rfl
theorem l_202 : (202 : Int32).toInt = 202 := rfl
theorem l_203 : (203 : Int32).toInt = 203 := rfl
theorem l_204 : (204 : Int32).toInt = 204 := rfl
theorem l_205 : (205 : Int32).toInt = 205 := rfl
theorem l_206 : (206 : Int32).toInt = 206 := rfl
theorem l_207 : (207 : Int32).toInt = 207 := rfl
theorem l_255 : (255 : Int32).toInt = 255 := rfl
theorem l_300 : (300 : Int32).toInt = 300 := rfl
theorem l_364 : (364 : Int32).toInt = 364 := rfl
theorem l_480 : (480 : Int32).toInt = 480 := rfl
theorem l_560 : (560 : Int32).toInt = 560 := rfl
theorem l_600 : (600 : Int32).toInt = 600 := rfl
theorem l_601 : (601 : Int32).toInt = 601 := rfl
theorem l_620 : (620 : Int32).toInt = 620 := rfl
theorem l_840 : (840 : Int32).toInt = 840 := rfl
theorem l_900 : (900 : Int32).toInt = 900 := rfl
theorem l_980 : (980 : Int32).toInt = 980 := rfl
theorem l_999 : (999 : Int32).toInt = 999 := rfl
theorem l_1000 : (1000 : Int32).toInt = 1000 := rfl
theorem l_1023 : (1023 : Int32).toInt = 1023 := rfl
theorem l_1024 : (1024 : Int32).toInt = 1024 := rfl
theorem l_1220 : (1220 : Int32).toInt = 1220 := rfl
theorem l_1439 : (1439 : Int32).toInt = 1439 := rfl
theorem l_1440 : (1440 : Int32).toInt = 1440 := rfl
theorem l_2240 : (2240 : Int32).toInt = 2240 := rfl
theorem l_2400 : (2400 : Int32).toInt = 2400 := rfl
theorem l_3000 : (3000 : Int32).toInt = 3000 := rfl
theorem l_3600 : (3600 : Int32).toInt = 3600 := rfl
theorem l_4095 : (4095 : Int32).toInt = 4095 := rfl
theorem l_4096 : (4096 : Int32).toInt = 4096 := rfl
theorem l_7320 : (7320 : Int32).toInt = 7320 := rfl
theorem l_9999 : (9999 : Int32).toInt = 9999 := rfl
theorem l_10079 : (10079 : Int32).toInt = 10079 := rfl
theorem l_10080 : (10080 : Int32).toInt = 10080 := rfl
theorem l_12000 : (12000 : Int32).toInt = 12000 := rfl
theorem l_99999 : (99999 : Int32).toInt = 99999 := rfl
theorem l_120000 : (120000 : Int32).toInt = 120000 := rfl
theorem l_1000000 : (1000000 : Int32).toInt = 1000000 := rfl
theorem l_2147483647 : (2147483647 : Int32).toInt = 2147483647 := rfl
