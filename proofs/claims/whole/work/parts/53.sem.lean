/-! three bits a town -/
def dg (v : Int) (j : Nat) : Nat := v.toNat / 8 ^ j % 8
theorem dg_nat (n j : Nat) : (n >>> (3 * j)) &&& 7 = n / 8 ^ j % 8 := by
  rw [Nat.shiftRight_eq_div_pow, show (7 : Nat) = 2 ^ 3 - 1 from rfl, Nat.and_two_pow_sub_one_eq_mod, Nat.pow_mul]
theorem dg_t1 : ∀ to, to < 12 → ∀ j, j < 12 → ((18446744073709551615 - 7 * 8 ^ to) >>> (3 * j)) &&& 7 = if j = to then 0 else 7 := by decide +kernel
theorem dg_t2 : ∀ to, to < 12 → ∀ j, j < 12 → ∀ w, w < 8 → ((w * 8 ^ to) >>> (3 * j)) &&& 7 = if j = to then w else 0 := by decide +kernel
theorem dg_t3 : ∀ to, to < 12 → (((7 : Int64) <<< (Int32.toInt64 ((3 : Int32) * Int32.ofNat to) &&& 63)) ^^^ ((-1) : Int64)).toBitVec.toNat = 18446744073709551615 - 7 * 8 ^ to := by decide +kernel
theorem i32_of {x : Int32} {n : Nat} (e : x.toInt = n) (h : n < 2147483648) : x = Int32.ofNat n := by
  rw [← Int32.toInt_inj, e, Int32.toInt_ofNat_of_lt (by omega)]
theorem dg_clear {v : Int64} {x4 : Int32} {to : Nat} (h0 : 0 ≤ v.toInt) (h1 : v.toInt < 68719476736) (e4 : x4.toInt = to) (ht : to < 12) :
    0 ≤ (v &&& (((7 : Int64) <<< (Int32.toInt64 ((3 : Int32) * x4) &&& 63)) ^^^ ((-1) : Int64))).toInt ∧ (v &&& (((7 : Int64) <<< (Int32.toInt64 ((3 : Int32) * x4) &&& 63)) ^^^ ((-1) : Int64))).toInt < 68719476736 ∧
      ∀ j, j < 12 → dg (v &&& (((7 : Int64) <<< (Int32.toInt64 ((3 : Int32) * x4) &&& 63)) ^^^ ((-1) : Int64))).toInt j = if j = to then 0 else dg v.toInt j := by
  obtain ⟨e, l⟩ := s_natJ h0
  have hm : (v &&& (((7 : Int64) <<< (Int32.toInt64 ((3 : Int32) * x4) &&& 63)) ^^^ ((-1) : Int64))).toBitVec.toNat = v.toBitVec.toNat &&& (18446744073709551615 - 7 * 8 ^ to) := by
    rw [Int64.toBitVec_and, BitVec.toNat_and, i32_of e4 (by omega), dg_t3 to ht]
  have hle : v.toBitVec.toNat &&& (18446744073709551615 - 7 * 8 ^ to) ≤ v.toBitVec.toNat := Nat.and_le_left
  have hv := s_ofJ hm (by omega)
  rw [hv]
  refine ⟨by omega, by omega, fun j hj => ?_⟩
  unfold dg
  rw [Int.toNat_natCast, ← dg_nat, Nat.shiftRight_and_distrib, Nat.and_assoc, dg_t1 to ht j hj, e, Int.toNat_natCast]
  split
  · exact Nat.and_zero _
  · exact dg_nat _ _
theorem s_and7 (x : Int32) : (x &&& (7 : Int32)).toInt = x.toInt % 8 := by
  have h1 : (x &&& (7 : Int32)).toBitVec.toNat = x.toBitVec.toNat % 8 := by
    rw [Int32.toBitVec_and, BitVec.toNat_and, show (7 : Int32).toBitVec.toNat = 2 ^ 3 - 1 from rfl, Nat.and_two_pow_sub_one_eq_mod]
  rw [s_of h1 (by omega)]
  have h2 : x.toInt = x.toBitVec.toInt := rfl
  rw [h2, BitVec.toInt_eq_toNat_cond]
  split <;> omega
theorem s_and7J (x : Int64) : (x &&& (7 : Int64)).toInt = x.toInt % 8 := by
  have h1 : (x &&& (7 : Int64)).toBitVec.toNat = x.toBitVec.toNat % 8 := by
    rw [Int64.toBitVec_and, BitVec.toNat_and, show (7 : Int64).toBitVec.toNat = 2 ^ 3 - 1 from rfl, Nat.and_two_pow_sub_one_eq_mod]
  rw [s_ofJ h1 (by omega)]
  have h2 : x.toInt = x.toBitVec.toInt := rfl
  rw [h2, BitVec.toInt_eq_toNat_cond]
  split <;> omega
theorem s_lo7 (y : Int64) : (Int64.toInt32 y &&& (7 : Int32)).toInt = y.toInt % 8 := by
  rw [s_and7, Int64.toInt_toInt32]
  have h := Int.bmod_emod (x := y.toInt) (m := 2 ^ 32)
  have h2 : ((2 ^ 32 : Nat) : Int) = 4294967296 := rfl
  rw [h2] at h
  omega
theorem s_and15x (x : Int32) : (x &&& (15 : Int32)).toInt = x.toInt % 16 := by
  have h1 : (x &&& (15 : Int32)).toBitVec.toNat = x.toBitVec.toNat % 16 := by
    rw [Int32.toBitVec_and, BitVec.toNat_and, show (15 : Int32).toBitVec.toNat = 2 ^ 4 - 1 from rfl, Nat.and_two_pow_sub_one_eq_mod]
  rw [s_of h1 (by omega)]
  have h2 : x.toInt = x.toBitVec.toInt := rfl
  rw [h2, BitVec.toInt_eq_toNat_cond]
  split <;> omega
theorem s_lo15 (y : Int64) : (Int64.toInt32 y &&& (15 : Int32)).toInt = y.toInt % 16 := by
  rw [s_and15x, Int64.toInt_toInt32]
  have h := Int.bmod_emod (x := y.toInt) (m := 2 ^ 32)
  have h2 : ((2 ^ 32 : Nat) : Int) = 4294967296 := rfl
  rw [h2] at h
  omega
theorem s_and255x (x : Int32) : (x &&& (255 : Int32)).toInt = x.toInt % 256 := by
  have h1 : (x &&& (255 : Int32)).toBitVec.toNat = x.toBitVec.toNat % 256 := by
    rw [Int32.toBitVec_and, BitVec.toNat_and, show (255 : Int32).toBitVec.toNat = 2 ^ 8 - 1 from rfl, Nat.and_two_pow_sub_one_eq_mod]
  rw [s_of h1 (by omega)]
  have h2 : x.toInt = x.toBitVec.toInt := rfl
  rw [h2, BitVec.toInt_eq_toNat_cond]
  split <;> omega
theorem s_lo255 (y : Int64) : (Int64.toInt32 y &&& (255 : Int32)).toInt = y.toInt % 256 := by
  rw [s_and255x, Int64.toInt_toInt32]
  have h := Int.bmod_emod (x := y.toInt) (m := 2 ^ 32)
  have h2 : ((2 ^ 32 : Nat) : Int) = 4294967296 := rfl
  rw [h2] at h
  omega
theorem dg_set {v y : Int64} {x4 : Int32} {to : Nat} (h0 : 0 ≤ v.toInt) (h1 : v.toInt < 68719476736) (e4 : x4.toInt = to) (ht : to < 12) (hz : dg v.toInt to = 0) :
    0 ≤ (v ||| ((y &&& (7 : Int64)) <<< (Int32.toInt64 ((3 : Int32) * x4) &&& 63))).toInt ∧ (v ||| ((y &&& (7 : Int64)) <<< (Int32.toInt64 ((3 : Int32) * x4) &&& 63))).toInt < 68719476736 ∧
      ∀ j, j < 12 → (dg (v ||| ((y &&& (7 : Int64)) <<< (Int32.toInt64 ((3 : Int32) * x4) &&& 63))).toInt j : Int) = if j = to then y.toInt % 8 else (dg v.toInt j : Int) := by
  obtain ⟨e, l⟩ := s_natJ h0
  have hw : (y &&& (7 : Int64)).toInt = y.toInt % 8 := s_and7J y
  obtain ⟨w, hw2⟩ : ∃ w : Nat, y.toInt % 8 = w := ⟨(y.toInt % 8).toNat, by omega⟩
  have hw8 : w < 8 := by omega
  have hpow : 8 ^ to ≤ 8 ^ 11 := Nat.pow_le_pow_right (by omega) (by omega)
  have hpow1 : (8 : Nat) ^ 11 = 8589934592 := by decide
  have hq : w * 8 ^ to < 68719476736 := by
    have : w * 8 ^ to ≤ 7 * 8 ^ to := Nat.mul_le_mul_right _ (by omega)
    omega
  have e3 : ((3 : Int32) * x4).toInt = ((3 * to : Nat) : Int) := by
    rw [n_mul, l_3, e4, n_bm (by omega) (by omega)]
    omega
  have hp2 : (2 : Int) ^ (3 * to) = ((8 ^ to : Nat) : Int) := by
    rw [Int.pow_mul]
    simp
  have hs : ((y &&& (7 : Int64)) <<< (Int32.toInt64 ((3 : Int32) * x4) &&& 63)).toInt = ((w * 8 ^ to : Nat) : Int) := by
    rw [s_shlJ (k := 3 * to) (by omega) e3 (by omega) (by rw [hw, hw2, hp2, ← Int.natCast_mul]; omega), hw, hw2, hp2, ← Int.natCast_mul]
  obtain ⟨e5, l5⟩ := s_natJ (x := (y &&& (7 : Int64)) <<< (Int32.toInt64 ((3 : Int32) * x4) &&& 63)) (by omega)
  have e6 : ((y &&& (7 : Int64)) <<< (Int32.toInt64 ((3 : Int32) * x4) &&& 63)).toBitVec.toNat = w * 8 ^ to := by omega
  have hm : (v ||| ((y &&& (7 : Int64)) <<< (Int32.toInt64 ((3 : Int32) * x4) &&& 63))).toBitVec.toNat = v.toBitVec.toNat ||| (w * 8 ^ to) := by
    rw [Int64.toBitVec_or, BitVec.toNat_or, e6]
  have hlt : v.toBitVec.toNat ||| (w * 8 ^ to) < 68719476736 := Nat.or_lt_two_pow (n := 36) (by omega) hq
  have hv := s_ofJ hm (by omega)
  rw [hv]
  refine ⟨by omega, by omega, fun j hj => ?_⟩
  have hd : dg ((v.toBitVec.toNat ||| (w * 8 ^ to) : Nat) : Int) j = (v.toBitVec.toNat / 8 ^ j % 8) ||| (if j = to then w else 0) := by
    unfold dg
    rw [Int.toNat_natCast, ← dg_nat, Nat.shiftRight_or_distrib, Nat.and_or_distrib_right, dg_t2 to ht j hj w hw8, dg_nat]
  have hvv : ∀ i, dg v.toInt i = v.toBitVec.toNat / 8 ^ i % 8 := fun i => by
    unfold dg
    rw [e, Int.toNat_natCast]
  rw [hd]
  by_cases hc : j = to
  · subst hc
    rw [if_pos rfl, if_pos rfl, ← hvv, hz, Nat.zero_or, hw2]
  · rw [if_neg hc, if_neg hc, Nat.or_zero, hvv]
theorem dg_get {v : Int64} {x2 : Int32} {to : Nat} (h0 : 0 ≤ v.toInt) (e2 : x2.toInt = to) (ht : to < 12) : (Int64.toInt32 (v >>> (Int32.toInt64 ((3 : Int32) * x2) &&& 63)) &&& (7 : Int32)).toInt = dg v.toInt to := by
  have e3 : ((3 : Int32) * x2).toInt = ((3 * to : Nat) : Int) := by
    rw [n_mul, l_3, e2, n_bm (by omega) (by omega)]
    omega
  rw [s_lo7, s_shrJ (k := 3 * to) e3 (by omega), Int.pow_mul]
  unfold dg
  obtain ⟨n, hn⟩ : ∃ n : Nat, v.toInt = n := ⟨v.toInt.toNat, by omega⟩
  rw [hn, Int.toNat_natCast]
  rw [show ((2 : Int) ^ 3) ^ to = ((8 ^ to : Nat) : Int) by simp]
  rw [← Int.natCast_ediv]
  omega
