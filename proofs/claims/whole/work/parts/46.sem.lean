/-! numbers: bits -/
theorem s_nat {x : Int32} (h : 0 ≤ x.toInt) : x.toInt = (x.toBitVec.toNat : Int) ∧ x.toBitVec.toNat < 2147483648 := by
  have h1 : x.toInt = x.toBitVec.toInt := rfl
  have h2 := x.toBitVec.isLt
  rw [h1, BitVec.toInt_eq_toNat_cond] at h
  rw [h1, BitVec.toInt_eq_toNat_cond]
  split at h
  · rename_i hc
    rw [if_pos hc]
    exact ⟨rfl, by omega⟩
  · omega
theorem s_of {x : Int32} {n : Nat} (h : x.toBitVec.toNat = n) (hn : n < 2147483648) : x.toInt = n := by
  have h1 : x.toInt = x.toBitVec.toInt := rfl
  rw [h1, BitVec.toInt_eq_toNat_cond, if_pos (by omega), h]
theorem s_amt0 : ∀ k, k < 32 → (((Int32.ofNat k) &&& 31 : Int32).toBitVec.smod 32).toNat = k := by decide +kernel
theorem s_amt {y : Int32} {k : Nat} (hy : y.toInt = k) (hk : k < 32) : ((y &&& 31).toBitVec.smod 32).toNat = k := by
  have e : y = Int32.ofNat k := by
    rw [← Int32.toInt_inj, hy, Int32.toInt_ofNat_of_lt (by omega)]
  rw [e]
  exact s_amt0 k hk
theorem s_shr {x : Int32} {y : Int32} {k : Nat} (hy : y.toInt = k) (hk : k < 32) : (x >>> (y &&& 31)).toInt = x.toInt / 2 ^ k := by
  show (x >>> (y &&& 31)).toBitVec.toInt = x.toBitVec.toInt / 2 ^ k
  rw [Int32.toBitVec_shiftRight]
  show (BitVec.sshiftRight _ ((y &&& 31).toBitVec.smod 32).toNat).toInt = _
  rw [s_amt hy hk, BitVec.toInt_sshiftRight, Int.shiftRight_eq_div_pow]
  simp
theorem s_shl {x : Int32} {y : Int32} {k : Nat} (hx : 0 ≤ x.toInt) (hy : y.toInt = k) (hk : k < 32) (hb : x.toInt * 2 ^ k < 2147483648) : (x <<< (y &&& 31)).toInt = x.toInt * 2 ^ k := by
  obtain ⟨e, l⟩ := s_nat hx
  have hb2 : x.toBitVec.toNat * 2 ^ k < 2147483648 := by
    have : ((x.toBitVec.toNat * 2 ^ k : Nat) : Int) < 2147483648 := by
      rw [Int.natCast_mul, ← e]
      simpa using hb
    omega
  rw [s_of (n := x.toBitVec.toNat * 2 ^ k) ?_ hb2, Int.natCast_mul, ← e]
  · simp
  · rw [Int32.toBitVec_shiftLeft]
    show (x.toBitVec <<< ((y &&& 31).toBitVec.smod 32).toNat).toNat = _
    rw [s_amt hy hk, BitVec.toNat_shiftLeft, Nat.shiftLeft_eq, Nat.mod_eq_of_lt (by omega)]
theorem s_and {x y : Int32} {k : Nat} (hx : 0 ≤ x.toInt) (hy : y.toInt = ((2 ^ k - 1 : Nat) : Int)) : (x &&& y).toInt = x.toInt % ((2 ^ k : Nat) : Int) := by
  obtain ⟨e, l⟩ := s_nat hx
  obtain ⟨e2, l2⟩ := s_nat (x := y) (by rw [hy]; omega)
  have e3 : y.toBitVec.toNat = 2 ^ k - 1 := by
    rw [e2] at hy
    exact_mod_cast hy
  have h1 : (x &&& y).toBitVec.toNat = x.toBitVec.toNat % 2 ^ k := by
    rw [Int32.toBitVec_and, BitVec.toNat_and, e3, Nat.and_two_pow_sub_one_eq_mod]
  rw [s_of h1 (Nat.lt_of_le_of_lt (Nat.mod_le _ _) l), e]
  exact Int.natCast_emod _ _
theorem s_or {x y : Int32} (k : Nat) (hx : 0 ≤ x.toInt) (hx2 : x.toInt % ((2 ^ k : Nat) : Int) = 0) (hy : 0 ≤ y.toInt) (hy2 : y.toInt < ((2 ^ k : Nat) : Int)) : (x ||| y).toInt = x.toInt + y.toInt := by
  obtain ⟨e, l⟩ := s_nat hx
  obtain ⟨e2, l2⟩ := s_nat hy
  have a1 : x.toBitVec.toNat % 2 ^ k = 0 := by
    rw [e] at hx2
    exact_mod_cast hx2
  have a2 : y.toBitVec.toNat < 2 ^ k := by
    rw [e2] at hy2
    exact_mod_cast hy2
  have a3 : 2 ^ k * (x.toBitVec.toNat / 2 ^ k) = x.toBitVec.toNat := by
    have := Nat.div_add_mod x.toBitVec.toNat (2 ^ k)
    omega
  have h1 : (x ||| y).toBitVec.toNat = x.toBitVec.toNat + y.toBitVec.toNat := by
    rw [Int32.toBitVec_or, BitVec.toNat_or]
    have := Nat.two_pow_add_eq_or_of_lt a2 (x.toBitVec.toNat / 2 ^ k)
    rw [a3] at this
    exact this.symm
  have h2 : x.toBitVec.toNat + y.toBitVec.toNat < 2147483648 := by
    rw [← h1]
    have := (x ||| y).toBitVec.isLt
    apply Decidable.byContradiction
    intro hc
    have h5 : x.toBitVec.toNat ||| y.toBitVec.toNat < 2 ^ 31 := Nat.or_lt_two_pow (by simpa using l) (by simpa using l2)
    rw [Int32.toBitVec_or, BitVec.toNat_or] at hc
    simp at h5
    omega
  rw [s_of h1 h2, e, e2]
  exact Int.natCast_add _ _
theorem s_natJ {x : Int64} (h : 0 ≤ x.toInt) : x.toInt = (x.toBitVec.toNat : Int) ∧ x.toBitVec.toNat < 9223372036854775808 := by
  have h1 : x.toInt = x.toBitVec.toInt := rfl
  have h2 := x.toBitVec.isLt
  rw [h1, BitVec.toInt_eq_toNat_cond] at h
  rw [h1, BitVec.toInt_eq_toNat_cond]
  split at h
  · rename_i hc
    rw [if_pos hc]
    exact ⟨rfl, by omega⟩
  · omega
theorem s_ofJ {x : Int64} {n : Nat} (h : x.toBitVec.toNat = n) (hn : n < 9223372036854775808) : x.toInt = n := by
  have h1 : x.toInt = x.toBitVec.toInt := rfl
  rw [h1, BitVec.toInt_eq_toNat_cond, if_pos (by omega), h]
theorem s_amt0J : ∀ k, k < 64 → (((Int32.ofNat k).toInt64 &&& 63 : Int64).toBitVec.smod 64).toNat = k := by decide +kernel
theorem s_amtJ {y : Int32} {k : Nat} (hy : y.toInt = k) (hk : k < 64) : ((y.toInt64 &&& 63).toBitVec.smod 64).toNat = k := by
  have e : y = Int32.ofNat k := by
    rw [← Int32.toInt_inj, hy, Int32.toInt_ofNat_of_lt (by omega)]
  rw [e]
  exact s_amt0J k hk
theorem s_shrJ {x : Int64} {y : Int32} {k : Nat} (hy : y.toInt = k) (hk : k < 64) : (x >>> (y.toInt64 &&& 63)).toInt = x.toInt / 2 ^ k := by
  show (x >>> (y.toInt64 &&& 63)).toBitVec.toInt = x.toBitVec.toInt / 2 ^ k
  rw [Int64.toBitVec_shiftRight]
  show (BitVec.sshiftRight _ ((y.toInt64 &&& 63).toBitVec.smod 64).toNat).toInt = _
  rw [s_amtJ hy hk, BitVec.toInt_sshiftRight, Int.shiftRight_eq_div_pow]
  simp
theorem s_shlJ {x : Int64} {y : Int32} {k : Nat} (hx : 0 ≤ x.toInt) (hy : y.toInt = k) (hk : k < 64) (hb : x.toInt * 2 ^ k < 9223372036854775808) : (x <<< (y.toInt64 &&& 63)).toInt = x.toInt * 2 ^ k := by
  obtain ⟨e, l⟩ := s_natJ hx
  have hb2 : x.toBitVec.toNat * 2 ^ k < 9223372036854775808 := by
    have : ((x.toBitVec.toNat * 2 ^ k : Nat) : Int) < 9223372036854775808 := by
      rw [Int.natCast_mul, ← e]
      simpa using hb
    omega
  rw [s_ofJ (n := x.toBitVec.toNat * 2 ^ k) ?_ hb2, Int.natCast_mul, ← e]
  · simp
  · rw [Int64.toBitVec_shiftLeft]
    show (x.toBitVec <<< ((y.toInt64 &&& 63).toBitVec.smod 64).toNat).toNat = _
    rw [s_amtJ hy hk, BitVec.toNat_shiftLeft, Nat.shiftLeft_eq, Nat.mod_eq_of_lt (by omega)]
theorem s_andJ {x y : Int64} {k : Nat} (hx : 0 ≤ x.toInt) (hy : y.toInt = ((2 ^ k - 1 : Nat) : Int)) : (x &&& y).toInt = x.toInt % ((2 ^ k : Nat) : Int) := by
  obtain ⟨e, l⟩ := s_natJ hx
  obtain ⟨e2, l2⟩ := s_natJ (x := y) (by rw [hy]; omega)
  have e3 : y.toBitVec.toNat = 2 ^ k - 1 := by
    rw [e2] at hy
    exact_mod_cast hy
  have h1 : (x &&& y).toBitVec.toNat = x.toBitVec.toNat % 2 ^ k := by
    rw [Int64.toBitVec_and, BitVec.toNat_and, e3, Nat.and_two_pow_sub_one_eq_mod]
  rw [s_ofJ h1 (Nat.lt_of_le_of_lt (Nat.mod_le _ _) l), e]
  exact Int.natCast_emod _ _
theorem s_orJ {x y : Int64} (k : Nat) (hx : 0 ≤ x.toInt) (hx2 : x.toInt % ((2 ^ k : Nat) : Int) = 0) (hy : 0 ≤ y.toInt) (hy2 : y.toInt < ((2 ^ k : Nat) : Int)) : (x ||| y).toInt = x.toInt + y.toInt := by
  obtain ⟨e, l⟩ := s_natJ hx
  obtain ⟨e2, l2⟩ := s_natJ hy
  have a1 : x.toBitVec.toNat % 2 ^ k = 0 := by
    rw [e] at hx2
    exact_mod_cast hx2
  have a2 : y.toBitVec.toNat < 2 ^ k := by
    rw [e2] at hy2
    exact_mod_cast hy2
  have a3 : 2 ^ k * (x.toBitVec.toNat / 2 ^ k) = x.toBitVec.toNat := by
    have := Nat.div_add_mod x.toBitVec.toNat (2 ^ k)
    omega
  have h1 : (x ||| y).toBitVec.toNat = x.toBitVec.toNat + y.toBitVec.toNat := by
    rw [Int64.toBitVec_or, BitVec.toNat_or]
    have := Nat.two_pow_add_eq_or_of_lt a2 (x.toBitVec.toNat / 2 ^ k)
    rw [a3] at this
    exact this.symm
  have h2 : x.toBitVec.toNat + y.toBitVec.toNat < 9223372036854775808 := by
    rw [← h1]
    have := (x ||| y).toBitVec.isLt
    apply Decidable.byContradiction
    intro hc
    have h5 : x.toBitVec.toNat ||| y.toBitVec.toNat < 2 ^ 63 := Nat.or_lt_two_pow (by simpa using l) (by simpa using l2)
    rw [Int64.toBitVec_or, BitVec.toNat_or] at hc
    simp at h5
    omega
  rw [s_ofJ h1 h2, e, e2]
  exact Int.natCast_add _ _
theorem s_shr_3 (x : Int32) : (x >>> ((3 : Int32) &&& 31)).toInt = x.toInt / 8 := s_shr (k := 3) rfl (by decide)
theorem s_shl_3 {x : Int32} (h : 0 ≤ x.toInt) (h2 : x.toInt < 268435456) : (x <<< ((3 : Int32) &&& 31)).toInt = x.toInt * 8 := s_shl (k := 3) h rfl (by decide) (by show x.toInt * 8 < _; omega)
theorem s_shr_4 (x : Int32) : (x >>> ((4 : Int32) &&& 31)).toInt = x.toInt / 16 := s_shr (k := 4) rfl (by decide)
theorem s_shl_4 {x : Int32} (h : 0 ≤ x.toInt) (h2 : x.toInt < 134217728) : (x <<< ((4 : Int32) &&& 31)).toInt = x.toInt * 16 := s_shl (k := 4) h rfl (by decide) (by show x.toInt * 16 < _; omega)
theorem s_shr_6 (x : Int32) : (x >>> ((6 : Int32) &&& 31)).toInt = x.toInt / 64 := s_shr (k := 6) rfl (by decide)
theorem s_shl_6 {x : Int32} (h : 0 ≤ x.toInt) (h2 : x.toInt < 33554432) : (x <<< ((6 : Int32) &&& 31)).toInt = x.toInt * 64 := s_shl (k := 6) h rfl (by decide) (by show x.toInt * 64 < _; omega)
theorem s_shr_7 (x : Int32) : (x >>> ((7 : Int32) &&& 31)).toInt = x.toInt / 128 := s_shr (k := 7) rfl (by decide)
theorem s_shl_7 {x : Int32} (h : 0 ≤ x.toInt) (h2 : x.toInt < 16777216) : (x <<< ((7 : Int32) &&& 31)).toInt = x.toInt * 128 := s_shl (k := 7) h rfl (by decide) (by show x.toInt * 128 < _; omega)
theorem s_shr_10 (x : Int32) : (x >>> ((10 : Int32) &&& 31)).toInt = x.toInt / 1024 := s_shr (k := 10) rfl (by decide)
theorem s_shl_10 {x : Int32} (h : 0 ≤ x.toInt) (h2 : x.toInt < 2097152) : (x <<< ((10 : Int32) &&& 31)).toInt = x.toInt * 1024 := s_shl (k := 10) h rfl (by decide) (by show x.toInt * 1024 < _; omega)
theorem s_shr_11 (x : Int32) : (x >>> ((11 : Int32) &&& 31)).toInt = x.toInt / 2048 := s_shr (k := 11) rfl (by decide)
theorem s_shl_11 {x : Int32} (h : 0 ≤ x.toInt) (h2 : x.toInt < 1048576) : (x <<< ((11 : Int32) &&& 31)).toInt = x.toInt * 2048 := s_shl (k := 11) h rfl (by decide) (by show x.toInt * 2048 < _; omega)
theorem s_shr_13 (x : Int32) : (x >>> ((13 : Int32) &&& 31)).toInt = x.toInt / 8192 := s_shr (k := 13) rfl (by decide)
theorem s_shl_13 {x : Int32} (h : 0 ≤ x.toInt) (h2 : x.toInt < 262144) : (x <<< ((13 : Int32) &&& 31)).toInt = x.toInt * 8192 := s_shl (k := 13) h rfl (by decide) (by show x.toInt * 8192 < _; omega)
theorem s_shr_16 (x : Int32) : (x >>> ((16 : Int32) &&& 31)).toInt = x.toInt / 65536 := s_shr (k := 16) rfl (by decide)
theorem s_shl_16 {x : Int32} (h : 0 ≤ x.toInt) (h2 : x.toInt < 32768) : (x <<< ((16 : Int32) &&& 31)).toInt = x.toInt * 65536 := s_shl (k := 16) h rfl (by decide) (by show x.toInt * 65536 < _; omega)
theorem s_shr_17 (x : Int32) : (x >>> ((17 : Int32) &&& 31)).toInt = x.toInt / 131072 := s_shr (k := 17) rfl (by decide)
theorem s_shl_17 {x : Int32} (h : 0 ≤ x.toInt) (h2 : x.toInt < 16384) : (x <<< ((17 : Int32) &&& 31)).toInt = x.toInt * 131072 := s_shl (k := 17) h rfl (by decide) (by show x.toInt * 131072 < _; omega)
theorem s_shrJ_3 (x : Int64) : (x >>> (Int32.toInt64 3 &&& 63)).toInt = x.toInt / 8 := s_shrJ (k := 3) rfl (by decide)
theorem s_shlJ_3 {x : Int64} (h : 0 ≤ x.toInt) (h2 : x.toInt < 1152921504606846976) : (x <<< (Int32.toInt64 3 &&& 63)).toInt = x.toInt * 8 := s_shlJ (k := 3) h rfl (by decide) (by show x.toInt * 8 < _; omega)
theorem s_shrJ_6 (x : Int64) : (x >>> (Int32.toInt64 6 &&& 63)).toInt = x.toInt / 64 := s_shrJ (k := 6) rfl (by decide)
theorem s_shlJ_6 {x : Int64} (h : 0 ≤ x.toInt) (h2 : x.toInt < 144115188075855872) : (x <<< (Int32.toInt64 6 &&& 63)).toInt = x.toInt * 64 := s_shlJ (k := 6) h rfl (by decide) (by show x.toInt * 64 < _; omega)
theorem s_shrJ_9 (x : Int64) : (x >>> (Int32.toInt64 9 &&& 63)).toInt = x.toInt / 512 := s_shrJ (k := 9) rfl (by decide)
theorem s_shlJ_9 {x : Int64} (h : 0 ≤ x.toInt) (h2 : x.toInt < 18014398509481984) : (x <<< (Int32.toInt64 9 &&& 63)).toInt = x.toInt * 512 := s_shlJ (k := 9) h rfl (by decide) (by show x.toInt * 512 < _; omega)
theorem s_shrJ_13 (x : Int64) : (x >>> (Int32.toInt64 13 &&& 63)).toInt = x.toInt / 8192 := s_shrJ (k := 13) rfl (by decide)
theorem s_shlJ_13 {x : Int64} (h : 0 ≤ x.toInt) (h2 : x.toInt < 1125899906842624) : (x <<< (Int32.toInt64 13 &&& 63)).toInt = x.toInt * 8192 := s_shlJ (k := 13) h rfl (by decide) (by show x.toInt * 8192 < _; omega)
theorem s_shrJ_21 (x : Int64) : (x >>> (Int32.toInt64 21 &&& 63)).toInt = x.toInt / 2097152 := s_shrJ (k := 21) rfl (by decide)
theorem s_shlJ_21 {x : Int64} (h : 0 ≤ x.toInt) (h2 : x.toInt < 4398046511104) : (x <<< (Int32.toInt64 21 &&& 63)).toInt = x.toInt * 2097152 := s_shlJ (k := 21) h rfl (by decide) (by show x.toInt * 2097152 < _; omega)
theorem s_shrJ_16 (x : Int64) : (x >>> (Int32.toInt64 16 &&& 63)).toInt = x.toInt / 65536 := s_shrJ (k := 16) rfl (by decide)
theorem s_shlJ_16 {x : Int64} (h : 0 ≤ x.toInt) (h2 : x.toInt < 140737488355328) : (x <<< (Int32.toInt64 16 &&& 63)).toInt = x.toInt * 65536 := s_shlJ (k := 16) h rfl (by decide) (by show x.toInt * 65536 < _; omega)
theorem s_and_1 {x : Int32} (h : 0 ≤ x.toInt) : (x &&& (1 : Int32)).toInt = x.toInt % 2 := s_and (k := 1) h rfl
theorem s_and_7 {x : Int32} (h : 0 ≤ x.toInt) : (x &&& (7 : Int32)).toInt = x.toInt % 8 := s_and (k := 3) h rfl
theorem s_and_15 {x : Int32} (h : 0 ≤ x.toInt) : (x &&& (15 : Int32)).toInt = x.toInt % 16 := s_and (k := 4) h rfl
theorem s_and_63 {x : Int32} (h : 0 ≤ x.toInt) : (x &&& (63 : Int32)).toInt = x.toInt % 64 := s_and (k := 6) h rfl
theorem s_and_127 {x : Int32} (h : 0 ≤ x.toInt) : (x &&& (127 : Int32)).toInt = x.toInt % 128 := s_and (k := 7) h rfl
theorem s_and_255 {x : Int32} (h : 0 ≤ x.toInt) : (x &&& (255 : Int32)).toInt = x.toInt % 256 := s_and (k := 8) h rfl
theorem s_and_1023 {x : Int32} (h : 0 ≤ x.toInt) : (x &&& (1023 : Int32)).toInt = x.toInt % 1024 := s_and (k := 10) h rfl
theorem s_andJ_7 {x : Int64} (h : 0 ≤ x.toInt) : (x &&& (7 : Int64)).toInt = x.toInt % 8 := s_andJ (k := 3) h rfl
theorem s_andJ_1 {x : Int64} (h : 0 ≤ x.toInt) : (x &&& (1 : Int64)).toInt = x.toInt % 2 := s_andJ (k := 1) h rfl
theorem n_ltJ {x y : Int64} : x < y ↔ x.toInt < y.toInt := Int64.lt_iff_toInt_lt
theorem n_leJ {x y : Int64} : x ≤ y ↔ x.toInt ≤ y.toInt := Int64.le_iff_toInt_le
theorem n_eqJ {x y : Int64} : x = y ↔ x.toInt = y.toInt := Int64.toInt_inj.symm
theorem n_bmJ {z : Int} (h1 : -9223372036854775808 ≤ z) (h2 : z < 9223372036854775808) : z.bmod 18446744073709551616 = z := Int.bmod_eq_of_le (by omega) (by omega)
theorem n_addJ (x y : Int64) : (x + y).toInt = (x.toInt + y.toInt).bmod 18446744073709551616 := Int64.toInt_add x y
theorem n_subJ (x y : Int64) : (x - y).toInt = (x.toInt - y.toInt).bmod 18446744073709551616 := Int64.toInt_sub x y
theorem n_mulJ (x y : Int64) : (x * y).toInt = (x.toInt * y.toInt).bmod 18446744073709551616 := Int64.toInt_mul x y
theorem n_i2l (x : Int32) : (Int32.toInt64 x).toInt = x.toInt := Int32.toInt_toInt64 x
theorem n_l2i {x : Int64} (h1 : -2147483648 ≤ x.toInt) (h2 : x.toInt < 2147483648) : (Int64.toInt32 x).toInt = x.toInt := by
  rw [Int64.toInt_toInt32]
  exact n_bm h1 h2
theorem n_loJ (x : Int64) : -9223372036854775808 ≤ x.toInt := Int64.le_toInt x
theorem n_hiJ (x : Int64) : x.toInt < 9223372036854775808 := Int64.toInt_lt x
theorem n_ifJ {c : Prop} {_ : Decidable c} {x y : Int64} : (if c then x else y).toInt = if c then x.toInt else y.toInt := by split <;> rfl
theorem lJ_max : (4611686018427387904 : Int64).toInt = 4611686018427387904 := rfl
theorem lJ_0 : (0 : Int64).toInt = 0 := rfl
theorem lJ_1 : (1 : Int64).toInt = 1 := rfl
theorem lJ_7 : (7 : Int64).toInt = 7 := rfl
theorem lJ_100 : (100 : Int64).toInt = 100 := rfl
theorem lJ_3600 : (3600 : Int64).toInt = 3600 := rfl
theorem lJ_8192 : (8192 : Int64).toInt = 8192 := rfl
theorem lJ_m1 : (-1 : Int64).toInt = -1 := rfl
