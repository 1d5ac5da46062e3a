/-! numbers: comparisons, sums and indices of ints, as integers -/
theorem n_lt {x y : Int32} : x < y ↔ x.toInt < y.toInt := Int32.lt_iff_toInt_lt
theorem n_le {x y : Int32} : x ≤ y ↔ x.toInt ≤ y.toInt := Int32.le_iff_toInt_le
theorem n_eq {x y : Int32} : x = y ↔ x.toInt = y.toInt := Int32.toInt_inj.symm
theorem n_lo (x : Int32) : -2147483648 ≤ x.toInt := Int32.le_toInt x
theorem n_hi (x : Int32) : x.toInt < 2147483648 := Int32.toInt_lt x
theorem n_bm {z : Int} (h1 : -2147483648 ≤ z) (h2 : z < 2147483648) : z.bmod (2 ^ 32) = z := Int.bmod_eq_of_le (by omega) (by omega)
theorem n_add {x y : Int32} (h1 : -2147483648 ≤ x.toInt + y.toInt) (h2 : x.toInt + y.toInt < 2147483648) : (x + y).toInt = x.toInt + y.toInt := by rw [Int32.toInt_add, n_bm h1 h2]
theorem n_sub {x y : Int32} (h1 : -2147483648 ≤ x.toInt - y.toInt) (h2 : x.toInt - y.toInt < 2147483648) : (x - y).toInt = x.toInt - y.toInt := by rw [Int32.toInt_sub, n_bm h1 h2]
theorem n_mul {x y : Int32} (h1 : -2147483648 ≤ x.toInt * y.toInt) (h2 : x.toInt * y.toInt < 2147483648) : (x * y).toInt = x.toInt * y.toInt := by rw [Int32.toInt_mul, n_bm h1 h2]
theorem n_div {x y : Int32} (h : y ≠ -1) : (x / y).toInt = x.toInt.tdiv y.toInt := Int32.toInt_div_of_ne_right x y h
theorem n_div0 {x y : Int32} {m : Int} (hx : 0 ≤ x.toInt) (hy : y.toInt = m) (hm : 0 < m) : (x / y).toInt = x.toInt / m := by
  rw [n_div (by intro h; rw [h] at hy; have : (-1 : Int32).toInt = -1 := rfl; omega), hy, Int.tdiv_eq_ediv_of_nonneg hx]
theorem n_rem0 {x y : Int32} {m : Int} (hx : 0 ≤ x.toInt) (hy : y.toInt = m) (hm : 0 < m) : (x - x / y * y).toInt = x.toInt % m := by
  have h1 := n_div0 hx hy hm
  have h2 := n_hi x
  have h3 : x.toInt / m * m ≤ x.toInt := Int.ediv_mul_le _ (by omega)
  have h4 : 0 ≤ x.toInt / m := Int.ediv_nonneg hx (by omega)
  have h5 : 0 ≤ x.toInt / m * m := Int.mul_nonneg h4 (by omega)
  have h6 : (x / y * y).toInt = x.toInt / m * m := by rw [n_mul (by rw [h1, hy]; omega) (by rw [h1, hy]; omega), h1, hy]
  rw [n_sub (by rw [h6]; omega) (by rw [h6]; omega), h6, Int.emod_def, Int.mul_comm]
theorem n_in {i : Int32} {n : Nat} (h0 : 0 ≤ i.toInt) (h1 : i.toInt < (n : Int)) : vp_in i n := by
  unfold vp_in
  rw [n_lt]
  intro h
  rcases h with h | h
  · have : (0 : Int32).toInt = 0 := rfl
    omega
  · have : i.toNatClampNeg = i.toInt.toNat := rfl
    omega
theorem n_nat (i : Int32) : i.toNatClampNeg = i.toInt.toNat := rfl
