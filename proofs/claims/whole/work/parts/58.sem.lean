/-! the class's best way from a town -/
theorem c_waycode {y1 : Int32} {m n l i r : Nat} {y2 y3 y4 y5 : Int32} (e1 : y1.toInt = m) (e2 : y2.toInt = n) (e3 : y3.toInt = l) (e4 : y4.toInt = i) (e5 : y5.toInt = r) (hm : m ≤ 10079) (hn : n ≤ 70) (hl : l < 8192) (hl2 : l % 64 = 0) (hi : i < 8) (hr : r < 8) :
    (((((((Int32.toInt64 y1) <<< (Int32.toInt64 21 &&& 63)) ||| (Int32.toInt64 (y2 <<< ((13 : Int32) &&& 31)))) ||| (Int32.toInt64 y3)) ||| (Int32.toInt64 (y4 <<< ((3 : Int32) &&& 31)))) ||| (Int32.toInt64 y5)) : Int64).toInt = ((m * 2097152 + n * 8192 + l + i * 8 + r : Nat) : Int) := by
  have a1 : ((Int32.toInt64 y1) <<< (Int32.toInt64 21 &&& 63)).toInt = (m : Int) * 2097152 := by
    rw [s_shlJ_21 (by rw [n_i2l, e1]; omega) (by rw [n_i2l, e1]; omega), n_i2l, e1]
  have a2 : (Int32.toInt64 (y2 <<< ((13 : Int32) &&& 31))).toInt = (n : Int) * 8192 := by
    rw [n_i2l, s_shl_13 (by rw [e2]; omega) (by rw [e2]; omega), e2]
  have a3 : (Int32.toInt64 y3).toInt = (l : Int) := by rw [n_i2l, e3]
  have a4 : (Int32.toInt64 (y4 <<< ((3 : Int32) &&& 31))).toInt = (i : Int) * 8 := by
    rw [n_i2l, s_shl_3 (by rw [e4]; omega) (by rw [e4]; omega), e4]
  have a5 : (Int32.toInt64 y5).toInt = (r : Int) := by rw [n_i2l, e5]
  have b1 : (((Int32.toInt64 y1) <<< (Int32.toInt64 21 &&& 63)) ||| (Int32.toInt64 (y2 <<< ((13 : Int32) &&& 31)))).toInt = (m : Int) * 2097152 + (n : Int) * 8192 := by
    rw [s_orJ 21 (by rw [a1]; omega) (by rw [a1]; show _ % (2097152 : Int) = 0; omega) (by rw [a2]; omega) (by rw [a2]; show _ < (2097152 : Int); omega), a1, a2]
  have b2 : ((((Int32.toInt64 y1) <<< (Int32.toInt64 21 &&& 63)) ||| (Int32.toInt64 (y2 <<< ((13 : Int32) &&& 31)))) ||| (Int32.toInt64 y3)).toInt = (m : Int) * 2097152 + (n : Int) * 8192 + l := by
    rw [s_orJ 13 (by rw [b1]; omega) (by rw [b1]; show _ % (8192 : Int) = 0; omega) (by rw [a3]; omega) (by rw [a3]; show _ < (8192 : Int); omega), b1, a3]
  have b3 : (((((Int32.toInt64 y1) <<< (Int32.toInt64 21 &&& 63)) ||| (Int32.toInt64 (y2 <<< ((13 : Int32) &&& 31)))) ||| (Int32.toInt64 y3)) ||| (Int32.toInt64 (y4 <<< ((3 : Int32) &&& 31)))).toInt = (m : Int) * 2097152 + (n : Int) * 8192 + l + (i : Int) * 8 := by
    rw [s_orJ 6 (by rw [b2]; omega) (by rw [b2]; show _ % (64 : Int) = 0; omega) (by rw [a4]; omega) (by rw [a4]; show _ < (64 : Int); omega), b2, a4]
  rw [s_orJ 3 (by rw [b3]; omega) (by rw [b3]; show _ % (8 : Int) = 0; omega) (by rw [a5]; omega) (by rw [a5]; show _ < (8 : Int); omega), b3, a5]
  omega
