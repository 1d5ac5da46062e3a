theorem c_minuteIn {x1 : Int32} {x : Nat} (e : x1.toInt = x) (h : ea_H) : (x1 >>> ((11 : Int32) &&& 31)).toInt = kMin x := by
  rw [s_shr_11, e]
  unfold kMin
  omega
