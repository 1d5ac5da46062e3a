/-! codes: four in a long -/
def cdI (y : Int64) (r : Nat) : Int32 := Int16.toInt32 (Int32.toInt16 (Int64.toInt32 (y >>> (Int32.toInt64 ((16 : Int32) * Int32.ofNat r) &&& 63))))
def cd (h : ea_H) (p : Nat) : Int32 := cdI (ea_j h 27 (p / 4)) (p % 4)
theorem v16 {r : Nat} (hr : r < 4) : ((16 : Int32) * Int32.ofNat r).toInt = ((16 * r : Nat) : Int) := by
  rw [n_mul, Int32.toInt_ofNat_of_lt (by omega), l_16, n_bm (by omega) (by omega)]
  omega
theorem cd_sh {y : Int64} {r : Nat} (hr : r < 4) : (y >>> (Int32.toInt64 ((16 : Int32) * Int32.ofNat r) &&& 63)).toBitVec = BitVec.sshiftRight y.toBitVec (16 * r) := by
  rw [Int64.toBitVec_shiftRight]
  show BitVec.sshiftRight y.toBitVec ((Int32.toInt64 ((16 : Int32) * Int32.ofNat r) &&& 63).toBitVec.smod 64).toNat = _
  rw [s_amtJ (v16 hr) (by omega)]
theorem cd_shl {y : Int64} {r : Nat} (hr : r < 4) : (y <<< (Int32.toInt64 ((16 : Int32) * Int32.ofNat r) &&& 63)).toBitVec = y.toBitVec <<< (16 * r) := by
  rw [Int64.toBitVec_shiftLeft]
  show y.toBitVec <<< ((Int32.toInt64 ((16 : Int32) * Int32.ofNat r) &&& 63).toBitVec.smod 64).toNat = _
  rw [s_amtJ (v16 hr) (by omega)]
theorem cd_bit {y : Int64} {r : Nat} (hr : r < 4) {i : Nat} (hi : i < 16) : (Int32.toInt16 (Int64.toInt32 (y >>> (Int32.toInt64 ((16 : Int32) * Int32.ofNat r) &&& 63)))).toBitVec.getLsbD i = y.toBitVec.getLsbD (16 * r + i) := by
  rw [Int32.toBitVec_toInt16, Int64.toBitVec_toInt32, BitVec.getLsbD_signExtend, BitVec.getLsbD_signExtend, cd_sh hr, BitVec.getLsbD_sshiftRight]
  simp [hi, show i < 32 by omega, show i < 64 by omega, show ¬ 64 ≤ i by omega, show 16 * r + i < 64 by omega]
theorem cdI_eq {y y' : Int64} {r r' : Nat} (hr : r < 4) (hr' : r' < 4) (e : ∀ i, i < 16 → y.toBitVec.getLsbD (16 * r + i) = y'.toBitVec.getLsbD (16 * r' + i)) : cdI y r = cdI y' r' := by
  have : Int32.toInt16 (Int64.toInt32 (y >>> (Int32.toInt64 ((16 : Int32) * Int32.ofNat r) &&& 63))) = Int32.toInt16 (Int64.toInt32 (y' >>> (Int32.toInt64 ((16 : Int32) * Int32.ofNat r') &&& 63))) := by
    rw [← Int16.toBitVec_inj]
    exact BitVec.eq_of_getLsbD_eq fun i hi => by rw [cd_bit hr hi, cd_bit hr' hi]; exact e i hi
  unfold cdI
  rw [this]
theorem cdI_of {y : Int64} {r : Nat} {x : Int32} (hr : r < 4) (h1 : -32768 ≤ x.toInt) (h2 : x.toInt < 32768) (e : ∀ i, i < 16 → y.toBitVec.getLsbD (16 * r + i) = x.toBitVec.getLsbD i) : cdI y r = x := by
  have : Int32.toInt16 (Int64.toInt32 (y >>> (Int32.toInt64 ((16 : Int32) * Int32.ofNat r) &&& 63))) = Int32.toInt16 x := by
    rw [← Int16.toBitVec_inj]
    refine BitVec.eq_of_getLsbD_eq fun i hi => ?_
    rw [cd_bit hr hi, e i hi, Int32.toBitVec_toInt16, BitVec.getLsbD_signExtend]
    simp [hi, show i < 32 by omega]
  unfold cdI
  rw [this, ← Int32.toInt_inj, Int16.toInt_toInt32, Int32.toInt_toInt16]
  exact Int.bmod_eq_of_le (by omega) (by omega)
theorem pt_mb : ∀ r, r < 4 → ∀ q, q < 64 → ((65535 : Int64).toBitVec <<< (16 * r)).getLsbD q = decide (16 * r ≤ q ∧ q < 16 * r + 16) := by decide +kernel
theorem pt_m1 : ∀ q, q < 64 → (-1 : Int64).toBitVec.getLsbD q = true := by decide +kernel
theorem pt_16 : ∀ q, q < 64 → (65535 : Int64).toBitVec.getLsbD q = decide (q < 16) := by decide +kernel
/-- the long with its r-th code put anew -/
def ptJ (w : Int64) (x : Int32) (r : Nat) : Int64 := (w &&& (((65535 : Int64) <<< (Int32.toInt64 ((16 : Int32) * Int32.ofNat r) &&& 63)) ^^^ ((-1) : Int64))) ||| (((Int32.toInt64 x) &&& (65535 : Int64)) <<< (Int32.toInt64 ((16 : Int32) * Int32.ofNat r) &&& 63))
theorem pt_bit {w : Int64} {x : Int32} {r q : Nat} (hr : r < 4) (hq : q < 64) : (ptJ w x r).toBitVec.getLsbD q = if 16 * r ≤ q ∧ q < 16 * r + 16 then x.toBitVec.getLsbD (q - 16 * r) else w.toBitVec.getLsbD q := by
  unfold ptJ
  rw [Int64.toBitVec_or, BitVec.getLsbD_or, Int64.toBitVec_and, BitVec.getLsbD_and, Int64.toBitVec_xor, BitVec.getLsbD_xor, cd_shl hr, pt_mb r hr q hq, pt_m1 q hq, cd_shl hr, BitVec.getLsbD_shiftLeft, Int64.toBitVec_and, BitVec.getLsbD_and, Int32.toBitVec_toInt64, BitVec.getLsbD_signExtend]
  by_cases c : 16 * r ≤ q ∧ q < 16 * r + 16
  · rw [if_pos c, pt_16 (q - 16 * r) (by omega)]
    simp [c, hq, show ¬ q < 16 * r by omega, show q - 16 * r < 64 by omega, show q - 16 * r < 32 by omega, show q - 16 * r < 16 by omega]
  · rw [if_neg c]
    by_cases d : q < 16 * r
    · simp [d, show ¬ 16 * r ≤ q by omega]
    · rw [pt_16 (q - 16 * r) (by omega)]
      simp [c, show ¬ q - 16 * r < 16 by omega]
theorem c_codeAt {x1 : Int32} {p : Nat} (e1 : x1.toInt = p) (hp : p < 3600) (h : ea_H) : qX6_codeAt x1 h = some (cd h p, h) := by
  have d4 : (x1 / (4 : Int32)).toInt = ((p / 4 : Nat) : Int) := by
    rw [n_div0 (m := 4) (by omega) l_4 (by decide), e1]
    rfl
  have r4 : x1 - x1 / (4 : Int32) * (4 : Int32) = Int32.ofNat (p % 4) := by
    refine i32_of ?_ (by omega)
    rw [n_rem0 (m := 4) (by omega) l_4 (by decide), e1]
    rfl
  have ic : (x1 / (4 : Int32)).toNatClampNeg = p / 4 := by
    rw [n_idx, d4]
    rfl
  unfold qX6_codeAt BX6_codeAt_0
  rw [if_neg (by rw [n_lt, e1, l_0]; omega), if_neg (by rw [n_le, e1, l_3600]; omega), gd_pos (vp80 d4 (by omega)), ic, r4]
  rfl
theorem c_put {x1 : Int32} {u : Nat} {h : ea_H} (hu : hI h 24 9 = u) (hu2 : u < 3600) (h1 : -32768 ≤ x1.toInt) (h2 : x1.toInt < 32768) : sat (qX6_put x1 h) fun y => fq [(27, 27)] [((24, 24), 9, 9)] h y.2 ∧ hI y.2 24 9 = ((u + 1 : Nat) : Int) ∧ cd y.2 u = x1 ∧ ∀ p, p ≠ u → cd y.2 p = cd h p := by
  have vu : (ea_i h 24 9).toInt = u := hu
  have d4 : (ea_i h 24 9 / (4 : Int32)).toInt = ((u / 4 : Nat) : Int) := by
    rw [n_div0 (m := 4) (by omega) l_4 (by decide), vu]
    rfl
  have r4 : ea_i h 24 9 - ea_i h 24 9 / (4 : Int32) * (4 : Int32) = Int32.ofNat (u % 4) := by
    refine i32_of ?_ (by omega)
    rw [n_rem0 (m := 4) (by omega) l_4 (by decide), vu]
    rfl
  have ic : (ea_i h 24 9 / (4 : Int32)).toNatClampNeg = u / 4 := by
    rw [n_idx, d4]
    rfl
  have g := vp80 d4 (show u / 4 < 900 by omega)
  unfold qX6_put BX6_put_0
  rw [r4, ic]
  refine sat_neg (by rw [n_le, vu, l_3600]; omega) (sat_sub (sat_gd g (sat_gd g (sat_let fun H4 q4 => sat_let fun H5 q5 => sat_ret ?_))))
  have q4 : H4 = ea_wj h 27 (u / 4) (ptJ (ea_j h 27 (u / 4)) x1 (u % 4)) := q4
  have f : fq [(27, 27)] [((24, 24), 9, 9)] h H5 := (q4 ▸ fq_wj rfl : fq [(27, 27)] [((24, 24), 9, 9)] h H4).tr (q5 ▸ fq_wf rfl)
  have hj : ∀ k, ea_j H5 27 k = if k = u / 4 then ptJ (ea_j h 27 (u / 4)) x1 (u % 4) else ea_j h 27 k := fun k => by
    have : ea_j H5 27 k = ea_j H4 27 k := by
      rw [q5]
      rfl
    rw [this, q4]
    show (if 27 = 27 ∧ k = u / 4 then _ else ea_j h 27 k) = _
    by_cases z : k = u / 4
    · rw [if_pos ⟨rfl, z⟩, if_pos z]
    · rw [if_neg (fun w => z w.2), if_neg z]
  refine ⟨f, ?_, ?_, fun p hp => ?_⟩
  · show hI H5 24 9 = _
    have : (ea_i H4 24 9).toInt = u := by
      rw [q4]
      exact hu
    rw [q5, hI_at, n_inc this (by omega)]
  · show cd H5 u = x1
    unfold cd
    rw [hj, if_pos rfl]
    refine cdI_of (by omega) h1 h2 fun i hi => ?_
    rw [pt_bit (by omega) (by omega), if_pos (by omega)]
    congr 1
    omega
  · show cd H5 p = cd h p
    unfold cd
    rw [hj]
    by_cases z : p / 4 = u / 4
    · rw [if_pos z, z]
      refine cdI_eq (by omega) (by omega) fun i hi => ?_
      rw [pt_bit (by omega) (by omega), if_neg (by omega)]
    · rw [if_neg z]
