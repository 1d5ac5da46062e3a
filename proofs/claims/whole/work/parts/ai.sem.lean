/-! trials: the reference keeps, leads on, puts back -/
def kpS (h k : ea_H) (l : Nat) : Prop := hI k 407 l = hI h 381 l ∧ hI k 408 l = hI h 382 l ∧ hI k 409 l = hI h 383 l ∧ hI k 410 l = hI h 384 l ∧ hI k 411 l = hI h 385 l ∧ hI k 412 l = hI h 376 l ∧ hI k 413 l = hI h 377 l ∧ hI k 415 l = hI h 387 l
def pB (k h2 : ea_H) (e l : Nat) : Prop := hI h2 381 l = (if l < e then hI k 407 l else hI k 381 l) ∧ hI h2 382 l = (if l < e then hI k 408 l else hI k 382 l) ∧ hI h2 383 l = (if l < e then hI k 409 l else hI k 383 l) ∧ hI h2 384 l = (if l < e then hI k 410 l else hI k 384 l) ∧ hI h2 385 l = (if l < e then hI k 411 l else hI k 385 l) ∧ hI h2 376 l = (if l < e then hI k 412 l else hI k 376 l) ∧ hI h2 377 l = (if l < e then hI k 413 l else hI k 377 l) ∧ hI h2 387 l = (if l < e then hI k 415 l else hI k 387 l)
section KEE
variable {T : Nat → Nat → Nat → Nat} {L : List Nat} {G X Y : Nat → Nat → Int} {m n p : Nat} {h k : ea_H}
theorem m_keeps (h63 : hI h 326 63 = m) (hm : m ≤ 120) (o1 : ∀ l, l < m → hI h 387 l = 0 ∨ hI h 387 l = 1) : sat (qX12_keeps h) fun y => fq [(407, 415)] [] h y.2 ∧ (∀ l, l < m → kpS h y.2 l) ∧ ∀ r, r < 70 → hI y.2 414 r = hI h 386 r := by
  have two : ∀ (j e : Nat) (x1 : Int32) (h2 : ea_H), e + j = 70 → x1.toInt = e → fq [(407, 415)] [] h h2 → (∀ l, l < m → kpS h h2 l) → (∀ r, r < e → hI h2 414 r = hI h 386 r) → sat (qX12_keeps_114 x1 h2) fun y => fq [(407, 415)] [] h y.2 ∧ (∀ l, l < m → kpS h y.2 l) ∧ ∀ r, r < 70 → hI y.2 414 r = hI h 386 r := by
    intro j
    induction j with
    | zero =>
      intro e x1 h2 he e1 f i1 i2
      refine uqX12_keeps_114 ?_
      unfold BX12_keeps_114
      have e70 : e = 70 := by omega
      rw [e70] at i2
      exact sat_pos (by rw [n_le, l_70, e1]; omega) (sat_ret ⟨f, i1, i2⟩)
    | succ j ih =>
      intro e x1 h2 he e1 f i1 i2
      have g := vp80 e1 (show e < 70 by omega)
      have ic : x1.toNatClampNeg = e := by
        rw [n_idx, e1]
        rfl
      refine uqX12_keeps_114 ?_
      unfold BX12_keeps_114
      rw [ic]
      refine sat_neg (by rw [n_le, l_70, e1]; omega) (sat_gd g (sat_gd g (sat_let fun H29 q29 => ?_)))
      have f29 : fq [(414, 414)] [] h2 H29 := q29 ▸ fq_wi rfl
      have v : hI h2 386 e = hI h 386 e := f.C 386 rfl rfl e
      refine ih (e + 1) (x1 + 1) H29 (by omega) (n_inc e1 (by omega)) (f.tr (f29.up rfl rfl)) (fun l hl => ?_) fun r hr => ?_
      · have := i1 l hl
        unfold kpS at this ⊢
        rw [f29.C 407 rfl rfl, f29.C 408 rfl rfl, f29.C 409 rfl rfl, f29.C 410 rfl rfl, f29.C 411 rfl rfl, f29.C 412 rfl rfl, f29.C 413 rfl rfl, f29.C 415 rfl rfl]
        exact this
      · rw [q29, hI_row]
        by_cases z : r = e
        · rw [if_pos z, z]
          exact v
        · rw [if_neg z]
          exact i2 r (by omega)
  have one : ∀ (j e : Nat) (x1 : Int32) (h2 : ea_H), e + j = m → x1.toInt = e → fq [(407, 413), (415, 415)] [] h h2 → (∀ l, l < e → kpS h h2 l) → sat (qX12_keeps_2 x1 h2) fun y => fq [(407, 415)] [] h y.2 ∧ (∀ l, l < m → kpS h y.2 l) ∧ ∀ r, r < 70 → hI y.2 414 r = hI h 386 r := by
    intro j
    induction j with
    | zero =>
      intro e x1 h2 he e1 f i1
      have em : e = m := by omega
      rw [em] at i1
      refine uqX12_keeps_2 ?_
      unfold BX12_keeps_2
      refine sat_pos (by rw [n_le, hI_eq, f.C 326 rfl rfl, h63, e1]; omega) (two 70 0 0 h2 (by omega) rfl (f.up rfl rfl) i1 fun r hr => absurd hr (Nat.not_lt_zero r))
    | succ j ih =>
      intro e x1 h2 he e1 f i1
      have g := vp80 e1 (show e < 120 by omega)
      have ic : x1.toNatClampNeg = e := by
        rw [n_idx, e1]
        rfl
      refine uqX12_keeps_2 ?_
      unfold BX12_keeps_2
      rw [ic]
      refine sat_neg (by rw [n_le, hI_eq, f.C 326 rfl rfl, h63, e1]; omega) ?_
      refine sat_gd g (sat_gd g (sat_let fun H3 q3 => ?_))
      have F3 : fq [(407, 413), (415, 415)] [] h2 H3 := (q3 ▸ fq_wi rfl : fq [(407, 413), (415, 415)] [] h2 H3)
      have v3 : (ea_i h2 381 e).toInt = hI h 381 e := by
        show hI h2 381 e = _
        rw [f.C 381 rfl rfl]
      refine sat_gd g (sat_gd g (sat_let fun H6 q6 => ?_))
      have F6 : fq [(407, 413), (415, 415)] [] h2 H6 := F3.tr (q6 ▸ fq_wi rfl : fq [(407, 413), (415, 415)] [] H3 H6)
      have v6 : (ea_i H3 382 e).toInt = hI h 382 e := by
        show hI H3 382 e = _
        rw [F3.C 382 rfl rfl, f.C 382 rfl rfl]
      refine sat_gd g (sat_gd g (sat_let fun H9 q9 => ?_))
      have F9 : fq [(407, 413), (415, 415)] [] h2 H9 := F6.tr (q9 ▸ fq_wi rfl : fq [(407, 413), (415, 415)] [] H6 H9)
      have v9 : (ea_i H6 383 e).toInt = hI h 383 e := by
        show hI H6 383 e = _
        rw [F6.C 383 rfl rfl, f.C 383 rfl rfl]
      refine sat_gd g (sat_gd g (sat_let fun H12 q12 => ?_))
      have F12 : fq [(407, 413), (415, 415)] [] h2 H12 := F9.tr (q12 ▸ fq_wi rfl : fq [(407, 413), (415, 415)] [] H9 H12)
      have v12 : (ea_i H9 384 e).toInt = hI h 384 e := by
        show hI H9 384 e = _
        rw [F9.C 384 rfl rfl, f.C 384 rfl rfl]
      refine sat_gd g (sat_gd g (sat_let fun H15 q15 => ?_))
      have F15 : fq [(407, 413), (415, 415)] [] h2 H15 := F12.tr (q15 ▸ fq_wi rfl : fq [(407, 413), (415, 415)] [] H12 H15)
      have v15 : (ea_i H12 385 e).toInt = hI h 385 e := by
        show hI H12 385 e = _
        rw [F12.C 385 rfl rfl, f.C 385 rfl rfl]
      refine sat_gd g (sat_gd g (sat_let fun H18 q18 => ?_))
      have F18 : fq [(407, 413), (415, 415)] [] h2 H18 := F15.tr (q18 ▸ fq_wi rfl : fq [(407, 413), (415, 415)] [] H15 H18)
      have v18 : (ea_i H15 376 e).toInt = hI h 376 e := by
        show hI H15 376 e = _
        rw [F15.C 376 rfl rfl, f.C 376 rfl rfl]
      refine sat_gd g (sat_gd g (sat_let fun H21 q21 => ?_))
      have F21 : fq [(407, 413), (415, 415)] [] h2 H21 := F18.tr (q21 ▸ fq_wi rfl : fq [(407, 413), (415, 415)] [] H18 H21)
      have v21 : (ea_i H18 377 e).toInt = hI h 377 e := by
        show hI H18 377 e = _
        rw [F18.C 377 rfl rfl, f.C 377 rfl rfl]
      refine sat_gd g (sat_gd g (sat_gd ?_ (sat_let fun H25 q25 => ?_)))
      · have e1 : hI H21 387 e = hI h 387 e := by rw [F21.C 387 rfl rfl, f.C 387 rfl rfl]
        rw [n_eq, n_eq]
        show hI H21 387 e = 0 ∨ hI H21 387 e = 1
        rw [e1]
        exact o1 e (by omega)
      have F25 : fq [(407, 413), (415, 415)] [] h2 H25 := F21.tr (q25 ▸ fq_wi rfl : fq [(407, 413), (415, 415)] [] H21 H25)
      have v25 : (ea_i H21 387 e).toInt = hI h 387 e := by
        show hI H21 387 e = _
        rw [F21.C 387 rfl rfl, f.C 387 rfl rfl]
      have r407 : ∀ l, hI H25 407 l = if l = e then hI h 381 e else hI h2 407 l := fun l => by rw [q25, hI_ne (by decide), q21, hI_ne (by decide), q18, hI_ne (by decide), q15, hI_ne (by decide), q12, hI_ne (by decide), q9, hI_ne (by decide), q6, hI_ne (by decide), q3, hI_row, v3]
      have r408 : ∀ l, hI H25 408 l = if l = e then hI h 382 e else hI h2 408 l := fun l => by rw [q25, hI_ne (by decide), q21, hI_ne (by decide), q18, hI_ne (by decide), q15, hI_ne (by decide), q12, hI_ne (by decide), q9, hI_ne (by decide), q6, hI_row, v6, q3, hI_ne (by decide)]
      have r409 : ∀ l, hI H25 409 l = if l = e then hI h 383 e else hI h2 409 l := fun l => by rw [q25, hI_ne (by decide), q21, hI_ne (by decide), q18, hI_ne (by decide), q15, hI_ne (by decide), q12, hI_ne (by decide), q9, hI_row, v9, q6, hI_ne (by decide), q3, hI_ne (by decide)]
      have r410 : ∀ l, hI H25 410 l = if l = e then hI h 384 e else hI h2 410 l := fun l => by rw [q25, hI_ne (by decide), q21, hI_ne (by decide), q18, hI_ne (by decide), q15, hI_ne (by decide), q12, hI_row, v12, q9, hI_ne (by decide), q6, hI_ne (by decide), q3, hI_ne (by decide)]
      have r411 : ∀ l, hI H25 411 l = if l = e then hI h 385 e else hI h2 411 l := fun l => by rw [q25, hI_ne (by decide), q21, hI_ne (by decide), q18, hI_ne (by decide), q15, hI_row, v15, q12, hI_ne (by decide), q9, hI_ne (by decide), q6, hI_ne (by decide), q3, hI_ne (by decide)]
      have r412 : ∀ l, hI H25 412 l = if l = e then hI h 376 e else hI h2 412 l := fun l => by rw [q25, hI_ne (by decide), q21, hI_ne (by decide), q18, hI_row, v18, q15, hI_ne (by decide), q12, hI_ne (by decide), q9, hI_ne (by decide), q6, hI_ne (by decide), q3, hI_ne (by decide)]
      have r413 : ∀ l, hI H25 413 l = if l = e then hI h 377 e else hI h2 413 l := fun l => by rw [q25, hI_ne (by decide), q21, hI_row, v21, q18, hI_ne (by decide), q15, hI_ne (by decide), q12, hI_ne (by decide), q9, hI_ne (by decide), q6, hI_ne (by decide), q3, hI_ne (by decide)]
      have r415 : ∀ l, hI H25 415 l = if l = e then hI h 387 e else hI h2 415 l := fun l => by rw [q25, hI_row, v25, q21, hI_ne (by decide), q18, hI_ne (by decide), q15, hI_ne (by decide), q12, hI_ne (by decide), q9, hI_ne (by decide), q6, hI_ne (by decide), q3, hI_ne (by decide)]
      refine ih (e + 1) (x1 + 1) H25 (by omega) (n_inc e1 (by omega)) (f.tr F25) fun l hl => ?_
      unfold kpS
      rw [r407, r408, r409, r410, r411, r412, r413, r415]
      by_cases z : l = e
      · rw [if_pos z, if_pos z, if_pos z, if_pos z, if_pos z, if_pos z, if_pos z, if_pos z, z]
        exact ⟨rfl, rfl, rfl, rfl, rfl, rfl, rfl, rfl⟩
      · rw [if_neg z, if_neg z, if_neg z, if_neg z, if_neg z, if_neg z, if_neg z, if_neg z]
        exact i1 l (by omega)
  unfold qX12_keeps
  refine uqX12_keeps_0 ?_
  unfold BX12_keeps_0
  exact one m 0 0 h (by omega) rfl (fq_rfl _ _ _) fun l hl => absurd hl (Nat.not_lt_zero l)
theorem m_putsBack (h63 : hI k 326 63 = m) (hm : m ≤ 120) (o1 : ∀ l, l < m → hI k 415 l = 0 ∨ hI k 415 l = 1) : sat (qX12_putsBack k) fun y => fq [(376, 377), (381, 387)] [] k y.2 ∧ (∀ l, pB k y.2 m l) ∧ ∀ r, hI y.2 386 r = if r < 70 then hI k 414 r else hI k 386 r := by
  have two : ∀ (j e : Nat) (x1 : Int32) (h2 : ea_H), e + j = 70 → x1.toInt = e → fq [(376, 377), (381, 387)] [] k h2 → (∀ l, pB k h2 m l) → (∀ r, hI h2 386 r = if r < e then hI k 414 r else hI k 386 r) → sat (qX12_putsBack_114 x1 h2) fun y => fq [(376, 377), (381, 387)] [] k y.2 ∧ (∀ l, pB k y.2 m l) ∧ ∀ r, hI y.2 386 r = if r < 70 then hI k 414 r else hI k 386 r := by
    intro j
    induction j with
    | zero =>
      intro e x1 h2 he e1 f i1 i2
      refine uqX12_putsBack_114 ?_
      unfold BX12_putsBack_114
      have e70 : e = 70 := by omega
      rw [e70] at i2
      exact sat_pos (by rw [n_le, l_70, e1]; omega) (sat_ret ⟨f, i1, i2⟩)
    | succ j ih =>
      intro e x1 h2 he e1 f i1 i2
      have g := vp80 e1 (show e < 70 by omega)
      have ic : x1.toNatClampNeg = e := by
        rw [n_idx, e1]
        rfl
      refine uqX12_putsBack_114 ?_
      unfold BX12_putsBack_114
      rw [ic]
      refine sat_neg (by rw [n_le, l_70, e1]; omega) (sat_gd g (sat_gd g (sat_let fun H29 q29 => ?_)))
      have f29 : fq [(386, 386)] [] h2 H29 := q29 ▸ fq_wi rfl
      have v : hI h2 414 e = hI k 414 e := f.C 414 rfl rfl e
      refine ih (e + 1) (x1 + 1) H29 (by omega) (n_inc e1 (by omega)) (f.tr (f29.up rfl rfl)) (fun l => ?_) fun r => ?_
      · have := i1 l
        unfold pB at this ⊢
        rw [f29.C 381 rfl rfl, f29.C 382 rfl rfl, f29.C 383 rfl rfl, f29.C 384 rfl rfl, f29.C 385 rfl rfl, f29.C 376 rfl rfl, f29.C 377 rfl rfl, f29.C 387 rfl rfl]
        exact this
      · rw [q29, hI_row]
        by_cases z : r = e
        · rw [if_pos z, z, if_pos (by omega)]
          exact v
        · rw [if_neg z, i2 r]
          by_cases w : r < e
          · rw [if_pos w, if_pos (by omega)]
          · rw [if_neg w, if_neg (by omega)]
  have one : ∀ (j e : Nat) (x1 : Int32) (h2 : ea_H), e + j = m → x1.toInt = e → fq [(376, 377), (381, 385), (387, 387)] [] k h2 → (∀ l, pB k h2 e l) → sat (qX12_putsBack_2 x1 h2) fun y => fq [(376, 377), (381, 387)] [] k y.2 ∧ (∀ l, pB k y.2 m l) ∧ ∀ r, hI y.2 386 r = if r < 70 then hI k 414 r else hI k 386 r := by
    intro j
    induction j with
    | zero =>
      intro e x1 h2 he e1 f i1
      have em : e = m := by omega
      rw [em] at i1
      refine uqX12_putsBack_2 ?_
      unfold BX12_putsBack_2
      refine sat_pos (by rw [n_le, hI_eq, f.C 326 rfl rfl, h63, e1]; omega) (two 70 0 0 h2 (by omega) rfl (f.up rfl rfl) i1 fun r => (f.C 386 rfl rfl r).trans (if_neg (Nat.not_lt_zero r)).symm)
    | succ j ih =>
      intro e x1 h2 he e1 f i1
      have g := vp80 e1 (show e < 120 by omega)
      have ic : x1.toNatClampNeg = e := by
        rw [n_idx, e1]
        rfl
      refine uqX12_putsBack_2 ?_
      unfold BX12_putsBack_2
      rw [ic]
      refine sat_neg (by rw [n_le, hI_eq, f.C 326 rfl rfl, h63, e1]; omega) ?_
      refine sat_gd g (sat_gd g (sat_let fun H3 q3 => ?_))
      have F3 : fq [(376, 377), (381, 385), (387, 387)] [] h2 H3 := (q3 ▸ fq_wi rfl : fq [(376, 377), (381, 385), (387, 387)] [] h2 H3)
      have v3 : (ea_i h2 407 e).toInt = hI k 407 e := by
        show hI h2 407 e = _
        rw [f.C 407 rfl rfl]
      refine sat_gd g (sat_gd g (sat_let fun H6 q6 => ?_))
      have F6 : fq [(376, 377), (381, 385), (387, 387)] [] h2 H6 := F3.tr (q6 ▸ fq_wi rfl : fq [(376, 377), (381, 385), (387, 387)] [] H3 H6)
      have v6 : (ea_i H3 408 e).toInt = hI k 408 e := by
        show hI H3 408 e = _
        rw [F3.C 408 rfl rfl, f.C 408 rfl rfl]
      refine sat_gd g (sat_gd g (sat_let fun H9 q9 => ?_))
      have F9 : fq [(376, 377), (381, 385), (387, 387)] [] h2 H9 := F6.tr (q9 ▸ fq_wi rfl : fq [(376, 377), (381, 385), (387, 387)] [] H6 H9)
      have v9 : (ea_i H6 409 e).toInt = hI k 409 e := by
        show hI H6 409 e = _
        rw [F6.C 409 rfl rfl, f.C 409 rfl rfl]
      refine sat_gd g (sat_gd g (sat_let fun H12 q12 => ?_))
      have F12 : fq [(376, 377), (381, 385), (387, 387)] [] h2 H12 := F9.tr (q12 ▸ fq_wi rfl : fq [(376, 377), (381, 385), (387, 387)] [] H9 H12)
      have v12 : (ea_i H9 410 e).toInt = hI k 410 e := by
        show hI H9 410 e = _
        rw [F9.C 410 rfl rfl, f.C 410 rfl rfl]
      refine sat_gd g (sat_gd g (sat_let fun H15 q15 => ?_))
      have F15 : fq [(376, 377), (381, 385), (387, 387)] [] h2 H15 := F12.tr (q15 ▸ fq_wi rfl : fq [(376, 377), (381, 385), (387, 387)] [] H12 H15)
      have v15 : (ea_i H12 411 e).toInt = hI k 411 e := by
        show hI H12 411 e = _
        rw [F12.C 411 rfl rfl, f.C 411 rfl rfl]
      refine sat_gd g (sat_gd g (sat_let fun H18 q18 => ?_))
      have F18 : fq [(376, 377), (381, 385), (387, 387)] [] h2 H18 := F15.tr (q18 ▸ fq_wi rfl : fq [(376, 377), (381, 385), (387, 387)] [] H15 H18)
      have v18 : (ea_i H15 412 e).toInt = hI k 412 e := by
        show hI H15 412 e = _
        rw [F15.C 412 rfl rfl, f.C 412 rfl rfl]
      refine sat_gd g (sat_gd g (sat_let fun H21 q21 => ?_))
      have F21 : fq [(376, 377), (381, 385), (387, 387)] [] h2 H21 := F18.tr (q21 ▸ fq_wi rfl : fq [(376, 377), (381, 385), (387, 387)] [] H18 H21)
      have v21 : (ea_i H18 413 e).toInt = hI k 413 e := by
        show hI H18 413 e = _
        rw [F18.C 413 rfl rfl, f.C 413 rfl rfl]
      refine sat_gd g (sat_gd g (sat_gd ?_ (sat_let fun H25 q25 => ?_)))
      · have e1 : hI H21 415 e = hI k 415 e := by rw [F21.C 415 rfl rfl, f.C 415 rfl rfl]
        rw [n_eq, n_eq]
        show hI H21 415 e = 0 ∨ hI H21 415 e = 1
        rw [e1]
        exact o1 e (by omega)
      have F25 : fq [(376, 377), (381, 385), (387, 387)] [] h2 H25 := F21.tr (q25 ▸ fq_wi rfl : fq [(376, 377), (381, 385), (387, 387)] [] H21 H25)
      have v25 : (ea_i H21 415 e).toInt = hI k 415 e := by
        show hI H21 415 e = _
        rw [F21.C 415 rfl rfl, f.C 415 rfl rfl]
      have r381 : ∀ l, hI H25 381 l = if l = e then hI k 407 e else hI h2 381 l := fun l => by rw [q25, hI_ne (by decide), q21, hI_ne (by decide), q18, hI_ne (by decide), q15, hI_ne (by decide), q12, hI_ne (by decide), q9, hI_ne (by decide), q6, hI_ne (by decide), q3, hI_row, v3]
      have r382 : ∀ l, hI H25 382 l = if l = e then hI k 408 e else hI h2 382 l := fun l => by rw [q25, hI_ne (by decide), q21, hI_ne (by decide), q18, hI_ne (by decide), q15, hI_ne (by decide), q12, hI_ne (by decide), q9, hI_ne (by decide), q6, hI_row, v6, q3, hI_ne (by decide)]
      have r383 : ∀ l, hI H25 383 l = if l = e then hI k 409 e else hI h2 383 l := fun l => by rw [q25, hI_ne (by decide), q21, hI_ne (by decide), q18, hI_ne (by decide), q15, hI_ne (by decide), q12, hI_ne (by decide), q9, hI_row, v9, q6, hI_ne (by decide), q3, hI_ne (by decide)]
      have r384 : ∀ l, hI H25 384 l = if l = e then hI k 410 e else hI h2 384 l := fun l => by rw [q25, hI_ne (by decide), q21, hI_ne (by decide), q18, hI_ne (by decide), q15, hI_ne (by decide), q12, hI_row, v12, q9, hI_ne (by decide), q6, hI_ne (by decide), q3, hI_ne (by decide)]
      have r385 : ∀ l, hI H25 385 l = if l = e then hI k 411 e else hI h2 385 l := fun l => by rw [q25, hI_ne (by decide), q21, hI_ne (by decide), q18, hI_ne (by decide), q15, hI_row, v15, q12, hI_ne (by decide), q9, hI_ne (by decide), q6, hI_ne (by decide), q3, hI_ne (by decide)]
      have r376 : ∀ l, hI H25 376 l = if l = e then hI k 412 e else hI h2 376 l := fun l => by rw [q25, hI_ne (by decide), q21, hI_ne (by decide), q18, hI_row, v18, q15, hI_ne (by decide), q12, hI_ne (by decide), q9, hI_ne (by decide), q6, hI_ne (by decide), q3, hI_ne (by decide)]
      have r377 : ∀ l, hI H25 377 l = if l = e then hI k 413 e else hI h2 377 l := fun l => by rw [q25, hI_ne (by decide), q21, hI_row, v21, q18, hI_ne (by decide), q15, hI_ne (by decide), q12, hI_ne (by decide), q9, hI_ne (by decide), q6, hI_ne (by decide), q3, hI_ne (by decide)]
      have r387 : ∀ l, hI H25 387 l = if l = e then hI k 415 e else hI h2 387 l := fun l => by rw [q25, hI_row, v25, q21, hI_ne (by decide), q18, hI_ne (by decide), q15, hI_ne (by decide), q12, hI_ne (by decide), q9, hI_ne (by decide), q6, hI_ne (by decide), q3, hI_ne (by decide)]
      refine ih (e + 1) (x1 + 1) H25 (by omega) (n_inc e1 (by omega)) (f.tr F25) fun l => ?_
      have il := i1 l
      unfold pB at il ⊢
      rw [r381, r382, r383, r384, r385, r376, r377, r387]
      by_cases z : l = e
      · rw [if_pos z, if_pos z, if_pos z, if_pos z, if_pos z, if_pos z, if_pos z, if_pos z, z, if_pos (Nat.lt_succ_self e), if_pos (Nat.lt_succ_self e), if_pos (Nat.lt_succ_self e), if_pos (Nat.lt_succ_self e), if_pos (Nat.lt_succ_self e), if_pos (Nat.lt_succ_self e), if_pos (Nat.lt_succ_self e), if_pos (Nat.lt_succ_self e)]
        exact ⟨rfl, rfl, rfl, rfl, rfl, rfl, rfl, rfl⟩
      · rw [if_neg z, if_neg z, if_neg z, if_neg z, if_neg z, if_neg z, if_neg z, if_neg z]
        by_cases w : l < e
        · have w1 : l < e + 1 := by omega
          rw [if_pos w1, if_pos w1, if_pos w1, if_pos w1, if_pos w1, if_pos w1, if_pos w1, if_pos w1]
          rw [if_pos w, if_pos w, if_pos w, if_pos w, if_pos w, if_pos w, if_pos w, if_pos w] at il
          exact il
        · have w1 : ¬ l < e + 1 := by omega
          rw [if_neg w1, if_neg w1, if_neg w1, if_neg w1, if_neg w1, if_neg w1, if_neg w1, if_neg w1]
          rw [if_neg w, if_neg w, if_neg w, if_neg w, if_neg w, if_neg w, if_neg w, if_neg w] at il
          exact il
  unfold qX12_putsBack
  refine uqX12_putsBack_0 ?_
  unfold BX12_putsBack_0
  exact one m 0 0 k (by omega) rfl (fq_rfl _ _ _) fun l => ⟨rfl, rfl, rfl, rfl, rfl, rfl, rfl, rfl⟩
end KEE
