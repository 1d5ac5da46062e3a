/-! the world at the law's start -/
def FLw : List Cond := flatC (Jvm.Cond.and given_1 narrow_1)
def stT (i : Nat) : Term := Term.string "InlandMailsModel" (ea_sI.getD i 0)
def wsT : Term := Term.static "InlandMails$Reader" "WORDS" "[J"
theorem fl_ex : ∀ i, i < 18 → FLw[([69, 79, 88, 99, 110, 122, 135, 150, 165, 179, 195, 212, 232, 254, 277, 299, 321, 345] : List Nat).getD i 0]? = some (Cond.exactly (stT i) "java/lang/String") := by decide +kernel
theorem fl_co : ∀ i, i < 18 → FLw[([70, 80, 89, 100, 111, 123, 136, 151, 166, 180, 196, 213, 233, 255, 278, 300, 322, 346] : List Nat).getD i 0]? = some (Cond.eq (.field (stT i) "java/lang/String" "coder" "B") (.int 0)) := by decide +kernel
theorem fl_ar : ∀ i, i < 18 → FLw[([71, 81, 90, 101, 112, 124, 137, 152, 167, 181, 197, 214, 234, 256, 279, 301, 323, 347] : List Nat).getD i 0]? = some (Cond.arrayOf (.field (stT i) "java/lang/String" "value" "[B") .byte) := by decide +kernel
theorem fl_le : ∀ i, i < 18 → FLw[([72, 82, 91, 102, 113, 125, 138, 153, 168, 182, 198, 215, 235, 257, 280, 302, 324, 348] : List Nat).getD i 0]? = some (Cond.eq (.length (.field (stT i) "java/lang/String" "value" "[B")) (.int (Int32.ofNat (ea_sL.getD i 0)))) := by decide +kernel
theorem fl_el : ∀ i, i < 18 → ∀ j, j < ea_sL.getD i 0 → FLw[(([[73, 74, 75, 76, 77, 78], [83, 84, 85, 86], [92, 93, 94, 95, 96], [103, 104, 105, 106], [114, 115, 116, 117], [126, 127, 128, 129], [139, 140, 141, 142, 143], [154, 155, 156, 157], [169, 170], [183, 184, 185], [199, 200, 201], [216, 217, 218, 219, 220], [236, 237, 238, 239, 240, 241], [258, 259, 260, 261, 262, 263], [281, 282, 283, 284], [303, 304, 305], [325, 326, 327, 328], [349, 350, 351, 352, 353]] : List (List Nat)).getD i []).getD j 0]? = some (Cond.eq (.elem (.field (stT i) "java/lang/String" "value" "[B") (.int (Int32.ofNat j))) (.int ((ea_sB.getD i []).getD j 0))) := by decide +kernel
theorem fl_ne : ∀ j, j < 18 → ∀ i, i < j → FLw[(([[0, 87, 97, 107, 118, 130, 144, 158, 171, 186, 202, 221, 242, 264, 285, 306, 329, 354], [0, 0, 98, 108, 119, 131, 145, 159, 172, 187, 203, 222, 243, 265, 286, 307, 330, 355], [0, 0, 0, 109, 120, 132, 146, 160, 173, 188, 204, 223, 244, 266, 287, 308, 331, 356], [0, 0, 0, 0, 121, 133, 147, 161, 174, 189, 205, 224, 245, 267, 288, 309, 332, 357], [0, 0, 0, 0, 0, 134, 148, 162, 175, 190, 206, 225, 246, 268, 289, 310, 333, 358], [0, 0, 0, 0, 0, 0, 149, 163, 176, 191, 207, 226, 247, 269, 290, 311, 334, 359], [0, 0, 0, 0, 0, 0, 0, 164, 177, 192, 208, 227, 248, 270, 291, 312, 335, 360], [0, 0, 0, 0, 0, 0, 0, 0, 178, 193, 209, 228, 249, 271, 292, 313, 336, 361], [0, 0, 0, 0, 0, 0, 0, 0, 0, 194, 210, 229, 250, 272, 293, 314, 337, 362], [0, 0, 0, 0, 0, 0, 0, 0, 0, 0, 211, 230, 251, 273, 294, 315, 338, 363], [0, 0, 0, 0, 0, 0, 0, 0, 0, 0, 0, 231, 252, 274, 295, 316, 339, 364], [0, 0, 0, 0, 0, 0, 0, 0, 0, 0, 0, 0, 253, 275, 296, 317, 340, 365], [0, 0, 0, 0, 0, 0, 0, 0, 0, 0, 0, 0, 0, 276, 297, 318, 341, 366], [0, 0, 0, 0, 0, 0, 0, 0, 0, 0, 0, 0, 0, 0, 298, 319, 342, 367], [0, 0, 0, 0, 0, 0, 0, 0, 0, 0, 0, 0, 0, 0, 0, 320, 343, 368], [0, 0, 0, 0, 0, 0, 0, 0, 0, 0, 0, 0, 0, 0, 0, 0, 344, 369], [0, 0, 0, 0, 0, 0, 0, 0, 0, 0, 0, 0, 0, 0, 0, 0, 0, 370], [0, 0, 0, 0, 0, 0, 0, 0, 0, 0, 0, 0, 0, 0, 0, 0, 0, 0]] : List (List Nat)).getD i []).getD j 0]? = some (Cond.not (Cond.eq (stT i) (stT j))) := by decide +kernel
theorem fl_wd : ∀ j, j < 18 → FLw[([7, 8, 9, 10, 11, 12, 13, 14, 15, 16, 17, 18, 19, 20, 21, 22, 23, 24] : List Nat).getD j 0]? = some (Cond.eq (.elem wsT (.int (Int32.ofNat j))) (.long (ea_wd.getD j 0))) := by decide +kernel
theorem fl_sr : ∀ i, i < 18 → tables_1_8[([100, 153, 154, 155, 156, 157, 158, 159, 160, 161, 162, 163, 164, 165, 166, 167, 168, 169] : List Nat).getD i 0]? = some (Cond.stringRef "InlandMailsModel" (ea_sI.getD i 0) (ea_sT.getD i "")) := by decide +kernel
theorem sL_lt : ∀ i, i < 18 → ea_sL.getD i 0 < 2147483648 := by decide +kernel
theorem fl_ws : FLw[5]? = some (Cond.arrayOf wsT .long) := by decide +kernel
theorem fl_wl : FLw[6]? = some (Cond.eq (.length wsT) (.int (Int32.ofNat 18))) := by decide +kernel
theorem fl_cs : FLw[25]? = some (Cond.eq (.static "java/lang/String" "COMPACT_STRINGS" "Z") (.int 1)) := by decide +kernel
theorem fl_si : FLw[26]? = some (Cond.isRef (.static "jdk/internal/util/Preconditions" "SIOOBE_FORMATTER" "Ljava/util/function/BiFunction;")) := by decide +kernel
theorem tw_ws : Cond.laysStatic "InlandMails$Reader" "WORDS" "[J" ∈ lw_tbl := et_4 (List.mem_of_getElem? (i := 135) (by decide +kernel))
theorem tw_wi : Cond.initialized "InlandMails$Reader" ∈ lw_tbl := et_1 (List.mem_of_getElem? (i := 10) (by decide +kernel))
theorem tw_cs : Cond.laysStatic "java/lang/String" "COMPACT_STRINGS" "Z" ∈ lw_tbl := et_8 (List.mem_of_getElem? (i := 114) (by decide +kernel))
theorem tw_ci : Cond.initialized "java/lang/String" ∈ lw_tbl := et_1 (List.mem_of_getElem? (i := 17) (by decide +kernel))
theorem tw_si : Cond.laysStatic "jdk/internal/util/Preconditions" "SIOOBE_FORMATTER" "Ljava/util/function/BiFunction;" ∈ lw_tbl := et_8 (List.mem_of_getElem? (i := 130) (by decide +kernel))
theorem tw_sj : Cond.initialized "jdk/internal/util/Preconditions" ∈ lw_tbl := et_1 (List.mem_of_getElem? (i := 19) (by decide +kernel))
theorem ea_world {b : Nat} {s : State} {A : Nat → Prop} (hg : (Jvm.Cond.and given_1 narrow_1).before #[Value.ref b] s = true) (hts : ∀ w ∈ lw_tbl, w.before #[Value.ref b] s = true) (hA : ∀ a : Nat, a < s.heap.size → ¬ A a) : ∃ ro : Nat → Nat, ro 0 = b ∧ (∀ i : Nat, i < 18 → vk_R "InlandMailsModel" (ea_sI.getD i 0) (ea_sT.getD i "") (ro (1 + i)) s) ∧ vk_S 18 ea_sL ea_sB (fun i => ro (1 + i)) (fun i => ro (19 + i)) A s s.heap ∧ va_T .long (ro 37) 18 (fun j => .long (ea_wd.getD j 0)) A s s.heap ∧ va_Z "InlandMails$Reader" "WORDS" "[J" (.ref (ro 37)) A s s.heap ∧ va_Z "java/lang/String" "COMPACT_STRINGS" "Z" (.int 1) A s s.heap ∧ va_Zq "jdk/internal/util/Preconditions" "SIOOBE_FORMATTER" "Ljava/util/function/BiFunction;" A s s.heap := by
  have hs : ∀ c ∈ FLw, c.before #[Value.ref b] s = true := flat_of_before _ hg
  obtain ⟨adK, adV, S1, S2⟩ := vk_Sof (args := #[Value.ref b]) (s := s) (N := 18) (tm := stT) (len := ea_sL) (byt := ea_sB) (A := A) (fun i hi => sL_lt i hi) (fun i hi => hs _ (List.mem_of_getElem? (fl_ex i hi))) (fun i hi => hs _ (List.mem_of_getElem? (fl_co i hi))) (fun i hi => hs _ (List.mem_of_getElem? (fl_ar i hi))) (fun i hi => hs _ (List.mem_of_getElem? (fl_le i hi))) (fun i hi j hj => hs _ (List.mem_of_getElem? (fl_el i hi j hj))) (fun i j hi hj hij => by
    rcases Nat.lt_or_ge i j with h | h
    · exact Or.inl (hs _ (List.mem_of_getElem? (fl_ne j hj i h)))
    · exact Or.inr (hs _ (List.mem_of_getElem? (fl_ne i hi j (by omega))))) hA
  obtain ⟨t, ht, hT⟩ := va_Tof (args := #[Value.ref b]) (s := s) (tm := wsT) (ty := .long) (N := 18) (f := fun j => .long (ea_wd.getD j 0)) (A := A) (by decide) (hs _ (List.mem_of_getElem? fl_ws)) (va_eqt (hs _ (List.mem_of_getElem? fl_wl))) (fun j hj => va_eqtl (hs _ (List.mem_of_getElem? (fl_wd j hj)))) hA
  have k1 : ∀ i, i < 18 → (fun i => if i = 0 then b else if i < 19 then adK (i - 1) else if i < 37 then adV (i - 19) else t) (1 + i) = adK i := fun i hi => by
    show (if 1 + i = 0 then b else if 1 + i < 19 then adK (1 + i - 1) else if 1 + i < 37 then adV (1 + i - 19) else t) = adK i
    rw [if_neg (by omega), if_pos (by omega), show 1 + i - 1 = i by omega]
  have k2 : ∀ i, i < 18 → (fun i => if i = 0 then b else if i < 19 then adK (i - 1) else if i < 37 then adV (i - 19) else t) (19 + i) = adV i := fun i hi => by
    show (if 19 + i = 0 then b else if 19 + i < 19 then adK (19 + i - 1) else if 19 + i < 37 then adV (19 + i - 19) else t) = adV i
    rw [if_neg (by omega), if_neg (by omega), if_pos (by omega), show 19 + i - 19 = i by omega]
  refine ⟨fun i => if i = 0 then b else if i < 19 then adK (i - 1) else if i < 37 then adV (i - 19) else t, rfl, fun i hi => ?_, ⟨fun i hi => ?_, fun i j hi hj e => ?_⟩, hT, va_Zref (hts _ tw_ws) (hts _ tw_wi) ht hA, va_Zof (hts _ tw_cs) (hts _ tw_ci) (va_eqt (hs _ (List.mem_of_getElem? fl_cs))) hA, va_Zqof (hts _ tw_si) (hts _ tw_sj) (hs _ (List.mem_of_getElem? fl_si)) hA⟩
  · have r : vk_R "InlandMailsModel" (ea_sI.getD i 0) (ea_sT.getD i "") (adK i) s := vk_R.of (A := #[Value.ref b]) (hts _ (et_8 (List.mem_of_getElem? (fl_sr i hi)))) (S2 i hi)
    rw [← k1 i hi] at r
    exact r
  · have h1 := S1.1 i hi
    rw [← k1 i hi, ← k2 i hi] at h1
    exact h1
  · refine S1.2 i j hi hj ?_
    rw [← k1 i hi, ← k1 j hj]
    exact e
theorem ea_room {s : State} {pl : Platform} {r r' : Room} (h : s.hasRoom pl r = true) (h1 : r'.frames ≤ r.frames) (h2 : r'.cells ≤ r.cells) (h3 : r'.slots ≤ r.slots) (h4 : r'.locals ≤ r.locals) : s.hasRoom pl r' = true := by
  simp only [State.hasRoom, Bool.and_eq_true, decide_eq_true_eq] at h ⊢
  obtain ⟨⟨⟨⟨a1, a2, a3, a4, a5, a6⟩, a7⟩, a8⟩, a9⟩ := h
  exact ⟨⟨⟨⟨by omega, by omega, by omega, by omega, by omega, a6⟩, by omega⟩, by omega⟩, a9⟩
theorem ea_arrK {args : Array Value} {s : State} {ty : FieldType} (h : (Cond.arrayClass ty).before args s = true) : ∃ cA, ArrOfT s cA ty ∧ s.vm.findClass ("[" ++ ty.toString) = some cA := by
  obtain ⟨c, k, comp, h1, h2, h3⟩ := Cond.arrayClass_spec h
  exact ⟨c, fun n z => ⟨fun k h => (by cases h), k, h2, comp, h3⟩, h1⟩
theorem ea_arrO {args : Array Value} {s : State} {C : String} (h : (Cond.arrayOver (.object C)).before args s = true) : ∃ cA, ArrOfT s cA (.object C) ∧ va_RA s cA (.object C) := by
  obtain ⟨comp, c, k, h1, -, h2, h3, h4⟩ := Cond.arrayOver_spec h
  exact ⟨c, fun n z => ⟨fun k h => (by cases h), k, h2, comp, h3⟩, k, comp, h2, h3, h1, h4⟩
theorem ea_known {args : Array Value} {s : State} (hts : ∀ w ∈ ea_tbl, w.before args s = true) {ci : Nat} {C : String} {T : u_T} {N : Nat} (hc : ea_Cls ci C T N) (hi : Cond.instantiable C N ∈ ea_tbl) : ∃ x : ClassId × (Nat → Nat), ∀ q : vw_C, ea_cl[ci]? = some q → u_Kn s q.1 q.2.1 q.2.2 x.1 x.2 := by
  obtain ⟨cC, iS, h⟩ := u_known hts hc.2.2.2.1 (hts _ hi)
  refine ⟨(cC, iS), fun q hq => ?_⟩
  have : q = (C, T, N) := Option.some.inj (hq.symm.trans hc.1)
  subst this
  exact h
theorem ea_classes {args : Array Value} {s : State} (hts : ∀ w ∈ ea_tbl, w.before args s = true) : ∀ c : Nat, ∃ x : ClassId × (Nat → Nat), ∀ q : vw_C, ea_cl[c]? = some q → u_Kn s q.1 q.2.1 q.2.2 x.1 x.2 := by
  intro c
  match c with
  | 0 => exact ea_known hts ec_0 ew_330
  | 1 => exact ea_known hts ec_1 ew_436
  | 2 => exact ea_known hts ec_2 ew_596
  | 3 => exact ea_known hts ec_3 ew_259
  | 4 => exact ea_known hts ec_4 ew_417
  | 5 => exact ea_known hts ec_5 ew_499
  | 6 => exact ea_known hts ec_6 ew_289
  | 7 => exact ea_known hts ec_7 ew_144
  | 8 => exact ea_known hts ec_8 ew_283
  | 9 => exact ea_known hts ec_9 ew_179
  | 10 => exact ea_known hts ec_10 ew_227
  | 11 => exact ea_known hts ec_11 nw_2
  | 12 => exact ea_known hts ec_12 nw_6
  | n + 13 => exact ⟨(0, fun _ => 0), fun q hq => by simp [ea_cl] at hq⟩
theorem ea_arrays {args : Array Value} {s : State} (hts : ∀ w ∈ ea_tbl, w.before args s = true) (hnw : ∀ x ∈ ea_nl, va_Nw x s) : ∃ κ : Nat → ClassId, ∀ (k : Nat) (q : ClassId × FieldType), (ea_tys κ)[k]? = some q → ArrOfT s q.1 q.2 ∧ va_RA s q.1 q.2 := by
  obtain ⟨c0, a0, b0⟩ := ea_arrK (hts _ ew_177)
  obtain ⟨c1, a1, b1⟩ := ea_arrK (hts _ ew_225)
  obtain ⟨c2, a2, b2⟩ := ea_arrK (hts _ ew_257)
  obtain ⟨c3, a3, b3⟩ := ea_arrO (C := "InlandMails$Letter") (hnw _ ew_415)
  obtain ⟨c4, a4, b4⟩ := ea_arrO (C := "InlandMails$Clock") (hnw _ ew_498)
  obtain ⟨c5, a5, b5⟩ := ea_arrO (C := "InlandMails$Act") (hnw _ ew_329)
  refine ⟨fun k => if k = 20 then c0 else if k = 21 then c1 else if k = 22 then c2 else if k = 23 then c3 else if k = 24 then c4 else c5, fun k q hq => ?_⟩
  match k with
  | 0 => cases hq; exact ⟨a0, b0⟩
  | 1 => cases hq; exact ⟨a1, b1⟩
  | 2 => cases hq; exact ⟨a2, b2⟩
  | 3 => cases hq; exact ⟨a3, b3⟩
  | 4 => cases hq; exact ⟨a4, b4⟩
  | 5 => cases hq; exact ⟨a5, b5⟩
  | n + 6 => simp [ea_tys] at hq
