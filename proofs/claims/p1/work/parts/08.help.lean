/-! the engine, 6: small helps; the classes -/
section EH
variable {M : ea_M} {d : Nat} {h0 hE h : ea_H} {rv : Option ea_V} {pc : Nat} {lv : List (Nat × ea_V)} {st : List ea_V}
theorem ea_deref0  {r : Option Nat} {a : Nat} (e : r = some a) (k : ea_W M d h0 rv hE pc lv (vR (some a) :: st) h) : ea_W M d h0 rv hE pc lv (vR r :: st) h := by subst e; exact k
theorem ea_deref1 {v0 : ea_V} {r : Option Nat} {a : Nat} (e : r = some a) (k : ea_W M d h0 rv hE pc lv (v0 :: vR (some a) :: st) h) : ea_W M d h0 rv hE pc lv (v0 :: vR r :: st) h := by subst e; exact k
theorem ea_deref2 {v0 : ea_V} {v1 : ea_V} {r : Option Nat} {a : Nat} (e : r = some a) (k : ea_W M d h0 rv hE pc lv (v0 :: v1 :: vR (some a) :: st) h) : ea_W M d h0 rv hE pc lv (v0 :: v1 :: vR r :: st) h := by subst e; exact k
theorem ea_deref3 {v0 : ea_V} {v1 : ea_V} {v2 : ea_V} {r : Option Nat} {a : Nat} (e : r = some a) (k : ea_W M d h0 rv hE pc lv (v0 :: v1 :: v2 :: vR (some a) :: st) h) : ea_W M d h0 rv hE pc lv (v0 :: v1 :: v2 :: vR r :: st) h := by subst e; exact k
theorem ea_deref4 {v0 : ea_V} {v1 : ea_V} {v2 : ea_V} {v3 : ea_V} {r : Option Nat} {a : Nat} (e : r = some a) (k : ea_W M d h0 rv hE pc lv (v0 :: v1 :: v2 :: v3 :: vR (some a) :: st) h) : ea_W M d h0 rv hE pc lv (v0 :: v1 :: v2 :: v3 :: vR r :: st) h := by subst e; exact k
theorem ea_deref5 {v0 : ea_V} {v1 : ea_V} {v2 : ea_V} {v3 : ea_V} {v4 : ea_V} {r : Option Nat} {a : Nat} (e : r = some a) (k : ea_W M d h0 rv hE pc lv (v0 :: v1 :: v2 :: v3 :: v4 :: vR (some a) :: st) h) : ea_W M d h0 rv hE pc lv (v0 :: v1 :: v2 :: v3 :: v4 :: vR r :: st) h := by subst e; exact k
theorem ea_deref6 {v0 : ea_V} {v1 : ea_V} {v2 : ea_V} {v3 : ea_V} {v4 : ea_V} {v5 : ea_V} {r : Option Nat} {a : Nat} (e : r = some a) (k : ea_W M d h0 rv hE pc lv (v0 :: v1 :: v2 :: v3 :: v4 :: v5 :: vR (some a) :: st) h) : ea_W M d h0 rv hE pc lv (v0 :: v1 :: v2 :: v3 :: v4 :: v5 :: vR r :: st) h := by subst e; exact k
theorem ea_deref7 {v0 : ea_V} {v1 : ea_V} {v2 : ea_V} {v3 : ea_V} {v4 : ea_V} {v5 : ea_V} {v6 : ea_V} {r : Option Nat} {a : Nat} (e : r = some a) (k : ea_W M d h0 rv hE pc lv (v0 :: v1 :: v2 :: v3 :: v4 :: v5 :: v6 :: vR (some a) :: st) h) : ea_W M d h0 rv hE pc lv (v0 :: v1 :: v2 :: v3 :: v4 :: v5 :: v6 :: vR r :: st) h := by subst e; exact k
theorem ea_nm {h1 h2 : ea_H} (e : h1 = h2) (k : ea_W M d h0 rv hE pc lv st h1) : ea_W M d h0 rv hE pc lv st h2 := by subst e; exact k
theorem ea_bn {x : Int32} (h : x = 0 ∨ x = 1) : narrow .boolean (.int x) = .int x := by rcases h with rfl | rfl <;> rfl
theorem ea_bf {x : Int32} (h : x = 0 ∨ x = 1) : fits .boolean (.int x) = true := by rcases h with rfl | rfl <;> rfl
theorem ea_subws (ws : List Cond) (ps : List Nat) (hp : ws = ps.filterMap (fun i => lw_tbl[i]?)) (hg : ws.all goodWord = true) : ∀ x ∈ ws, x ∈ ea_tbl := by
  intro x hx
  have h1 := List.all_eq_true.mp hg x hx
  rw [hp] at hx
  obtain ⟨i, -, hi⟩ := List.mem_filterMap.mp hx
  exact ea_in (List.mem_of_getElem? hi) h1
end EH
theorem et_1 {w : Cond} (h : w ∈ tables_1_1) : w ∈ lw_tbl := List.mem_append_right _ (List.mem_append_left _ h)
theorem et_2 {w : Cond} (h : w ∈ tables_1_2) : w ∈ lw_tbl := List.mem_append_right _ (List.mem_append_right _ (List.mem_append_left _ h))
theorem et_3 {w : Cond} (h : w ∈ tables_1_3) : w ∈ lw_tbl := List.mem_append_right _ (List.mem_append_right _ (List.mem_append_right _ (List.mem_append_left _ h)))
theorem et_4 {w : Cond} (h : w ∈ tables_1_4) : w ∈ lw_tbl := List.mem_append_right _ (List.mem_append_right _ (List.mem_append_right _ (List.mem_append_right _ (List.mem_append_left _ h))))
theorem et_5 {w : Cond} (h : w ∈ tables_1_5) : w ∈ lw_tbl := List.mem_append_right _ (List.mem_append_right _ (List.mem_append_right _ (List.mem_append_right _ (List.mem_append_right _ (List.mem_append_left _ h)))))
theorem et_6 {w : Cond} (h : w ∈ tables_1_6) : w ∈ lw_tbl := List.mem_append_right _ (List.mem_append_right _ (List.mem_append_right _ (List.mem_append_right _ (List.mem_append_right _ (List.mem_append_right _ (List.mem_append_left _ h))))))
theorem et_7 {w : Cond} (h : w ∈ tables_1_7) : w ∈ lw_tbl := List.mem_append_right _ (List.mem_append_right _ (List.mem_append_right _ (List.mem_append_right _ (List.mem_append_right _ (List.mem_append_right _ (List.mem_append_right _ (List.mem_append_left _ h)))))))
theorem et_8 {w : Cond} (h : w ∈ tables_1_8) : w ∈ lw_tbl := List.mem_append_right _ (List.mem_append_right _ (List.mem_append_right _ (List.mem_append_right _ (List.mem_append_right _ (List.mem_append_right _ (List.mem_append_right _ (List.mem_append_right _ (List.mem_append_left _ h))))))))
theorem et_9 {w : Cond} (h : w ∈ tables_1_9) : w ∈ lw_tbl := List.mem_append_right _ (List.mem_append_right _ (List.mem_append_right _ (List.mem_append_right _ (List.mem_append_right _ (List.mem_append_right _ (List.mem_append_right _ (List.mem_append_right _ (List.mem_append_right _ (h)))))))))
set_option maxRecDepth 20000 in
theorem eg_0 : ∀ x ∈ u_ws RX0 TX0 12, x ∈ ea_tbl := ea_subws _ [826, 828, 830, 832, 834, 836, 838, 840, 842, 844, 846, 848] (by decide +kernel) (by decide +kernel)
set_option maxRecDepth 20000 in
theorem ec_0 : ea_Cls 0 RX0 TX0 12 := ⟨rfl, by decide, rfl, eg_0, tyX0_ok, nmX0, by decide +kernel⟩
set_option maxRecDepth 20000 in
theorem eg_1 : ∀ x ∈ u_ws RX1 TX1 16, x ∈ ea_tbl := ea_subws _ [382, 384, 386, 388, 390, 392, 394, 396, 398, 400, 402, 404, 406, 408, 410, 412] (by decide +kernel) (by decide +kernel)
set_option maxRecDepth 20000 in
theorem ec_1 : ea_Cls 1 RX1 TX1 16 := ⟨rfl, by decide, rfl, eg_1, tyX1_ok, nmX1, by decide +kernel⟩
set_option maxRecDepth 20000 in
theorem eg_2 : ∀ x ∈ u_ws RX2 TX2 3, x ∈ ea_tbl := ea_subws _ [430, 432, 434] (by decide +kernel) (by decide +kernel)
set_option maxRecDepth 20000 in
theorem ec_2 : ea_Cls 2 RX2 TX2 3 := ⟨rfl, by decide, rfl, eg_2, tyX2_ok, nmX2, by decide +kernel⟩
set_option maxRecDepth 20000 in
theorem eg_3 : ∀ x ∈ u_ws RX3 TX3 5, x ∈ ea_tbl := ea_subws _ [268, 270, 272, 274, 276] (by decide +kernel) (by decide +kernel)
set_option maxRecDepth 20000 in
theorem ec_3 : ea_Cls 3 RX3 TX3 5 := ⟨rfl, by decide, rfl, eg_3, tyX3_ok, nmX3, by decide +kernel⟩
set_option maxRecDepth 20000 in
theorem eg_4 : ∀ x ∈ u_ws RX4 TX4 20, x ∈ ea_tbl := ea_subws _ [980, 982, 984, 986, 988, 990, 992, 994, 996, 998, 1000, 1002, 1004, 1006, 1008, 1010, 1012, 1014, 1016, 1018] (by decide +kernel) (by decide +kernel)
set_option maxRecDepth 20000 in
theorem ec_4 : ea_Cls 4 RX4 TX4 20 := ⟨rfl, by decide, rfl, eg_4, tyX4_ok, nmX4, by decide +kernel⟩
set_option maxRecDepth 20000 in
theorem eg_5 : ∀ x ∈ u_ws RX5 TX5 12, x ∈ ea_tbl := ea_subws _ [306, 308, 310, 312, 314, 316, 318, 320, 322, 324, 326, 328] (by decide +kernel) (by decide +kernel)
set_option maxRecDepth 20000 in
theorem ec_5 : ea_Cls 5 RX5 TX5 12 := ⟨rfl, by decide, rfl, eg_5, tyX5_ok, nmX5, by decide +kernel⟩
set_option maxRecDepth 20000 in
theorem eg_6 : ∀ x ∈ u_ws RX6 TX6 4, x ∈ ea_tbl := ea_subws _ [161, 163, 165, 167] (by decide +kernel) (by decide +kernel)
set_option maxRecDepth 20000 in
theorem ec_6 : ea_Cls 6 RX6 TX6 4 := ⟨rfl, by decide, rfl, eg_6, tyX6_ok, nmX6, by decide +kernel⟩
set_option maxRecDepth 20000 in
theorem eg_7 : ∀ x ∈ u_ws RX7 TX7 5, x ∈ ea_tbl := ea_subws _ [1248, 1250, 1252, 1254, 1256] (by decide +kernel) (by decide +kernel)
set_option maxRecDepth 20000 in
theorem ec_7 : ea_Cls 7 RX7 TX7 5 := ⟨rfl, by decide, rfl, eg_7, tyX7_ok, nmX7, by decide +kernel⟩
set_option maxRecDepth 20000 in
theorem eg_8 : ∀ x ∈ u_ws RX8 TX8 5, x ∈ ea_tbl := ea_subws _ [340, 342, 344, 346, 348] (by decide +kernel) (by decide +kernel)
set_option maxRecDepth 20000 in
theorem ec_8 : ea_Cls 8 RX8 TX8 5 := ⟨rfl, by decide, rfl, eg_8, tyX8_ok, nmX8, by decide +kernel⟩
set_option maxRecDepth 20000 in
theorem eg_9 : ∀ x ∈ u_ws RX9 TX9 8, x ∈ ea_tbl := ea_subws _ [201, 203, 205, 207, 209, 211, 213, 215] (by decide +kernel) (by decide +kernel)
set_option maxRecDepth 20000 in
theorem ec_9 : ea_Cls 9 RX9 TX9 8 := ⟨rfl, by decide, rfl, eg_9, tyX9_ok, nmX9, by decide +kernel⟩
set_option maxRecDepth 20000 in
theorem eg_10 : ∀ x ∈ u_ws RX10 TX10 9, x ∈ ea_tbl := ea_subws _ [236, 238, 240, 242, 244, 246, 248, 250, 252] (by decide +kernel) (by decide +kernel)
set_option maxRecDepth 20000 in
theorem ec_10 : ea_Cls 10 RX10 TX10 9 := ⟨rfl, by decide, rfl, eg_10, tyX10_ok, nmX10, by decide +kernel⟩
set_option maxRecDepth 20000 in
theorem eg_11 : ∀ x ∈ u_ws RX11 TX11 16, x ∈ ea_tbl := ea_subws _ [453, 455, 457, 459, 461, 463, 465, 467, 469, 471, 473, 475, 477, 479, 481, 483] (by decide +kernel) (by decide +kernel)
set_option maxRecDepth 20000 in
theorem ec_11 : ea_Cls 11 RX11 TX11 16 := ⟨rfl, by decide, rfl, eg_11, tyX11_ok, nmX11, by decide +kernel⟩
set_option maxRecDepth 20000 in
theorem eg_12 : ∀ x ∈ u_ws RX12 TX12 118, x ∈ ea_tbl := ea_subws _ [1463, 1465, 1467, 1469, 1471, 1473, 1475, 1477, 1479, 1481, 1483, 1485, 1487, 1489, 1491, 1493, 1495, 1497, 1499, 1501, 1503, 1505, 1507, 1509, 1511, 1513, 1515, 1517, 1519, 1521, 1523, 1525, 1527, 1529, 1531, 1533, 1535, 1537, 1539, 1541, 1543, 1545, 1547, 1549, 1551, 1553, 1555, 1557, 1559, 1561, 1563, 1565, 1567, 1569, 1571, 1573, 1575, 1577, 1579, 1581, 1583, 1585, 1587, 1589, 1591, 1593, 1595, 1597, 1599, 1601, 1603, 1605, 1607, 1609, 1611, 1613, 1615, 1617, 1619, 1621, 1623, 1625, 1627, 1629, 1631, 1633, 1635, 1637, 1639, 1641, 1643, 1645, 1647, 1649, 1651, 1653, 1655, 1657, 1659, 1661, 1663, 1665, 1667, 1669, 1671, 1673, 1675, 1677, 1679, 1681, 1683, 1685, 1687, 1689, 1691, 1693, 1695, 1697] (by decide +kernel) (by decide +kernel)
set_option maxRecDepth 20000 in
theorem ec_12 : ea_Cls 12 RX12 TX12 118 := ⟨rfl, by decide, rfl, eg_12, tyX12_ok, nmX12, by decide +kernel⟩
