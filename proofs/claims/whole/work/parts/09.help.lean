/-! the engine, 9: small helps; the classes -/
section EH
variable {M : ea_M} {d : Nat} {h0 hE h : ea_H} {rv : Option ea_V} {pc : Nat} {lv : List (Nat × ea_V)} {st : List ea_V}
theorem ea_deref0  {r : Option Nat} {a : Nat} (e : r = some a) (k : ea_W M d h0 rv hE pc lv (vR (some a) :: st) h) : ea_W M d h0 rv hE pc lv (vR r :: st) h := by subst e; exact k
theorem ea_deref1 {v0 : ea_V} {r : Option Nat} {a : Nat} (e : r = some a) (k : ea_W M d h0 rv hE pc lv (v0 :: vR (some a) :: st) h) : ea_W M d h0 rv hE pc lv (v0 :: vR r :: st) h := by subst e; exact k
theorem ea_deref2 {v0 : ea_V} {v1 : ea_V} {r : Option Nat} {a : Nat} (e : r = some a) (k : ea_W M d h0 rv hE pc lv (v0 :: v1 :: vR (some a) :: st) h) : ea_W M d h0 rv hE pc lv (v0 :: v1 :: vR r :: st) h := by subst e; exact k
theorem ea_deref3 {v0 : ea_V} {v1 : ea_V} {v2 : ea_V} {r : Option Nat} {a : Nat} (e : r = some a) (k : ea_W M d h0 rv hE pc lv (v0 :: v1 :: v2 :: vR (some a) :: st) h) : ea_W M d h0 rv hE pc lv (v0 :: v1 :: v2 :: vR r :: st) h := by subst e; exact k
theorem ea_deref4 {v0 : ea_V} {v1 : ea_V} {v2 : ea_V} {v3 : ea_V} {r : Option Nat} {a : Nat} (e : r = some a) (k : ea_W M d h0 rv hE pc lv (v0 :: v1 :: v2 :: v3 :: vR (some a) :: st) h) : ea_W M d h0 rv hE pc lv (v0 :: v1 :: v2 :: v3 :: vR r :: st) h := by subst e; exact k
theorem ea_deref5 {v0 : ea_V} {v1 : ea_V} {v2 : ea_V} {v3 : ea_V} {v4 : ea_V} {r : Option Nat} {a : Nat} (e : r = some a) (k : ea_W M d h0 rv hE pc lv (v0 :: v1 :: v2 :: v3 :: v4 :: vR (some a) :: st) h) : ea_W M d h0 rv hE pc lv (v0 :: v1 :: v2 :: v3 :: v4 :: vR r :: st) h := by subst e; exact k
theorem ea_deref6 {v0 : ea_V} {v1 : ea_V} {v2 : ea_V} {v3 : ea_V} {v4 : ea_V} {v5 : ea_V} {r : Option Nat} {a : Nat} (e : r = some a) (k : ea_W M d h0 rv hE pc lv (v0 :: v1 :: v2 :: v3 :: v4 :: v5 :: vR (some a) :: st) h) : ea_W M d h0 rv hE pc lv (v0 :: v1 :: v2 :: v3 :: v4 :: v5 :: vR r :: st) h := by subst e; exact k
theorem ea_deref7 {v0 : ea_V} {v1 : ea_V} {v2 : ea_V} {v3 : ea_V} {v4 : ea_V} {v5 : ea_V} {v6 : ea_V} {r : Option Nat} {a : Nat} (e : r = some a) (k : ea_W M d h0 rv hE pc lv (v0 :: v1 :: v2 :: v3 :: v4 :: v5 :: v6 :: vR (some a) :: st) h) : ea_W M d h0 rv hE pc lv (v0 :: v1 :: v2 :: v3 :: v4 :: v5 :: v6 :: vR r :: st) h := by subst e; exact k
theorem ea_nm {h1 h2 : ea_H} (e : h1 = h2) (k : ea_W M d h0 rv hE pc lv st h1) : ea_W M d h0 rv hE pc lv st h2 := by subst e; exact k
theorem ea_tops {v v2 : ea_V} (e : v = v2) (k : ea_W M d h0 rv hE pc lv (v2 :: st) h) : ea_W M d h0 rv hE pc lv (v :: st) h := by subst e; exact k
theorem ea_bn {x : Int32} (h : x = 0 ∨ x = 1) : narrow .boolean (.int x) = .int x := by rcases h with rfl | rfl <;> rfl
theorem ea_bf {x : Int32} (h : x = 0 ∨ x = 1) : fits .boolean (.int x) = true := by rcases h with rfl | rfl <;> rfl
theorem ea_vpl {i : Int32} {l n : Nat} (e : l = n) (z : vp_in i n) : vp_in i l := by subst e; exact z
theorem ea_subws (ws : List Cond) (ps : List Nat) (hp : ws = ps.filterMap (fun i => lw_tbl[i]?)) (hg : ws.all goodWord = true) : ∀ x ∈ ws, x ∈ ea_tbl := by
  intro x hx
  have h1 := List.all_eq_true.mp hg x hx
  rw [hp] at hx
  obtain ⟨i, -, hi⟩ := List.mem_filterMap.mp hx
  exact ea_in (List.mem_of_getElem? hi) h1
end EH
theorem et_1 {w : Cond} (h : w ∈ tables_1_1) : w ∈ lw_tbl := List.mem_append_right _ (List.mem_append_left _ h)
theorem et_2 {w : Cond} (h : w ∈ tables_1_2) : w ∈ lw_tbl := List.mem_append_right _ (List.mem_append_right _ (List.mem_append_left _ h))
theorem et_3 {w : Cond} (h : w ∈ tables_1_3) : w ∈ lw_tbl := List.mem_append_right _ (List.mem_append_right _ (List.mem_append_right _ (List.mem_append_left _ h)))
theorem et_4 {w : Cond} (h : w ∈ tables_1_4) : w ∈ lw_tbl := List.mem_append_right _ (List.mem_append_right _ (List.mem_append_right _ (List.mem_append_right _ (List.mem_append_left _ h))))
theorem et_5 {w : Cond} (h : w ∈ tables_1_5) : w ∈ lw_tbl := List.mem_append_right _ (List.mem_append_right _ (List.mem_append_right _ (List.mem_append_right _ (List.mem_append_right _ (List.mem_append_left _ h)))))
theorem et_6 {w : Cond} (h : w ∈ tables_1_6) : w ∈ lw_tbl := List.mem_append_right _ (List.mem_append_right _ (List.mem_append_right _ (List.mem_append_right _ (List.mem_append_right _ (List.mem_append_right _ (List.mem_append_left _ h))))))
theorem et_7 {w : Cond} (h : w ∈ tables_1_7) : w ∈ lw_tbl := List.mem_append_right _ (List.mem_append_right _ (List.mem_append_right _ (List.mem_append_right _ (List.mem_append_right _ (List.mem_append_right _ (List.mem_append_right _ (List.mem_append_left _ h)))))))
theorem et_8 {w : Cond} (h : w ∈ tables_1_8) : w ∈ lw_tbl := List.mem_append_right _ (List.mem_append_right _ (List.mem_append_right _ (List.mem_append_right _ (List.mem_append_right _ (List.mem_append_right _ (List.mem_append_right _ (List.mem_append_right _ (List.mem_append_left _ h))))))))
theorem et_9 {w : Cond} (h : w ∈ tables_1_9) : w ∈ lw_tbl := List.mem_append_right _ (List.mem_append_right _ (List.mem_append_right _ (List.mem_append_right _ (List.mem_append_right _ (List.mem_append_right _ (List.mem_append_right _ (List.mem_append_right _ (List.mem_append_right _ (h)))))))))
set_option maxRecDepth 20000 in
theorem eg_0 : ∀ x ∈ u_ws RX0 TX0 11, x ∈ ea_tbl := ea_subws _ [373, 375, 377, 379, 381, 383, 385, 387, 389, 391, 393] (by decide +kernel) (by decide +kernel)
set_option maxRecDepth 20000 in
theorem ec_0 : ea_Cls 0 RX0 TX0 11 := ⟨rfl, by decide, rfl, eg_0, tyX0_ok, nmX0, by decide +kernel⟩
set_option maxRecDepth 20000 in
theorem eg_1 : ∀ x ∈ u_ws RX1 TX1 16, x ∈ ea_tbl := ea_subws _ [464, 466, 468, 470, 472, 474, 476, 478, 480, 482, 484, 486, 488, 490, 492, 494] (by decide +kernel) (by decide +kernel)
set_option maxRecDepth 20000 in
theorem ec_1 : ea_Cls 1 RX1 TX1 16 := ⟨rfl, by decide, rfl, eg_1, tyX1_ok, nmX1, by decide +kernel⟩
set_option maxRecDepth 20000 in
theorem eg_2 : ∀ x ∈ u_ws RX2 TX2 3, x ∈ ea_tbl := ea_subws _ [607, 609, 611] (by decide +kernel) (by decide +kernel)
set_option maxRecDepth 20000 in
theorem ec_2 : ea_Cls 2 RX2 TX2 3 := ⟨rfl, by decide, rfl, eg_2, tyX2_ok, nmX2, by decide +kernel⟩
set_option maxRecDepth 20000 in
theorem eg_3 : ∀ x ∈ u_ws RX3 TX3 5, x ∈ ea_tbl := ea_subws _ [271, 273, 275, 277, 279] (by decide +kernel) (by decide +kernel)
set_option maxRecDepth 20000 in
theorem ec_3 : ea_Cls 3 RX3 TX3 5 := ⟨rfl, by decide, rfl, eg_3, tyX3_ok, nmX3, by decide +kernel⟩
set_option maxRecDepth 20000 in
theorem eg_4 : ∀ x ∈ u_ws RX4 TX4 4, x ∈ ea_tbl := ea_subws _ [426, 428, 430, 432] (by decide +kernel) (by decide +kernel)
set_option maxRecDepth 20000 in
theorem ec_4 : ea_Cls 4 RX4 TX4 4 := ⟨rfl, by decide, rfl, eg_4, tyX4_ok, nmX4, by decide +kernel⟩
set_option maxRecDepth 20000 in
theorem eg_5 : ∀ x ∈ u_ws RX5 TX5 20, x ∈ ea_tbl := ea_subws _ [555, 557, 559, 561, 563, 565, 567, 569, 571, 573, 575, 577, 579, 581, 583, 585, 587, 589, 591, 593] (by decide +kernel) (by decide +kernel)
set_option maxRecDepth 20000 in
theorem ec_5 : ea_Cls 5 RX5 TX5 20 := ⟨rfl, by decide, rfl, eg_5, tyX5_ok, nmX5, by decide +kernel⟩
set_option maxRecDepth 20000 in
theorem eg_6 : ∀ x ∈ u_ws RX6 TX6 10, x ∈ ea_tbl := ea_subws _ [307, 309, 311, 313, 315, 317, 319, 321, 323, 325] (by decide +kernel) (by decide +kernel)
set_option maxRecDepth 20000 in
theorem ec_6 : ea_Cls 6 RX6 TX6 10 := ⟨rfl, by decide, rfl, eg_6, tyX6_ok, nmX6, by decide +kernel⟩
set_option maxRecDepth 20000 in
theorem eg_7 : ∀ x ∈ u_ws RX7 TX7 4, x ∈ ea_tbl := ea_subws _ [168, 170, 172, 174] (by decide +kernel) (by decide +kernel)
set_option maxRecDepth 20000 in
theorem ec_7 : ea_Cls 7 RX7 TX7 4 := ⟨rfl, by decide, rfl, eg_7, tyX7_ok, nmX7, by decide +kernel⟩
set_option maxRecDepth 20000 in
theorem eg_8 : ∀ x ∈ u_ws RX8 TX8 5, x ∈ ea_tbl := ea_subws _ [403, 405, 407, 409, 411] (by decide +kernel) (by decide +kernel)
set_option maxRecDepth 20000 in
theorem ec_8 : ea_Cls 8 RX8 TX8 5 := ⟨rfl, by decide, rfl, eg_8, tyX8_ok, nmX8, by decide +kernel⟩
set_option maxRecDepth 20000 in
theorem eg_9 : ∀ x ∈ u_ws RX9 TX9 8, x ∈ ea_tbl := ea_subws _ [208, 210, 212, 214, 216, 218, 220, 222] (by decide +kernel) (by decide +kernel)
set_option maxRecDepth 20000 in
theorem ec_9 : ea_Cls 9 RX9 TX9 8 := ⟨rfl, by decide, rfl, eg_9, tyX9_ok, nmX9, by decide +kernel⟩
set_option maxRecDepth 20000 in
theorem eg_10 : ∀ x ∈ u_ws RX10 TX10 7, x ∈ ea_tbl := ea_subws _ [242, 244, 246, 248, 250, 252, 254] (by decide +kernel) (by decide +kernel)
set_option maxRecDepth 20000 in
theorem ec_10 : ea_Cls 10 RX10 TX10 7 := ⟨rfl, by decide, rfl, eg_10, tyX10_ok, nmX10, by decide +kernel⟩
set_option maxRecDepth 20000 in
theorem eg_11 : ∀ x ∈ u_ws RX11 TX11 19, x ∈ ea_tbl := ea_subws _ [633, 635, 637, 639, 641, 643, 645, 647, 649, 651, 653, 655, 657, 659, 661, 663, 665, 667, 669] (by decide +kernel) (by decide +kernel)
set_option maxRecDepth 20000 in
theorem ec_11 : ea_Cls 11 RX11 TX11 19 := ⟨rfl, by decide, rfl, eg_11, tyX11_ok, nmX11, by decide +kernel⟩
set_option maxRecDepth 20000 in
theorem eg_12 : ∀ x ∈ u_ws RX12 TX12 118, x ∈ ea_tbl := ea_subws _ [1520, 1522, 1524, 1526, 1528, 1530, 1532, 1534, 1536, 1538, 1540, 1542, 1544, 1546, 1548, 1550, 1552, 1554, 1556, 1558, 1560, 1562, 1564, 1566, 1568, 1570, 1572, 1574, 1576, 1578, 1580, 1582, 1584, 1586, 1588, 1590, 1592, 1594, 1596, 1598, 1600, 1602, 1604, 1606, 1608, 1610, 1612, 1614, 1616, 1618, 1620, 1622, 1624, 1626, 1628, 1630, 1632, 1634, 1636, 1638, 1640, 1642, 1644, 1646, 1648, 1650, 1652, 1654, 1656, 1658, 1660, 1662, 1664, 1666, 1668, 1670, 1672, 1674, 1676, 1678, 1680, 1682, 1684, 1686, 1688, 1690, 1692, 1694, 1696, 1698, 1700, 1702, 1704, 1706, 1708, 1710, 1712, 1714, 1716, 1718, 1720, 1722, 1724, 1726, 1728, 1730, 1732, 1734, 1736, 1738, 1740, 1742, 1744, 1746, 1748, 1750, 1752, 1754] (by decide +kernel) (by decide +kernel)
set_option maxRecDepth 20000 in
theorem ec_12 : ea_Cls 12 RX12 TX12 118 := ⟨rfl, by decide, rfl, eg_12, tyX12_ok, nmX12, by decide +kernel⟩
