theorem zin_r {big : List Cond} (ws : List Cond) (ps : List Nat) (hp : ws = ps.filterMap (fun i => big[i]?)) : ∀ w ∈ ws, w ∈ big := by
  intro w hw
  rw [hp] at hw
  obtain ⟨i, -, hi⟩ := List.mem_filterMap.mp hw
  exact List.mem_of_getElem? hi
theorem zin_0 {w : Cond} (h : w ∈ k2_sels lw_privs) : w ∈ lw_tbl := List.mem_append_left _ h
theorem zin_1 {w : Cond} (h : w ∈ tables_1_1) : w ∈ lw_tbl := List.mem_append_right _ (List.mem_append_left _ h)
theorem zin_2 {w : Cond} (h : w ∈ tables_1_2) : w ∈ lw_tbl := List.mem_append_right _ (List.mem_append_right _ (List.mem_append_left _ h))
theorem zin_3 {w : Cond} (h : w ∈ tables_1_3) : w ∈ lw_tbl := List.mem_append_right _ (List.mem_append_right _ (List.mem_append_right _ (List.mem_append_left _ h)))
theorem zin_4 {w : Cond} (h : w ∈ tables_1_4) : w ∈ lw_tbl := List.mem_append_right _ (List.mem_append_right _ (List.mem_append_right _ (List.mem_append_right _ (List.mem_append_left _ h))))
theorem zin_5 {w : Cond} (h : w ∈ tables_1_5) : w ∈ lw_tbl := List.mem_append_right _ (List.mem_append_right _ (List.mem_append_right _ (List.mem_append_right _ (List.mem_append_right _ (List.mem_append_left _ h)))))
theorem zin_6 {w : Cond} (h : w ∈ tables_1_6) : w ∈ lw_tbl := List.mem_append_right _ (List.mem_append_right _ (List.mem_append_right _ (List.mem_append_right _ (List.mem_append_right _ (List.mem_append_right _ (List.mem_append_left _ h))))))
theorem zin_7 {w : Cond} (h : w ∈ tables_1_7) : w ∈ lw_tbl := List.mem_append_right _ (List.mem_append_right _ (List.mem_append_right _ (List.mem_append_right _ (List.mem_append_right _ (List.mem_append_right _ (List.mem_append_right _ (List.mem_append_left _ h)))))))
theorem zin_8 {w : Cond} (h : w ∈ tables_1_8) : w ∈ lw_tbl := List.mem_append_right _ (List.mem_append_right _ (List.mem_append_right _ (List.mem_append_right _ (List.mem_append_right _ (List.mem_append_right _ (List.mem_append_right _ (List.mem_append_right _ (List.mem_append_left _ h))))))))
theorem zin_9 {w : Cond} (h : w ∈ tables_1_9) : w ∈ lw_tbl := List.mem_append_right _ (List.mem_append_right _ (List.mem_append_right _ (List.mem_append_right _ (List.mem_append_right _ (List.mem_append_right _ (List.mem_append_right _ (List.mem_append_right _ (List.mem_append_right _ h))))))))
theorem zcw0 : ∀ w ∈ u_ws RX0 TX0 8, w ∈ lw_tbl := zin_r _ [446, 448, 450, 452, 454, 456, 458, 460] (by decide +kernel)
theorem zcw1 : ∀ w ∈ u_ws RX1 TX1 3, w ∈ lw_tbl := zin_r _ [316, 318, 320] (by decide +kernel)
theorem zcw2 : ∀ w ∈ u_ws RX2 TX2 11, w ∈ lw_tbl := zin_r _ [343, 345, 347, 349, 351, 353, 355, 357, 359, 361, 363] (by decide +kernel)
theorem zcw3 : ∀ w ∈ u_ws RX3 TX3 14, w ∈ lw_tbl := zin_r _ [231, 233, 235, 237, 239, 241, 243, 245, 247, 249, 251, 253, 255, 257] (by decide +kernel)
theorem zcw4 : ∀ w ∈ u_ws RX4 TX4 14, w ∈ lw_tbl := zin_r _ [395, 397, 399, 401, 403, 405, 407, 409, 411, 413, 415, 417, 419, 421] (by decide +kernel)
theorem zcw5 : ∀ w ∈ u_ws RX5 TX5 17, w ∈ lw_tbl := zin_r _ [116, 118, 120, 122, 124, 126, 128, 130, 132, 134, 136, 138, 140, 142, 144, 146, 148] (by decide +kernel)
theorem zcw6 : ∀ w ∈ u_ws RX6 TX6 9, w ∈ lw_tbl := zin_r _ [287, 289, 291, 293, 295, 297, 299, 301, 303] (by decide +kernel)
theorem zcw7 : ∀ w ∈ u_ws RX7 TX7 14, w ∈ lw_tbl := zin_r _ [484, 486, 488, 490, 492, 494, 496, 498, 500, 502, 504, 506, 508, 510] (by decide +kernel)
theorem zcw8 : ∀ w ∈ u_ws RX8 TX8 5, w ∈ lw_tbl := zin_r _ [527, 529, 531, 533, 535] (by decide +kernel)
theorem zcw9 : ∀ w ∈ u_ws RX9 TX9 4, w ∈ lw_tbl := zin_r _ [553, 555, 557, 559] (by decide +kernel)
theorem zcw10 : ∀ w ∈ u_ws RX10 TX10 14, w ∈ lw_tbl := zin_r _ [180, 182, 184, 186, 188, 190, 192, 194, 196, 198, 200, 202, 204, 206] (by decide +kernel)
theorem zcw11 : ∀ w ∈ u_ws RX11 TX11 14, w ∈ lw_tbl := zin_r _ [577, 579, 581, 583, 585, 587, 589, 591, 593, 595, 597, 599, 601, 603] (by decide +kernel)
theorem zcw12 : ∀ w ∈ u_ws RX12 TX12 109, w ∈ lw_tbl := zin_r _ [1457, 1459, 1461, 1463, 1465, 1467, 1469, 1471, 1473, 1475, 1477, 1479, 1481, 1483, 1485, 1487, 1489, 1491, 1493, 1495, 1497, 1499, 1501, 1503, 1505, 1507, 1509, 1511, 1513, 1515, 1517, 1519, 1521, 1523, 1525, 1527, 1529, 1531, 1533, 1535, 1537, 1539, 1541, 1543, 1545, 1547, 1549, 1551, 1553, 1555, 1557, 1559, 1561, 1563, 1565, 1567, 1569, 1571, 1573, 1575, 1577, 1579, 1581, 1583, 1585, 1587, 1589, 1591, 1593, 1595, 1597, 1599, 1601, 1603, 1605, 1607, 1609, 1611, 1613, 1615, 1617, 1619, 1621, 1623, 1625, 1627, 1629, 1631, 1633, 1635, 1637, 1639, 1641, 1643, 1645, 1647, 1649, 1651, 1653, 1655, 1657, 1659, 1661, 1663, 1665, 1667, 1669, 1671, 1673] (by decide +kernel)
theorem zcw {ci : Nat} {q : vw_C} (h : vwCl[ci]? = some q) : ∀ w ∈ u_ws q.1 q.2.1 q.2.2, w ∈ lw_tbl := by
  match ci, h with
  | 0, h => cases h; exact zcw0
  | 1, h => cases h; exact zcw1
  | 2, h => cases h; exact zcw2
  | 3, h => cases h; exact zcw3
  | 4, h => cases h; exact zcw4
  | 5, h => cases h; exact zcw5
  | 6, h => cases h; exact zcw6
  | 7, h => cases h; exact zcw7
  | 8, h => cases h; exact zcw8
  | 9, h => cases h; exact zcw9
  | 10, h => cases h; exact zcw10
  | 11, h => cases h; exact zcw11
  | 12, h => cases h; exact zcw12
  | n + 13, h => exact absurd (List.getElem?_eq_some_iff.mp h).1 (by simp)
theorem zct {ci : Nat} {q : vw_C} (h : vwCl[ci]? = some q) : (∃ ty : Nat → FieldType, ∀ k, k < q.2.2 → parseFieldDescriptor (q.2.1 k).2.2.1 = some (ty k)) ∧ ∀ a, a < q.2.2 → ∀ b, b < q.2.2 → a ≠ b → (q.2.1 a).2.1 ≠ (q.2.1 b).2.1 := by
  match ci, h with
  | 0, h => cases h; exact ⟨⟨tyX0, tyX0_ok⟩, nmX0⟩
  | 1, h => cases h; exact ⟨⟨tyX1, tyX1_ok⟩, nmX1⟩
  | 2, h => cases h; exact ⟨⟨tyX2, tyX2_ok⟩, nmX2⟩
  | 3, h => cases h; exact ⟨⟨tyX3, tyX3_ok⟩, nmX3⟩
  | 4, h => cases h; exact ⟨⟨tyX4, tyX4_ok⟩, nmX4⟩
  | 5, h => cases h; exact ⟨⟨tyX5, tyX5_ok⟩, nmX5⟩
  | 6, h => cases h; exact ⟨⟨tyX6, tyX6_ok⟩, nmX6⟩
  | 7, h => cases h; exact ⟨⟨tyX7, tyX7_ok⟩, nmX7⟩
  | 8, h => cases h; exact ⟨⟨tyX8, tyX8_ok⟩, nmX8⟩
  | 9, h => cases h; exact ⟨⟨tyX9, tyX9_ok⟩, nmX9⟩
  | 10, h => cases h; exact ⟨⟨tyX10, tyX10_ok⟩, nmX10⟩
  | 11, h => cases h; exact ⟨⟨tyX11, tyX11_ok⟩, nmX11⟩
  | 12, h => cases h; exact ⟨⟨tyX12, tyX12_ok⟩, nmX12⟩
  | n + 13, h => exact absurd (List.getElem?_eq_some_iff.mp h).1 (by simp)
/-- field k of the class number ci is what entry idx of the class own names -/
def zFl (own : String) (idx ci k : Nat) : Prop := ∃ q : vw_C, vwCl[ci]? = some q ∧ k < q.2.2 ∧ (q.2.1 k).1 = q.1 ∧ Cond.fieldLink own idx q.1 (q.2.1 k).2.1 (q.2.1 k).2.2.1 ∈ lw_tbl
/-- and it may be written, and is of a type -/
def zFp (own : String) (idx ci k : Nat) (ty : FieldType) : Prop := ∃ q : vw_C, vwCl[ci]? = some q ∧ k < q.2.2 ∧ (q.2.1 k).1 = q.1 ∧ Cond.fieldLink own idx q.1 (q.2.1 k).2.1 (q.2.1 k).2.2.1 ∈ lw_tbl ∧ (q.2.1 k).2.2.2 = false ∧ parseFieldDescriptor (q.2.1 k).2.2.1 = some ty
def zMk (M : zM) (n : Nat) : Prop := Cond.initialized (zMy M).cls ∈ lw_tbl ∧ Cond.code (zMy M) (zMb M) (zMl M) (zMr M) ∈ lw_tbl ∧ (zMy M).cls ≠ "java/lang/invoke/MethodHandle" ∧ (zMy M).cls ≠ "java/lang/invoke/VarHandle" ∧ (parseMethodDescriptor (zMy M).desc).map (fun d => d.parameters.length) = some n
/-- a method of objects, of n arguments; a static one -/
def zMv (M : zM) (n : Nat) : Prop := zMk M n ∧ Cond.instanceMethod (zMy M) ∈ lw_tbl ∧ Cond.selects (zMy M).cls (zMy M) (zMy M) ∈ lw_tbl
def zMs (M : zM) (n : Nat) : Prop := zMk M n ∧ Cond.static (zMy M) ∈ lw_tbl
def zLk (own : String) (idx : Nat) (M : zM) : Prop := Cond.methodLink own idx (zMy M) ∈ lw_tbl
