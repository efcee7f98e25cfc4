/-! ===== the classes' tables ===== -/
theorem gw_ws {ws : List Cond} (ps : List Nat) (hp : ws = ps.filterMap (fun i => lw_tbl[i]?)) (h : ws.all goodWord = true) : ∀ w ∈ ws, w ∈ gw := by
  intro w hw
  have h1 := List.all_eq_true.mp h w hw
  rw [hp] at hw
  obtain ⟨i, -, hi⟩ := List.mem_filterMap.mp hw
  exact gw_in i hi h1
theorem sx_n {h h' : ah_T} {kd n q : Nat} (e : h' = st_n h kd n) (hq : h.1.length = q) : h'.1[q]? = some (kd, n) := by subst e; exact st_n_last h kd n q hq
set_option maxRecDepth 20000 in
theorem T_ok_0 : cl_F 0 (RX0, TX0, 4) := ⟨gw_ws [466, 468, 470, 472] (by decide +kernel) (by decide +kernel), by decide +kernel, nmX0, (gw_in 457 (by decide +kernel) (by decide +kernel)), (gw_in 141 (by decide +kernel) (by decide +kernel)), by decide +kernel⟩
set_option maxRecDepth 20000 in
theorem T_ok_1 : cl_F 1 (RX1, TX1, 3) := ⟨gw_ws [449, 451, 453] (by decide +kernel) (by decide +kernel), by decide +kernel, nmX1, (gw_in 441 (by decide +kernel) (by decide +kernel)), (gw_in 140 (by decide +kernel) (by decide +kernel)), by decide +kernel⟩
set_option maxRecDepth 20000 in
theorem T_ok_2 : cl_F 2 (RX2, TX2, 8) := ⟨gw_ws [489, 491, 493, 495, 497, 499, 501, 503] (by decide +kernel) (by decide +kernel), by decide +kernel, nmX2, (gw_in 476 (by decide +kernel) (by decide +kernel)), (gw_in 142 (by decide +kernel) (by decide +kernel)), by decide +kernel⟩
set_option maxRecDepth 20000 in
theorem T_ok_3 : cl_F 3 (RX3, TX3, 8) := ⟨gw_ws [577, 579, 581, 583, 585, 587, 589, 591] (by decide +kernel) (by decide +kernel), by decide +kernel, nmX3, (gw_in 563 (by decide +kernel) (by decide +kernel)), (gw_in 145 (by decide +kernel) (by decide +kernel)), by decide +kernel⟩
set_option maxRecDepth 20000 in
theorem T_ok_4 : cl_F 4 (RX4, TX4, 12) := ⟨gw_ws [240, 242, 244, 246, 248, 250, 252, 254, 256, 258, 260, 262] (by decide +kernel) (by decide +kernel), by decide +kernel, nmX4, (gw_in 222 (by decide +kernel) (by decide +kernel)), (gw_in 137 (by decide +kernel) (by decide +kernel)), by decide +kernel⟩
set_option maxRecDepth 20000 in
theorem T_ok_5 : cl_F 5 (RX5, TX5, 8) := ⟨gw_ws [421, 423, 425, 427, 429, 431, 433, 435] (by decide +kernel) (by decide +kernel), by decide +kernel, nmX5, (gw_in 164 (by decide +kernel) (by decide +kernel)), (gw_in 135 (by decide +kernel) (by decide +kernel)), by decide +kernel⟩
set_option maxRecDepth 20000 in
theorem T_ok_6 : cl_F 6 (RX6, TX6, 13) := ⟨gw_ws [385, 387, 389, 391, 393, 395, 397, 399, 401, 403, 405, 407, 409] (by decide +kernel) (by decide +kernel), by decide +kernel, nmX6, (gw_in 266 (by decide +kernel) (by decide +kernel)), (gw_in 138 (by decide +kernel) (by decide +kernel)), by decide +kernel⟩
set_option maxRecDepth 20000 in
theorem T_ok_7 : cl_F 7 (RX7, TX7, 8) := ⟨gw_ws [520, 522, 524, 526, 528, 530, 532, 534] (by decide +kernel) (by decide +kernel), by decide +kernel, nmX7, (gw_in 507 (by decide +kernel) (by decide +kernel)), (gw_in 143 (by decide +kernel) (by decide +kernel)), by decide +kernel⟩
set_option maxRecDepth 20000 in
theorem T_ok_8 : cl_F 8 (RX8, TX8, 13) := ⟨gw_ws [192, 194, 196, 198, 200, 202, 204, 206, 208, 210, 212, 214, 216] (by decide +kernel) (by decide +kernel), by decide +kernel, nmX8, (gw_in 170 (by decide +kernel) (by decide +kernel)), (gw_in 136 (by decide +kernel) (by decide +kernel)), by decide +kernel⟩
set_option maxRecDepth 20000 in
theorem T_ok_9 : cl_F 9 (RX9, TX9, 6) := ⟨gw_ws [549, 551, 553, 555, 557, 559] (by decide +kernel) (by decide +kernel), by decide +kernel, nmX9, (gw_in 538 (by decide +kernel) (by decide +kernel)), (gw_in 144 (by decide +kernel) (by decide +kernel)), by decide +kernel⟩
set_option maxRecDepth 20000 in
theorem T_ok_10 : cl_F 10 (RX10, TX10, 17) := ⟨gw_ws [314, 316, 318, 320, 322, 324, 326, 328, 330, 332, 334, 336, 338, 340, 342, 344, 346] (by decide +kernel) (by decide +kernel), by decide +kernel, nmX10, (gw_in 273 (by decide +kernel) (by decide +kernel)), (gw_in 139 (by decide +kernel) (by decide +kernel)), by decide +kernel⟩
set_option maxRecDepth 20000 in
theorem T_ok_11 : cl_F 11 (RX11, TX11, 11) := ⟨gw_ws [605, 607, 609, 611, 613, 615, 617, 619, 621, 623, 625] (by decide +kernel) (by decide +kernel), by decide +kernel, nmX11, (gw_in 156 (by decide +kernel) (by decide +kernel)), (gw_in 134 (by decide +kernel) (by decide +kernel)), by decide +kernel⟩
set_option maxRecDepth 20000 in
theorem T_ok_12 : cl_F 12 (RX12, TX12, 111) := ⟨gw_ws [1593, 1595, 1597, 1599, 1601, 1603, 1605, 1607, 1609, 1611, 1613, 1615, 1617, 1619, 1621, 1623, 1625, 1627, 1629, 1631, 1633, 1635, 1637, 1639, 1641, 1643, 1645, 1647, 1649, 1651, 1653, 1655, 1657, 1659, 1661, 1663, 1665, 1667, 1669, 1671, 1673, 1675, 1677, 1679, 1681, 1683, 1685, 1687, 1689, 1691, 1693, 1695, 1697, 1699, 1701, 1703, 1705, 1707, 1709, 1711, 1713, 1715, 1717, 1719, 1721, 1723, 1725, 1727, 1729, 1731, 1733, 1735, 1737, 1739, 1741, 1743, 1745, 1747, 1749, 1751, 1753, 1755, 1757, 1759, 1761, 1763, 1765, 1767, 1769, 1771, 1773, 1775, 1777, 1779, 1781, 1783, 1785, 1787, 1789, 1791, 1793, 1795, 1797, 1799, 1801, 1803, 1805, 1807, 1809, 1811, 1813] (by decide +kernel) (by decide +kernel), by decide +kernel, nmX12, (gw_in 1477 (by decide +kernel) (by decide +kernel)), (gw_in 146 (by decide +kernel) (by decide +kernel)), by decide +kernel⟩
theorem T_ok : tbl_OK := by
  intro c q hq
  match c, hq with
  | 0, hq => cases hq; exact T_ok_0
  | 1, hq => cases hq; exact T_ok_1
  | 2, hq => cases hq; exact T_ok_2
  | 3, hq => cases hq; exact T_ok_3
  | 4, hq => cases hq; exact T_ok_4
  | 5, hq => cases hq; exact T_ok_5
  | 6, hq => cases hq; exact T_ok_6
  | 7, hq => cases hq; exact T_ok_7
  | 8, hq => cases hq; exact T_ok_8
  | 9, hq => cases hq; exact T_ok_9
  | 10, hq => cases hq; exact T_ok_10
  | 11, hq => cases hq; exact T_ok_11
  | 12, hq => cases hq; exact T_ok_12
  | c + 13, hq => simp [classes] at hq
def tk_b : FieldType → Bool
  | .int => true
  | .boolean => true
  | .long => true
  | .object _ => true
  | .array _ => true
  | _ => false
theorem tk_ok {ty : FieldType} (h : tk_b ty = true) : ty = .int ∨ ty = .boolean ∨ ty = .long ∨ (∃ n, ty = .object n) ∨ ∃ n, ty = .array n := by
  cases ty <;> first | (simp [tk_b] at h; done) | simp

theorem T_k : tbl_K := by
  intro c q hq k hk
  refine tk_ok ?_
  match c, hq with
  | 0, hq => cases hq; exact (by decide +kernel : ∀ k, k < 4 → tk_b (f_ty 0 k) = true) k hk
  | 1, hq => cases hq; exact (by decide +kernel : ∀ k, k < 3 → tk_b (f_ty 1 k) = true) k hk
  | 2, hq => cases hq; exact (by decide +kernel : ∀ k, k < 8 → tk_b (f_ty 2 k) = true) k hk
  | 3, hq => cases hq; exact (by decide +kernel : ∀ k, k < 8 → tk_b (f_ty 3 k) = true) k hk
  | 4, hq => cases hq; exact (by decide +kernel : ∀ k, k < 12 → tk_b (f_ty 4 k) = true) k hk
  | 5, hq => cases hq; exact (by decide +kernel : ∀ k, k < 8 → tk_b (f_ty 5 k) = true) k hk
  | 6, hq => cases hq; exact (by decide +kernel : ∀ k, k < 13 → tk_b (f_ty 6 k) = true) k hk
  | 7, hq => cases hq; exact (by decide +kernel : ∀ k, k < 8 → tk_b (f_ty 7 k) = true) k hk
  | 8, hq => cases hq; exact (by decide +kernel : ∀ k, k < 13 → tk_b (f_ty 8 k) = true) k hk
  | 9, hq => cases hq; exact (by decide +kernel : ∀ k, k < 6 → tk_b (f_ty 9 k) = true) k hk
  | 10, hq => cases hq; exact (by decide +kernel : ∀ k, k < 17 → tk_b (f_ty 10 k) = true) k hk
  | 11, hq => cases hq; exact (by decide +kernel : ∀ k, k < 11 → tk_b (f_ty 11 k) = true) k hk
  | 12, hq => cases hq; exact (by decide +kernel : ∀ k, k < 111 → tk_b (f_ty 12 k) = true) k hk
  | c + 13, hq => simp [classes] at hq
