theorem am1 (i : Nat) {w : Cond} (h : tables_1_1[i]? = some w) (g : okW w = true) : w ∈ allw := List.mem_filter.mpr ⟨List.mem_append_right _ (List.mem_append_left _ (List.mem_of_getElem? h)), g⟩
theorem am2 (i : Nat) {w : Cond} (h : tables_1_2[i]? = some w) (g : okW w = true) : w ∈ allw := List.mem_filter.mpr ⟨List.mem_append_right _ (List.mem_append_right _ (List.mem_append_left _ (List.mem_of_getElem? h))), g⟩
theorem am3 (i : Nat) {w : Cond} (h : tables_1_3[i]? = some w) (g : okW w = true) : w ∈ allw := List.mem_filter.mpr ⟨List.mem_append_right _ (List.mem_append_right _ (List.mem_append_right _ (List.mem_append_left _ (List.mem_of_getElem? h)))), g⟩
theorem am4 (i : Nat) {w : Cond} (h : tables_1_4[i]? = some w) (g : okW w = true) : w ∈ allw := List.mem_filter.mpr ⟨List.mem_append_right _ (List.mem_append_right _ (List.mem_append_right _ (List.mem_append_right _ (List.mem_append_left _ (List.mem_of_getElem? h))))), g⟩
theorem am5 (i : Nat) {w : Cond} (h : tables_1_5[i]? = some w) (g : okW w = true) : w ∈ allw := List.mem_filter.mpr ⟨List.mem_append_right _ (List.mem_append_right _ (List.mem_append_right _ (List.mem_append_right _ (List.mem_append_right _ (List.mem_append_left _ (List.mem_of_getElem? h)))))), g⟩
theorem am6 (i : Nat) {w : Cond} (h : tables_1_6[i]? = some w) (g : okW w = true) : w ∈ allw := List.mem_filter.mpr ⟨List.mem_append_right _ (List.mem_append_right _ (List.mem_append_right _ (List.mem_append_right _ (List.mem_append_right _ (List.mem_append_right _ (List.mem_append_left _ (List.mem_of_getElem? h))))))), g⟩
theorem am7 (i : Nat) {w : Cond} (h : tables_1_7[i]? = some w) (g : okW w = true) : w ∈ allw := List.mem_filter.mpr ⟨List.mem_append_right _ (List.mem_append_right _ (List.mem_append_right _ (List.mem_append_right _ (List.mem_append_right _ (List.mem_append_right _ (List.mem_append_right _ (List.mem_append_left _ (List.mem_of_getElem? h)))))))), g⟩
theorem am8 (i : Nat) {w : Cond} (h : tables_1_8[i]? = some w) (g : okW w = true) : w ∈ allw := List.mem_filter.mpr ⟨List.mem_append_right _ (List.mem_append_right _ (List.mem_append_right _ (List.mem_append_right _ (List.mem_append_right _ (List.mem_append_right _ (List.mem_append_right _ (List.mem_append_right _ (List.mem_append_left _ (List.mem_of_getElem? h))))))))), g⟩
theorem am9 (i : Nat) {w : Cond} (h : tables_1_9[i]? = some w) (g : okW w = true) : w ∈ allw := List.mem_filter.mpr ⟨List.mem_append_right _ (List.mem_append_right _ (List.mem_append_right _ (List.mem_append_right _ (List.mem_append_right _ (List.mem_append_right _ (List.mem_append_right _ (List.mem_append_right _ (List.mem_append_right _ (List.mem_append_left _ (List.mem_of_getElem? h)))))))))), g⟩
theorem am10 (i : Nat) {w : Cond} (h : tables_1_10[i]? = some w) (g : okW w = true) : w ∈ allw := List.mem_filter.mpr ⟨List.mem_append_right _ (List.mem_append_right _ (List.mem_append_right _ (List.mem_append_right _ (List.mem_append_right _ (List.mem_append_right _ (List.mem_append_right _ (List.mem_append_right _ (List.mem_append_right _ (List.mem_append_right _ (List.mem_of_getElem? h)))))))))), g⟩
theorem inx0 : ∀ w ∈ u_ws RX0 TX0 13, w ∈ allw := inx [513, 515, 517, 519, 521, 523, 525, 527, 529, 531, 533, 535, 537] (by decide +kernel) (by decide +kernel)
theorem inx1 : ∀ w ∈ u_ws RX1 TX1 8, w ∈ allw := inx [355, 357, 359, 361, 363, 365, 367, 369] (by decide +kernel) (by decide +kernel)
theorem inx2 : ∀ w ∈ u_ws RX2 TX2 12, w ∈ allw := inx [257, 259, 261, 263, 265, 267, 269, 271, 273, 275, 277, 279] (by decide +kernel) (by decide +kernel)
theorem inx3 : ∀ w ∈ u_ws RX3 TX3 3, w ∈ allw := inx [332, 334, 336] (by decide +kernel) (by decide +kernel)
theorem inx4 : ∀ w ∈ u_ws RX4 TX4 14, w ∈ allw := inx [209, 211, 213, 215, 217, 219, 221, 223, 225, 227, 229, 231, 233, 235] (by decide +kernel) (by decide +kernel)
theorem inx5 : ∀ w ∈ u_ws RX5 TX5 13, w ∈ allw := inx [465, 467, 469, 471, 473, 475, 477, 479, 481, 483, 485, 487, 489] (by decide +kernel) (by decide +kernel)
theorem inx6 : ∀ w ∈ u_ws RX6 TX6 8, w ∈ allw := inx [169, 171, 173, 175, 177, 179, 181, 183] (by decide +kernel) (by decide +kernel)
theorem inx7 : ∀ w ∈ u_ws RX7 TX7 5, w ∈ allw := inx [298, 300, 302, 304, 306] (by decide +kernel) (by decide +kernel)
theorem inx8 : ∀ w ∈ u_ws RX8 TX8 6, w ∈ allw := inx [68, 70, 72, 74, 76, 78] (by decide +kernel) (by decide +kernel)
theorem inx9 : ∀ w ∈ u_ws RX9 TX9 8, w ∈ allw := inx [103, 105, 107, 109, 111, 113, 115, 117] (by decide +kernel) (by decide +kernel)
theorem inx10 : ∀ w ∈ u_ws RX10 TX10 18, w ∈ allw := inx [403, 405, 407, 409, 411, 413, 415, 417, 419, 421, 423, 425, 427, 429, 431, 433, 435, 437] (by decide +kernel) (by decide +kernel)
theorem inx11 : ∀ w ∈ u_ws RX11 TX11 17, w ∈ allw := inx [557, 559, 561, 563, 565, 567, 569, 571, 573, 575, 577, 579, 581, 583, 585, 587, 589] (by decide +kernel) (by decide +kernel)
theorem inx12 : ∀ w ∈ u_ws RX12 TX12 86, w ∈ allw := inx [1617, 1619, 1621, 1623, 1625, 1627, 1629, 1631, 1633, 1635, 1637, 1639, 1641, 1643, 1645, 1647, 1649, 1651, 1653, 1655, 1657, 1659, 1661, 1663, 1665, 1667, 1669, 1671, 1673, 1675, 1677, 1679, 1681, 1683, 1685, 1687, 1689, 1691, 1693, 1695, 1697, 1699, 1701, 1703, 1705, 1707, 1709, 1711, 1713, 1715, 1717, 1719, 1721, 1723, 1725, 1727, 1729, 1731, 1733, 1735, 1737, 1739, 1741, 1743, 1745, 1747, 1749, 1751, 1753, 1755, 1757, 1759, 1761, 1763, 1765, 1767, 1769, 1771, 1773, 1775, 1777, 1779, 1781, 1783, 1785, 1787] (by decide +kernel) (by decide +kernel)
theorem fl11_10 : FL RX11 10 11 0 := ⟨by decide, RX11, TX11, 17, tyX11, rfl, rfl, by decide, inx11, tyX11_ok, nmX11, Or.inl (am3 60 (by decide +kernel) rfl)⟩
theorem fl11_16 : FL RX11 16 11 1 := ⟨by decide, RX11, TX11, 17, tyX11, rfl, rfl, by decide, inx11, tyX11_ok, nmX11, Or.inl (am3 61 (by decide +kernel) rfl)⟩
theorem fl11_22 : FL RX11 22 11 3 := ⟨by decide, RX11, TX11, 17, tyX11, rfl, rfl, by decide, inx11, tyX11_ok, nmX11, Or.inl (am3 63 (by decide +kernel) rfl)⟩
theorem fl11_26 : FL RX11 26 11 5 := ⟨by decide, RX11, TX11, 17, tyX11, rfl, rfl, by decide, inx11, tyX11_ok, nmX11, Or.inl (am3 65 (by decide +kernel) rfl)⟩
theorem fl11_29 : FL RX11 29 11 6 := ⟨by decide, RX11, TX11, 17, tyX11, rfl, rfl, by decide, inx11, tyX11_ok, nmX11, Or.inl (am3 66 (by decide +kernel) rfl)⟩
theorem fl11_33 : FL RX11 33 11 8 := ⟨by decide, RX11, TX11, 17, tyX11, rfl, rfl, by decide, inx11, tyX11_ok, nmX11, Or.inl (am3 68 (by decide +kernel) rfl)⟩
theorem fp11_33 : FP RX11 33 11 8 .int := ⟨RX11, TX11, 17, rfl, rfl, by decide +kernel⟩
theorem fl11_40 : FL RX11 40 11 9 := ⟨by decide, RX11, TX11, 17, tyX11, rfl, rfl, by decide, inx11, tyX11_ok, nmX11, Or.inl (am3 69 (by decide +kernel) rfl)⟩
theorem fl11_47 : FL RX11 47 11 10 := ⟨by decide, RX11, TX11, 17, tyX11, rfl, rfl, by decide, inx11, tyX11_ok, nmX11, Or.inl (am3 70 (by decide +kernel) rfl)⟩
theorem fl11_54 : FL RX11 54 11 11 := ⟨by decide, RX11, TX11, 17, tyX11, rfl, rfl, by decide, inx11, tyX11_ok, nmX11, Or.inl (am3 71 (by decide +kernel) rfl)⟩
theorem fl11_61 : FL RX11 61 11 12 := ⟨by decide, RX11, TX11, 17, tyX11, rfl, rfl, by decide, inx11, tyX11_ok, nmX11, Or.inl (am3 72 (by decide +kernel) rfl)⟩
theorem fl11_68 : FL RX11 68 11 13 := ⟨by decide, RX11, TX11, 17, tyX11, rfl, rfl, by decide, inx11, tyX11_ok, nmX11, Or.inl (am3 73 (by decide +kernel) rfl)⟩
theorem fl11_75 : FL RX11 75 11 14 := ⟨by decide, RX11, TX11, 17, tyX11, rfl, rfl, by decide, inx11, tyX11_ok, nmX11, Or.inl (am3 74 (by decide +kernel) rfl)⟩
theorem fl11_82 : FL RX11 82 11 15 := ⟨by decide, RX11, TX11, 17, tyX11, rfl, rfl, by decide, inx11, tyX11_ok, nmX11, Or.inl (am3 75 (by decide +kernel) rfl)⟩
theorem fl11_89 : FL RX11 89 11 16 := ⟨by decide, RX11, TX11, 17, tyX11, rfl, rfl, by decide, inx11, tyX11_ok, nmX11, Or.inl (am3 76 (by decide +kernel) rfl)⟩
theorem fl11_93 : FL RX11 93 11 7 := ⟨by decide, RX11, TX11, 17, tyX11, rfl, rfl, by decide, inx11, tyX11_ok, nmX11, Or.inl (am3 67 (by decide +kernel) rfl)⟩
theorem fp11_93 : FP RX11 93 11 7 .int := ⟨RX11, TX11, 17, rfl, rfl, by decide +kernel⟩
theorem fl11_111 : FL RX11 111 4 9 := ⟨by decide, RX4, TX4, 14, tyX4, rfl, rfl, by decide, inx4, tyX4_ok, nmX4, Or.inr (am1 204 (by decide +kernel) rfl)⟩
theorem fp11_111 : FP RX11 111 4 9 .int := ⟨RX4, TX4, 14, rfl, rfl, by decide +kernel⟩
theorem fl11_114 : FL RX11 114 6 6 := ⟨by decide, RX6, TX6, 8, tyX6, rfl, rfl, by decide, inx6, tyX6_ok, nmX6, Or.inr (am1 166 (by decide +kernel) rfl)⟩
theorem fp11_114 : FP RX11 114 6 6 .int := ⟨RX6, TX6, 8, rfl, rfl, by decide +kernel⟩
theorem fl11_117 : FL RX11 117 6 1 := ⟨by decide, RX6, TX6, 8, tyX6, rfl, rfl, by decide, inx6, tyX6_ok, nmX6, Or.inr (am1 155 (by decide +kernel) rfl)⟩
theorem fl11_143 : FL RX11 143 8 0 := ⟨by decide, RX8, TX8, 6, tyX8, rfl, rfl, by decide, inx8, tyX8_ok, nmX8, Or.inr (am1 59 (by decide +kernel) rfl)⟩
theorem fp11_143 : FP RX11 143 8 0 .int := ⟨RX8, TX8, 6, rfl, rfl, by decide +kernel⟩
theorem fl11_146 : FL RX11 146 11 4 := ⟨by decide, RX11, TX11, 17, tyX11, rfl, rfl, by decide, inx11, tyX11_ok, nmX11, Or.inl (am3 64 (by decide +kernel) rfl)⟩
theorem fp11_146 : FP RX11 146 11 4 .boolean := ⟨RX11, TX11, 17, rfl, rfl, by decide +kernel⟩
theorem fl11_163 : FL RX11 163 1 0 := ⟨by decide, RX1, TX1, 8, tyX1, rfl, rfl, by decide, inx1, tyX1_ok, nmX1, Or.inr (am2 106 (by decide +kernel) rfl)⟩
theorem fp11_163 : FP RX11 163 1 0 .boolean := ⟨RX1, TX1, 8, rfl, rfl, by decide +kernel⟩
theorem fl11_167 : FL RX11 167 5 0 := ⟨by decide, RX5, TX5, 13, tyX5, rfl, rfl, by decide, inx5, tyX5_ok, nmX5, Or.inr (am2 209 (by decide +kernel) rfl)⟩
theorem fp11_167 : FP RX11 167 5 0 .boolean := ⟨RX5, TX5, 13, rfl, rfl, by decide +kernel⟩
theorem fl11_172 : FL RX11 172 3 0 := ⟨by decide, RX3, TX3, 3, tyX3, rfl, rfl, by decide, inx3, tyX3_ok, nmX3, Or.inr (am2 86 (by decide +kernel) rfl)⟩
theorem fp11_172 : FP RX11 172 3 0 .int := ⟨RX3, TX3, 3, rfl, rfl, by decide +kernel⟩
theorem fl11_175 : FL RX11 175 6 7 := ⟨by decide, RX6, TX6, 8, tyX6, rfl, rfl, by decide, inx6, tyX6_ok, nmX6, Or.inr (am1 168 (by decide +kernel) rfl)⟩
theorem fp11_175 : FP RX11 175 6 7 .int := ⟨RX6, TX6, 8, rfl, rfl, by decide +kernel⟩
theorem fl11_178 : FL RX11 178 2 2 := ⟨by decide, RX2, TX2, 12, tyX2, rfl, rfl, by decide, inx2, tyX2_ok, nmX2, Or.inr (am2 7 (by decide +kernel) rfl)⟩
theorem fp11_178 : FP RX11 178 2 2 .int := ⟨RX2, TX2, 12, rfl, rfl, by decide +kernel⟩
theorem fl11_181 : FL RX11 181 6 4 := ⟨by decide, RX6, TX6, 8, tyX6, rfl, rfl, by decide, inx6, tyX6_ok, nmX6, Or.inr (am1 162 (by decide +kernel) rfl)⟩
theorem fp11_181 : FP RX11 181 6 4 .int := ⟨RX6, TX6, 8, rfl, rfl, by decide +kernel⟩
theorem fl11_184 : FL RX11 184 7 3 := ⟨by decide, RX7, TX7, 5, tyX7, rfl, rfl, by decide, inx7, tyX7_ok, nmX7, Or.inr (am2 55 (by decide +kernel) rfl)⟩
theorem fp11_184 : FP RX11 184 7 3 .int := ⟨RX7, TX7, 5, rfl, rfl, by decide +kernel⟩
theorem fl11_187 : FL RX11 187 7 4 := ⟨by decide, RX7, TX7, 5, tyX7, rfl, rfl, by decide, inx7, tyX7_ok, nmX7, Or.inr (am2 57 (by decide +kernel) rfl)⟩
theorem fp11_187 : FP RX11 187 7 4 .int := ⟨RX7, TX7, 5, rfl, rfl, by decide +kernel⟩
theorem fl11_227 : FL RX11 227 8 2 := ⟨by decide, RX8, TX8, 6, tyX8, rfl, rfl, by decide, inx8, tyX8_ok, nmX8, Or.inr (am1 64 (by decide +kernel) rfl)⟩
theorem fl11_255 : FL RX11 255 6 5 := ⟨by decide, RX6, TX6, 8, tyX6, rfl, rfl, by decide, inx6, tyX6_ok, nmX6, Or.inr (am1 164 (by decide +kernel) rfl)⟩
theorem fp11_255 : FP RX11 255 6 5 .int := ⟨RX6, TX6, 8, rfl, rfl, by decide +kernel⟩
theorem fl11_262 : FL RX11 262 1 1 := ⟨by decide, RX1, TX1, 8, tyX1, rfl, rfl, by decide, inx1, tyX1_ok, nmX1, Or.inr (am2 108 (by decide +kernel) rfl)⟩
theorem fp11_262 : FP RX11 262 1 1 .int := ⟨RX1, TX1, 8, rfl, rfl, by decide +kernel⟩
theorem fl11_286 : FL RX11 286 6 0 := ⟨by decide, RX6, TX6, 8, tyX6, rfl, rfl, by decide, inx6, tyX6_ok, nmX6, Or.inr (am1 152 (by decide +kernel) rfl)⟩
theorem fl11_320 : FL RX11 320 9 6 := ⟨by decide, RX9, TX9, 8, tyX9, rfl, rfl, by decide, inx9, tyX9_ok, nmX9, Or.inr (am1 100 (by decide +kernel) rfl)⟩
theorem fp11_320 : FP RX11 320 9 6 .int := ⟨RX9, TX9, 8, rfl, rfl, by decide +kernel⟩
theorem fl11_323 : FL RX11 323 9 7 := ⟨by decide, RX9, TX9, 8, tyX9, rfl, rfl, by decide, inx9, tyX9_ok, nmX9, Or.inr (am1 102 (by decide +kernel) rfl)⟩
theorem fp11_323 : FP RX11 323 9 7 .int := ⟨RX9, TX9, 8, rfl, rfl, by decide +kernel⟩
theorem fl11_328 : FL RX11 328 9 5 := ⟨by decide, RX9, TX9, 8, tyX9, rfl, rfl, by decide, inx9, tyX9_ok, nmX9, Or.inr (am1 98 (by decide +kernel) rfl)⟩
theorem fl11_332 : FL RX11 332 5 1 := ⟨by decide, RX5, TX5, 13, tyX5, rfl, rfl, by decide, inx5, tyX5_ok, nmX5, Or.inr (am2 211 (by decide +kernel) rfl)⟩
theorem fp11_332 : FP RX11 332 5 1 .int := ⟨RX5, TX5, 13, rfl, rfl, by decide +kernel⟩
theorem fl11_333 : FL RX11 333 5 2 := ⟨by decide, RX5, TX5, 13, tyX5, rfl, rfl, by decide, inx5, tyX5_ok, nmX5, Or.inr (am2 213 (by decide +kernel) rfl)⟩
theorem fp11_333 : FP RX11 333 5 2 .int := ⟨RX5, TX5, 13, rfl, rfl, by decide +kernel⟩
theorem fl11_338 : FL RX11 338 5 3 := ⟨by decide, RX5, TX5, 13, tyX5, rfl, rfl, by decide, inx5, tyX5_ok, nmX5, Or.inr (am2 215 (by decide +kernel) rfl)⟩
theorem fl11_344 : FL RX11 344 6 2 := ⟨by decide, RX6, TX6, 8, tyX6, rfl, rfl, by decide, inx6, tyX6_ok, nmX6, Or.inr (am1 157 (by decide +kernel) rfl)⟩
theorem fl11_349 : FL RX11 349 10 13 := ⟨by decide, RX10, TX10, 18, tyX10, rfl, rfl, by decide, inx10, tyX10_ok, nmX10, Or.inr (am2 158 (by decide +kernel) rfl)⟩
theorem fl11_355 : FL RX11 355 10 0 := ⟨by decide, RX10, TX10, 18, tyX10, rfl, rfl, by decide, inx10, tyX10_ok, nmX10, Or.inr (am2 144 (by decide +kernel) rfl)⟩
theorem fl11_372 : FL RX11 372 0 0 := ⟨by decide, RX0, TX0, 13, tyX0, rfl, rfl, by decide, inx0, tyX0_ok, nmX0, Or.inr (am3 19 (by decide +kernel) rfl)⟩
theorem fl11_378 : FL RX11 378 0 1 := ⟨by decide, RX0, TX0, 13, tyX0, rfl, rfl, by decide, inx0, tyX0_ok, nmX0, Or.inr (am3 21 (by decide +kernel) rfl)⟩
theorem fp11_378 : FP RX11 378 0 1 .boolean := ⟨RX0, TX0, 13, rfl, rfl, by decide +kernel⟩
theorem fl11_387 : FL RX11 387 7 0 := ⟨by decide, RX7, TX7, 5, tyX7, rfl, rfl, by decide, inx7, tyX7_ok, nmX7, Or.inr (am2 49 (by decide +kernel) rfl)⟩
theorem fl11_389 : FL RX11 389 7 1 := ⟨by decide, RX7, TX7, 5, tyX7, rfl, rfl, by decide, inx7, tyX7_ok, nmX7, Or.inr (am2 51 (by decide +kernel) rfl)⟩
theorem fl11_395 : FL RX11 395 7 2 := ⟨by decide, RX7, TX7, 5, tyX7, rfl, rfl, by decide, inx7, tyX7_ok, nmX7, Or.inr (am2 53 (by decide +kernel) rfl)⟩
theorem fl11_404 : FL RX11 404 11 2 := ⟨by decide, RX11, TX11, 17, tyX11, rfl, rfl, by decide, inx11, tyX11_ok, nmX11, Or.inl (am3 62 (by decide +kernel) rfl)⟩
theorem fp11_404 : FP RX11 404 11 2 .boolean := ⟨RX11, TX11, 17, rfl, rfl, by decide +kernel⟩
theorem fl0_9 : FL RX0 9 0 0 := ⟨by decide, RX0, TX0, 13, tyX0, rfl, rfl, by decide, inx0, tyX0_ok, nmX0, Or.inl (am3 18 (by decide +kernel) rfl)⟩
theorem fl0_15 : FL RX0 15 0 3 := ⟨by decide, RX0, TX0, 13, tyX0, rfl, rfl, by decide, inx0, tyX0_ok, nmX0, Or.inl (am3 23 (by decide +kernel) rfl)⟩
theorem fl0_18 : FL RX0 18 0 4 := ⟨by decide, RX0, TX0, 13, tyX0, rfl, rfl, by decide, inx0, tyX0_ok, nmX0, Or.inl (am3 24 (by decide +kernel) rfl)⟩
theorem fl0_21 : FL RX0 21 0 5 := ⟨by decide, RX0, TX0, 13, tyX0, rfl, rfl, by decide, inx0, tyX0_ok, nmX0, Or.inl (am3 25 (by decide +kernel) rfl)⟩
theorem fl0_24 : FL RX0 24 0 6 := ⟨by decide, RX0, TX0, 13, tyX0, rfl, rfl, by decide, inx0, tyX0_ok, nmX0, Or.inl (am3 26 (by decide +kernel) rfl)⟩
theorem fl0_27 : FL RX0 27 0 7 := ⟨by decide, RX0, TX0, 13, tyX0, rfl, rfl, by decide, inx0, tyX0_ok, nmX0, Or.inl (am3 27 (by decide +kernel) rfl)⟩
theorem fl0_30 : FL RX0 30 0 8 := ⟨by decide, RX0, TX0, 13, tyX0, rfl, rfl, by decide, inx0, tyX0_ok, nmX0, Or.inl (am3 28 (by decide +kernel) rfl)⟩
theorem fl0_33 : FL RX0 33 0 9 := ⟨by decide, RX0, TX0, 13, tyX0, rfl, rfl, by decide, inx0, tyX0_ok, nmX0, Or.inl (am3 29 (by decide +kernel) rfl)⟩
theorem fl0_36 : FL RX0 36 0 10 := ⟨by decide, RX0, TX0, 13, tyX0, rfl, rfl, by decide, inx0, tyX0_ok, nmX0, Or.inl (am3 30 (by decide +kernel) rfl)⟩
theorem fl0_39 : FL RX0 39 0 11 := ⟨by decide, RX0, TX0, 13, tyX0, rfl, rfl, by decide, inx0, tyX0_ok, nmX0, Or.inl (am3 31 (by decide +kernel) rfl)⟩
theorem fl0_42 : FL RX0 42 0 12 := ⟨by decide, RX0, TX0, 13, tyX0, rfl, rfl, by decide, inx0, tyX0_ok, nmX0, Or.inl (am3 32 (by decide +kernel) rfl)⟩
theorem fl0_45 : FL RX0 45 0 1 := ⟨by decide, RX0, TX0, 13, tyX0, rfl, rfl, by decide, inx0, tyX0_ok, nmX0, Or.inl (am3 20 (by decide +kernel) rfl)⟩
theorem fp0_45 : FP RX0 45 0 1 .boolean := ⟨RX0, TX0, 13, rfl, rfl, by decide +kernel⟩
theorem fl0_49 : FL RX0 49 6 1 := ⟨by decide, RX6, TX6, 8, tyX6, rfl, rfl, by decide, inx6, tyX6_ok, nmX6, Or.inr (am1 154 (by decide +kernel) rfl)⟩
theorem fl0_55 : FL RX0 55 8 0 := ⟨by decide, RX8, TX8, 6, tyX8, rfl, rfl, by decide, inx8, tyX8_ok, nmX8, Or.inr (am1 53 (by decide +kernel) rfl)⟩
theorem fp0_55 : FP RX0 55 8 0 .int := ⟨RX8, TX8, 6, rfl, rfl, by decide +kernel⟩
theorem fl0_65 : FL RX0 65 6 0 := ⟨by decide, RX6, TX6, 8, tyX6, rfl, rfl, by decide, inx6, tyX6_ok, nmX6, Or.inr (am1 151 (by decide +kernel) rfl)⟩
theorem fl0_85 : FL RX0 85 0 2 := ⟨by decide, RX0, TX0, 13, tyX0, rfl, rfl, by decide, inx0, tyX0_ok, nmX0, Or.inl (am3 22 (by decide +kernel) rfl)⟩
theorem fp0_85 : FP RX0 85 0 2 .int := ⟨RX0, TX0, 13, rfl, rfl, by decide +kernel⟩
theorem fl0_92 : FL RX0 92 9 2 := ⟨by decide, RX9, TX9, 8, tyX9, rfl, rfl, by decide, inx9, tyX9_ok, nmX9, Or.inr (am1 91 (by decide +kernel) rfl)⟩
theorem fl0_100 : FL RX0 100 9 1 := ⟨by decide, RX9, TX9, 8, tyX9, rfl, rfl, by decide, inx9, tyX9_ok, nmX9, Or.inr (am1 87 (by decide +kernel) rfl)⟩
theorem fl0_113 : FL RX0 113 3 1 := ⟨by decide, RX3, TX3, 3, tyX3, rfl, rfl, by decide, inx3, tyX3_ok, nmX3, Or.inr (am2 90 (by decide +kernel) rfl)⟩
theorem fl0_128 : FL RX0 128 6 4 := ⟨by decide, RX6, TX6, 8, tyX6, rfl, rfl, by decide, inx6, tyX6_ok, nmX6, Or.inr (am1 161 (by decide +kernel) rfl)⟩
theorem fp0_128 : FP RX0 128 6 4 .int := ⟨RX6, TX6, 8, rfl, rfl, by decide +kernel⟩
theorem fl0_131 : FL RX0 131 6 3 := ⟨by decide, RX6, TX6, 8, tyX6, rfl, rfl, by decide, inx6, tyX6_ok, nmX6, Or.inr (am1 159 (by decide +kernel) rfl)⟩
theorem fl1_9 : FL RX1 9 1 2 := ⟨by decide, RX1, TX1, 8, tyX1, rfl, rfl, by decide, inx1, tyX1_ok, nmX1, Or.inl (am2 109 (by decide +kernel) rfl)⟩
theorem fl1_15 : FL RX1 15 1 3 := ⟨by decide, RX1, TX1, 8, tyX1, rfl, rfl, by decide, inx1, tyX1_ok, nmX1, Or.inl (am2 110 (by decide +kernel) rfl)⟩
theorem fl1_18 : FL RX1 18 1 4 := ⟨by decide, RX1, TX1, 8, tyX1, rfl, rfl, by decide, inx1, tyX1_ok, nmX1, Or.inl (am2 111 (by decide +kernel) rfl)⟩
theorem fl1_21 : FL RX1 21 1 5 := ⟨by decide, RX1, TX1, 8, tyX1, rfl, rfl, by decide, inx1, tyX1_ok, nmX1, Or.inl (am2 112 (by decide +kernel) rfl)⟩
theorem fl1_24 : FL RX1 24 1 6 := ⟨by decide, RX1, TX1, 8, tyX1, rfl, rfl, by decide, inx1, tyX1_ok, nmX1, Or.inl (am2 113 (by decide +kernel) rfl)⟩
theorem fl1_27 : FL RX1 27 1 7 := ⟨by decide, RX1, TX1, 8, tyX1, rfl, rfl, by decide, inx1, tyX1_ok, nmX1, Or.inl (am2 114 (by decide +kernel) rfl)⟩
theorem fl1_30 : FL RX1 30 1 0 := ⟨by decide, RX1, TX1, 8, tyX1, rfl, rfl, by decide, inx1, tyX1_ok, nmX1, Or.inl (am2 105 (by decide +kernel) rfl)⟩
theorem fp1_30 : FP RX1 30 1 0 .boolean := ⟨RX1, TX1, 8, rfl, rfl, by decide +kernel⟩
theorem fl1_34 : FL RX1 34 8 0 := ⟨by decide, RX8, TX8, 6, tyX8, rfl, rfl, by decide, inx8, tyX8_ok, nmX8, Or.inr (am1 56 (by decide +kernel) rfl)⟩
theorem fp1_34 : FP RX1 34 8 0 .int := ⟨RX8, TX8, 6, rfl, rfl, by decide +kernel⟩
theorem fl1_44 : FL RX1 44 1 1 := ⟨by decide, RX1, TX1, 8, tyX1, rfl, rfl, by decide, inx1, tyX1_ok, nmX1, Or.inl (am2 107 (by decide +kernel) rfl)⟩
theorem fp1_44 : FP RX1 44 1 1 .int := ⟨RX1, TX1, 8, rfl, rfl, by decide +kernel⟩
theorem fl1_57 : FL RX1 57 3 0 := ⟨by decide, RX3, TX3, 3, tyX3, rfl, rfl, by decide, inx3, tyX3_ok, nmX3, Or.inr (am2 84 (by decide +kernel) rfl)⟩
theorem fp1_57 : FP RX1 57 3 0 .int := ⟨RX3, TX3, 3, rfl, rfl, by decide +kernel⟩
theorem fl2_9 : FL RX2 9 2 1 := ⟨by decide, RX2, TX2, 12, tyX2, rfl, rfl, by decide, inx2, tyX2_ok, nmX2, Or.inl (am2 5 (by decide +kernel) rfl)⟩
theorem fp2_9 : FP RX2 9 2 1 .int := ⟨RX2, TX2, 12, rfl, rfl, by decide +kernel⟩
theorem fl2_15 : FL RX2 15 2 4 := ⟨by decide, RX2, TX2, 12, tyX2, rfl, rfl, by decide, inx2, tyX2_ok, nmX2, Or.inl (am2 9 (by decide +kernel) rfl)⟩
theorem fl2_19 : FL RX2 19 2 5 := ⟨by decide, RX2, TX2, 12, tyX2, rfl, rfl, by decide, inx2, tyX2_ok, nmX2, Or.inl (am2 10 (by decide +kernel) rfl)⟩
theorem fl2_22 : FL RX2 22 2 6 := ⟨by decide, RX2, TX2, 12, tyX2, rfl, rfl, by decide, inx2, tyX2_ok, nmX2, Or.inl (am2 11 (by decide +kernel) rfl)⟩
theorem fl2_25 : FL RX2 25 2 7 := ⟨by decide, RX2, TX2, 12, tyX2, rfl, rfl, by decide, inx2, tyX2_ok, nmX2, Or.inl (am2 12 (by decide +kernel) rfl)⟩
theorem fl2_28 : FL RX2 28 2 9 := ⟨by decide, RX2, TX2, 12, tyX2, rfl, rfl, by decide, inx2, tyX2_ok, nmX2, Or.inl (am2 14 (by decide +kernel) rfl)⟩
theorem fl2_31 : FL RX2 31 2 10 := ⟨by decide, RX2, TX2, 12, tyX2, rfl, rfl, by decide, inx2, tyX2_ok, nmX2, Or.inl (am2 15 (by decide +kernel) rfl)⟩
theorem fl2_34 : FL RX2 34 2 11 := ⟨by decide, RX2, TX2, 12, tyX2, rfl, rfl, by decide, inx2, tyX2_ok, nmX2, Or.inl (am2 16 (by decide +kernel) rfl)⟩
theorem fl2_37 : FL RX2 37 2 0 := ⟨by decide, RX2, TX2, 12, tyX2, rfl, rfl, by decide, inx2, tyX2_ok, nmX2, Or.inl (am2 4 (by decide +kernel) rfl)⟩
theorem fp2_37 : FP RX2 37 2 0 .int := ⟨RX2, TX2, 12, rfl, rfl, by decide +kernel⟩
theorem fl2_40 : FL RX2 40 2 2 := ⟨by decide, RX2, TX2, 12, tyX2, rfl, rfl, by decide, inx2, tyX2_ok, nmX2, Or.inl (am2 6 (by decide +kernel) rfl)⟩
theorem fp2_40 : FP RX2 40 2 2 .int := ⟨RX2, TX2, 12, rfl, rfl, by decide +kernel⟩
theorem fl2_50 : FL RX2 50 2 3 := ⟨by decide, RX2, TX2, 12, tyX2, rfl, rfl, by decide, inx2, tyX2_ok, nmX2, Or.inl (am2 8 (by decide +kernel) rfl)⟩
theorem fp2_50 : FP RX2 50 2 3 .int := ⟨RX2, TX2, 12, rfl, rfl, by decide +kernel⟩
theorem fl2_53 : FL RX2 53 2 8 := ⟨by decide, RX2, TX2, 12, tyX2, rfl, rfl, by decide, inx2, tyX2_ok, nmX2, Or.inl (am2 13 (by decide +kernel) rfl)⟩
theorem fp2_53 : FP RX2 53 2 8 .int := ⟨RX2, TX2, 12, rfl, rfl, by decide +kernel⟩
theorem fl3_7 : FL RX3 7 3 1 := ⟨by decide, RX3, TX3, 3, tyX3, rfl, rfl, by decide, inx3, tyX3_ok, nmX3, Or.inl (am2 88 (by decide +kernel) rfl)⟩
theorem fl3_13 : FL RX3 13 3 2 := ⟨by decide, RX3, TX3, 3, tyX3, rfl, rfl, by decide, inx3, tyX3_ok, nmX3, Or.inl (am2 91 (by decide +kernel) rfl)⟩
theorem fl3_20 : FL RX3 20 3 0 := ⟨by decide, RX3, TX3, 3, tyX3, rfl, rfl, by decide, inx3, tyX3_ok, nmX3, Or.inl (am2 83 (by decide +kernel) rfl)⟩
theorem fp3_20 : FP RX3 20 3 0 .int := ⟨RX3, TX3, 3, rfl, rfl, by decide +kernel⟩
theorem fl4_9 : FL RX4 9 4 0 := ⟨by decide, RX4, TX4, 14, tyX4, rfl, rfl, by decide, inx4, tyX4_ok, nmX4, Or.inl (am1 194 (by decide +kernel) rfl)⟩
theorem fl4_15 : FL RX4 15 4 1 := ⟨by decide, RX4, TX4, 14, tyX4, rfl, rfl, by decide, inx4, tyX4_ok, nmX4, Or.inl (am1 195 (by decide +kernel) rfl)⟩
theorem fp4_15 : FP RX4 15 4 1 .int := ⟨RX4, TX4, 14, rfl, rfl, by decide +kernel⟩
theorem fl4_19 : FL RX4 19 4 2 := ⟨by decide, RX4, TX4, 14, tyX4, rfl, rfl, by decide, inx4, tyX4_ok, nmX4, Or.inl (am1 196 (by decide +kernel) rfl)⟩
theorem fp4_19 : FP RX4 19 4 2 .int := ⟨RX4, TX4, 14, rfl, rfl, by decide +kernel⟩
theorem fl4_22 : FL RX4 22 4 6 := ⟨by decide, RX4, TX4, 14, tyX4, rfl, rfl, by decide, inx4, tyX4_ok, nmX4, Or.inl (am1 200 (by decide +kernel) rfl)⟩
theorem fp4_22 : FP RX4 22 4 6 .int := ⟨RX4, TX4, 14, rfl, rfl, by decide +kernel⟩
theorem fl4_25 : FL RX4 25 4 7 := ⟨by decide, RX4, TX4, 14, tyX4, rfl, rfl, by decide, inx4, tyX4_ok, nmX4, Or.inl (am1 201 (by decide +kernel) rfl)⟩
theorem fp4_25 : FP RX4 25 4 7 .boolean := ⟨RX4, TX4, 14, rfl, rfl, by decide +kernel⟩
theorem fl4_29 : FL RX4 29 4 8 := ⟨by decide, RX4, TX4, 14, tyX4, rfl, rfl, by decide, inx4, tyX4_ok, nmX4, Or.inl (am1 202 (by decide +kernel) rfl)⟩
theorem fp4_29 : FP RX4 29 4 8 .int := ⟨RX4, TX4, 14, rfl, rfl, by decide +kernel⟩
theorem fl4_32 : FL RX4 32 4 9 := ⟨by decide, RX4, TX4, 14, tyX4, rfl, rfl, by decide, inx4, tyX4_ok, nmX4, Or.inl (am1 203 (by decide +kernel) rfl)⟩
theorem fp4_32 : FP RX4 32 4 9 .int := ⟨RX4, TX4, 14, rfl, rfl, by decide +kernel⟩
theorem fl4_35 : FL RX4 35 4 10 := ⟨by decide, RX4, TX4, 14, tyX4, rfl, rfl, by decide, inx4, tyX4_ok, nmX4, Or.inl (am1 205 (by decide +kernel) rfl)⟩
theorem fl4_39 : FL RX4 39 4 13 := ⟨by decide, RX4, TX4, 14, tyX4, rfl, rfl, by decide, inx4, tyX4_ok, nmX4, Or.inl (am1 208 (by decide +kernel) rfl)⟩
theorem fp4_39 : FP RX4 39 4 13 .int := ⟨RX4, TX4, 14, rfl, rfl, by decide +kernel⟩
theorem fl4_48 : FL RX4 48 4 3 := ⟨by decide, RX4, TX4, 14, tyX4, rfl, rfl, by decide, inx4, tyX4_ok, nmX4, Or.inl (am1 197 (by decide +kernel) rfl)⟩
theorem fp4_48 : FP RX4 48 4 3 .int := ⟨RX4, TX4, 14, rfl, rfl, by decide +kernel⟩
theorem fl4_55 : FL RX4 55 4 4 := ⟨by decide, RX4, TX4, 14, tyX4, rfl, rfl, by decide, inx4, tyX4_ok, nmX4, Or.inl (am1 198 (by decide +kernel) rfl)⟩
theorem fp4_55 : FP RX4 55 4 4 .int := ⟨RX4, TX4, 14, rfl, rfl, by decide +kernel⟩
theorem fl4_70 : FL RX4 70 4 5 := ⟨by decide, RX4, TX4, 14, tyX4, rfl, rfl, by decide, inx4, tyX4_ok, nmX4, Or.inl (am1 199 (by decide +kernel) rfl)⟩
theorem fp4_70 : FP RX4 70 4 5 .int := ⟨RX4, TX4, 14, rfl, rfl, by decide +kernel⟩
theorem fl4_118 : FL RX4 118 8 0 := ⟨by decide, RX8, TX8, 6, tyX8, rfl, rfl, by decide, inx8, tyX8_ok, nmX8, Or.inr (am1 60 (by decide +kernel) rfl)⟩
theorem fp4_118 : FP RX4 118 8 0 .int := ⟨RX8, TX8, 6, rfl, rfl, by decide +kernel⟩
theorem fl4_125 : FL RX4 125 4 11 := ⟨by decide, RX4, TX4, 14, tyX4, rfl, rfl, by decide, inx4, tyX4_ok, nmX4, Or.inl (am1 206 (by decide +kernel) rfl)⟩
theorem fp4_125 : FP RX4 125 4 11 .int := ⟨RX4, TX4, 14, rfl, rfl, by decide +kernel⟩
theorem fl4_128 : FL RX4 128 4 12 := ⟨by decide, RX4, TX4, 14, tyX4, rfl, rfl, by decide, inx4, tyX4_ok, nmX4, Or.inl (am1 207 (by decide +kernel) rfl)⟩
theorem fp4_128 : FP RX4 128 4 12 .int := ⟨RX4, TX4, 14, rfl, rfl, by decide +kernel⟩
theorem fl5_11 : FL RX5 11 5 3 := ⟨by decide, RX5, TX5, 13, tyX5, rfl, rfl, by decide, inx5, tyX5_ok, nmX5, Or.inl (am2 214 (by decide +kernel) rfl)⟩
theorem fl5_15 : FL RX5 15 5 4 := ⟨by decide, RX5, TX5, 13, tyX5, rfl, rfl, by decide, inx5, tyX5_ok, nmX5, Or.inl (am2 216 (by decide +kernel) rfl)⟩
theorem fl5_18 : FL RX5 18 5 5 := ⟨by decide, RX5, TX5, 13, tyX5, rfl, rfl, by decide, inx5, tyX5_ok, nmX5, Or.inl (am2 217 (by decide +kernel) rfl)⟩
theorem fl5_24 : FL RX5 24 5 6 := ⟨by decide, RX5, TX5, 13, tyX5, rfl, rfl, by decide, inx5, tyX5_ok, nmX5, Or.inl (am2 218 (by decide +kernel) rfl)⟩
theorem fl5_28 : FL RX5 28 9 0 := ⟨by decide, RX9, TX9, 8, tyX9, rfl, rfl, by decide, inx9, tyX9_ok, nmX9, Or.inr (am1 85 (by decide +kernel) rfl)⟩
theorem fl5_32 : FL RX5 32 5 7 := ⟨by decide, RX5, TX5, 13, tyX5, rfl, rfl, by decide, inx5, tyX5_ok, nmX5, Or.inl (am2 219 (by decide +kernel) rfl)⟩
theorem fl5_33 : FL RX5 33 5 8 := ⟨by decide, RX5, TX5, 13, tyX5, rfl, rfl, by decide, inx5, tyX5_ok, nmX5, Or.inl (am2 220 (by decide +kernel) rfl)⟩
theorem fl5_36 : FL RX5 36 5 9 := ⟨by decide, RX5, TX5, 13, tyX5, rfl, rfl, by decide, inx5, tyX5_ok, nmX5, Or.inl (am2 221 (by decide +kernel) rfl)⟩
theorem fl5_39 : FL RX5 39 5 11 := ⟨by decide, RX5, TX5, 13, tyX5, rfl, rfl, by decide, inx5, tyX5_ok, nmX5, Or.inl (am2 223 (by decide +kernel) rfl)⟩
theorem fl5_42 : FL RX5 42 5 12 := ⟨by decide, RX5, TX5, 13, tyX5, rfl, rfl, by decide, inx5, tyX5_ok, nmX5, Or.inl (am2 224 (by decide +kernel) rfl)⟩
theorem fl5_54 : FL RX5 54 5 1 := ⟨by decide, RX5, TX5, 13, tyX5, rfl, rfl, by decide, inx5, tyX5_ok, nmX5, Or.inl (am2 210 (by decide +kernel) rfl)⟩
theorem fp5_54 : FP RX5 54 5 1 .int := ⟨RX5, TX5, 13, rfl, rfl, by decide +kernel⟩
theorem fl5_58 : FL RX5 58 5 2 := ⟨by decide, RX5, TX5, 13, tyX5, rfl, rfl, by decide, inx5, tyX5_ok, nmX5, Or.inl (am2 212 (by decide +kernel) rfl)⟩
theorem fp5_58 : FP RX5 58 5 2 .int := ⟨RX5, TX5, 13, rfl, rfl, by decide +kernel⟩
theorem fl5_61 : FL RX5 61 5 10 := ⟨by decide, RX5, TX5, 13, tyX5, rfl, rfl, by decide, inx5, tyX5_ok, nmX5, Or.inl (am2 222 (by decide +kernel) rfl)⟩
theorem fp5_61 : FP RX5 61 5 10 .int := ⟨RX5, TX5, 13, rfl, rfl, by decide +kernel⟩
theorem fl5_64 : FL RX5 64 8 0 := ⟨by decide, RX8, TX8, 6, tyX8, rfl, rfl, by decide, inx8, tyX8_ok, nmX8, Or.inr (am1 54 (by decide +kernel) rfl)⟩
theorem fp5_64 : FP RX5 64 8 0 .int := ⟨RX8, TX8, 6, rfl, rfl, by decide +kernel⟩
theorem fl5_77 : FL RX5 77 5 0 := ⟨by decide, RX5, TX5, 13, tyX5, rfl, rfl, by decide, inx5, tyX5_ok, nmX5, Or.inl (am2 208 (by decide +kernel) rfl)⟩
theorem fp5_77 : FP RX5 77 5 0 .boolean := ⟨RX5, TX5, 13, rfl, rfl, by decide +kernel⟩
theorem fl5_89 : FL RX5 89 9 3 := ⟨by decide, RX9, TX9, 8, tyX9, rfl, rfl, by decide, inx9, tyX9_ok, nmX9, Or.inr (am1 94 (by decide +kernel) rfl)⟩
theorem fl5_108 : FL RX5 108 9 4 := ⟨by decide, RX9, TX9, 8, tyX9, rfl, rfl, by decide, inx9, tyX9_ok, nmX9, Or.inr (am1 96 (by decide +kernel) rfl)⟩
theorem fl5_128 : FL RX5 128 3 0 := ⟨by decide, RX3, TX3, 3, tyX3, rfl, rfl, by decide, inx3, tyX3_ok, nmX3, Or.inr (am2 85 (by decide +kernel) rfl)⟩
theorem fp5_128 : FP RX5 128 3 0 .int := ⟨RX3, TX3, 3, rfl, rfl, by decide +kernel⟩
theorem fl5_133 : FL RX5 133 9 1 := ⟨by decide, RX9, TX9, 8, tyX9, rfl, rfl, by decide, inx9, tyX9_ok, nmX9, Or.inr (am1 89 (by decide +kernel) rfl)⟩
theorem fl6_9 : FL RX6 9 6 2 := ⟨by decide, RX6, TX6, 8, tyX6, rfl, rfl, by decide, inx6, tyX6_ok, nmX6, Or.inl (am1 156 (by decide +kernel) rfl)⟩
theorem fl6_15 : FL RX6 15 6 3 := ⟨by decide, RX6, TX6, 8, tyX6, rfl, rfl, by decide, inx6, tyX6_ok, nmX6, Or.inl (am1 158 (by decide +kernel) rfl)⟩
theorem fl6_21 : FL RX6 21 6 0 := ⟨by decide, RX6, TX6, 8, tyX6, rfl, rfl, by decide, inx6, tyX6_ok, nmX6, Or.inl (am1 150 (by decide +kernel) rfl)⟩
theorem fl6_25 : FL RX6 25 9 0 := ⟨by decide, RX9, TX9, 8, tyX9, rfl, rfl, by decide, inx9, tyX9_ok, nmX9, Or.inr (am1 84 (by decide +kernel) rfl)⟩
theorem fl6_29 : FL RX6 29 6 1 := ⟨by decide, RX6, TX6, 8, tyX6, rfl, rfl, by decide, inx6, tyX6_ok, nmX6, Or.inl (am1 153 (by decide +kernel) rfl)⟩
theorem fl6_30 : FL RX6 30 6 5 := ⟨by decide, RX6, TX6, 8, tyX6, rfl, rfl, by decide, inx6, tyX6_ok, nmX6, Or.inl (am1 163 (by decide +kernel) rfl)⟩
theorem fp6_30 : FP RX6 30 6 5 .int := ⟨RX6, TX6, 8, rfl, rfl, by decide +kernel⟩
theorem fl6_46 : FL RX6 46 6 4 := ⟨by decide, RX6, TX6, 8, tyX6, rfl, rfl, by decide, inx6, tyX6_ok, nmX6, Or.inl (am1 160 (by decide +kernel) rfl)⟩
theorem fp6_46 : FP RX6 46 6 4 .int := ⟨RX6, TX6, 8, rfl, rfl, by decide +kernel⟩
theorem fl6_64 : FL RX6 64 6 6 := ⟨by decide, RX6, TX6, 8, tyX6, rfl, rfl, by decide, inx6, tyX6_ok, nmX6, Or.inl (am1 165 (by decide +kernel) rfl)⟩
theorem fp6_64 : FP RX6 64 6 6 .int := ⟨RX6, TX6, 8, rfl, rfl, by decide +kernel⟩
theorem fl6_67 : FL RX6 67 6 7 := ⟨by decide, RX6, TX6, 8, tyX6, rfl, rfl, by decide, inx6, tyX6_ok, nmX6, Or.inl (am1 167 (by decide +kernel) rfl)⟩
theorem fp6_67 : FP RX6 67 6 7 .int := ⟨RX6, TX6, 8, rfl, rfl, by decide +kernel⟩
theorem fl6_70 : FL RX6 70 8 0 := ⟨by decide, RX8, TX8, 6, tyX8, rfl, rfl, by decide, inx8, tyX8_ok, nmX8, Or.inr (am1 57 (by decide +kernel) rfl)⟩
theorem fp6_70 : FP RX6 70 8 0 .int := ⟨RX8, TX8, 6, rfl, rfl, by decide +kernel⟩
theorem fl6_77 : FL RX6 77 9 1 := ⟨by decide, RX9, TX9, 8, tyX9, rfl, rfl, by decide, inx9, tyX9_ok, nmX9, Or.inr (am1 88 (by decide +kernel) rfl)⟩
theorem fl6_80 : FL RX6 80 9 2 := ⟨by decide, RX9, TX9, 8, tyX9, rfl, rfl, by decide, inx9, tyX9_ok, nmX9, Or.inr (am1 92 (by decide +kernel) rfl)⟩
theorem fl7_9 : FL RX7 9 7 0 := ⟨by decide, RX7, TX7, 5, tyX7, rfl, rfl, by decide, inx7, tyX7_ok, nmX7, Or.inl (am2 48 (by decide +kernel) rfl)⟩
theorem fl7_13 : FL RX7 13 7 1 := ⟨by decide, RX7, TX7, 5, tyX7, rfl, rfl, by decide, inx7, tyX7_ok, nmX7, Or.inl (am2 50 (by decide +kernel) rfl)⟩
theorem fl7_16 : FL RX7 16 7 2 := ⟨by decide, RX7, TX7, 5, tyX7, rfl, rfl, by decide, inx7, tyX7_ok, nmX7, Or.inl (am2 52 (by decide +kernel) rfl)⟩
theorem fl7_19 : FL RX7 19 7 3 := ⟨by decide, RX7, TX7, 5, tyX7, rfl, rfl, by decide, inx7, tyX7_ok, nmX7, Or.inl (am2 54 (by decide +kernel) rfl)⟩
theorem fp7_19 : FP RX7 19 7 3 .int := ⟨RX7, TX7, 5, rfl, rfl, by decide +kernel⟩
theorem fl7_23 : FL RX7 23 7 4 := ⟨by decide, RX7, TX7, 5, tyX7, rfl, rfl, by decide, inx7, tyX7_ok, nmX7, Or.inl (am2 56 (by decide +kernel) rfl)⟩
theorem fp7_23 : FP RX7 23 7 4 .int := ⟨RX7, TX7, 5, rfl, rfl, by decide +kernel⟩
theorem fl8_9 : FL RX8 9 8 1 := ⟨by decide, RX8, TX8, 6, tyX8, rfl, rfl, by decide, inx8, tyX8_ok, nmX8, Or.inl (am1 61 (by decide +kernel) rfl)⟩
theorem fl8_15 : FL RX8 15 8 2 := ⟨by decide, RX8, TX8, 6, tyX8, rfl, rfl, by decide, inx8, tyX8_ok, nmX8, Or.inl (am1 62 (by decide +kernel) rfl)⟩
theorem fl8_18 : FL RX8 18 8 3 := ⟨by decide, RX8, TX8, 6, tyX8, rfl, rfl, by decide, inx8, tyX8_ok, nmX8, Or.inl (am1 65 (by decide +kernel) rfl)⟩
theorem fl8_22 : FL RX8 22 8 4 := ⟨by decide, RX8, TX8, 6, tyX8, rfl, rfl, by decide, inx8, tyX8_ok, nmX8, Or.inl (am1 66 (by decide +kernel) rfl)⟩
theorem fl8_25 : FL RX8 25 8 5 := ⟨by decide, RX8, TX8, 6, tyX8, rfl, rfl, by decide, inx8, tyX8_ok, nmX8, Or.inl (am1 67 (by decide +kernel) rfl)⟩
theorem fl8_28 : FL RX8 28 8 0 := ⟨by decide, RX8, TX8, 6, tyX8, rfl, rfl, by decide, inx8, tyX8_ok, nmX8, Or.inl (am1 52 (by decide +kernel) rfl)⟩
theorem fp8_28 : FP RX8 28 8 0 .int := ⟨RX8, TX8, 6, rfl, rfl, by decide +kernel⟩
theorem fl9_12 : FL RX9 12 9 0 := ⟨by decide, RX9, TX9, 8, tyX9, rfl, rfl, by decide, inx9, tyX9_ok, nmX9, Or.inl (am1 83 (by decide +kernel) rfl)⟩
theorem fl9_18 : FL RX9 18 9 1 := ⟨by decide, RX9, TX9, 8, tyX9, rfl, rfl, by decide, inx9, tyX9_ok, nmX9, Or.inl (am1 86 (by decide +kernel) rfl)⟩
theorem fl9_22 : FL RX9 22 9 2 := ⟨by decide, RX9, TX9, 8, tyX9, rfl, rfl, by decide, inx9, tyX9_ok, nmX9, Or.inl (am1 90 (by decide +kernel) rfl)⟩
theorem fl9_25 : FL RX9 25 9 3 := ⟨by decide, RX9, TX9, 8, tyX9, rfl, rfl, by decide, inx9, tyX9_ok, nmX9, Or.inl (am1 93 (by decide +kernel) rfl)⟩
theorem fl9_28 : FL RX9 28 9 4 := ⟨by decide, RX9, TX9, 8, tyX9, rfl, rfl, by decide, inx9, tyX9_ok, nmX9, Or.inl (am1 95 (by decide +kernel) rfl)⟩
theorem fl9_31 : FL RX9 31 9 5 := ⟨by decide, RX9, TX9, 8, tyX9, rfl, rfl, by decide, inx9, tyX9_ok, nmX9, Or.inl (am1 97 (by decide +kernel) rfl)⟩
theorem fl9_50 : FL RX9 50 8 0 := ⟨by decide, RX8, TX8, 6, tyX8, rfl, rfl, by decide, inx8, tyX8_ok, nmX8, Or.inr (am1 58 (by decide +kernel) rfl)⟩
theorem fp9_50 : FP RX9 50 8 0 .int := ⟨RX8, TX8, 6, rfl, rfl, by decide +kernel⟩
theorem fl9_69 : FL RX9 69 9 6 := ⟨by decide, RX9, TX9, 8, tyX9, rfl, rfl, by decide, inx9, tyX9_ok, nmX9, Or.inl (am1 99 (by decide +kernel) rfl)⟩
theorem fp9_69 : FP RX9 69 9 6 .int := ⟨RX9, TX9, 8, rfl, rfl, by decide +kernel⟩
theorem fl9_72 : FL RX9 72 9 7 := ⟨by decide, RX9, TX9, 8, tyX9, rfl, rfl, by decide, inx9, tyX9_ok, nmX9, Or.inl (am1 101 (by decide +kernel) rfl)⟩
theorem fp9_72 : FP RX9 72 9 7 .int := ⟨RX9, TX9, 8, rfl, rfl, by decide +kernel⟩
theorem fl10_9 : FL RX10 9 10 0 := ⟨by decide, RX10, TX10, 18, tyX10, rfl, rfl, by decide, inx10, tyX10_ok, nmX10, Or.inl (am2 143 (by decide +kernel) rfl)⟩
theorem fl10_15 : FL RX10 15 10 1 := ⟨by decide, RX10, TX10, 18, tyX10, rfl, rfl, by decide, inx10, tyX10_ok, nmX10, Or.inl (am2 145 (by decide +kernel) rfl)⟩
theorem fl10_18 : FL RX10 18 10 3 := ⟨by decide, RX10, TX10, 18, tyX10, rfl, rfl, by decide, inx10, tyX10_ok, nmX10, Or.inl (am2 147 (by decide +kernel) rfl)⟩
theorem fl10_21 : FL RX10 21 10 9 := ⟨by decide, RX10, TX10, 18, tyX10, rfl, rfl, by decide, inx10, tyX10_ok, nmX10, Or.inl (am2 153 (by decide +kernel) rfl)⟩
theorem fl10_24 : FL RX10 24 10 10 := ⟨by decide, RX10, TX10, 18, tyX10, rfl, rfl, by decide, inx10, tyX10_ok, nmX10, Or.inl (am2 154 (by decide +kernel) rfl)⟩
theorem fl10_27 : FL RX10 27 10 11 := ⟨by decide, RX10, TX10, 18, tyX10, rfl, rfl, by decide, inx10, tyX10_ok, nmX10, Or.inl (am2 155 (by decide +kernel) rfl)⟩
theorem fl10_30 : FL RX10 30 10 12 := ⟨by decide, RX10, TX10, 18, tyX10, rfl, rfl, by decide, inx10, tyX10_ok, nmX10, Or.inl (am2 156 (by decide +kernel) rfl)⟩
theorem fl10_33 : FL RX10 33 10 13 := ⟨by decide, RX10, TX10, 18, tyX10, rfl, rfl, by decide, inx10, tyX10_ok, nmX10, Or.inl (am2 157 (by decide +kernel) rfl)⟩
theorem fl10_36 : FL RX10 36 10 14 := ⟨by decide, RX10, TX10, 18, tyX10, rfl, rfl, by decide, inx10, tyX10_ok, nmX10, Or.inl (am2 159 (by decide +kernel) rfl)⟩
theorem fl10_39 : FL RX10 39 10 15 := ⟨by decide, RX10, TX10, 18, tyX10, rfl, rfl, by decide, inx10, tyX10_ok, nmX10, Or.inl (am2 160 (by decide +kernel) rfl)⟩
theorem fl10_42 : FL RX10 42 10 16 := ⟨by decide, RX10, TX10, 18, tyX10, rfl, rfl, by decide, inx10, tyX10_ok, nmX10, Or.inl (am2 161 (by decide +kernel) rfl)⟩
theorem fl10_45 : FL RX10 45 10 17 := ⟨by decide, RX10, TX10, 18, tyX10, rfl, rfl, by decide, inx10, tyX10_ok, nmX10, Or.inl (am2 162 (by decide +kernel) rfl)⟩
theorem fl10_57 : FL RX10 57 10 2 := ⟨by decide, RX10, TX10, 18, tyX10, rfl, rfl, by decide, inx10, tyX10_ok, nmX10, Or.inl (am2 146 (by decide +kernel) rfl)⟩
theorem fp10_57 : FP RX10 57 10 2 .int := ⟨RX10, TX10, 18, rfl, rfl, by decide +kernel⟩
theorem fl10_61 : FL RX10 61 10 4 := ⟨by decide, RX10, TX10, 18, tyX10, rfl, rfl, by decide, inx10, tyX10_ok, nmX10, Or.inl (am2 148 (by decide +kernel) rfl)⟩
theorem fl10_65 : FL RX10 65 10 5 := ⟨by decide, RX10, TX10, 18, tyX10, rfl, rfl, by decide, inx10, tyX10_ok, nmX10, Or.inl (am2 149 (by decide +kernel) rfl)⟩
theorem fl10_69 : FL RX10 69 8 0 := ⟨by decide, RX8, TX8, 6, tyX8, rfl, rfl, by decide, inx8, tyX8_ok, nmX8, Or.inr (am1 55 (by decide +kernel) rfl)⟩
theorem fp10_69 : FP RX10 69 8 0 .int := ⟨RX8, TX8, 6, rfl, rfl, by decide +kernel⟩
theorem fl10_74 : FL RX10 74 10 6 := ⟨by decide, RX10, TX10, 18, tyX10, rfl, rfl, by decide, inx10, tyX10_ok, nmX10, Or.inl (am2 150 (by decide +kernel) rfl)⟩
theorem fp10_74 : FP RX10 74 10 6 .int := ⟨RX10, TX10, 18, rfl, rfl, by decide +kernel⟩
theorem fl10_87 : FL RX10 87 10 7 := ⟨by decide, RX10, TX10, 18, tyX10, rfl, rfl, by decide, inx10, tyX10_ok, nmX10, Or.inl (am2 151 (by decide +kernel) rfl)⟩
theorem fp10_87 : FP RX10 87 10 7 .int := ⟨RX10, TX10, 18, rfl, rfl, by decide +kernel⟩
theorem fl10_90 : FL RX10 90 10 8 := ⟨by decide, RX10, TX10, 18, tyX10, rfl, rfl, by decide, inx10, tyX10_ok, nmX10, Or.inl (am2 152 (by decide +kernel) rfl)⟩
theorem fp10_90 : FP RX10 90 10 8 .int := ⟨RX10, TX10, 18, rfl, rfl, by decide +kernel⟩
theorem fl10_96 : FL RX10 96 3 1 := ⟨by decide, RX3, TX3, 3, tyX3, rfl, rfl, by decide, inx3, tyX3_ok, nmX3, Or.inr (am2 89 (by decide +kernel) rfl)⟩
theorem fl10_117 : FL RX10 117 8 2 := ⟨by decide, RX8, TX8, 6, tyX8, rfl, rfl, by decide, inx8, tyX8_ok, nmX8, Or.inr (am1 63 (by decide +kernel) rfl)⟩
theorem fl10_136 : FL RX10 136 3 0 := ⟨by decide, RX3, TX3, 3, tyX3, rfl, rfl, by decide, inx3, tyX3_ok, nmX3, Or.inr (am2 87 (by decide +kernel) rfl)⟩
theorem fp10_136 : FP RX10 136 3 0 .int := ⟨RX3, TX3, 3, rfl, rfl, by decide +kernel⟩
theorem fl12_7 : FL RX12 7 12 1 := ⟨by decide, RX12, TX12, 86, tyX12, rfl, rfl, by decide, inx12, tyX12_ok, nmX12, Or.inl (am7 92 (by decide +kernel) rfl)⟩
theorem fp12_7 : FP RX12 7 12 1 .int := ⟨RX12, TX12, 86, rfl, rfl, by decide +kernel⟩
theorem fl12_13 : FL RX12 13 12 4 := ⟨by decide, RX12, TX12, 86, tyX12, rfl, rfl, by decide, inx12, tyX12_ok, nmX12, Or.inl (am7 95 (by decide +kernel) rfl)⟩
theorem fp12_13 : FP RX12 13 12 4 .int := ⟨RX12, TX12, 86, rfl, rfl, by decide +kernel⟩
theorem fl12_16 : FL RX12 16 12 5 := ⟨by decide, RX12, TX12, 86, tyX12, rfl, rfl, by decide, inx12, tyX12_ok, nmX12, Or.inl (am7 96 (by decide +kernel) rfl)⟩
theorem fl12_20 : FL RX12 20 12 6 := ⟨by decide, RX12, TX12, 86, tyX12, rfl, rfl, by decide, inx12, tyX12_ok, nmX12, Or.inl (am7 97 (by decide +kernel) rfl)⟩
theorem fl12_23 : FL RX12 23 12 7 := ⟨by decide, RX12, TX12, 86, tyX12, rfl, rfl, by decide, inx12, tyX12_ok, nmX12, Or.inl (am7 98 (by decide +kernel) rfl)⟩
theorem fl12_26 : FL RX12 26 12 8 := ⟨by decide, RX12, TX12, 86, tyX12, rfl, rfl, by decide, inx12, tyX12_ok, nmX12, Or.inl (am7 99 (by decide +kernel) rfl)⟩
theorem fl12_29 : FL RX12 29 12 9 := ⟨by decide, RX12, TX12, 86, tyX12, rfl, rfl, by decide, inx12, tyX12_ok, nmX12, Or.inl (am7 100 (by decide +kernel) rfl)⟩
theorem fl12_32 : FL RX12 32 12 10 := ⟨by decide, RX12, TX12, 86, tyX12, rfl, rfl, by decide, inx12, tyX12_ok, nmX12, Or.inl (am7 101 (by decide +kernel) rfl)⟩
theorem fl12_35 : FL RX12 35 12 11 := ⟨by decide, RX12, TX12, 86, tyX12, rfl, rfl, by decide, inx12, tyX12_ok, nmX12, Or.inl (am7 102 (by decide +kernel) rfl)⟩
theorem fl12_38 : FL RX12 38 12 12 := ⟨by decide, RX12, TX12, 86, tyX12, rfl, rfl, by decide, inx12, tyX12_ok, nmX12, Or.inl (am7 103 (by decide +kernel) rfl)⟩
theorem fl12_41 : FL RX12 41 12 14 := ⟨by decide, RX12, TX12, 86, tyX12, rfl, rfl, by decide, inx12, tyX12_ok, nmX12, Or.inl (am7 105 (by decide +kernel) rfl)⟩
theorem fl12_44 : FL RX12 44 12 15 := ⟨by decide, RX12, TX12, 86, tyX12, rfl, rfl, by decide, inx12, tyX12_ok, nmX12, Or.inl (am7 106 (by decide +kernel) rfl)⟩
theorem fl12_47 : FL RX12 47 12 16 := ⟨by decide, RX12, TX12, 86, tyX12, rfl, rfl, by decide, inx12, tyX12_ok, nmX12, Or.inl (am7 107 (by decide +kernel) rfl)⟩
theorem fl12_50 : FL RX12 50 12 17 := ⟨by decide, RX12, TX12, 86, tyX12, rfl, rfl, by decide, inx12, tyX12_ok, nmX12, Or.inl (am7 108 (by decide +kernel) rfl)⟩
theorem fl12_53 : FL RX12 53 12 20 := ⟨by decide, RX12, TX12, 86, tyX12, rfl, rfl, by decide, inx12, tyX12_ok, nmX12, Or.inl (am7 111 (by decide +kernel) rfl)⟩
theorem fl12_56 : FL RX12 56 12 30 := ⟨by decide, RX12, TX12, 86, tyX12, rfl, rfl, by decide, inx12, tyX12_ok, nmX12, Or.inl (am7 121 (by decide +kernel) rfl)⟩
theorem fp12_56 : FP RX12 56 12 30 .int := ⟨RX12, TX12, 86, rfl, rfl, by decide +kernel⟩
theorem fl12_59 : FL RX12 59 12 31 := ⟨by decide, RX12, TX12, 86, tyX12, rfl, rfl, by decide, inx12, tyX12_ok, nmX12, Or.inl (am7 122 (by decide +kernel) rfl)⟩
theorem fl12_63 : FL RX12 63 12 32 := ⟨by decide, RX12, TX12, 86, tyX12, rfl, rfl, by decide, inx12, tyX12_ok, nmX12, Or.inl (am7 123 (by decide +kernel) rfl)⟩
theorem fl12_66 : FL RX12 66 12 37 := ⟨by decide, RX12, TX12, 86, tyX12, rfl, rfl, by decide, inx12, tyX12_ok, nmX12, Or.inl (am7 128 (by decide +kernel) rfl)⟩
theorem fl12_69 : FL RX12 69 12 38 := ⟨by decide, RX12, TX12, 86, tyX12, rfl, rfl, by decide, inx12, tyX12_ok, nmX12, Or.inl (am7 129 (by decide +kernel) rfl)⟩
theorem fl12_72 : FL RX12 72 12 39 := ⟨by decide, RX12, TX12, 86, tyX12, rfl, rfl, by decide, inx12, tyX12_ok, nmX12, Or.inl (am7 130 (by decide +kernel) rfl)⟩
theorem fl12_75 : FL RX12 75 12 40 := ⟨by decide, RX12, TX12, 86, tyX12, rfl, rfl, by decide, inx12, tyX12_ok, nmX12, Or.inl (am7 131 (by decide +kernel) rfl)⟩
theorem fl12_78 : FL RX12 78 12 41 := ⟨by decide, RX12, TX12, 86, tyX12, rfl, rfl, by decide, inx12, tyX12_ok, nmX12, Or.inl (am7 132 (by decide +kernel) rfl)⟩
theorem fl12_81 : FL RX12 81 12 42 := ⟨by decide, RX12, TX12, 86, tyX12, rfl, rfl, by decide, inx12, tyX12_ok, nmX12, Or.inl (am7 133 (by decide +kernel) rfl)⟩
theorem fl12_84 : FL RX12 84 12 44 := ⟨by decide, RX12, TX12, 86, tyX12, rfl, rfl, by decide, inx12, tyX12_ok, nmX12, Or.inl (am7 135 (by decide +kernel) rfl)⟩
theorem fl12_87 : FL RX12 87 12 48 := ⟨by decide, RX12, TX12, 86, tyX12, rfl, rfl, by decide, inx12, tyX12_ok, nmX12, Or.inl (am7 139 (by decide +kernel) rfl)⟩
theorem fl12_90 : FL RX12 90 12 49 := ⟨by decide, RX12, TX12, 86, tyX12, rfl, rfl, by decide, inx12, tyX12_ok, nmX12, Or.inl (am7 140 (by decide +kernel) rfl)⟩
theorem fl12_93 : FL RX12 93 12 53 := ⟨by decide, RX12, TX12, 86, tyX12, rfl, rfl, by decide, inx12, tyX12_ok, nmX12, Or.inl (am7 144 (by decide +kernel) rfl)⟩
theorem fl12_96 : FL RX12 96 12 54 := ⟨by decide, RX12, TX12, 86, tyX12, rfl, rfl, by decide, inx12, tyX12_ok, nmX12, Or.inl (am7 145 (by decide +kernel) rfl)⟩
theorem fl12_99 : FL RX12 99 12 55 := ⟨by decide, RX12, TX12, 86, tyX12, rfl, rfl, by decide, inx12, tyX12_ok, nmX12, Or.inl (am7 146 (by decide +kernel) rfl)⟩
theorem fl12_102 : FL RX12 102 12 56 := ⟨by decide, RX12, TX12, 86, tyX12, rfl, rfl, by decide, inx12, tyX12_ok, nmX12, Or.inl (am7 147 (by decide +kernel) rfl)⟩
theorem fl12_105 : FL RX12 105 12 57 := ⟨by decide, RX12, TX12, 86, tyX12, rfl, rfl, by decide, inx12, tyX12_ok, nmX12, Or.inl (am7 148 (by decide +kernel) rfl)⟩
theorem fl12_108 : FL RX12 108 12 60 := ⟨by decide, RX12, TX12, 86, tyX12, rfl, rfl, by decide, inx12, tyX12_ok, nmX12, Or.inl (am7 151 (by decide +kernel) rfl)⟩
theorem fl12_111 : FL RX12 111 12 61 := ⟨by decide, RX12, TX12, 86, tyX12, rfl, rfl, by decide, inx12, tyX12_ok, nmX12, Or.inl (am7 152 (by decide +kernel) rfl)⟩
theorem fl12_114 : FL RX12 114 12 62 := ⟨by decide, RX12, TX12, 86, tyX12, rfl, rfl, by decide, inx12, tyX12_ok, nmX12, Or.inl (am7 153 (by decide +kernel) rfl)⟩
theorem fl12_117 : FL RX12 117 12 63 := ⟨by decide, RX12, TX12, 86, tyX12, rfl, rfl, by decide, inx12, tyX12_ok, nmX12, Or.inl (am7 154 (by decide +kernel) rfl)⟩
theorem fl12_120 : FL RX12 120 12 64 := ⟨by decide, RX12, TX12, 86, tyX12, rfl, rfl, by decide, inx12, tyX12_ok, nmX12, Or.inl (am7 155 (by decide +kernel) rfl)⟩
theorem fl12_123 : FL RX12 123 12 68 := ⟨by decide, RX12, TX12, 86, tyX12, rfl, rfl, by decide, inx12, tyX12_ok, nmX12, Or.inl (am7 159 (by decide +kernel) rfl)⟩
theorem fl12_126 : FL RX12 126 12 69 := ⟨by decide, RX12, TX12, 86, tyX12, rfl, rfl, by decide, inx12, tyX12_ok, nmX12, Or.inl (am7 160 (by decide +kernel) rfl)⟩
theorem fl12_129 : FL RX12 129 12 70 := ⟨by decide, RX12, TX12, 86, tyX12, rfl, rfl, by decide, inx12, tyX12_ok, nmX12, Or.inl (am7 161 (by decide +kernel) rfl)⟩
theorem fl12_132 : FL RX12 132 12 71 := ⟨by decide, RX12, TX12, 86, tyX12, rfl, rfl, by decide, inx12, tyX12_ok, nmX12, Or.inl (am7 162 (by decide +kernel) rfl)⟩
theorem fl12_135 : FL RX12 135 12 72 := ⟨by decide, RX12, TX12, 86, tyX12, rfl, rfl, by decide, inx12, tyX12_ok, nmX12, Or.inl (am7 163 (by decide +kernel) rfl)⟩
theorem fl12_138 : FL RX12 138 12 73 := ⟨by decide, RX12, TX12, 86, tyX12, rfl, rfl, by decide, inx12, tyX12_ok, nmX12, Or.inl (am7 164 (by decide +kernel) rfl)⟩
theorem fl12_141 : FL RX12 141 12 75 := ⟨by decide, RX12, TX12, 86, tyX12, rfl, rfl, by decide, inx12, tyX12_ok, nmX12, Or.inl (am7 166 (by decide +kernel) rfl)⟩
theorem fl12_144 : FL RX12 144 12 80 := ⟨by decide, RX12, TX12, 86, tyX12, rfl, rfl, by decide, inx12, tyX12_ok, nmX12, Or.inl (am7 171 (by decide +kernel) rfl)⟩
theorem fl12_147 : FL RX12 147 12 81 := ⟨by decide, RX12, TX12, 86, tyX12, rfl, rfl, by decide, inx12, tyX12_ok, nmX12, Or.inl (am7 172 (by decide +kernel) rfl)⟩
theorem fl12_150 : FL RX12 150 12 82 := ⟨by decide, RX12, TX12, 86, tyX12, rfl, rfl, by decide, inx12, tyX12_ok, nmX12, Or.inl (am7 173 (by decide +kernel) rfl)⟩
theorem fl12_153 : FL RX12 153 12 83 := ⟨by decide, RX12, TX12, 86, tyX12, rfl, rfl, by decide, inx12, tyX12_ok, nmX12, Or.inl (am7 174 (by decide +kernel) rfl)⟩
theorem fl12_156 : FL RX12 156 12 84 := ⟨by decide, RX12, TX12, 86, tyX12, rfl, rfl, by decide, inx12, tyX12_ok, nmX12, Or.inl (am7 175 (by decide +kernel) rfl)⟩
theorem fl12_159 : FL RX12 159 12 85 := ⟨by decide, RX12, TX12, 86, tyX12, rfl, rfl, by decide, inx12, tyX12_ok, nmX12, Or.inl (am7 176 (by decide +kernel) rfl)⟩
theorem fl12_165 : FL RX12 165 12 0 := ⟨by decide, RX12, TX12, 86, tyX12, rfl, rfl, by decide, inx12, tyX12_ok, nmX12, Or.inl (am7 91 (by decide +kernel) rfl)⟩
theorem fp12_165 : FP RX12 165 12 0 .int := ⟨RX12, TX12, 86, rfl, rfl, by decide +kernel⟩
theorem fl12_176 : FL RX12 176 12 13 := ⟨by decide, RX12, TX12, 86, tyX12, rfl, rfl, by decide, inx12, tyX12_ok, nmX12, Or.inl (am7 104 (by decide +kernel) rfl)⟩
theorem fp12_176 : FP RX12 176 12 13 .int := ⟨RX12, TX12, 86, rfl, rfl, by decide +kernel⟩
theorem fl12_179 : FL RX12 179 12 18 := ⟨by decide, RX12, TX12, 86, tyX12, rfl, rfl, by decide, inx12, tyX12_ok, nmX12, Or.inl (am7 109 (by decide +kernel) rfl)⟩
theorem fp12_179 : FP RX12 179 12 18 .int := ⟨RX12, TX12, 86, rfl, rfl, by decide +kernel⟩
theorem fl12_182 : FL RX12 182 12 19 := ⟨by decide, RX12, TX12, 86, tyX12, rfl, rfl, by decide, inx12, tyX12_ok, nmX12, Or.inl (am7 110 (by decide +kernel) rfl)⟩
theorem fp12_182 : FP RX12 182 12 19 .int := ⟨RX12, TX12, 86, rfl, rfl, by decide +kernel⟩
theorem fl12_185 : FL RX12 185 12 21 := ⟨by decide, RX12, TX12, 86, tyX12, rfl, rfl, by decide, inx12, tyX12_ok, nmX12, Or.inl (am7 112 (by decide +kernel) rfl)⟩
theorem fp12_185 : FP RX12 185 12 21 .int := ⟨RX12, TX12, 86, rfl, rfl, by decide +kernel⟩
theorem fl12_188 : FL RX12 188 12 23 := ⟨by decide, RX12, TX12, 86, tyX12, rfl, rfl, by decide, inx12, tyX12_ok, nmX12, Or.inl (am7 114 (by decide +kernel) rfl)⟩
theorem fp12_188 : FP RX12 188 12 23 .int := ⟨RX12, TX12, 86, rfl, rfl, by decide +kernel⟩
theorem fl12_191 : FL RX12 191 12 22 := ⟨by decide, RX12, TX12, 86, tyX12, rfl, rfl, by decide, inx12, tyX12_ok, nmX12, Or.inl (am7 113 (by decide +kernel) rfl)⟩
theorem fp12_191 : FP RX12 191 12 22 .int := ⟨RX12, TX12, 86, rfl, rfl, by decide +kernel⟩
theorem fl12_198 : FL RX12 198 12 26 := ⟨by decide, RX12, TX12, 86, tyX12, rfl, rfl, by decide, inx12, tyX12_ok, nmX12, Or.inl (am7 117 (by decide +kernel) rfl)⟩
theorem fp12_198 : FP RX12 198 12 26 .int := ⟨RX12, TX12, 86, rfl, rfl, by decide +kernel⟩
theorem fl12_201 : FL RX12 201 12 24 := ⟨by decide, RX12, TX12, 86, tyX12, rfl, rfl, by decide, inx12, tyX12_ok, nmX12, Or.inl (am7 115 (by decide +kernel) rfl)⟩
theorem fp12_201 : FP RX12 201 12 24 .int := ⟨RX12, TX12, 86, rfl, rfl, by decide +kernel⟩
theorem fl12_211 : FL RX12 211 12 25 := ⟨by decide, RX12, TX12, 86, tyX12, rfl, rfl, by decide, inx12, tyX12_ok, nmX12, Or.inl (am7 116 (by decide +kernel) rfl)⟩
theorem fp12_211 : FP RX12 211 12 25 .int := ⟨RX12, TX12, 86, rfl, rfl, by decide +kernel⟩
theorem fl12_220 : FL RX12 220 12 27 := ⟨by decide, RX12, TX12, 86, tyX12, rfl, rfl, by decide, inx12, tyX12_ok, nmX12, Or.inl (am7 118 (by decide +kernel) rfl)⟩
theorem fp12_220 : FP RX12 220 12 27 .int := ⟨RX12, TX12, 86, rfl, rfl, by decide +kernel⟩
theorem fl12_223 : FL RX12 223 12 28 := ⟨by decide, RX12, TX12, 86, tyX12, rfl, rfl, by decide, inx12, tyX12_ok, nmX12, Or.inl (am7 119 (by decide +kernel) rfl)⟩
theorem fp12_223 : FP RX12 223 12 28 .int := ⟨RX12, TX12, 86, rfl, rfl, by decide +kernel⟩
theorem fl12_226 : FL RX12 226 12 29 := ⟨by decide, RX12, TX12, 86, tyX12, rfl, rfl, by decide, inx12, tyX12_ok, nmX12, Or.inl (am7 120 (by decide +kernel) rfl)⟩
theorem fp12_226 : FP RX12 226 12 29 .int := ⟨RX12, TX12, 86, rfl, rfl, by decide +kernel⟩
theorem fl12_253 : FL RX12 253 12 3 := ⟨by decide, RX12, TX12, 86, tyX12, rfl, rfl, by decide, inx12, tyX12_ok, nmX12, Or.inl (am7 94 (by decide +kernel) rfl)⟩
theorem fp12_253 : FP RX12 253 12 3 .int := ⟨RX12, TX12, 86, rfl, rfl, by decide +kernel⟩
theorem fl12_297 : FL RX12 297 12 2 := ⟨by decide, RX12, TX12, 86, tyX12, rfl, rfl, by decide, inx12, tyX12_ok, nmX12, Or.inl (am7 93 (by decide +kernel) rfl)⟩
theorem fp12_297 : FP RX12 297 12 2 .int := ⟨RX12, TX12, 86, rfl, rfl, by decide +kernel⟩
theorem fl12_307 : FL RX12 307 12 33 := ⟨by decide, RX12, TX12, 86, tyX12, rfl, rfl, by decide, inx12, tyX12_ok, nmX12, Or.inl (am7 124 (by decide +kernel) rfl)⟩
theorem fp12_307 : FP RX12 307 12 33 .int := ⟨RX12, TX12, 86, rfl, rfl, by decide +kernel⟩
theorem fl12_344 : FL RX12 344 12 36 := ⟨by decide, RX12, TX12, 86, tyX12, rfl, rfl, by decide, inx12, tyX12_ok, nmX12, Or.inl (am7 127 (by decide +kernel) rfl)⟩
theorem fp12_344 : FP RX12 344 12 36 .int := ⟨RX12, TX12, 86, rfl, rfl, by decide +kernel⟩
theorem fl12_360 : FL RX12 360 12 43 := ⟨by decide, RX12, TX12, 86, tyX12, rfl, rfl, by decide, inx12, tyX12_ok, nmX12, Or.inl (am7 134 (by decide +kernel) rfl)⟩
theorem fp12_360 : FP RX12 360 12 43 .int := ⟨RX12, TX12, 86, rfl, rfl, by decide +kernel⟩
theorem fl12_363 : FL RX12 363 12 34 := ⟨by decide, RX12, TX12, 86, tyX12, rfl, rfl, by decide, inx12, tyX12_ok, nmX12, Or.inl (am7 125 (by decide +kernel) rfl)⟩
theorem fp12_363 : FP RX12 363 12 34 .int := ⟨RX12, TX12, 86, rfl, rfl, by decide +kernel⟩
theorem fl12_366 : FL RX12 366 12 35 := ⟨by decide, RX12, TX12, 86, tyX12, rfl, rfl, by decide, inx12, tyX12_ok, nmX12, Or.inl (am7 126 (by decide +kernel) rfl)⟩
theorem fp12_366 : FP RX12 366 12 35 .int := ⟨RX12, TX12, 86, rfl, rfl, by decide +kernel⟩
theorem fl12_384 : FL RX12 384 12 47 := ⟨by decide, RX12, TX12, 86, tyX12, rfl, rfl, by decide, inx12, tyX12_ok, nmX12, Or.inl (am7 138 (by decide +kernel) rfl)⟩
theorem fp12_384 : FP RX12 384 12 47 .boolean := ⟨RX12, TX12, 86, rfl, rfl, by decide +kernel⟩
theorem fl12_388 : FL RX12 388 12 45 := ⟨by decide, RX12, TX12, 86, tyX12, rfl, rfl, by decide, inx12, tyX12_ok, nmX12, Or.inl (am7 136 (by decide +kernel) rfl)⟩
theorem fp12_388 : FP RX12 388 12 45 .int := ⟨RX12, TX12, 86, rfl, rfl, by decide +kernel⟩
theorem fl12_391 : FL RX12 391 12 46 := ⟨by decide, RX12, TX12, 86, tyX12, rfl, rfl, by decide, inx12, tyX12_ok, nmX12, Or.inl (am7 137 (by decide +kernel) rfl)⟩
theorem fp12_391 : FP RX12 391 12 46 .int := ⟨RX12, TX12, 86, rfl, rfl, by decide +kernel⟩
theorem fl12_437 : FL RX12 437 12 52 := ⟨by decide, RX12, TX12, 86, tyX12, rfl, rfl, by decide, inx12, tyX12_ok, nmX12, Or.inl (am7 143 (by decide +kernel) rfl)⟩
theorem fp12_437 : FP RX12 437 12 52 .boolean := ⟨RX12, TX12, 86, rfl, rfl, by decide +kernel⟩
theorem fl12_440 : FL RX12 440 12 51 := ⟨by decide, RX12, TX12, 86, tyX12, rfl, rfl, by decide, inx12, tyX12_ok, nmX12, Or.inl (am7 142 (by decide +kernel) rfl)⟩
theorem fp12_440 : FP RX12 440 12 51 .int := ⟨RX12, TX12, 86, rfl, rfl, by decide +kernel⟩
theorem fl12_456 : FL RX12 456 12 50 := ⟨by decide, RX12, TX12, 86, tyX12, rfl, rfl, by decide, inx12, tyX12_ok, nmX12, Or.inl (am7 141 (by decide +kernel) rfl)⟩
theorem fp12_456 : FP RX12 456 12 50 .int := ⟨RX12, TX12, 86, rfl, rfl, by decide +kernel⟩
theorem fl12_481 : FL RX12 481 12 58 := ⟨by decide, RX12, TX12, 86, tyX12, rfl, rfl, by decide, inx12, tyX12_ok, nmX12, Or.inl (am7 149 (by decide +kernel) rfl)⟩
theorem fp12_481 : FP RX12 481 12 58 .int := ⟨RX12, TX12, 86, rfl, rfl, by decide +kernel⟩
theorem fl12_499 : FL RX12 499 12 59 := ⟨by decide, RX12, TX12, 86, tyX12, rfl, rfl, by decide, inx12, tyX12_ok, nmX12, Or.inl (am7 150 (by decide +kernel) rfl)⟩
theorem fp12_499 : FP RX12 499 12 59 .int := ⟨RX12, TX12, 86, rfl, rfl, by decide +kernel⟩
theorem fl12_530 : FL RX12 530 12 65 := ⟨by decide, RX12, TX12, 86, tyX12, rfl, rfl, by decide, inx12, tyX12_ok, nmX12, Or.inl (am7 156 (by decide +kernel) rfl)⟩
theorem fp12_530 : FP RX12 530 12 65 .int := ⟨RX12, TX12, 86, rfl, rfl, by decide +kernel⟩
theorem fl12_533 : FL RX12 533 12 66 := ⟨by decide, RX12, TX12, 86, tyX12, rfl, rfl, by decide, inx12, tyX12_ok, nmX12, Or.inl (am7 157 (by decide +kernel) rfl)⟩
theorem fp12_533 : FP RX12 533 12 66 .int := ⟨RX12, TX12, 86, rfl, rfl, by decide +kernel⟩
theorem fl12_536 : FL RX12 536 12 67 := ⟨by decide, RX12, TX12, 86, tyX12, rfl, rfl, by decide, inx12, tyX12_ok, nmX12, Or.inl (am7 158 (by decide +kernel) rfl)⟩
theorem fp12_536 : FP RX12 536 12 67 .boolean := ⟨RX12, TX12, 86, rfl, rfl, by decide +kernel⟩
theorem fl12_545 : FL RX12 545 12 74 := ⟨by decide, RX12, TX12, 86, tyX12, rfl, rfl, by decide, inx12, tyX12_ok, nmX12, Or.inl (am7 165 (by decide +kernel) rfl)⟩
theorem fp12_545 : FP RX12 545 12 74 .int := ⟨RX12, TX12, 86, rfl, rfl, by decide +kernel⟩
theorem fl12_573 : FL RX12 573 12 76 := ⟨by decide, RX12, TX12, 86, tyX12, rfl, rfl, by decide, inx12, tyX12_ok, nmX12, Or.inl (am7 167 (by decide +kernel) rfl)⟩
theorem fp12_573 : FP RX12 573 12 76 .boolean := ⟨RX12, TX12, 86, rfl, rfl, by decide +kernel⟩
theorem fl12_576 : FL RX12 576 12 77 := ⟨by decide, RX12, TX12, 86, tyX12, rfl, rfl, by decide, inx12, tyX12_ok, nmX12, Or.inl (am7 168 (by decide +kernel) rfl)⟩
theorem fp12_576 : FP RX12 576 12 77 .int := ⟨RX12, TX12, 86, rfl, rfl, by decide +kernel⟩
theorem fl12_579 : FL RX12 579 12 78 := ⟨by decide, RX12, TX12, 86, tyX12, rfl, rfl, by decide, inx12, tyX12_ok, nmX12, Or.inl (am7 169 (by decide +kernel) rfl)⟩
theorem fp12_579 : FP RX12 579 12 78 .int := ⟨RX12, TX12, 86, rfl, rfl, by decide +kernel⟩
theorem fl12_582 : FL RX12 582 12 79 := ⟨by decide, RX12, TX12, 86, tyX12, rfl, rfl, by decide, inx12, tyX12_ok, nmX12, Or.inl (am7 170 (by decide +kernel) rfl)⟩
theorem fp12_582 : FP RX12 582 12 79 .int := ⟨RX12, TX12, 86, rfl, rfl, by decide +kernel⟩
theorem cd_J0_checkIndex_df160 : Cond.code yJ0_checkIndex_df160 cJ0_checkIndex_df160 2 none ∈ allw := am4 118 rfl rfl
theorem sm_J0_checkIndex_df160 : Cond.static yJ0_checkIndex_df160 ∈ allw := am4 117 (by decide +kernel) rfl
theorem cd_J0_isLatin1_aae02 : Cond.code yJ0_isLatin1_aae02 cJ0_isLatin1_aae02 1 (some .boolean) ∈ allw := am4 112 rfl rfl
theorem im_J0_isLatin1_aae02 : Cond.instanceMethod yJ0_isLatin1_aae02 ∈ allw := am4 110 (by decide +kernel) rfl
theorem cd_J0_length_8abf5 : Cond.code yJ0_length_8abf5 cJ0_length_8abf5 1 (some .int) ∈ allw := am4 98 rfl rfl
theorem im_J0_length_8abf5 : Cond.instanceMethod yJ0_length_8abf5 ∈ allw := am4 96 (by decide +kernel) rfl
theorem cd_J2_checkIndex_2214a : Cond.code yJ2_checkIndex_2214a cJ2_checkIndex_2214a 2 none ∈ allw := am4 129 rfl rfl
theorem sm_J2_checkIndex_2214a : Cond.static yJ2_checkIndex_2214a ∈ allw := am4 128 (by decide +kernel) rfl
theorem cd_J2_length_9d52b : Cond.code yJ2_length_9d52b cJ2_length_9d52b 1 (some .int) ∈ allw := am4 132 rfl rfl
theorem sm_J2_length_9d52b : Cond.static yJ2_length_9d52b ∈ allw := am4 131 (by decide +kernel) rfl
theorem cd_J3_checkIndex_8e157 : Cond.code yJ3_checkIndex_8e157 cJ3_checkIndex_8e157 3 (some .int) ∈ allw := am4 123 rfl rfl
theorem sm_J3_checkIndex_8e157 : Cond.static yJ3_checkIndex_8e157 ∈ allw := am4 122 (by decide +kernel) rfl
theorem cd_J7_copyOf_59c91 : Cond.code yJ7_copyOf_59c91 cJ7_copyOf_59c91 3 (some (.array .int)) ∈ allw := am5 185 rfl rfl
theorem sm_J7_copyOf_59c91 : Cond.static yJ7_copyOf_59c91 ∈ allw := am5 184 (by decide +kernel) rfl
theorem cd_J7_fill_53178 : Cond.code yJ7_fill_53178 cJ7_fill_53178 4 none ∈ allw := am1 130 rfl rfl
theorem sm_J7_fill_53178 : Cond.static yJ7_fill_53178 ∈ allw := am1 129 (by decide +kernel) rfl
theorem cd_J7_fill_d0a16 : Cond.code yJ7_fill_d0a16 cJ7_fill_d0a16 5 none ∈ allw := am5 93 rfl rfl
theorem sm_J7_fill_d0a16 : Cond.static yJ7_fill_d0a16 ∈ allw := am5 92 (by decide +kernel) rfl
theorem cd_J9_abs_0f7a4 : Cond.code yJ9_abs_0f7a4 cJ9_abs_0f7a4 1 (some .int) ∈ allw := am4 221 rfl rfl
theorem sm_J9_abs_0f7a4 : Cond.static yJ9_abs_0f7a4 ∈ allw := am4 220 (by decide +kernel) rfl
theorem cd_J9_max_7cf53 : Cond.code yJ9_max_7cf53 cJ9_max_7cf53 2 (some .int) ∈ allw := am4 189 rfl rfl
theorem sm_J9_max_7cf53 : Cond.static yJ9_max_7cf53 ∈ allw := am4 188 (by decide +kernel) rfl
theorem cd_J9_min_7cf53 : Cond.code yJ9_min_7cf53 cJ9_min_7cf53 2 (some .int) ∈ allw := am4 186 rfl rfl
theorem sm_J9_min_7cf53 : Cond.static yJ9_min_7cf53 ∈ allw := am4 185 (by decide +kernel) rfl
theorem cd_J9_min_f86c9 : Cond.code yJ9_min_f86c9 cJ9_min_f86c9 4 (some .long) ∈ allw := am5 101 rfl rfl
theorem sm_J9_min_f86c9 : Cond.static yJ9_min_f86c9 ∈ allw := am5 100 (by decide +kernel) rfl
theorem cd_X0_findPaths : Cond.code yX0_findPaths cX0_findPaths 8 (some .boolean) ∈ allw := am7 47 rfl rfl
theorem im_X0_findPaths : Cond.instanceMethod yX0_findPaths ∈ allw := am7 46 (by decide +kernel) rfl
theorem se_X0_findPaths : Cond.selects yX0_findPaths.cls yX0_findPaths yX0_findPaths ∈ allw := aps (q := (yX0_findPaths, 13)) 71 (by decide +kernel) rfl
theorem cd_X0_init : Cond.code yX0_init cX0_init 1 none ∈ allw := am3 16 rfl rfl
theorem im_X0_init : Cond.instanceMethod yX0_init ∈ allw := am3 15 (by decide +kernel) rfl
theorem cd_X0_isRelated : Cond.code yX0_isRelated cX0_isRelated 4 (some .boolean) ∈ allw := am7 75 rfl rfl
theorem im_X0_isRelated : Cond.instanceMethod yX0_isRelated ∈ allw := am7 74 (by decide +kernel) rfl
theorem se_X0_isRelated : Cond.selects yX0_isRelated.cls yX0_isRelated yX0_isRelated ∈ allw := aps (q := (yX0_isRelated, 13)) 76 (by decide +kernel) rfl
theorem cd_X0_layLetters : Cond.code yX0_layLetters cX0_layLetters 7 none ∈ allw := am7 59 rfl rfl
theorem im_X0_layLetters : Cond.instanceMethod yX0_layLetters ∈ allw := am7 58 (by decide +kernel) rfl
theorem se_X0_layLetters : Cond.selects yX0_layLetters.cls yX0_layLetters yX0_layLetters ∈ allw := aps (q := (yX0_layLetters, 13)) 73 (by decide +kernel) rfl
theorem cd_X0_layTrees : Cond.code yX0_layTrees cX0_layTrees 7 (some .boolean) ∈ allw := am7 53 rfl rfl
theorem im_X0_layTrees : Cond.instanceMethod yX0_layTrees ∈ allw := am7 52 (by decide +kernel) rfl
theorem se_X0_layTrees : Cond.selects yX0_layTrees.cls yX0_layTrees yX0_layTrees ∈ allw := aps (q := (yX0_layTrees, 13)) 72 (by decide +kernel) rfl
theorem cd_X0_run : Cond.code yX0_run cX0_run 5 (some .boolean) ∈ allw := am7 43 rfl rfl
theorem im_X0_run : Cond.instanceMethod yX0_run ∈ allw := am7 41 (by decide +kernel) rfl
theorem se_X0_run : Cond.selects RX0 yX0_run yX0_run ∈ allw := am7 42 (by decide +kernel) rfl
theorem cd_X0_squareOf : Cond.code yX0_squareOf cX0_squareOf 2 (some (.array .int)) ∈ allw := am7 70 rfl rfl
theorem im_X0_squareOf : Cond.instanceMethod yX0_squareOf ∈ allw := am7 69 (by decide +kernel) rfl
theorem se_X0_squareOf : Cond.selects yX0_squareOf.cls yX0_squareOf yX0_squareOf ∈ allw := aps (q := (yX0_squareOf, 13)) 75 (by decide +kernel) rfl
theorem cd_X0_traceOf : Cond.code yX0_traceOf cX0_traceOf 5 (some .int) ∈ allw := am7 65 rfl rfl
theorem im_X0_traceOf : Cond.instanceMethod yX0_traceOf ∈ allw := am7 64 (by decide +kernel) rfl
theorem se_X0_traceOf : Cond.selects yX0_traceOf.cls yX0_traceOf yX0_traceOf ∈ allw := aps (q := (yX0_traceOf, 13)) 74 (by decide +kernel) rfl
theorem cd_X10_addFound : Cond.code yX10_addFound cX10_addFound 3 none ∈ allw := am7 17 rfl rfl
theorem im_X10_addFound : Cond.instanceMethod yX10_addFound ∈ allw := am7 16 (by decide +kernel) rfl
theorem se_X10_addFound : Cond.selects yX10_addFound.cls yX10_addFound yX10_addFound ∈ allw := aps (q := (yX10_addFound, 18)) 68 (by decide +kernel) rfl
theorem cd_X10_allHold : Cond.code yX10_allHold cX10_allHold 1 (some .boolean) ∈ allw := am7 22 rfl rfl
theorem im_X10_allHold : Cond.instanceMethod yX10_allHold ∈ allw := am7 21 (by decide +kernel) rfl
theorem se_X10_allHold : Cond.selects yX10_allHold.cls yX10_allHold yX10_allHold ∈ allw := aps (q := (yX10_allHold, 18)) 69 (by decide +kernel) rfl
theorem cd_X10_begin : Cond.code yX10_begin cX10_begin 7 none ∈ allw := am6 190 rfl rfl
theorem im_X10_begin : Cond.instanceMethod yX10_begin ∈ allw := am6 188 (by decide +kernel) rfl
theorem se_X10_begin : Cond.selects RX10 yX10_begin yX10_begin ∈ allw := am6 189 (by decide +kernel) rfl
theorem cd_X10_canHold : Cond.code yX10_canHold cX10_canHold 2 (some .boolean) ∈ allw := am7 4 rfl rfl
theorem im_X10_canHold : Cond.instanceMethod yX10_canHold ∈ allw := am7 3 (by decide +kernel) rfl
theorem se_X10_canHold : Cond.selects yX10_canHold.cls yX10_canHold yX10_canHold ∈ allw := aps (q := (yX10_canHold, 18)) 65 (by decide +kernel) rfl
theorem cd_X10_fill : Cond.code yX10_fill cX10_fill 7 none ∈ allw := am6 196 rfl rfl
theorem im_X10_fill : Cond.instanceMethod yX10_fill ∈ allw := am6 194 (by decide +kernel) rfl
theorem se_X10_fill : Cond.selects RX10 yX10_fill yX10_fill ∈ allw := am6 195 (by decide +kernel) rfl
theorem cd_X10_findAll : Cond.code yX10_findAll cX10_findAll 4 none ∈ allw := am7 0 rfl rfl
theorem im_X10_findAll : Cond.instanceMethod yX10_findAll ∈ allw := am6 238 (by decide +kernel) rfl
theorem se_X10_findAll : Cond.selects RX10 yX10_findAll yX10_findAll ∈ allw := am6 239 (by decide +kernel) rfl
theorem cd_X10_forget : Cond.code yX10_forget cX10_forget 1 none ∈ allw := am2 141 rfl rfl
theorem im_X10_forget : Cond.instanceMethod yX10_forget ∈ allw := am2 139 (by decide +kernel) rfl
theorem se_X10_forget : Cond.selects RX10 yX10_forget yX10_forget ∈ allw := am2 140 (by decide +kernel) rfl
theorem cd_X10_foundAt : Cond.code yX10_foundAt cX10_foundAt 4 (some .int) ∈ allw := am7 31 rfl rfl
theorem im_X10_foundAt : Cond.instanceMethod yX10_foundAt ∈ allw := am7 29 (by decide +kernel) rfl
theorem se_X10_foundAt : Cond.selects RX10 yX10_foundAt yX10_foundAt ∈ allw := am7 30 (by decide +kernel) rfl
theorem cd_X10_goOn : Cond.code yX10_goOn cX10_goOn 2 none ∈ allw := am7 26 rfl rfl
theorem im_X10_goOn : Cond.instanceMethod yX10_goOn ∈ allw := am7 25 (by decide +kernel) rfl
theorem se_X10_goOn : Cond.selects yX10_goOn.cls yX10_goOn yX10_goOn ∈ allw := aps (q := (yX10_goOn, 18)) 70 (by decide +kernel) rfl
theorem cd_X10_init : Cond.code yX10_init cX10_init 1 none ∈ allw := am2 136 rfl rfl
theorem im_X10_init : Cond.instanceMethod yX10_init ∈ allw := am2 135 (by decide +kernel) rfl
theorem cd_X10_lawBits : Cond.code yX10_lawBits cX10_lawBits 2 (some .int) ∈ allw := am6 208 rfl rfl
theorem im_X10_lawBits : Cond.instanceMethod yX10_lawBits ∈ allw := am6 206 (by decide +kernel) rfl
theorem se_X10_lawBits : Cond.selects RX10 yX10_lawBits yX10_lawBits ∈ allw := am6 207 (by decide +kernel) rfl
theorem cd_X10_rowsAheadOfLast : Cond.code yX10_rowsAheadOfLast cX10_rowsAheadOfLast 3 (some .int) ∈ allw := am7 8 rfl rfl
theorem im_X10_rowsAheadOfLast : Cond.instanceMethod yX10_rowsAheadOfLast ∈ allw := am7 7 (by decide +kernel) rfl
theorem se_X10_rowsAheadOfLast : Cond.selects yX10_rowsAheadOfLast.cls yX10_rowsAheadOfLast yX10_rowsAheadOfLast ∈ allw := aps (q := (yX10_rowsAheadOfLast, 18)) 66 (by decide +kernel) rfl
theorem cd_X10_thriceIsTwice : Cond.code yX10_thriceIsTwice cX10_thriceIsTwice 3 (some .boolean) ∈ allw := am6 221 rfl rfl
theorem im_X10_thriceIsTwice : Cond.instanceMethod yX10_thriceIsTwice ∈ allw := am6 220 (by decide +kernel) rfl
theorem se_X10_thriceIsTwice : Cond.selects yX10_thriceIsTwice.cls yX10_thriceIsTwice yX10_thriceIsTwice ∈ allw := aps (q := (yX10_thriceIsTwice, 18)) 62 (by decide +kernel) rfl
theorem cd_X10_tryLast : Cond.code yX10_tryLast cX10_tryLast 8 none ∈ allw := am7 12 rfl rfl
theorem im_X10_tryLast : Cond.instanceMethod yX10_tryLast ∈ allw := am7 11 (by decide +kernel) rfl
theorem se_X10_tryLast : Cond.selects yX10_tryLast.cls yX10_tryLast yX10_tryLast ∈ allw := aps (q := (yX10_tryLast, 18)) 67 (by decide +kernel) rfl
theorem cd_X10_twiceIsDuals : Cond.code yX10_twiceIsDuals cX10_twiceIsDuals 3 (some .boolean) ∈ allw := am6 217 rfl rfl
theorem im_X10_twiceIsDuals : Cond.instanceMethod yX10_twiceIsDuals ∈ allw := am6 216 (by decide +kernel) rfl
theorem se_X10_twiceIsDuals : Cond.selects yX10_twiceIsDuals.cls yX10_twiceIsDuals yX10_twiceIsDuals ∈ allw := aps (q := (yX10_twiceIsDuals, 18)) 61 (by decide +kernel) rfl
theorem cd_X10_winsBack : Cond.code yX10_winsBack cX10_winsBack 4 (some .boolean) ∈ allw := am6 225 rfl rfl
theorem im_X10_winsBack : Cond.instanceMethod yX10_winsBack ∈ allw := am6 224 (by decide +kernel) rfl
theorem se_X10_winsBack : Cond.selects yX10_winsBack.cls yX10_winsBack yX10_winsBack ∈ allw := aps (q := (yX10_winsBack, 18)) 63 (by decide +kernel) rfl
theorem cd_X10_wonBack : Cond.code yX10_wonBack cX10_wonBack 7 (some .int) ∈ allw := am6 229 rfl rfl
theorem im_X10_wonBack : Cond.instanceMethod yX10_wonBack ∈ allw := am6 228 (by decide +kernel) rfl
theorem se_X10_wonBack : Cond.selects yX10_wonBack.cls yX10_wonBack yX10_wonBack ∈ allw := aps (q := (yX10_wonBack, 18)) 64 (by decide +kernel) rfl
theorem cd_X11_again : Cond.code yX11_again cX11_again 1 (some .boolean) ∈ allw := am3 212 rfl rfl
theorem im_X11_again : Cond.instanceMethod yX11_again ∈ allw := am3 210 (by decide +kernel) rfl
theorem se_X11_again : Cond.selects RX11 yX11_again yX11_again ∈ allw := am3 211 (by decide +kernel) rfl
theorem cd_X11_back : Cond.code yX11_back cX11_back 1 (some .boolean) ∈ allw := am3 199 rfl rfl
theorem im_X11_back : Cond.instanceMethod yX11_back ∈ allw := am3 197 (by decide +kernel) rfl
theorem se_X11_back : Cond.selects RX11 yX11_back yX11_back ∈ allw := am3 198 (by decide +kernel) rfl
theorem cd_X11_beginAgain : Cond.code yX11_beginAgain cX11_beginAgain 1 none ∈ allw := am3 160 rfl rfl
theorem im_X11_beginAgain : Cond.instanceMethod yX11_beginAgain ∈ allw := am3 159 (by decide +kernel) rfl
theorem se_X11_beginAgain : Cond.selects yX11_beginAgain.cls yX11_beginAgain yX11_beginAgain ∈ allw := aps (q := (yX11_beginAgain, 17)) 4 (by decide +kernel) rfl
theorem cd_X11_braid : Cond.code yX11_braid cX11_braid 4 (some .int) ∈ allw := am7 38 rfl rfl
theorem im_X11_braid : Cond.instanceMethod yX11_braid ∈ allw := am7 36 (by decide +kernel) rfl
theorem se_X11_braid : Cond.selects RX11 yX11_braid yX11_braid ∈ allw := am7 37 (by decide +kernel) rfl
theorem cd_X11_braidNumber : Cond.code yX11_braidNumber cX11_braidNumber 4 (some .int) ∈ allw := am7 79 rfl rfl
theorem im_X11_braidNumber : Cond.instanceMethod yX11_braidNumber ∈ allw := am7 78 (by decide +kernel) rfl
theorem se_X11_braidNumber : Cond.selects yX11_braidNumber.cls yX11_braidNumber yX11_braidNumber ∈ allw := aps (q := (yX11_braidNumber, 17)) 77 (by decide +kernel) rfl
theorem cd_X11_broken : Cond.code yX11_broken cX11_broken 2 (some .int) ∈ allw := am6 122 rfl rfl
theorem im_X11_broken : Cond.instanceMethod yX11_broken ∈ allw := am6 120 (by decide +kernel) rfl
theorem se_X11_broken : Cond.selects RX11 yX11_broken yX11_broken ∈ allw := am6 121 (by decide +kernel) rfl
theorem cd_X11_canMake : Cond.code yX11_canMake cX11_canMake 3 (some .boolean) ∈ allw := am4 205 rfl rfl
theorem sm_X11_canMake : Cond.static yX11_canMake ∈ allw := am4 204 (by decide +kernel) rfl
theorem cd_X11_character : Cond.code yX11_character cX11_character 3 (some .int) ∈ allw := am5 226 rfl rfl
theorem im_X11_character : Cond.instanceMethod yX11_character ∈ allw := am5 224 (by decide +kernel) rfl
theorem se_X11_character : Cond.selects RX11 yX11_character yX11_character ∈ allw := am5 225 (by decide +kernel) rfl
theorem cd_X11_check : Cond.code yX11_check cX11_check 2 (some .int) ∈ allw := am6 77 rfl rfl
theorem im_X11_check : Cond.instanceMethod yX11_check ∈ allw := am6 75 (by decide +kernel) rfl
theorem se_X11_check : Cond.selects RX11 yX11_check yX11_check ∈ allw := am6 76 (by decide +kernel) rfl
theorem cd_X11_count : Cond.code yX11_count cX11_count 2 (some .int) ∈ allw := am4 233 rfl rfl
theorem im_X11_count : Cond.instanceMethod yX11_count ∈ allw := am4 231 (by decide +kernel) rfl
theorem se_X11_count : Cond.selects RX11 yX11_count yX11_count ∈ allw := am4 232 (by decide +kernel) rfl
theorem cd_X11_dual : Cond.code yX11_dual cX11_dual 2 (some .int) ∈ allw := am5 70 rfl rfl
theorem im_X11_dual : Cond.instanceMethod yX11_dual ∈ allw := am5 68 (by decide +kernel) rfl
theorem se_X11_dual : Cond.selects RX11 yX11_dual yX11_dual ∈ allw := am5 69 (by decide +kernel) rfl
theorem cd_X11_fault : Cond.code yX11_fault cX11_fault 1 (some .int) ∈ allw := am3 123 rfl rfl
theorem im_X11_fault : Cond.instanceMethod yX11_fault ∈ allw := am3 121 (by decide +kernel) rfl
theorem se_X11_fault : Cond.selects RX11 yX11_fault yX11_fault ∈ allw := am3 122 (by decide +kernel) rfl
theorem cd_X11_feed : Cond.code yX11_feed cX11_feed 6 (some .int) ∈ allw := am3 115 rfl rfl
theorem im_X11_feed : Cond.instanceMethod yX11_feed ∈ allw := am3 113 (by decide +kernel) rfl
theorem se_X11_feed : Cond.selects RX11 yX11_feed yX11_feed ∈ allw := am3 114 (by decide +kernel) rfl
theorem cd_X11_feedNumber : Cond.code yX11_feedNumber cX11_feedNumber 3 none ∈ allw := am3 119 rfl rfl
theorem im_X11_feedNumber : Cond.instanceMethod yX11_feedNumber ∈ allw := am3 118 (by decide +kernel) rfl
theorem se_X11_feedNumber : Cond.selects yX11_feedNumber.cls yX11_feedNumber yX11_feedNumber ∈ allw := aps (q := (yX11_feedNumber, 17)) 2 (by decide +kernel) rfl
theorem cd_X11_field : Cond.code yX11_field cX11_field 2 none ∈ allw := am5 215 rfl rfl
theorem im_X11_field : Cond.instanceMethod yX11_field ∈ allw := am5 213 (by decide +kernel) rfl
theorem se_X11_field : Cond.selects RX11 yX11_field yX11_field ∈ allw := am5 214 (by decide +kernel) rfl
theorem cd_X11_forgetFound : Cond.code yX11_forgetFound cX11_forgetFound 1 none ∈ allw := am3 165 rfl rfl
theorem im_X11_forgetFound : Cond.instanceMethod yX11_forgetFound ∈ allw := am3 164 (by decide +kernel) rfl
theorem se_X11_forgetFound : Cond.selects yX11_forgetFound.cls yX11_forgetFound yX11_forgetFound ∈ allw := aps (q := (yX11_forgetFound, 17)) 5 (by decide +kernel) rfl
theorem cd_X11_fuses : Cond.code yX11_fuses cX11_fuses 4 (some .int) ∈ allw := am5 20 rfl rfl
theorem im_X11_fuses : Cond.instanceMethod yX11_fuses ∈ allw := am5 18 (by decide +kernel) rfl
theorem se_X11_fuses : Cond.selects RX11 yX11_fuses yX11_fuses ∈ allw := am5 19 (by decide +kernel) rfl
theorem cd_X11_holds : Cond.code yX11_holds cX11_holds 2 (some .int) ∈ allw := am6 204 rfl rfl
theorem im_X11_holds : Cond.instanceMethod yX11_holds ∈ allw := am6 202 (by decide +kernel) rfl
theorem se_X11_holds : Cond.selects RX11 yX11_holds yX11_holds ∈ allw := am6 203 (by decide +kernel) rfl
theorem cd_X11_image : Cond.code yX11_image cX11_image 1 none ∈ allw := am3 220 rfl rfl
theorem im_X11_image : Cond.instanceMethod yX11_image ∈ allw := am3 218 (by decide +kernel) rfl
theorem se_X11_image : Cond.selects RX11 yX11_image yX11_image ∈ allw := am3 219 (by decide +kernel) rfl
theorem cd_X11_init : Cond.code yX11_init cX11_init 1 none ∈ allw := am1 30 rfl rfl
theorem im_X11_init : Cond.instanceMethod yX11_init ∈ allw := am1 29 (by decide +kernel) rfl
theorem cd_X11_isKind : Cond.code yX11_isKind cX11_isKind 2 (some .boolean) ∈ allw := am5 28 rfl rfl
theorem im_X11_isKind : Cond.instanceMethod yX11_isKind ∈ allw := am5 27 (by decide +kernel) rfl
theorem se_X11_isKind : Cond.selects yX11_isKind.cls yX11_isKind yX11_isKind ∈ allw := aps (q := (yX11_isKind, 17)) 24 (by decide +kernel) rfl
theorem cd_X11_isNumber : Cond.code yX11_isNumber cX11_isNumber 2 (some .boolean) ∈ allw := am6 45 rfl rfl
theorem im_X11_isNumber : Cond.instanceMethod yX11_isNumber ∈ allw := am6 44 (by decide +kernel) rfl
theorem se_X11_isNumber : Cond.selects yX11_isNumber.cls yX11_isNumber yX11_isNumber ∈ allw := aps (q := (yX11_isNumber, 17)) 47 (by decide +kernel) rfl
theorem cd_X11_keep : Cond.code yX11_keep cX11_keep 1 none ∈ allw := am3 127 rfl rfl
theorem im_X11_keep : Cond.instanceMethod yX11_keep ∈ allw := am3 125 (by decide +kernel) rfl
theorem se_X11_keep : Cond.selects RX11 yX11_keep yX11_keep ∈ allw := am3 126 (by decide +kernel) rfl
theorem cd_X11_law : Cond.code yX11_law cX11_law 3 (some .int) ∈ allw := am5 37 rfl rfl
theorem im_X11_law : Cond.instanceMethod yX11_law ∈ allw := am5 35 (by decide +kernel) rfl
theorem se_X11_law : Cond.selects RX11 yX11_law yX11_law ∈ allw := am5 36 (by decide +kernel) rfl
theorem cd_X11_letter : Cond.code yX11_letter cX11_letter 3 (some .int) ∈ allw := am3 174 rfl rfl
theorem im_X11_letter : Cond.instanceMethod yX11_letter ∈ allw := am3 172 (by decide +kernel) rfl
theorem se_X11_letter : Cond.selects RX11 yX11_letter yX11_letter ∈ allw := am3 173 (by decide +kernel) rfl
theorem cd_X11_list : Cond.code yX11_list cX11_list 4 (some .int) ∈ allw := am5 121 rfl rfl
theorem im_X11_list : Cond.instanceMethod yX11_list ∈ allw := am5 119 (by decide +kernel) rfl
theorem se_X11_list : Cond.selects RX11 yX11_list yX11_list ∈ allw := am5 120 (by decide +kernel) rfl
theorem cd_X11_make : Cond.code yX11_make cX11_make 4 (some .int) ∈ allw := am4 202 rfl rfl
theorem im_X11_make : Cond.instanceMethod yX11_make ∈ allw := am4 200 (by decide +kernel) rfl
theorem se_X11_make : Cond.selects RX11 yX11_make yX11_make ∈ allw := am4 201 (by decide +kernel) rfl
theorem cd_X11_needCharacter : Cond.code yX11_needCharacter cX11_needCharacter 2 none ∈ allw := am6 24 rfl rfl
theorem im_X11_needCharacter : Cond.instanceMethod yX11_needCharacter ∈ allw := am6 23 (by decide +kernel) rfl
theorem se_X11_needCharacter : Cond.selects yX11_needCharacter.cls yX11_needCharacter yX11_needCharacter ∈ allw := aps (q := (yX11_needCharacter, 17)) 46 (by decide +kernel) rfl
theorem cd_X11_needKind : Cond.code yX11_needKind cX11_needKind 2 none ∈ allw := am5 74 rfl rfl
theorem im_X11_needKind : Cond.instanceMethod yX11_needKind ∈ allw := am5 73 (by decide +kernel) rfl
theorem se_X11_needKind : Cond.selects yX11_needKind.cls yX11_needKind yX11_needKind ∈ allw := aps (q := (yX11_needKind, 17)) 27 (by decide +kernel) rfl
theorem cd_X11_needKinds : Cond.code yX11_needKinds cX11_needKinds 4 none ∈ allw := am5 24 rfl rfl
theorem im_X11_needKinds : Cond.instanceMethod yX11_needKinds ∈ allw := am5 23 (by decide +kernel) rfl
theorem se_X11_needKinds : Cond.selects yX11_needKinds.cls yX11_needKinds yX11_needKinds ∈ allw := aps (q := (yX11_needKinds, 17)) 23 (by decide +kernel) rfl
theorem cd_X11_product : Cond.code yX11_product cX11_product 1 (some .int) ∈ allw := am3 138 rfl rfl
theorem im_X11_product : Cond.instanceMethod yX11_product ∈ allw := am3 136 (by decide +kernel) rfl
theorem se_X11_product : Cond.selects RX11 yX11_product yX11_product ∈ allw := am3 137 (by decide +kernel) rfl
theorem cd_X11_refuse : Cond.code yX11_refuse cX11_refuse 1 (some .boolean) ∈ allw := am3 178 rfl rfl
theorem im_X11_refuse : Cond.instanceMethod yX11_refuse ∈ allw := am3 177 (by decide +kernel) rfl
theorem se_X11_refuse : Cond.selects yX11_refuse.cls yX11_refuse yX11_refuse ∈ allw := aps (q := (yX11_refuse, 17)) 6 (by decide +kernel) rfl
theorem cd_X11_remember : Cond.code yX11_remember cX11_remember 3 (some .boolean) ∈ allw := am3 182 rfl rfl
theorem im_X11_remember : Cond.instanceMethod yX11_remember ∈ allw := am3 181 (by decide +kernel) rfl
theorem se_X11_remember : Cond.selects yX11_remember.cls yX11_remember yX11_remember ∈ allw := aps (q := (yX11_remember, 17)) 7 (by decide +kernel) rfl
theorem cd_X11_restore : Cond.code yX11_restore cX11_restore 1 (some .boolean) ∈ allw := am3 235 rfl rfl
theorem im_X11_restore : Cond.instanceMethod yX11_restore ∈ allw := am3 233 (by decide +kernel) rfl
theorem se_X11_restore : Cond.selects RX11 yX11_restore yX11_restore ∈ allw := am3 234 (by decide +kernel) rfl
theorem cd_X11_s : Cond.code yX11_s cX11_s 4 (some .int) ∈ allw := am6 186 rfl rfl
theorem im_X11_s : Cond.instanceMethod yX11_s ∈ allw := am6 184 (by decide +kernel) rfl
theorem se_X11_s : Cond.selects RX11 yX11_s yX11_s ∈ allw := am6 185 (by decide +kernel) rfl
theorem cd_X11_size : Cond.code yX11_size cX11_size 2 (some .int) ∈ allw := am5 81 rfl rfl
theorem im_X11_size : Cond.instanceMethod yX11_size ∈ allw := am5 79 (by decide +kernel) rfl
theorem se_X11_size : Cond.selects RX11 yX11_size yX11_size ∈ allw := am5 80 (by decide +kernel) rfl
theorem cd_X11_solve : Cond.code yX11_solve cX11_solve 3 (some .int) ∈ allw := am6 130 rfl rfl
theorem im_X11_solve : Cond.instanceMethod yX11_solve ∈ allw := am6 128 (by decide +kernel) rfl
theorem se_X11_solve : Cond.selects RX11 yX11_solve yX11_solve ∈ allw := am6 129 (by decide +kernel) rfl
theorem cd_X11_swap : Cond.code yX11_swap cX11_swap 5 (some .boolean) ∈ allw := am6 54 rfl rfl
theorem im_X11_swap : Cond.instanceMethod yX11_swap ∈ allw := am6 52 (by decide +kernel) rfl
theorem se_X11_swap : Cond.selects RX11 yX11_swap yX11_swap ∈ allw := am6 53 (by decide +kernel) rfl
theorem cd_X11_table : Cond.code yX11_table cX11_table 3 (some .int) ∈ allw := am4 4 rfl rfl
theorem im_X11_table : Cond.instanceMethod yX11_table ∈ allw := am4 2 (by decide +kernel) rfl
theorem se_X11_table : Cond.selects RX11 yX11_table yX11_table ∈ allw := am4 3 (by decide +kernel) rfl
theorem cd_X11_take : Cond.code yX11_take cX11_take 2 (some .int) ∈ allw := am5 201 rfl rfl
theorem im_X11_take : Cond.instanceMethod yX11_take ∈ allw := am5 199 (by decide +kernel) rfl
theorem se_X11_take : Cond.selects RX11 yX11_take yX11_take ∈ allw := am5 200 (by decide +kernel) rfl
theorem cd_X11_tell : Cond.code yX11_tell cX11_tell 8 (some .boolean) ∈ allw := am6 36 rfl rfl
theorem im_X11_tell : Cond.instanceMethod yX11_tell ∈ allw := am6 34 (by decide +kernel) rfl
theorem se_X11_tell : Cond.selects RX11 yX11_tell yX11_tell ∈ allw := am6 35 (by decide +kernel) rfl
theorem cd_X11_told : Cond.code yX11_told cX11_told 8 (some .int) ∈ allw := am6 69 rfl rfl
theorem im_X11_told : Cond.instanceMethod yX11_told ∈ allw := am6 67 (by decide +kernel) rfl
theorem se_X11_told : Cond.selects RX11 yX11_told yX11_told ∈ allw := am6 68 (by decide +kernel) rfl
theorem cd_X11_turned : Cond.code yX11_turned cX11_turned 5 (some .int) ∈ allw := am6 236 rfl rfl
theorem im_X11_turned : Cond.instanceMethod yX11_turned ∈ allw := am6 234 (by decide +kernel) rfl
theorem se_X11_turned : Cond.selects RX11 yX11_turned yX11_turned ∈ allw := am6 235 (by decide +kernel) rfl
theorem cd_X11_twist : Cond.code yX11_twist cX11_twist 3 (some .boolean) ∈ allw := am6 62 rfl rfl
theorem im_X11_twist : Cond.instanceMethod yX11_twist ∈ allw := am6 60 (by decide +kernel) rfl
theorem se_X11_twist : Cond.selects RX11 yX11_twist yX11_twist ∈ allw := am6 61 (by decide +kernel) rfl
theorem cd_X11_ways : Cond.code yX11_ways cX11_ways 4 (some .int) ∈ allw := am5 108 rfl rfl
theorem im_X11_ways : Cond.instanceMethod yX11_ways ∈ allw := am5 106 (by decide +kernel) rfl
theorem se_X11_ways : Cond.selects RX11 yX11_ways yX11_ways ∈ allw := am5 107 (by decide +kernel) rfl
theorem cd_X12_addRow : Cond.code yX12_addRow cX12_addRow 6 none ∈ allw := am10 9 rfl rfl
theorem im_X12_addRow : Cond.instanceMethod yX12_addRow ∈ allw := am10 8 (by decide +kernel) rfl
theorem se_X12_addRow : Cond.selects yX12_addRow.cls yX12_addRow yX12_addRow ∈ allw := aps (q := (yX12_addRow, 86)) 137 (by decide +kernel) rfl
theorem cd_X12_addUnknowns : Cond.code yX12_addUnknowns cX12_addUnknowns 7 none ∈ allw := am9 221 rfl rfl
theorem im_X12_addUnknowns : Cond.instanceMethod yX12_addUnknowns ∈ allw := am9 220 (by decide +kernel) rfl
theorem se_X12_addUnknowns : Cond.selects yX12_addUnknowns.cls yX12_addUnknowns yX12_addUnknowns ∈ allw := aps (q := (yX12_addUnknowns, 86)) 130 (by decide +kernel) rfl
theorem cd_X12_again : Cond.code yX12_again cX12_again 1 (some .boolean) ∈ allw := am9 161 rfl rfl
theorem im_X12_again : Cond.instanceMethod yX12_again ∈ allw := am9 159 (by decide +kernel) rfl
theorem se_X12_again : Cond.selects RX12 yX12_again yX12_again ∈ allw := am9 160 (by decide +kernel) rfl
theorem cd_X12_allTurned : Cond.code yX12_allTurned cX12_allTurned 5 (some .boolean) ∈ allw := am9 229 rfl rfl
theorem im_X12_allTurned : Cond.instanceMethod yX12_allTurned ∈ allw := am9 228 (by decide +kernel) rfl
theorem se_X12_allTurned : Cond.selects yX12_allTurned.cls yX12_allTurned yX12_allTurned ∈ allw := aps (q := (yX12_allTurned, 86)) 132 (by decide +kernel) rfl
theorem cd_X12_areKinds : Cond.code yX12_areKinds cX12_areKinds 4 (some .boolean) ∈ allw := am9 114 rfl rfl
theorem im_X12_areKinds : Cond.instanceMethod yX12_areKinds ∈ allw := am9 113 (by decide +kernel) rfl
theorem se_X12_areKinds : Cond.selects yX12_areKinds.cls yX12_areKinds yX12_areKinds ∈ allw := aps (q := (yX12_areKinds, 86)) 113 (by decide +kernel) rfl
theorem cd_X12_back : Cond.code yX12_back cX12_back 1 (some .boolean) ∈ allw := am9 157 rfl rfl
theorem im_X12_back : Cond.instanceMethod yX12_back ∈ allw := am9 155 (by decide +kernel) rfl
theorem se_X12_back : Cond.selects RX12 yX12_back yX12_back ∈ allw := am9 156 (by decide +kernel) rfl
theorem cd_X12_be : Cond.code yX12_be cX12_be 3 none ∈ allw := am10 108 rfl rfl
theorem sm_X12_be : Cond.static yX12_be ∈ allw := am10 107 (by decide +kernel) rfl
theorem cd_X12_begin : Cond.code yX12_begin cX12_begin 4 none ∈ allw := am8 162 rfl rfl
theorem im_X12_begin : Cond.instanceMethod yX12_begin ∈ allw := am8 161 (by decide +kernel) rfl
theorem se_X12_begin : Cond.selects yX12_begin.cls yX12_begin yX12_begin ∈ allw := aps (q := (yX12_begin, 86)) 85 (by decide +kernel) rfl
theorem cd_X12_beginBraid : Cond.code yX12_beginBraid cX12_beginBraid 3 none ∈ allw := am10 93 rfl rfl
theorem im_X12_beginBraid : Cond.instanceMethod yX12_beginBraid ∈ allw := am10 92 (by decide +kernel) rfl
theorem se_X12_beginBraid : Cond.selects yX12_beginBraid.cls yX12_beginBraid yX12_beginBraid ∈ allw := aps (q := (yX12_beginBraid, 86)) 154 (by decide +kernel) rfl
theorem cd_X12_braid : Cond.code yX12_braid cX12_braid 6 (some .int) ∈ allw := am10 69 rfl rfl
theorem im_X12_braid : Cond.instanceMethod yX12_braid ∈ allw := am10 67 (by decide +kernel) rfl
theorem se_X12_braid : Cond.selects RX12 yX12_braid yX12_braid ∈ allw := am10 68 (by decide +kernel) rfl
theorem cd_X12_braidOn : Cond.code yX12_braidOn cX12_braidOn 7 none ∈ allw := am10 97 rfl rfl
theorem im_X12_braidOn : Cond.instanceMethod yX12_braidOn ∈ allw := am10 96 (by decide +kernel) rfl
theorem se_X12_braidOn : Cond.selects yX12_braidOn.cls yX12_braidOn yX12_braidOn ∈ allw := aps (q := (yX12_braidOn, 86)) 155 (by decide +kernel) rfl
theorem cd_X12_broken : Cond.code yX12_broken cX12_broken 2 (some .int) ∈ allw := am9 209 rfl rfl
theorem im_X12_broken : Cond.instanceMethod yX12_broken ∈ allw := am9 207 (by decide +kernel) rfl
theorem se_X12_broken : Cond.selects RX12 yX12_broken yX12_broken ∈ allw := am9 208 (by decide +kernel) rfl
theorem cd_X12_byteAt : Cond.code yX12_byteAt cX12_byteAt 2 (some .int) ∈ allw := am8 133 rfl rfl
theorem im_X12_byteAt : Cond.instanceMethod yX12_byteAt ∈ allw := am8 132 (by decide +kernel) rfl
theorem se_X12_byteAt : Cond.selects yX12_byteAt.cls yX12_byteAt yX12_byteAt ∈ allw := aps (q := (yX12_byteAt, 86)) 81 (by decide +kernel) rfl
theorem cd_X12_canBraid : Cond.code yX12_canBraid cX12_canBraid 3 (some .boolean) ∈ allw := am10 73 rfl rfl
theorem im_X12_canBraid : Cond.instanceMethod yX12_canBraid ∈ allw := am10 72 (by decide +kernel) rfl
theorem se_X12_canBraid : Cond.selects yX12_canBraid.cls yX12_canBraid yX12_canBraid ∈ allw := aps (q := (yX12_canBraid, 86)) 149 (by decide +kernel) rfl
theorem cd_X12_cell : Cond.code yX12_cell cX12_cell 3 (some .int) ∈ allw := am8 165 rfl rfl
theorem sm_X12_cell : Cond.static yX12_cell ∈ allw := am8 164 (by decide +kernel) rfl
theorem cd_X12_character : Cond.code yX12_character cX12_character 3 (some .int) ∈ allw := am9 94 rfl rfl
theorem im_X12_character : Cond.instanceMethod yX12_character ∈ allw := am9 92 (by decide +kernel) rfl
theorem se_X12_character : Cond.selects RX12 yX12_character yX12_character ∈ allw := am9 93 (by decide +kernel) rfl
theorem cd_X12_characterOn : Cond.code yX12_characterOn cX12_characterOn 3 none ∈ allw := am9 102 rfl rfl
theorem im_X12_characterOn : Cond.instanceMethod yX12_characterOn ∈ allw := am9 101 (by decide +kernel) rfl
theorem se_X12_characterOn : Cond.selects yX12_characterOn.cls yX12_characterOn yX12_characterOn ∈ allw := aps (q := (yX12_characterOn, 86)) 111 (by decide +kernel) rfl
theorem cd_X12_check : Cond.code yX12_check cX12_check 2 (some .int) ∈ allw := am9 177 rfl rfl
theorem im_X12_check : Cond.instanceMethod yX12_check ∈ allw := am9 175 (by decide +kernel) rfl
theorem se_X12_check : Cond.selects RX12 yX12_check yX12_check ∈ allw := am9 176 (by decide +kernel) rfl
theorem cd_X12_columnsOf : Cond.code yX12_columnsOf cX12_columnsOf 5 (some (.array .int)) ∈ allw := am10 85 rfl rfl
theorem im_X12_columnsOf : Cond.instanceMethod yX12_columnsOf ∈ allw := am10 84 (by decide +kernel) rfl
theorem se_X12_columnsOf : Cond.selects yX12_columnsOf.cls yX12_columnsOf yX12_columnsOf ∈ allw := aps (q := (yX12_columnsOf, 86)) 152 (by decide +kernel) rfl
theorem cd_X12_count : Cond.code yX12_count cX12_count 2 (some .int) ∈ allw := am8 224 rfl rfl
theorem im_X12_count : Cond.instanceMethod yX12_count ∈ allw := am8 222 (by decide +kernel) rfl
theorem se_X12_count : Cond.selects RX12 yX12_count yX12_count ∈ allw := am8 223 (by decide +kernel) rfl
theorem cd_X12_dual : Cond.code yX12_dual cX12_dual 2 (some .int) ∈ allw := am9 24 rfl rfl
theorem im_X12_dual : Cond.instanceMethod yX12_dual ∈ allw := am9 22 (by decide +kernel) rfl
theorem se_X12_dual : Cond.selects RX12 yX12_dual yX12_dual ∈ allw := am9 23 (by decide +kernel) rfl
theorem cd_X12_dualBy : Cond.code yX12_dualBy cX12_dualBy 3 (some .int) ∈ allw := am9 59 rfl rfl
theorem sm_X12_dualBy : Cond.static yX12_dualBy ∈ allw := am9 58 (by decide +kernel) rfl
theorem cd_X12_fail : Cond.code yX12_fail cX12_fail 2 (some .int) ∈ allw := am8 125 rfl rfl
theorem im_X12_fail : Cond.instanceMethod yX12_fail ∈ allw := am8 124 (by decide +kernel) rfl
theorem se_X12_fail : Cond.selects yX12_fail.cls yX12_fail yX12_fail ∈ allw := aps (q := (yX12_fail, 86)) 79 (by decide +kernel) rfl
theorem cd_X12_fault : Cond.code yX12_fault cX12_fault 1 (some .int) ∈ allw := am8 198 rfl rfl
theorem im_X12_fault : Cond.instanceMethod yX12_fault ∈ allw := am8 196 (by decide +kernel) rfl
theorem se_X12_fault : Cond.selects RX12 yX12_fault yX12_fault ∈ allw := am8 197 (by decide +kernel) rfl
theorem cd_X12_feed : Cond.code yX12_feed cX12_feed 8 (some .int) ∈ allw := am8 117 rfl rfl
theorem im_X12_feed : Cond.instanceMethod yX12_feed ∈ allw := am8 115 (by decide +kernel) rfl
theorem se_X12_feed : Cond.selects RX12 yX12_feed yX12_feed ∈ allw := am8 116 (by decide +kernel) rfl
theorem cd_X12_field : Cond.code yX12_field cX12_field 2 none ∈ allw := am9 87 rfl rfl
theorem im_X12_field : Cond.instanceMethod yX12_field ∈ allw := am9 85 (by decide +kernel) rfl
theorem se_X12_field : Cond.selects RX12 yX12_field yX12_field ∈ allw := am9 86 (by decide +kernel) rfl
theorem cd_X12_findCharacter : Cond.code yX12_findCharacter cX12_findCharacter 2 (some .boolean) ∈ allw := am9 98 rfl rfl
theorem im_X12_findCharacter : Cond.instanceMethod yX12_findCharacter ∈ allw := am9 97 (by decide +kernel) rfl
theorem se_X12_findCharacter : Cond.selects yX12_findCharacter.cls yX12_findCharacter yX12_findCharacter ∈ allw := aps (q := (yX12_findCharacter, 86)) 110 (by decide +kernel) rfl
theorem cd_X12_findTurns : Cond.code yX12_findTurns cX12_findTurns 3 none ∈ allw := am10 61 rfl rfl
theorem im_X12_findTurns : Cond.instanceMethod yX12_findTurns ∈ allw := am10 60 (by decide +kernel) rfl
theorem se_X12_findTurns : Cond.selects yX12_findTurns.cls yX12_findTurns yX12_findTurns ∈ allw := aps (q := (yX12_findTurns, 86)) 147 (by decide +kernel) rfl
theorem cd_X12_firstBroken : Cond.code yX12_firstBroken cX12_firstBroken 6 (some .int) ∈ allw := am9 4 rfl rfl
theorem im_X12_firstBroken : Cond.instanceMethod yX12_firstBroken ∈ allw := am9 3 (by decide +kernel) rfl
theorem se_X12_firstBroken : Cond.selects yX12_firstBroken.cls yX12_firstBroken yX12_firstBroken ∈ allw := aps (q := (yX12_firstBroken, 86)) 96 (by decide +kernel) rfl
theorem cd_X12_firstWithoutDual : Cond.code yX12_firstWithoutDual cX12_firstWithoutDual 2 (some .int) ∈ allw := am9 8 rfl rfl
theorem im_X12_firstWithoutDual : Cond.instanceMethod yX12_firstWithoutDual ∈ allw := am9 7 (by decide +kernel) rfl
theorem se_X12_firstWithoutDual : Cond.selects yX12_firstWithoutDual.cls yX12_firstWithoutDual yX12_firstWithoutDual ∈ allw := aps (q := (yX12_firstWithoutDual, 86)) 97 (by decide +kernel) rfl
theorem cd_X12_fresh : Cond.code yX12_fresh cX12_fresh 2 none ∈ allw := am7 90 rfl rfl
theorem im_X12_fresh : Cond.instanceMethod yX12_fresh ∈ allw := am7 89 (by decide +kernel) rfl
theorem se_X12_fresh : Cond.selects yX12_fresh.cls yX12_fresh yX12_fresh ∈ allw := aps (q := (yX12_fresh, 86)) 78 (by decide +kernel) rfl
theorem cd_X12_fuses : Cond.code yX12_fuses cX12_fuses 4 (some .int) ∈ allw := am8 232 rfl rfl
theorem im_X12_fuses : Cond.instanceMethod yX12_fuses ∈ allw := am8 230 (by decide +kernel) rfl
theorem se_X12_fuses : Cond.selects RX12 yX12_fuses yX12_fuses ∈ allw := am8 231 (by decide +kernel) rfl
theorem cd_X12_hasDuals : Cond.code yX12_hasDuals cX12_hasDuals 1 (some .boolean) ∈ allw := am9 28 rfl rfl
theorem im_X12_hasDuals : Cond.instanceMethod yX12_hasDuals ∈ allw := am9 27 (by decide +kernel) rfl
theorem se_X12_hasDuals : Cond.selects yX12_hasDuals.cls yX12_hasDuals yX12_hasDuals ∈ allw := aps (q := (yX12_hasDuals, 86)) 101 (by decide +kernel) rfl
theorem cd_X12_hasTrees : Cond.code yX12_hasTrees cX12_hasTrees 1 (some .boolean) ∈ allw := am9 118 rfl rfl
theorem im_X12_hasTrees : Cond.instanceMethod yX12_hasTrees ∈ allw := am9 117 (by decide +kernel) rfl
theorem se_X12_hasTrees : Cond.selects yX12_hasTrees.cls yX12_hasTrees yX12_hasTrees ∈ allw := aps (q := (yX12_hasTrees, 86)) 114 (by decide +kernel) rfl
theorem cd_X12_hexagonHolds : Cond.code yX12_hexagonHolds cX12_hexagonHolds 9 (some .boolean) ∈ allw := am9 205 rfl rfl
theorem im_X12_hexagonHolds : Cond.instanceMethod yX12_hexagonHolds ∈ allw := am9 204 (by decide +kernel) rfl
theorem se_X12_hexagonHolds : Cond.selects yX12_hexagonHolds.cls yX12_hexagonHolds yX12_hexagonHolds ∈ allw := aps (q := (yX12_hexagonHolds, 86)) 128 (by decide +kernel) rfl
theorem cd_X12_holds : Cond.code yX12_holds cX12_holds 2 (some .int) ∈ allw := am10 25 rfl rfl
theorem im_X12_holds : Cond.instanceMethod yX12_holds ∈ allw := am10 23 (by decide +kernel) rfl
theorem se_X12_holds : Cond.selects RX12 yX12_holds yX12_holds ∈ allw := am10 24 (by decide +kernel) rfl
theorem cd_X12_holdsOf : Cond.code yX12_holdsOf cX12_holdsOf 1 (some .int) ∈ allw := am10 29 rfl rfl
theorem im_X12_holdsOf : Cond.instanceMethod yX12_holdsOf ∈ allw := am10 28 (by decide +kernel) rfl
theorem se_X12_holdsOf : Cond.selects yX12_holdsOf.cls yX12_holdsOf yX12_holdsOf ∈ allw := aps (q := (yX12_holdsOf, 86)) 140 (by decide +kernel) rfl
theorem cd_X12_image : Cond.code yX12_image cX12_image 1 none ∈ allw := am10 105 rfl rfl
theorem im_X12_image : Cond.instanceMethod yX12_image ∈ allw := am10 103 (by decide +kernel) rfl
theorem se_X12_image : Cond.selects RX12 yX12_image yX12_image ∈ allw := am10 104 (by decide +kernel) rfl
theorem cd_X12_init : Cond.code yX12_init cX12_init 1 none ∈ allw := am7 85 rfl rfl
theorem im_X12_init : Cond.instanceMethod yX12_init ∈ allw := am7 84 (by decide +kernel) rfl
theorem cd_X12_is : Cond.code yX12_is cX12_is 4 (some .boolean) ∈ allw := am8 149 rfl rfl
theorem im_X12_is : Cond.instanceMethod yX12_is ∈ allw := am8 148 (by decide +kernel) rfl
theorem se_X12_is : Cond.selects yX12_is.cls yX12_is yX12_is ∈ allw := aps (q := (yX12_is, 86)) 83 (by decide +kernel) rfl
theorem cd_X12_isCharacter : Cond.code yX12_isCharacter cX12_isCharacter 7 (some .boolean) ∈ allw := am9 106 rfl rfl
theorem im_X12_isCharacter : Cond.instanceMethod yX12_isCharacter ∈ allw := am9 105 (by decide +kernel) rfl
theorem se_X12_isCharacter : Cond.selects yX12_isCharacter.cls yX12_isCharacter yX12_isCharacter ∈ allw := aps (q := (yX12_isCharacter, 86)) 112 (by decide +kernel) rfl
theorem cd_X12_isCubeOfST : Cond.code yX12_isCubeOfST cX12_isCubeOfST 4 (some .boolean) ∈ allw := am10 49 rfl rfl
theorem im_X12_isCubeOfST : Cond.instanceMethod yX12_isCubeOfST ∈ allw := am10 48 (by decide +kernel) rfl
theorem se_X12_isCubeOfST : Cond.selects yX12_isCubeOfST.cls yX12_isCubeOfST yX12_isCubeOfST ∈ allw := aps (q := (yX12_isCubeOfST, 86)) 145 (by decide +kernel) rfl
theorem cd_X12_isDigit : Cond.code yX12_isDigit cX12_isDigit 1 (some .boolean) ∈ allw := am8 139 rfl rfl
theorem sm_X12_isDigit : Cond.static yX12_isDigit ∈ allw := am8 138 (by decide +kernel) rfl
theorem cd_X12_isFree : Cond.code yX12_isFree cX12_isFree 2 (some .boolean) ∈ allw := am8 228 rfl rfl
theorem im_X12_isFree : Cond.instanceMethod yX12_isFree ∈ allw := am8 227 (by decide +kernel) rfl
theorem se_X12_isFree : Cond.selects yX12_isFree.cls yX12_isFree yX12_isFree ∈ allw := aps (q := (yX12_isFree, 86)) 94 (by decide +kernel) rfl
theorem cd_X12_isHexagon : Cond.code yX12_isHexagon cX12_isHexagon 1 (some .boolean) ∈ allw := am9 197 rfl rfl
theorem im_X12_isHexagon : Cond.instanceMethod yX12_isHexagon ∈ allw := am9 196 (by decide +kernel) rfl
theorem se_X12_isHexagon : Cond.selects yX12_isHexagon.cls yX12_isHexagon yX12_isHexagon ∈ allw := aps (q := (yX12_isHexagon, 86)) 126 (by decide +kernel) rfl
theorem cd_X12_isIn : Cond.code yX12_isIn cX12_isIn 3 (some .boolean) ∈ allw := am8 158 rfl rfl
theorem sm_X12_isIn : Cond.static yX12_isIn ∈ allw := am8 157 (by decide +kernel) rfl
theorem cd_X12_isKind : Cond.code yX12_isKind cX12_isKind 2 (some .boolean) ∈ allw := am8 236 rfl rfl
theorem im_X12_isKind : Cond.instanceMethod yX12_isKind ∈ allw := am8 235 (by decide +kernel) rfl
theorem se_X12_isKind : Cond.selects yX12_isKind.cls yX12_isKind yX12_isKind ∈ allw := aps (q := (yX12_isKind, 86)) 95 (by decide +kernel) rfl
theorem cd_X12_isLeast : Cond.code yX12_isLeast cX12_isLeast 5 (some .boolean) ∈ allw := am9 75 rfl rfl
theorem im_X12_isLeast : Cond.instanceMethod yX12_isLeast ∈ allw := am9 74 (by decide +kernel) rfl
theorem se_X12_isLeast : Cond.selects yX12_isLeast.cls yX12_isLeast yX12_isLeast ∈ allw := aps (q := (yX12_isLeast, 86)) 108 (by decide +kernel) rfl
theorem cd_X12_isLesser : Cond.code yX12_isLesser cX12_isLesser 5 (some .boolean) ∈ allw := am9 79 rfl rfl
theorem im_X12_isLesser : Cond.instanceMethod yX12_isLesser ∈ allw := am9 78 (by decide +kernel) rfl
theorem se_X12_isLesser : Cond.selects yX12_isLesser.cls yX12_isLesser yX12_isLesser ∈ allw := aps (q := (yX12_isLesser, 86)) 109 (by decide +kernel) rfl
theorem cd_X12_isLetter : Cond.code yX12_isLetter cX12_isLetter 1 (some .boolean) ∈ allw := am8 136 rfl rfl
theorem sm_X12_isLetter : Cond.static yX12_isLetter ∈ allw := am8 135 (by decide +kernel) rfl
theorem cd_X12_isMarked : Cond.code yX12_isMarked cX12_isMarked 2 (some .boolean) ∈ allw := am8 173 rfl rfl
theorem im_X12_isMarked : Cond.instanceMethod yX12_isMarked ∈ allw := am8 172 (by decide +kernel) rfl
theorem se_X12_isMarked : Cond.selects yX12_isMarked.cls yX12_isMarked yX12_isMarked ∈ allw := aps (q := (yX12_isMarked, 86)) 87 (by decide +kernel) rfl
theorem cd_X12_isPentagon : Cond.code yX12_isPentagon cX12_isPentagon 1 (some .boolean) ∈ allw := am9 193 rfl rfl
theorem im_X12_isPentagon : Cond.instanceMethod yX12_isPentagon ∈ allw := am9 192 (by decide +kernel) rfl
theorem se_X12_isPentagon : Cond.selects yX12_isPentagon.cls yX12_isPentagon yX12_isPentagon ∈ allw := aps (q := (yX12_isPentagon, 86)) 125 (by decide +kernel) rfl
theorem cd_X12_isPrime : Cond.code yX12_isPrime cX12_isPrime 2 (some .boolean) ∈ allw := am9 90 rfl rfl
theorem sm_X12_isPrime : Cond.static yX12_isPrime ∈ allw := am9 89 (by decide +kernel) rfl
theorem cd_X12_isReadSum : Cond.code yX12_isReadSum cX12_isReadSum 8 (some .boolean) ∈ allw := am9 71 rfl rfl
theorem im_X12_isReadSum : Cond.instanceMethod yX12_isReadSum ∈ allw := am9 70 (by decide +kernel) rfl
theorem se_X12_isReadSum : Cond.selects yX12_isReadSum.cls yX12_isReadSum yX12_isReadSum ∈ allw := aps (q := (yX12_isReadSum, 86)) 107 (by decide +kernel) rfl
theorem cd_X12_isRelated : Cond.code yX12_isRelated cX12_isRelated 6 (some .boolean) ∈ allw := am10 101 rfl rfl
theorem im_X12_isRelated : Cond.instanceMethod yX12_isRelated ∈ allw := am10 100 (by decide +kernel) rfl
theorem se_X12_isRelated : Cond.selects yX12_isRelated.cls yX12_isRelated yX12_isRelated ∈ allw := aps (q := (yX12_isRelated, 86)) 156 (by decide +kernel) rfl
theorem cd_X12_isSTurned : Cond.code yX12_isSTurned cX12_isSTurned 2 (some .boolean) ∈ allw := am10 33 rfl rfl
theorem im_X12_isSTurned : Cond.instanceMethod yX12_isSTurned ∈ allw := am10 32 (by decide +kernel) rfl
theorem se_X12_isSTurned : Cond.selects yX12_isSTurned.cls yX12_isSTurned yX12_isSTurned ∈ allw := aps (q := (yX12_isSTurned, 86)) 141 (by decide +kernel) rfl
theorem cd_X12_isSquareOfS : Cond.code yX12_isSquareOfS cX12_isSquareOfS 4 (some .boolean) ∈ allw := am10 37 rfl rfl
theorem im_X12_isSquareOfS : Cond.instanceMethod yX12_isSquareOfS ∈ allw := am10 36 (by decide +kernel) rfl
theorem se_X12_isSquareOfS : Cond.selects yX12_isSquareOfS.cls yX12_isSquareOfS yX12_isSquareOfS ∈ allw := aps (q := (yX12_isSquareOfS, 86)) 142 (by decide +kernel) rfl
theorem cd_X12_isSquareTurned : Cond.code yX12_isSquareTurned cX12_isSquareTurned 9 (some .boolean) ∈ allw := am9 233 rfl rfl
theorem im_X12_isSquareTurned : Cond.instanceMethod yX12_isSquareTurned ∈ allw := am9 232 (by decide +kernel) rfl
theorem se_X12_isSquareTurned : Cond.selects yX12_isSquareTurned.cls yX12_isSquareTurned yX12_isSquareTurned ∈ allw := aps (q := (yX12_isSquareTurned, 86)) 133 (by decide +kernel) rfl
theorem cd_X12_isSum : Cond.code yX12_isSum cX12_isSum 8 (some .boolean) ∈ allw := am9 16 rfl rfl
theorem im_X12_isSum : Cond.instanceMethod yX12_isSum ∈ allw := am9 15 (by decide +kernel) rfl
theorem se_X12_isSum : Cond.selects yX12_isSum.cls yX12_isSum yX12_isSum ∈ allw := aps (q := (yX12_isSum, 86)) 99 (by decide +kernel) rfl
theorem cd_X12_isTree : Cond.code yX12_isTree cX12_isTree 7 (some .boolean) ∈ allw := am9 122 rfl rfl
theorem im_X12_isTree : Cond.instanceMethod yX12_isTree ∈ allw := am9 121 (by decide +kernel) rfl
theorem se_X12_isTree : Cond.selects yX12_isTree.cls yX12_isTree yX12_isTree ∈ allw := aps (q := (yX12_isTree, 86)) 115 (by decide +kernel) rfl
theorem cd_X12_isWonBack : Cond.code yX12_isWonBack cX12_isWonBack 7 (some .boolean) ∈ allw := am10 53 rfl rfl
theorem im_X12_isWonBack : Cond.instanceMethod yX12_isWonBack ∈ allw := am10 52 (by decide +kernel) rfl
theorem se_X12_isWonBack : Cond.selects yX12_isWonBack.cls yX12_isWonBack yX12_isWonBack ∈ allw := aps (q := (yX12_isWonBack, 86)) 146 (by decide +kernel) rfl
theorem cd_X12_keep : Cond.code yX12_keep cX12_keep 2 none ∈ allw := am8 212 rfl rfl
theorem im_X12_keep : Cond.instanceMethod yX12_keep ∈ allw := am8 210 (by decide +kernel) rfl
theorem se_X12_keep : Cond.selects RX12 yX12_keep yX12_keep ∈ allw := am8 211 (by decide +kernel) rfl
theorem cd_X12_keeps : Cond.code yX12_keeps cX12_keeps 5 (some .boolean) ∈ allw := am9 20 rfl rfl
theorem im_X12_keeps : Cond.instanceMethod yX12_keeps ∈ allw := am9 19 (by decide +kernel) rfl
theorem se_X12_keeps : Cond.selects yX12_keeps.cls yX12_keeps yX12_keeps ∈ allw := aps (q := (yX12_keeps, 86)) 100 (by decide +kernel) rfl
theorem cd_X12_kindNow : Cond.code yX12_kindNow cX12_kindNow 2 (some .int) ∈ allw := am8 185 rfl rfl
theorem im_X12_kindNow : Cond.instanceMethod yX12_kindNow ∈ allw := am8 184 (by decide +kernel) rfl
theorem se_X12_kindNow : Cond.selects yX12_kindNow.cls yX12_kindNow yX12_kindNow ∈ allw := aps (q := (yX12_kindNow, 86)) 90 (by decide +kernel) rfl
theorem cd_X12_law : Cond.code yX12_law cX12_law 2 (some .int) ∈ allw := am9 0 rfl rfl
theorem im_X12_law : Cond.instanceMethod yX12_law ∈ allw := am8 238 (by decide +kernel) rfl
theorem se_X12_law : Cond.selects RX12 yX12_law yX12_law ∈ allw := am8 239 (by decide +kernel) rfl
theorem cd_X12_layTable : Cond.code yX12_layTable cX12_layTable 6 none ∈ allw := am9 67 rfl rfl
theorem im_X12_layTable : Cond.instanceMethod yX12_layTable ∈ allw := am9 66 (by decide +kernel) rfl
theorem se_X12_layTable : Cond.selects yX12_layTable.cls yX12_layTable yX12_layTable ∈ allw := aps (q := (yX12_layTable, 86)) 106 (by decide +kernel) rfl
theorem cd_X12_letter : Cond.code yX12_letter cX12_letter 2 (some .int) ∈ allw := am9 153 rfl rfl
theorem im_X12_letter : Cond.instanceMethod yX12_letter ∈ allw := am9 151 (by decide +kernel) rfl
theorem se_X12_letter : Cond.selects RX12 yX12_letter yX12_letter ∈ allw := am9 152 (by decide +kernel) rfl
theorem cd_X12_levelOf : Cond.code yX12_levelOf cX12_levelOf 4 (some .int) ∈ allw := am8 205 rfl rfl
theorem sm_X12_levelOf : Cond.static yX12_levelOf ∈ allw := am8 204 (by decide +kernel) rfl
theorem cd_X12_list : Cond.code yX12_list cX12_list 5 (some .int) ∈ allw := am9 48 rfl rfl
theorem im_X12_list : Cond.instanceMethod yX12_list ∈ allw := am9 46 (by decide +kernel) rfl
theorem se_X12_list : Cond.selects RX12 yX12_list yX12_list ∈ allw := am9 47 (by decide +kernel) rfl
theorem cd_X12_log : Cond.code yX12_log cX12_log 6 none ∈ allw := am9 137 rfl rfl
theorem im_X12_log : Cond.instanceMethod yX12_log ∈ allw := am9 136 (by decide +kernel) rfl
theorem se_X12_log : Cond.selects yX12_log.cls yX12_log yX12_log ∈ allw := aps (q := (yX12_log, 86)) 118 (by decide +kernel) rfl
theorem cd_X12_make : Cond.code yX12_make cX12_make 8 (some .int) ∈ allw := am8 202 rfl rfl
theorem im_X12_make : Cond.instanceMethod yX12_make ∈ allw := am8 200 (by decide +kernel) rfl
theorem se_X12_make : Cond.selects RX12 yX12_make yX12_make ∈ allw := am8 201 (by decide +kernel) rfl
theorem cd_X12_mark : Cond.code yX12_mark cX12_mark 2 none ∈ allw := am8 169 rfl rfl
theorem im_X12_mark : Cond.instanceMethod yX12_mark ∈ allw := am8 168 (by decide +kernel) rfl
theorem se_X12_mark : Cond.selects yX12_mark.cls yX12_mark yX12_mark ∈ allw := aps (q := (yX12_mark, 86)) 86 (by decide +kernel) rfl
theorem cd_X12_mayGoOn : Cond.code yX12_mayGoOn cX12_mayGoOn 3 (some .boolean) ∈ allw := am9 189 rfl rfl
theorem im_X12_mayGoOn : Cond.instanceMethod yX12_mayGoOn ∈ allw := am9 188 (by decide +kernel) rfl
theorem se_X12_mayGoOn : Cond.selects yX12_mayGoOn.cls yX12_mayGoOn yX12_mayGoOn ∈ allw := aps (q := (yX12_mayGoOn, 86)) 124 (by decide +kernel) rfl
theorem cd_X12_multiply : Cond.code yX12_multiply cX12_multiply 5 none ∈ allw := am10 41 rfl rfl
theorem im_X12_multiply : Cond.instanceMethod yX12_multiply ∈ allw := am10 40 (by decide +kernel) rfl
theorem se_X12_multiply : Cond.selects yX12_multiply.cls yX12_multiply yX12_multiply ∈ allw := aps (q := (yX12_multiply, 86)) 143 (by decide +kernel) rfl
theorem cd_X12_nearOf : Cond.code yX12_nearOf cX12_nearOf 5 (some .int) ∈ allw := am8 208 rfl rfl
theorem sm_X12_nearOf : Cond.static yX12_nearOf ∈ allw := am8 207 (by decide +kernel) rfl
theorem cd_X12_of : Cond.code yX12_of cX12_of 4 (some .int) ∈ allw := am8 220 rfl rfl
theorem im_X12_of : Cond.instanceMethod yX12_of ∈ allw := am8 219 (by decide +kernel) rfl
theorem se_X12_of : Cond.selects yX12_of.cls yX12_of yX12_of ∈ allw := aps (q := (yX12_of, 86)) 93 (by decide +kernel) rfl
theorem cd_X12_over : Cond.code yX12_over cX12_over 3 (some .int) ∈ allw := am10 13 rfl rfl
theorem im_X12_over : Cond.instanceMethod yX12_over ∈ allw := am10 12 (by decide +kernel) rfl
theorem se_X12_over : Cond.selects yX12_over.cls yX12_over yX12_over ∈ allw := aps (q := (yX12_over, 86)) 138 (by decide +kernel) rfl
theorem cd_X12_partner : Cond.code yX12_partner cX12_partner 4 (some .int) ∈ allw := am9 12 rfl rfl
theorem im_X12_partner : Cond.instanceMethod yX12_partner ∈ allw := am9 11 (by decide +kernel) rfl
theorem se_X12_partner : Cond.selects yX12_partner.cls yX12_partner yX12_partner ∈ allw := aps (q := (yX12_partner, 86)) 98 (by decide +kernel) rfl
theorem cd_X12_pentagonHolds : Cond.code yX12_pentagonHolds cX12_pentagonHolds 12 (some .boolean) ∈ allw := am9 201 rfl rfl
theorem im_X12_pentagonHolds : Cond.instanceMethod yX12_pentagonHolds ∈ allw := am9 200 (by decide +kernel) rfl
theorem se_X12_pentagonHolds : Cond.selects yX12_pentagonHolds.cls yX12_pentagonHolds yX12_pentagonHolds ∈ allw := aps (q := (yX12_pentagonHolds, 86)) 127 (by decide +kernel) rfl
theorem cd_X12_product : Cond.code yX12_product cX12_product 6 (some .int) ∈ allw := am8 216 rfl rfl
theorem im_X12_product : Cond.instanceMethod yX12_product ∈ allw := am8 214 (by decide +kernel) rfl
theorem se_X12_product : Cond.selects RX12 yX12_product yX12_product ∈ allw := am8 215 (by decide +kernel) rfl
theorem cd_X12_put : Cond.code yX12_put cX12_put 4 none ∈ allw := am9 141 rfl rfl
theorem im_X12_put : Cond.instanceMethod yX12_put ∈ allw := am9 140 (by decide +kernel) rfl
theorem se_X12_put : Cond.selects yX12_put.cls yX12_put yX12_put ∈ allw := aps (q := (yX12_put, 86)) 119 (by decide +kernel) rfl
theorem cd_X12_putGroup : Cond.code yX12_putGroup cX12_putGroup 5 none ∈ allw := am9 56 rfl rfl
theorem im_X12_putGroup : Cond.instanceMethod yX12_putGroup ∈ allw := am9 55 (by decide +kernel) rfl
theorem se_X12_putGroup : Cond.selects yX12_putGroup.cls yX12_putGroup yX12_putGroup ∈ allw := aps (q := (yX12_putGroup, 86)) 104 (by decide +kernel) rfl
theorem cd_X12_readKind : Cond.code yX12_readKind cX12_readKind 3 (some .int) ∈ allw := am8 181 rfl rfl
theorem im_X12_readKind : Cond.instanceMethod yX12_readKind ∈ allw := am8 180 (by decide +kernel) rfl
theorem se_X12_readKind : Cond.selects yX12_readKind.cls yX12_readKind yX12_readKind ∈ allw := aps (q := (yX12_readKind, 86)) 89 (by decide +kernel) rfl
theorem cd_X12_readLine : Cond.code yX12_readLine cX12_readLine 5 (some .int) ∈ allw := am8 177 rfl rfl
theorem im_X12_readLine : Cond.instanceMethod yX12_readLine ∈ allw := am8 176 (by decide +kernel) rfl
theorem se_X12_readLine : Cond.selects yX12_readLine.cls yX12_readLine yX12_readLine ∈ allw := aps (q := (yX12_readLine, 86)) 88 (by decide +kernel) rfl
theorem cd_X12_readSum : Cond.code yX12_readSum cX12_readSum 5 none ∈ allw := am8 190 rfl rfl
theorem im_X12_readSum : Cond.instanceMethod yX12_readSum ∈ allw := am8 189 (by decide +kernel) rfl
theorem se_X12_readSum : Cond.selects yX12_readSum.cls yX12_readSum yX12_readSum ∈ allw := aps (q := (yX12_readSum, 86)) 91 (by decide +kernel) rfl
theorem cd_X12_restore : Cond.code yX12_restore cX12_restore 1 (some .boolean) ∈ allw := am10 112 rfl rfl
theorem im_X12_restore : Cond.instanceMethod yX12_restore ∈ allw := am10 110 (by decide +kernel) rfl
theorem se_X12_restore : Cond.selects RX12 yX12_restore yX12_restore ∈ allw := am10 111 (by decide +kernel) rfl
theorem cd_X12_s : Cond.code yX12_s cX12_s 4 (some .int) ∈ allw := am10 17 rfl rfl
theorem im_X12_s : Cond.instanceMethod yX12_s ∈ allw := am10 15 (by decide +kernel) rfl
theorem se_X12_s : Cond.selects RX12 yX12_s yX12_s ∈ allw := am10 16 (by decide +kernel) rfl
theorem cd_X12_shapeOn : Cond.code yX12_shapeOn cX12_shapeOn 4 none ∈ allw := am9 185 rfl rfl
theorem im_X12_shapeOn : Cond.instanceMethod yX12_shapeOn ∈ allw := am9 184 (by decide +kernel) rfl
theorem se_X12_shapeOn : Cond.selects yX12_shapeOn.cls yX12_shapeOn yX12_shapeOn ∈ allw := aps (q := (yX12_shapeOn, 86)) 123 (by decide +kernel) rfl
theorem cd_X12_six : Cond.code yX12_six cX12_six 6 (some .int) ∈ allw := am9 125 rfl rfl
theorem sm_X12_six : Cond.static yX12_six ∈ allw := am9 124 (by decide +kernel) rfl
theorem cd_X12_size : Cond.code yX12_size cX12_size 2 (some .int) ∈ allw := am9 32 rfl rfl
theorem im_X12_size : Cond.instanceMethod yX12_size ∈ allw := am9 30 (by decide +kernel) rfl
theorem se_X12_size : Cond.selects RX12 yX12_size yX12_size ∈ allw := am9 31 (by decide +kernel) rfl
theorem cd_X12_solve : Cond.code yX12_solve cX12_solve 3 (some .int) ∈ allw := am9 213 rfl rfl
theorem im_X12_solve : Cond.instanceMethod yX12_solve ∈ allw := am9 211 (by decide +kernel) rfl
theorem se_X12_solve : Cond.selects RX12 yX12_solve yX12_solve ∈ allw := am9 212 (by decide +kernel) rfl
theorem cd_X12_solveOn : Cond.code yX12_solveOn cX12_solveOn 3 none ∈ allw := am9 225 rfl rfl
theorem im_X12_solveOn : Cond.instanceMethod yX12_solveOn ∈ allw := am9 224 (by decide +kernel) rfl
theorem se_X12_solveOn : Cond.selects yX12_solveOn.cls yX12_solveOn yX12_solveOn ∈ allw := aps (q := (yX12_solveOn, 86)) 131 (by decide +kernel) rfl
theorem cd_X12_stepOn : Cond.code yX12_stepOn cX12_stepOn 2 none ∈ allw := am8 129 rfl rfl
theorem im_X12_stepOn : Cond.instanceMethod yX12_stepOn ∈ allw := am8 128 (by decide +kernel) rfl
theorem se_X12_stepOn : Cond.selects yX12_stepOn.cls yX12_stepOn yX12_stepOn ∈ allw := aps (q := (yX12_stepOn, 86)) 80 (by decide +kernel) rfl
theorem cd_X12_sumOf : Cond.code yX12_sumOf cX12_sumOf 4 (some .int) ∈ allw := am10 45 rfl rfl
theorem im_X12_sumOf : Cond.instanceMethod yX12_sumOf ∈ allw := am10 44 (by decide +kernel) rfl
theorem se_X12_sumOf : Cond.selects yX12_sumOf.cls yX12_sumOf yX12_sumOf ∈ allw := aps (q := (yX12_sumOf, 86)) 144 (by decide +kernel) rfl
theorem cd_X12_swap : Cond.code yX12_swap cX12_swap 6 (some .boolean) ∈ allw := am9 145 rfl rfl
theorem im_X12_swap : Cond.instanceMethod yX12_swap ∈ allw := am9 143 (by decide +kernel) rfl
theorem se_X12_swap : Cond.selects RX12 yX12_swap yX12_swap ∈ allw := am9 144 (by decide +kernel) rfl
theorem cd_X12_swapOf : Cond.code yX12_swapOf cX12_swapOf 4 (some .int) ∈ allw := am9 173 rfl rfl
theorem im_X12_swapOf : Cond.instanceMethod yX12_swapOf ∈ allw := am9 172 (by decide +kernel) rfl
theorem se_X12_swapOf : Cond.selects yX12_swapOf.cls yX12_swapOf yX12_swapOf ∈ allw := aps (q := (yX12_swapOf, 86)) 121 (by decide +kernel) rfl
theorem cd_X12_swapRows : Cond.code yX12_swapRows cX12_swapRows 6 none ∈ allw := am10 1 rfl rfl
theorem im_X12_swapRows : Cond.instanceMethod yX12_swapRows ∈ allw := am10 0 (by decide +kernel) rfl
theorem se_X12_swapRows : Cond.selects yX12_swapRows.cls yX12_swapRows yX12_swapRows ∈ allw := aps (q := (yX12_swapRows, 86)) 135 (by decide +kernel) rfl
theorem cd_X12_table : Cond.code yX12_table cX12_table 3 (some .int) ∈ allw := am8 121 rfl rfl
theorem im_X12_table : Cond.instanceMethod yX12_table ∈ allw := am8 119 (by decide +kernel) rfl
theorem se_X12_table : Cond.selects RX12 yX12_table yX12_table ∈ allw := am8 120 (by decide +kernel) rfl
theorem cd_X12_take : Cond.code yX12_take cX12_take 2 (some .int) ∈ allw := am9 83 rfl rfl
theorem im_X12_take : Cond.instanceMethod yX12_take ∈ allw := am9 81 (by decide +kernel) rfl
theorem se_X12_take : Cond.selects RX12 yX12_take yX12_take ∈ allw := am9 82 (by decide +kernel) rfl
theorem cd_X12_takeRead : Cond.code yX12_takeRead cX12_takeRead 2 none ∈ allw := am8 194 rfl rfl
theorem im_X12_takeRead : Cond.instanceMethod yX12_takeRead ∈ allw := am8 193 (by decide +kernel) rfl
theorem se_X12_takeRead : Cond.selects yX12_takeRead.cls yX12_takeRead yX12_takeRead ∈ allw := aps (q := (yX12_takeRead, 86)) 92 (by decide +kernel) rfl
theorem cd_X12_tell : Cond.code yX12_tell cX12_tell 9 (some .boolean) ∈ allw := am9 110 rfl rfl
theorem im_X12_tell : Cond.instanceMethod yX12_tell ∈ allw := am9 108 (by decide +kernel) rfl
theorem se_X12_tell : Cond.selects RX12 yX12_tell yX12_tell ∈ allw := am9 109 (by decide +kernel) rfl
theorem cd_X12_tellFigures : Cond.code yX12_tellFigures cX12_tellFigures 5 none ∈ allw := am9 63 rfl rfl
theorem im_X12_tellFigures : Cond.instanceMethod yX12_tellFigures ∈ allw := am9 62 (by decide +kernel) rfl
theorem se_X12_tellFigures : Cond.selects yX12_tellFigures.cls yX12_tellFigures yX12_tellFigures ∈ allw := aps (q := (yX12_tellFigures, 86)) 105 (by decide +kernel) rfl
theorem cd_X12_tellGroups : Cond.code yX12_tellGroups cX12_tellGroups 6 none ∈ allw := am9 52 rfl rfl
theorem im_X12_tellGroups : Cond.instanceMethod yX12_tellGroups ∈ allw := am9 51 (by decide +kernel) rfl
theorem se_X12_tellGroups : Cond.selects yX12_tellGroups.cls yX12_tellGroups yX12_tellGroups ∈ allw := aps (q := (yX12_tellGroups, 86)) 103 (by decide +kernel) rfl
theorem cd_X12_tellLetters : Cond.code yX12_tellLetters cX12_tellLetters 9 (some .boolean) ∈ allw := am10 77 rfl rfl
theorem im_X12_tellLetters : Cond.instanceMethod yX12_tellLetters ∈ allw := am10 76 (by decide +kernel) rfl
theorem se_X12_tellLetters : Cond.selects yX12_tellLetters.cls yX12_tellLetters yX12_tellLetters ∈ allw := aps (q := (yX12_tellLetters, 86)) 150 (by decide +kernel) rfl
theorem cd_X12_tellPaths : Cond.code yX12_tellPaths cX12_tellPaths 4 none ∈ allw := am10 81 rfl rfl
theorem im_X12_tellPaths : Cond.instanceMethod yX12_tellPaths ∈ allw := am10 80 (by decide +kernel) rfl
theorem se_X12_tellPaths : Cond.selects yX12_tellPaths.cls yX12_tellPaths yX12_tellPaths ∈ allw := aps (q := (yX12_tellPaths, 86)) 151 (by decide +kernel) rfl
theorem cd_X12_tellS : Cond.code yX12_tellS cX12_tellS 5 none ∈ allw := am10 21 rfl rfl
theorem im_X12_tellS : Cond.instanceMethod yX12_tellS ∈ allw := am10 20 (by decide +kernel) rfl
theorem se_X12_tellS : Cond.selects yX12_tellS.cls yX12_tellS yX12_tellS ∈ allw := aps (q := (yX12_tellS, 86)) 139 (by decide +kernel) rfl
theorem cd_X12_tellShapes : Cond.code yX12_tellShapes cX12_tellShapes 3 none ∈ allw := am9 181 rfl rfl
theorem im_X12_tellShapes : Cond.instanceMethod yX12_tellShapes ∈ allw := am9 180 (by decide +kernel) rfl
theorem se_X12_tellShapes : Cond.selects yX12_tellShapes.cls yX12_tellShapes yX12_tellShapes ∈ allw := aps (q := (yX12_tellShapes, 86)) 122 (by decide +kernel) rfl
theorem cd_X12_tellSizes : Cond.code yX12_tellSizes cX12_tellSizes 5 none ∈ allw := am9 36 rfl rfl
theorem im_X12_tellSizes : Cond.instanceMethod yX12_tellSizes ∈ allw := am9 35 (by decide +kernel) rfl
theorem se_X12_tellSizes : Cond.selects yX12_tellSizes.cls yX12_tellSizes yX12_tellSizes ∈ allw := aps (q := (yX12_tellSizes, 86)) 102 (by decide +kernel) rfl
theorem cd_X12_tellUnknowns : Cond.code yX12_tellUnknowns cX12_tellUnknowns 4 none ∈ allw := am9 217 rfl rfl
theorem im_X12_tellUnknowns : Cond.instanceMethod yX12_tellUnknowns ∈ allw := am9 216 (by decide +kernel) rfl
theorem se_X12_tellUnknowns : Cond.selects yX12_tellUnknowns.cls yX12_tellUnknowns yX12_tellUnknowns ∈ allw := aps (q := (yX12_tellUnknowns, 86)) 129 (by decide +kernel) rfl
theorem cd_X12_telling : Cond.code yX12_telling cX12_telling 5 (some .boolean) ∈ allw := am9 129 rfl rfl
theorem im_X12_telling : Cond.instanceMethod yX12_telling ∈ allw := am9 128 (by decide +kernel) rfl
theorem se_X12_telling : Cond.selects yX12_telling.cls yX12_telling yX12_telling ∈ allw := aps (q := (yX12_telling, 86)) 116 (by decide +kernel) rfl
theorem cd_X12_thrown : Cond.code yX12_thrown cX12_thrown 1 (some .int) ∈ allw := am8 113 rfl rfl
theorem im_X12_thrown : Cond.instanceMethod yX12_thrown ∈ allw := am8 111 (by decide +kernel) rfl
theorem se_X12_thrown : Cond.selects RX12 yX12_thrown yX12_thrown ∈ allw := am8 112 (by decide +kernel) rfl
theorem cd_X12_told : Cond.code yX12_told cX12_told 8 (some .int) ∈ allw := am9 165 rfl rfl
theorem im_X12_told : Cond.instanceMethod yX12_told ∈ allw := am9 163 (by decide +kernel) rfl
theorem se_X12_told : Cond.selects RX12 yX12_told yX12_told ∈ allw := am9 164 (by decide +kernel) rfl
theorem cd_X12_traceOf : Cond.code yX12_traceOf cX12_traceOf 5 (some .int) ∈ allw := am10 89 rfl rfl
theorem im_X12_traceOf : Cond.instanceMethod yX12_traceOf ∈ allw := am10 88 (by decide +kernel) rfl
theorem se_X12_traceOf : Cond.selects yX12_traceOf.cls yX12_traceOf yX12_traceOf ∈ allw := aps (q := (yX12_traceOf, 86)) 153 (by decide +kernel) rfl
theorem cd_X12_treeOf : Cond.code yX12_treeOf cX12_treeOf 7 (some .int) ∈ allw := am9 169 rfl rfl
theorem im_X12_treeOf : Cond.instanceMethod yX12_treeOf ∈ allw := am9 168 (by decide +kernel) rfl
theorem se_X12_treeOf : Cond.selects yX12_treeOf.cls yX12_treeOf yX12_treeOf ∈ allw := aps (q := (yX12_treeOf, 86)) 120 (by decide +kernel) rfl
theorem cd_X12_turnBack : Cond.code yX12_turnBack cX12_turnBack 5 (some .boolean) ∈ allw := am9 237 rfl rfl
theorem im_X12_turnBack : Cond.instanceMethod yX12_turnBack ∈ allw := am9 236 (by decide +kernel) rfl
theorem se_X12_turnBack : Cond.selects yX12_turnBack.cls yX12_turnBack yX12_turnBack ∈ allw := aps (q := (yX12_turnBack, 86)) 134 (by decide +kernel) rfl
theorem cd_X12_turnOn : Cond.code yX12_turnOn cX12_turnOn 3 none ∈ allw := am10 65 rfl rfl
theorem im_X12_turnOn : Cond.instanceMethod yX12_turnOn ∈ allw := am10 64 (by decide +kernel) rfl
theorem se_X12_turnOn : Cond.selects yX12_turnOn.cls yX12_turnOn yX12_turnOn ∈ allw := aps (q := (yX12_turnOn, 86)) 148 (by decide +kernel) rfl
theorem cd_X12_turned : Cond.code yX12_turned cX12_turned 5 (some .int) ∈ allw := am10 57 rfl rfl
theorem im_X12_turned : Cond.instanceMethod yX12_turned ∈ allw := am10 55 (by decide +kernel) rfl
theorem se_X12_turned : Cond.selects RX12 yX12_turned yX12_turned ∈ allw := am10 56 (by decide +kernel) rfl
theorem cd_X12_turnedBack : Cond.code yX12_turnedBack cX12_turnedBack 3 (some .int) ∈ allw := am10 5 rfl rfl
theorem im_X12_turnedBack : Cond.instanceMethod yX12_turnedBack ∈ allw := am10 4 (by decide +kernel) rfl
theorem se_X12_turnedBack : Cond.selects yX12_turnedBack.cls yX12_turnedBack yX12_turnedBack ∈ allw := aps (q := (yX12_turnedBack, 86)) 136 (by decide +kernel) rfl
theorem cd_X12_twist : Cond.code yX12_twist cX12_twist 3 (some .boolean) ∈ allw := am9 149 rfl rfl
theorem im_X12_twist : Cond.instanceMethod yX12_twist ∈ allw := am9 147 (by decide +kernel) rfl
theorem se_X12_twist : Cond.selects RX12 yX12_twist yX12_twist ∈ allw := am9 148 (by decide +kernel) rfl
theorem cd_X12_valueAt : Cond.code yX12_valueAt cX12_valueAt 3 (some .int) ∈ allw := am9 133 rfl rfl
theorem im_X12_valueAt : Cond.instanceMethod yX12_valueAt ∈ allw := am9 132 (by decide +kernel) rfl
theorem se_X12_valueAt : Cond.selects yX12_valueAt.cls yX12_valueAt yX12_valueAt ∈ allw := aps (q := (yX12_valueAt, 86)) 117 (by decide +kernel) rfl
theorem cd_X12_ways : Cond.code yX12_ways cX12_ways 7 (some .int) ∈ allw := am9 43 rfl rfl
theorem im_X12_ways : Cond.instanceMethod yX12_ways ∈ allw := am9 41 (by decide +kernel) rfl
theorem se_X12_ways : Cond.selects RX12 yX12_ways yX12_ways ∈ allw := am9 42 (by decide +kernel) rfl
theorem cd_X12_wordIs : Cond.code yX12_wordIs cX12_wordIs 2 none ∈ allw := am8 145 rfl rfl
theorem im_X12_wordIs : Cond.instanceMethod yX12_wordIs ∈ allw := am8 144 (by decide +kernel) rfl
theorem se_X12_wordIs : Cond.selects yX12_wordIs.cls yX12_wordIs yX12_wordIs ∈ allw := aps (q := (yX12_wordIs, 86)) 82 (by decide +kernel) rfl
theorem cd_X12_wrong : Cond.code yX12_wrong cX12_wrong 2 none ∈ allw := am8 155 rfl rfl
theorem im_X12_wrong : Cond.instanceMethod yX12_wrong ∈ allw := am8 154 (by decide +kernel) rfl
theorem se_X12_wrong : Cond.selects yX12_wrong.cls yX12_wrong yX12_wrong ∈ allw := aps (q := (yX12_wrong, 86)) 84 (by decide +kernel) rfl
theorem cd_X1_at : Cond.code yX1_at cX1_at 3 (some .int) ∈ allw := am6 29 rfl rfl
theorem im_X1_at : Cond.instanceMethod yX1_at ∈ allw := am6 27 (by decide +kernel) rfl
theorem se_X1_at : Cond.selects RX1 yX1_at yX1_at ∈ allw := am6 28 (by decide +kernel) rfl
theorem cd_X1_find : Cond.code yX1_find cX1_find 7 none ∈ allw := am5 230 rfl rfl
theorem im_X1_find : Cond.instanceMethod yX1_find ∈ allw := am5 228 (by decide +kernel) rfl
theorem se_X1_find : Cond.selects RX1 yX1_find yX1_find ∈ allw := am5 229 (by decide +kernel) rfl
theorem cd_X1_findValues : Cond.code yX1_findValues cX1_findValues 9 none ∈ allw := am5 234 rfl rfl
theorem im_X1_findValues : Cond.instanceMethod yX1_findValues ∈ allw := am5 233 (by decide +kernel) rfl
theorem se_X1_findValues : Cond.selects yX1_findValues.cls yX1_findValues yX1_findValues ∈ allw := aps (q := (yX1_findValues, 8)) 42 (by decide +kernel) rfl
theorem cd_X1_init : Cond.code yX1_init cX1_init 1 none ∈ allw := am2 103 rfl rfl
theorem im_X1_init : Cond.instanceMethod yX1_init ∈ allw := am2 102 (by decide +kernel) rfl
theorem cd_X1_isCharacter : Cond.code yX1_isCharacter cX1_isCharacter 7 (some .boolean) ∈ allw := am6 19 rfl rfl
theorem im_X1_isCharacter : Cond.instanceMethod yX1_isCharacter ∈ allw := am6 18 (by decide +kernel) rfl
theorem se_X1_isCharacter : Cond.selects yX1_isCharacter.cls yX1_isCharacter yX1_isCharacter ∈ allw := aps (q := (yX1_isCharacter, 8)) 45 (by decide +kernel) rfl
theorem cd_X2_addEquations : Cond.code yX2_addEquations cX2_addEquations 8 (some .int) ∈ allw := am5 150 rfl rfl
theorem im_X2_addEquations : Cond.instanceMethod yX2_addEquations ∈ allw := am5 149 (by decide +kernel) rfl
theorem se_X2_addEquations : Cond.selects yX2_addEquations.cls yX2_addEquations yX2_addEquations ∈ allw := aps (q := (yX2_addEquations, 12)) 34 (by decide +kernel) rfl
theorem cd_X2_addRow : Cond.code yX2_addRow cX2_addRow 3 none ∈ allw := am5 182 rfl rfl
theorem im_X2_addRow : Cond.instanceMethod yX2_addRow ∈ allw := am5 181 (by decide +kernel) rfl
theorem se_X2_addRow : Cond.selects yX2_addRow.cls yX2_addRow yX2_addRow ∈ allw := aps (q := (yX2_addRow, 12)) 41 (by decide +kernel) rfl
theorem cd_X2_arrange : Cond.code yX2_arrange cX2_arrange 5 none ∈ allw := am5 130 rfl rfl
theorem im_X2_arrange : Cond.instanceMethod yX2_arrange ∈ allw := am5 129 (by decide +kernel) rfl
theorem se_X2_arrange : Cond.selects yX2_arrange.cls yX2_arrange yX2_arrange ∈ allw := aps (q := (yX2_arrange, 12)) 30 (by decide +kernel) rfl
theorem cd_X2_comesBelow : Cond.code yX2_comesBelow cX2_comesBelow 7 (some .boolean) ∈ allw := am5 178 rfl rfl
theorem im_X2_comesBelow : Cond.instanceMethod yX2_comesBelow ∈ allw := am5 177 (by decide +kernel) rfl
theorem se_X2_comesBelow : Cond.selects yX2_comesBelow.cls yX2_comesBelow yX2_comesBelow ∈ allw := aps (q := (yX2_comesBelow, 12)) 40 (by decide +kernel) rfl
theorem cd_X2_fill : Cond.code yX2_fill cX2_fill 7 none ∈ allw := am5 206 rfl rfl
theorem im_X2_fill : Cond.instanceMethod yX2_fill ∈ allw := am5 204 (by decide +kernel) rfl
theorem se_X2_fill : Cond.selects RX2 yX2_fill yX2_fill ∈ allw := am5 205 (by decide +kernel) rfl
theorem cd_X2_find : Cond.code yX2_find cX2_find 3 none ∈ allw := am5 126 rfl rfl
theorem im_X2_find : Cond.instanceMethod yX2_find ∈ allw := am5 124 (by decide +kernel) rfl
theorem se_X2_find : Cond.selects RX2 yX2_find yX2_find ∈ allw := am5 125 (by decide +kernel) rfl
theorem cd_X2_fitsAt : Cond.code yX2_fitsAt cX2_fitsAt 10 (some .boolean) ∈ allw := am5 160 rfl rfl
theorem im_X2_fitsAt : Cond.instanceMethod yX2_fitsAt ∈ allw := am5 159 (by decide +kernel) rfl
theorem se_X2_fitsAt : Cond.selects yX2_fitsAt.cls yX2_fitsAt yX2_fitsAt ∈ allw := aps (q := (yX2_fitsAt, 12)) 36 (by decide +kernel) rfl
theorem cd_X2_fused : Cond.code yX2_fused cX2_fused 4 (some .int) ∈ allw := am5 164 rfl rfl
theorem im_X2_fused : Cond.instanceMethod yX2_fused ∈ allw := am5 163 (by decide +kernel) rfl
theorem se_X2_fused : Cond.selects yX2_fused.cls yX2_fused yX2_fused ∈ allw := aps (q := (yX2_fused, 12)) 37 (by decide +kernel) rfl
theorem cd_X2_init : Cond.code yX2_init cX2_init 1 none ∈ allw := am2 2 rfl rfl
theorem im_X2_init : Cond.instanceMethod yX2_init ∈ allw := am2 1 (by decide +kernel) rfl
theorem cd_X2_isLeast : Cond.code yX2_isLeast cX2_isLeast 2 (some .boolean) ∈ allw := am5 168 rfl rfl
theorem im_X2_isLeast : Cond.instanceMethod yX2_isLeast ∈ allw := am5 167 (by decide +kernel) rfl
theorem se_X2_isLeast : Cond.selects yX2_isLeast.cls yX2_isLeast yX2_isLeast ∈ allw := aps (q := (yX2_isLeast, 12)) 38 (by decide +kernel) rfl
theorem cd_X2_keepsDuals : Cond.code yX2_keepsDuals cX2_keepsDuals 4 (some .boolean) ∈ allw := am5 174 rfl rfl
theorem im_X2_keepsDuals : Cond.instanceMethod yX2_keepsDuals ∈ allw := am5 173 (by decide +kernel) rfl
theorem se_X2_keepsDuals : Cond.selects yX2_keepsDuals.cls yX2_keepsDuals yX2_keepsDuals ∈ allw := aps (q := (yX2_keepsDuals, 12)) 39 (by decide +kernel) rfl
theorem cd_X2_lastGroup : Cond.code yX2_lastGroup cX2_lastGroup 7 (some .int) ∈ allw := am5 154 rfl rfl
theorem im_X2_lastGroup : Cond.instanceMethod yX2_lastGroup ∈ allw := am5 153 (by decide +kernel) rfl
theorem se_X2_lastGroup : Cond.selects yX2_lastGroup.cls yX2_lastGroup yX2_lastGroup ∈ allw := aps (q := (yX2_lastGroup, 12)) 35 (by decide +kernel) rfl
theorem cd_X2_mark : Cond.code yX2_mark cX2_mark 4 none ∈ allw := am5 138 rfl rfl
theorem im_X2_mark : Cond.instanceMethod yX2_mark ∈ allw := am5 137 (by decide +kernel) rfl
theorem se_X2_mark : Cond.selects yX2_mark.cls yX2_mark yX2_mark ∈ allw := aps (q := (yX2_mark, 12)) 31 (by decide +kernel) rfl
theorem cd_X2_search : Cond.code yX2_search cX2_search 3 none ∈ allw := am5 142 rfl rfl
theorem im_X2_search : Cond.instanceMethod yX2_search ∈ allw := am5 141 (by decide +kernel) rfl
theorem se_X2_search : Cond.selects yX2_search.cls yX2_search yX2_search ∈ allw := aps (q := (yX2_search, 12)) 32 (by decide +kernel) rfl
theorem cd_X2_set : Cond.code yX2_set cX2_set 3 (some .int) ∈ allw := am5 134 rfl rfl
theorem sm_X2_set : Cond.static yX2_set ∈ allw := am5 133 (by decide +kernel) rfl
theorem cd_X2_sortEquations : Cond.code yX2_sortEquations cX2_sortEquations 5 none ∈ allw := am5 146 rfl rfl
theorem im_X2_sortEquations : Cond.instanceMethod yX2_sortEquations ∈ allw := am5 145 (by decide +kernel) rfl
theorem se_X2_sortEquations : Cond.selects yX2_sortEquations.cls yX2_sortEquations yX2_sortEquations ∈ allw := aps (q := (yX2_sortEquations, 12)) 33 (by decide +kernel) rfl
theorem cd_X3_beUnit : Cond.code yX3_beUnit cX3_beUnit 4 none ∈ allw := am6 4 rfl rfl
theorem sm_X3_beUnit : Cond.static yX3_beUnit ∈ allw := am6 3 (by decide +kernel) rfl
theorem cd_X3_begin : Cond.code yX3_begin cX3_begin 3 none ∈ allw := am2 78 rfl rfl
theorem im_X3_begin : Cond.instanceMethod yX3_begin ∈ allw := am2 76 (by decide +kernel) rfl
theorem se_X3_begin : Cond.selects RX3 yX3_begin yX3_begin ∈ allw := am2 77 (by decide +kernel) rfl
theorem cd_X3_clearColumn : Cond.code yX3_clearColumn cX3_clearColumn 7 none ∈ allw := am6 15 rfl rfl
theorem im_X3_clearColumn : Cond.instanceMethod yX3_clearColumn ∈ allw := am6 14 (by decide +kernel) rfl
theorem se_X3_clearColumn : Cond.selects yX3_clearColumn.cls yX3_clearColumn yX3_clearColumn ∈ allw := aps (q := (yX3_clearColumn, 3)) 44 (by decide +kernel) rfl
theorem cd_X3_exchangeRows : Cond.code yX3_exchangeRows cX3_exchangeRows 6 none ∈ allw := am6 7 rfl rfl
theorem sm_X3_exchangeRows : Cond.static yX3_exchangeRows ∈ allw := am6 6 (by decide +kernel) rfl
theorem cd_X3_init : Cond.code yX3_init cX3_init 1 none ∈ allw := am2 73 rfl rfl
theorem im_X3_init : Cond.instanceMethod yX3_init ∈ allw := am2 72 (by decide +kernel) rfl
theorem cd_X3_isPrime : Cond.code yX3_isPrime cX3_isPrime 2 (some .boolean) ∈ allw := am5 218 rfl rfl
theorem sm_X3_isPrime : Cond.static yX3_isPrime ∈ allw := am5 217 (by decide +kernel) rfl
theorem cd_X3_multiply : Cond.code yX3_multiply cX3_multiply 9 none ∈ allw := am6 212 rfl rfl
theorem im_X3_multiply : Cond.instanceMethod yX3_multiply ∈ allw := am6 210 (by decide +kernel) rfl
theorem se_X3_multiply : Cond.selects RX3 yX3_multiply yX3_multiply ∈ allw := am6 211 (by decide +kernel) rfl
theorem cd_X3_reduce : Cond.code yX3_reduce cX3_reduce 2 (some .int) ∈ allw := am2 82 rfl rfl
theorem im_X3_reduce : Cond.instanceMethod yX3_reduce ∈ allw := am2 80 (by decide +kernel) rfl
theorem se_X3_reduce : Cond.selects RX3 yX3_reduce yX3_reduce ∈ allw := am2 81 (by decide +kernel) rfl
theorem cd_X3_scaleRow : Cond.code yX3_scaleRow cX3_scaleRow 6 none ∈ allw := am6 11 rfl rfl
theorem im_X3_scaleRow : Cond.instanceMethod yX3_scaleRow ∈ allw := am6 10 (by decide +kernel) rfl
theorem se_X3_scaleRow : Cond.selects yX3_scaleRow.cls yX3_scaleRow yX3_scaleRow ∈ allw := aps (q := (yX3_scaleRow, 3)) 43 (by decide +kernel) rfl
theorem cd_X3_turnBack : Cond.code yX3_turnBack cX3_turnBack 7 (some .boolean) ∈ allw := am6 0 rfl rfl
theorem im_X3_turnBack : Cond.instanceMethod yX3_turnBack ∈ allw := am5 238 (by decide +kernel) rfl
theorem se_X3_turnBack : Cond.selects RX3 yX3_turnBack yX3_turnBack ∈ allw := am5 239 (by decide +kernel) rfl
theorem cd_X4_go : Cond.code yX4_go cX4_go 3 none ∈ allw := am4 158 rfl rfl
theorem im_X4_go : Cond.instanceMethod yX4_go ∈ allw := am4 157 (by decide +kernel) rfl
theorem se_X4_go : Cond.selects yX4_go.cls yX4_go yX4_go ∈ allw := aps (q := (yX4_go, 14)) 14 (by decide +kernel) rfl
theorem cd_X4_init : Cond.code yX4_init cX4_init 1 none ∈ allw := am1 192 rfl rfl
theorem im_X4_init : Cond.instanceMethod yX4_init ∈ allw := am1 191 (by decide +kernel) rfl
theorem cd_X4_isBlank : Cond.code yX4_isBlank cX4_isBlank 1 (some .boolean) ∈ allw := am4 82 rfl rfl
theorem sm_X4_isBlank : Cond.static yX4_isBlank ∈ allw := am4 81 (by decide +kernel) rfl
theorem cd_X4_isDigit : Cond.code yX4_isDigit cX4_isDigit 1 (some .boolean) ∈ allw := am4 146 rfl rfl
theorem sm_X4_isDigit : Cond.static yX4_isDigit ∈ allw := am4 145 (by decide +kernel) rfl
theorem cd_X4_isLetter : Cond.code yX4_isLetter cX4_isLetter 1 (some .boolean) ∈ allw := am4 85 rfl rfl
theorem sm_X4_isLetter : Cond.static yX4_isLetter ∈ allw := am4 84 (by decide +kernel) rfl
theorem cd_X4_isSign : Cond.code yX4_isSign cX4_isSign 2 (some .boolean) ∈ allw := am4 171 rfl rfl
theorem im_X4_isSign : Cond.instanceMethod yX4_isSign ∈ allw := am4 170 (by decide +kernel) rfl
theorem se_X4_isSign : Cond.selects yX4_isSign.cls yX4_isSign yX4_isSign ∈ allw := aps (q := (yX4_isSign, 14)) 17 (by decide +kernel) rfl
theorem cd_X4_isWord : Cond.code yX4_isWord cX4_isWord 3 (some .boolean) ∈ allw := am4 94 rfl rfl
theorem im_X4_isWord : Cond.instanceMethod yX4_isWord ∈ allw := am4 93 (by decide +kernel) rfl
theorem se_X4_isWord : Cond.selects yX4_isWord.cls yX4_isWord yX4_isWord ∈ allw := aps (q := (yX4_isWord, 14)) 11 (by decide +kernel) rfl
theorem cd_X4_kindFault : Cond.code yX4_kindFault cX4_kindFault 3 (some .int) ∈ allw := am4 179 rfl rfl
theorem im_X4_kindFault : Cond.instanceMethod yX4_kindFault ∈ allw := am4 178 (by decide +kernel) rfl
theorem se_X4_kindFault : Cond.selects yX4_kindFault.cls yX4_kindFault yX4_kindFault ∈ allw := aps (q := (yX4_kindFault, 14)) 19 (by decide +kernel) rfl
theorem cd_X4_numberFault : Cond.code yX4_numberFault cX4_numberFault 1 (some .int) ∈ allw := am4 166 rfl rfl
theorem im_X4_numberFault : Cond.instanceMethod yX4_numberFault ∈ allw := am4 165 (by decide +kernel) rfl
theorem se_X4_numberFault : Cond.selects yX4_numberFault.cls yX4_numberFault yX4_numberFault ∈ allw := aps (q := (yX4_numberFault, 14)) 16 (by decide +kernel) rfl
theorem cd_X4_read : Cond.code yX4_read cX4_read 5 (some .int) ∈ allw := am4 75 rfl rfl
theorem im_X4_read : Cond.instanceMethod yX4_read ∈ allw := am4 73 (by decide +kernel) rfl
theorem se_X4_read : Cond.selects RX4 yX4_read yX4_read ∈ allw := am4 74 (by decide +kernel) rfl
theorem cd_X4_readNumber : Cond.code yX4_readNumber cX4_readNumber 1 none ∈ allw := am4 150 rfl rfl
theorem im_X4_readNumber : Cond.instanceMethod yX4_readNumber ∈ allw := am4 149 (by decide +kernel) rfl
theorem se_X4_readNumber : Cond.selects yX4_readNumber.cls yX4_readNumber yX4_readNumber ∈ allw := aps (q := (yX4_readNumber, 14)) 12 (by decide +kernel) rfl
theorem cd_X4_readToken : Cond.code yX4_readToken cX4_readToken 2 none ∈ allw := am4 79 rfl rfl
theorem im_X4_readToken : Cond.instanceMethod yX4_readToken ∈ allw := am4 78 (by decide +kernel) rfl
theorem se_X4_readToken : Cond.selects yX4_readToken.cls yX4_readToken yX4_readToken ∈ allw := aps (q := (yX4_readToken, 14)) 9 (by decide +kernel) rfl
theorem cd_X4_readWord : Cond.code yX4_readWord cX4_readWord 1 none ∈ allw := am4 89 rfl rfl
theorem im_X4_readWord : Cond.instanceMethod yX4_readWord ∈ allw := am4 88 (by decide +kernel) rfl
theorem se_X4_readWord : Cond.selects yX4_readWord.cls yX4_readWord yX4_readWord ∈ allw := aps (q := (yX4_readWord, 14)) 10 (by decide +kernel) rfl
theorem cd_X4_useFirst : Cond.code yX4_useFirst cX4_useFirst 1 none ∈ allw := am4 175 rfl rfl
theorem im_X4_useFirst : Cond.instanceMethod yX4_useFirst ∈ allw := am4 174 (by decide +kernel) rfl
theorem se_X4_useFirst : Cond.selects yX4_useFirst.cls yX4_useFirst yX4_useFirst ∈ allw := aps (q := (yX4_useFirst, 14)) 18 (by decide +kernel) rfl
theorem cd_X4_usePart : Cond.code yX4_usePart cX4_usePart 2 none ∈ allw := am4 193 rfl rfl
theorem im_X4_usePart : Cond.instanceMethod yX4_usePart ∈ allw := am4 192 (by decide +kernel) rfl
theorem se_X4_usePart : Cond.selects yX4_usePart.cls yX4_usePart yX4_usePart ∈ allw := aps (q := (yX4_usePart, 14)) 21 (by decide +kernel) rfl
theorem cd_X4_useRank : Cond.code yX4_useRank cX4_useRank 1 none ∈ allw := am4 162 rfl rfl
theorem im_X4_useRank : Cond.instanceMethod yX4_useRank ∈ allw := am4 161 (by decide +kernel) rfl
theorem se_X4_useRank : Cond.selects yX4_useRank.cls yX4_useRank yX4_useRank ∈ allw := aps (q := (yX4_useRank, 14)) 15 (by decide +kernel) rfl
theorem cd_X4_useSecond : Cond.code yX4_useSecond cX4_useSecond 2 none ∈ allw := am4 183 rfl rfl
theorem im_X4_useSecond : Cond.instanceMethod yX4_useSecond ∈ allw := am4 182 (by decide +kernel) rfl
theorem se_X4_useSecond : Cond.selects yX4_useSecond.cls yX4_useSecond yX4_useSecond ∈ allw := aps (q := (yX4_useSecond, 14)) 20 (by decide +kernel) rfl
theorem cd_X4_useToken : Cond.code yX4_useToken cX4_useToken 1 none ∈ allw := am4 154 rfl rfl
theorem im_X4_useToken : Cond.instanceMethod yX4_useToken ∈ allw := am4 153 (by decide +kernel) rfl
theorem se_X4_useToken : Cond.selects yX4_useToken.cls yX4_useToken yX4_useToken ∈ allw := aps (q := (yX4_useToken, 14)) 13 (by decide +kernel) rfl
theorem cd_X5_addPentagon : Cond.code yX5_addPentagon cX5_addPentagon 4 none ∈ allw := am6 152 rfl rfl
theorem im_X5_addPentagon : Cond.instanceMethod yX5_addPentagon ∈ allw := am6 151 (by decide +kernel) rfl
theorem se_X5_addPentagon : Cond.selects yX5_addPentagon.cls yX5_addPentagon yX5_addPentagon ∈ allw := aps (q := (yX5_addPentagon, 13)) 55 (by decide +kernel) rfl
theorem cd_X5_addRow : Cond.code yX5_addRow cX5_addRow 1 none ∈ allw := am6 178 rfl rfl
theorem im_X5_addRow : Cond.instanceMethod yX5_addRow ∈ allw := am6 177 (by decide +kernel) rfl
theorem se_X5_addRow : Cond.selects yX5_addRow.cls yX5_addRow yX5_addRow ∈ allw := aps (q := (yX5_addRow, 13)) 60 (by decide +kernel) rfl
theorem cd_X5_find : Cond.code yX5_find cX5_find 3 none ∈ allw := am6 134 rfl rfl
theorem im_X5_find : Cond.instanceMethod yX5_find ∈ allw := am6 132 (by decide +kernel) rfl
theorem se_X5_find : Cond.selects RX5 yX5_find yX5_find ∈ allw := am6 133 (by decide +kernel) rfl
theorem cd_X5_gatherPentagons : Cond.code yX5_gatherPentagons cX5_gatherPentagons 8 none ∈ allw := am6 146 rfl rfl
theorem im_X5_gatherPentagons : Cond.instanceMethod yX5_gatherPentagons ∈ allw := am6 145 (by decide +kernel) rfl
theorem se_X5_gatherPentagons : Cond.selects yX5_gatherPentagons.cls yX5_gatherPentagons yX5_gatherPentagons ∈ allw := aps (q := (yX5_gatherPentagons, 13)) 54 (by decide +kernel) rfl
theorem cd_X5_gatherUnknowns : Cond.code yX5_gatherUnknowns cX5_gatherUnknowns 4 none ∈ allw := am6 140 rfl rfl
theorem im_X5_gatherUnknowns : Cond.instanceMethod yX5_gatherUnknowns ∈ allw := am6 139 (by decide +kernel) rfl
theorem se_X5_gatherUnknowns : Cond.selects yX5_gatherUnknowns.cls yX5_gatherUnknowns yX5_gatherUnknowns ∈ allw := aps (q := (yX5_gatherUnknowns, 13)) 53 (by decide +kernel) rfl
theorem cd_X5_indexOf : Cond.code yX5_indexOf cX5_indexOf 3 (some .int) ∈ allw := am6 157 rfl rfl
theorem im_X5_indexOf : Cond.instanceMethod yX5_indexOf ∈ allw := am6 156 (by decide +kernel) rfl
theorem se_X5_indexOf : Cond.selects yX5_indexOf.cls yX5_indexOf yX5_indexOf ∈ allw := aps (q := (yX5_indexOf, 13)) 56 (by decide +kernel) rfl
theorem cd_X5_init : Cond.code yX5_init cX5_init 1 none ∈ allw := am2 204 rfl rfl
theorem im_X5_init : Cond.instanceMethod yX5_init ∈ allw := am2 203 (by decide +kernel) rfl
theorem cd_X5_pentagonsHold : Cond.code yX5_pentagonsHold cX5_pentagonsHold 4 (some .boolean) ∈ allw := am6 168 rfl rfl
theorem im_X5_pentagonsHold : Cond.instanceMethod yX5_pentagonsHold ∈ allw := am6 167 (by decide +kernel) rfl
theorem se_X5_pentagonsHold : Cond.selects yX5_pentagonsHold.cls yX5_pentagonsHold yX5_pentagonsHold ∈ allw := aps (q := (yX5_pentagonsHold, 13)) 58 (by decide +kernel) rfl
theorem cd_X5_search : Cond.code yX5_search cX5_search 4 none ∈ allw := am6 163 rfl rfl
theorem im_X5_search : Cond.instanceMethod yX5_search ∈ allw := am6 162 (by decide +kernel) rfl
theorem se_X5_search : Cond.selects yX5_search.cls yX5_search yX5_search ∈ allw := aps (q := (yX5_search, 13)) 57 (by decide +kernel) rfl
theorem cd_X5_squareTurnsBack : Cond.code yX5_squareTurnsBack cX5_squareTurnsBack 7 (some .boolean) ∈ allw := am6 173 rfl rfl
theorem im_X5_squareTurnsBack : Cond.instanceMethod yX5_squareTurnsBack ∈ allw := am6 172 (by decide +kernel) rfl
theorem se_X5_squareTurnsBack : Cond.selects yX5_squareTurnsBack.cls yX5_squareTurnsBack yX5_squareTurnsBack ∈ allw := aps (q := (yX5_squareTurnsBack, 13)) 59 (by decide +kernel) rfl
theorem cd_X6_copy : Cond.code yX6_copy cX6_copy 2 none ∈ allw := am3 224 rfl rfl
theorem im_X6_copy : Cond.instanceMethod yX6_copy ∈ allw := am3 222 (by decide +kernel) rfl
theorem se_X6_copy : Cond.selects RX6 yX6_copy yX6_copy ∈ allw := am3 223 (by decide +kernel) rfl
theorem cd_X6_forgetTold : Cond.code yX6_forgetTold cX6_forgetTold 1 none ∈ allw := am1 123 rfl rfl
theorem im_X6_forgetTold : Cond.instanceMethod yX6_forgetTold ∈ allw := am1 122 (by decide +kernel) rfl
theorem se_X6_forgetTold : Cond.selects yX6_forgetTold.cls yX6_forgetTold yX6_forgetTold ∈ allw := aps (q := (yX6_forgetTold, 8)) 0 (by decide +kernel) rfl
theorem cd_X6_hasTrees : Cond.code yX6_hasTrees cX6_hasTrees 1 (some .boolean) ∈ allw := am6 40 rfl rfl
theorem im_X6_hasTrees : Cond.instanceMethod yX6_hasTrees ∈ allw := am6 38 (by decide +kernel) rfl
theorem se_X6_hasTrees : Cond.selects RX6 yX6_hasTrees yX6_hasTrees ∈ allw := am6 39 (by decide +kernel) rfl
theorem cd_X6_init : Cond.code yX6_init cX6_init 1 none ∈ allw := am1 38 rfl rfl
theorem im_X6_init : Cond.instanceMethod yX6_init ∈ allw := am1 37 (by decide +kernel) rfl
theorem cd_X6_put : Cond.code yX6_put cX6_put 3 none ∈ allw := am3 195 rfl rfl
theorem im_X6_put : Cond.instanceMethod yX6_put ∈ allw := am3 193 (by decide +kernel) rfl
theorem se_X6_put : Cond.selects RX6 yX6_put yX6_put ∈ allw := am3 194 (by decide +kernel) rfl
theorem cd_X6_takeBack : Cond.code yX6_takeBack cX6_takeBack 3 none ∈ allw := am3 207 rfl rfl
theorem im_X6_takeBack : Cond.instanceMethod yX6_takeBack ∈ allw := am3 205 (by decide +kernel) rfl
theorem se_X6_takeBack : Cond.selects RX6 yX6_takeBack yX6_takeBack ∈ allw := am3 206 (by decide +kernel) rfl
theorem cd_X6_valueAt : Cond.code yX6_valueAt cX6_valueAt 2 (some .int) ∈ allw := am3 186 rfl rfl
theorem im_X6_valueAt : Cond.instanceMethod yX6_valueAt ∈ allw := am3 184 (by decide +kernel) rfl
theorem se_X6_valueAt : Cond.selects RX6 yX6_valueAt yX6_valueAt ∈ allw := am3 185 (by decide +kernel) rfl
theorem cd_X7_add : Cond.code yX7_add cX7_add 4 none ∈ allw := am3 190 rfl rfl
theorem im_X7_add : Cond.instanceMethod yX7_add ∈ allw := am3 188 (by decide +kernel) rfl
theorem se_X7_add : Cond.selects RX7 yX7_add yX7_add ∈ allw := am3 189 (by decide +kernel) rfl
theorem cd_X7_forget : Cond.code yX7_forget cX7_forget 1 none ∈ allw := am3 169 rfl rfl
theorem im_X7_forget : Cond.instanceMethod yX7_forget ∈ allw := am3 167 (by decide +kernel) rfl
theorem se_X7_forget : Cond.selects RX7 yX7_forget yX7_forget ∈ allw := am3 168 (by decide +kernel) rfl
theorem cd_X7_init : Cond.code yX7_init cX7_init 1 none ∈ allw := am2 46 rfl rfl
theorem im_X7_init : Cond.instanceMethod yX7_init ∈ allw := am2 45 (by decide +kernel) rfl
theorem cd_X7_stepBack : Cond.code yX7_stepBack cX7_stepBack 1 none ∈ allw := am3 203 rfl rfl
theorem im_X7_stepBack : Cond.instanceMethod yX7_stepBack ∈ allw := am3 201 (by decide +kernel) rfl
theorem se_X7_stepBack : Cond.selects RX7 yX7_stepBack yX7_stepBack ∈ allw := am3 202 (by decide +kernel) rfl
theorem cd_X7_stepOn : Cond.code yX7_stepOn cX7_stepOn 1 none ∈ allw := am3 216 rfl rfl
theorem im_X7_stepOn : Cond.instanceMethod yX7_stepOn ∈ allw := am3 214 (by decide +kernel) rfl
theorem se_X7_stepOn : Cond.selects RX7 yX7_stepOn yX7_stepOn ∈ allw := am3 215 (by decide +kernel) rfl
theorem cd_X8_at : Cond.code yX8_at cX8_at 4 (some .int) ∈ allw := am1 142 rfl rfl
theorem im_X8_at : Cond.instanceMethod yX8_at ∈ allw := am1 140 (by decide +kernel) rfl
theorem se_X8_at : Cond.selects RX8 yX8_at yX8_at ∈ allw := am1 141 (by decide +kernel) rfl
theorem cd_X8_beGroup : Cond.code yX8_beGroup cX8_beGroup 2 none ∈ allw := am4 210 rfl rfl
theorem im_X8_beGroup : Cond.instanceMethod yX8_beGroup ∈ allw := am4 208 (by decide +kernel) rfl
theorem se_X8_beGroup : Cond.selects RX8 yX8_beGroup yX8_beGroup ∈ allw := am4 209 (by decide +kernel) rfl
theorem cd_X8_beLevel : Cond.code yX8_beLevel cX8_beLevel 5 none ∈ allw := am4 218 rfl rfl
theorem im_X8_beLevel : Cond.instanceMethod yX8_beLevel ∈ allw := am4 216 (by decide +kernel) rfl
theorem se_X8_beLevel : Cond.selects RX8 yX8_beLevel yX8_beLevel ∈ allw := am4 217 (by decide +kernel) rfl
theorem cd_X8_beNearGroup : Cond.code yX8_beNearGroup cX8_beNearGroup 4 none ∈ allw := am4 225 rfl rfl
theorem im_X8_beNearGroup : Cond.instanceMethod yX8_beNearGroup ∈ allw := am4 223 (by decide +kernel) rfl
theorem se_X8_beNearGroup : Cond.selects RX8 yX8_beNearGroup yX8_beNearGroup ∈ allw := am4 224 (by decide +kernel) rfl
theorem cd_X8_beProduct : Cond.code yX8_beProduct cX8_beProduct 7 (some .boolean) ∈ allw := am3 142 rfl rfl
theorem im_X8_beProduct : Cond.instanceMethod yX8_beProduct ∈ allw := am3 140 (by decide +kernel) rfl
theorem se_X8_beProduct : Cond.selects RX8 yX8_beProduct yX8_beProduct ∈ allw := am3 141 (by decide +kernel) rfl
theorem cd_X8_begin : Cond.code yX8_begin cX8_begin 3 none ∈ allw := am3 146 rfl rfl
theorem im_X8_begin : Cond.instanceMethod yX8_begin ∈ allw := am3 144 (by decide +kernel) rfl
theorem se_X8_begin : Cond.selects RX8 yX8_begin yX8_begin ∈ allw := am3 145 (by decide +kernel) rfl
theorem cd_X8_copy : Cond.code yX8_copy cX8_copy 2 none ∈ allw := am3 131 rfl rfl
theorem im_X8_copy : Cond.instanceMethod yX8_copy ∈ allw := am3 129 (by decide +kernel) rfl
theorem se_X8_copy : Cond.selects RX8 yX8_copy yX8_copy ∈ allw := am3 130 (by decide +kernel) rfl
theorem cd_X8_fillGroup : Cond.code yX8_fillGroup cX8_fillGroup 5 none ∈ allw := am4 214 rfl rfl
theorem im_X8_fillGroup : Cond.instanceMethod yX8_fillGroup ∈ allw := am4 213 (by decide +kernel) rfl
theorem se_X8_fillGroup : Cond.selects yX8_fillGroup.cls yX8_fillGroup yX8_fillGroup ∈ allw := aps (q := (yX8_fillGroup, 6)) 22 (by decide +kernel) rfl
theorem cd_X8_firstNotAssociative : Cond.code yX8_firstNotAssociative cX8_firstNotAssociative 5 (some .int) ∈ allw := am5 49 rfl rfl
theorem im_X8_firstNotAssociative : Cond.instanceMethod yX8_firstNotAssociative ∈ allw := am5 47 (by decide +kernel) rfl
theorem se_X8_firstNotAssociative : Cond.selects RX8 yX8_firstNotAssociative yX8_firstNotAssociative ∈ allw := am5 48 (by decide +kernel) rfl
theorem cd_X8_firstNotCommutative : Cond.code yX8_firstNotCommutative cX8_firstNotCommutative 4 (some .int) ∈ allw := am5 57 rfl rfl
theorem im_X8_firstNotCommutative : Cond.instanceMethod yX8_firstNotCommutative ∈ allw := am5 55 (by decide +kernel) rfl
theorem se_X8_firstNotCommutative : Cond.selects RX8 yX8_firstNotCommutative yX8_firstNotCommutative ∈ allw := am5 56 (by decide +kernel) rfl
theorem cd_X8_firstNotTurnable : Cond.code yX8_firstNotTurnable cX8_firstNotTurnable 4 (some .int) ∈ allw := am5 61 rfl rfl
theorem im_X8_firstNotTurnable : Cond.instanceMethod yX8_firstNotTurnable ∈ allw := am5 59 (by decide +kernel) rfl
theorem se_X8_firstNotTurnable : Cond.selects RX8 yX8_firstNotTurnable yX8_firstNotTurnable ∈ allw := am5 60 (by decide +kernel) rfl
theorem cd_X8_firstWithoutDual : Cond.code yX8_firstWithoutDual cX8_firstWithoutDual 3 (some .int) ∈ allw := am5 41 rfl rfl
theorem im_X8_firstWithoutDual : Cond.instanceMethod yX8_firstWithoutDual ∈ allw := am5 39 (by decide +kernel) rfl
theorem se_X8_firstWithoutDual : Cond.selects RX8 yX8_firstWithoutDual yX8_firstWithoutDual ∈ allw := am5 40 (by decide +kernel) rfl
theorem cd_X8_init : Cond.code yX8_init cX8_init 1 none ∈ allw := am1 50 rfl rfl
theorem im_X8_init : Cond.instanceMethod yX8_init ∈ allw := am1 49 (by decide +kernel) rfl
theorem cd_X8_isAssociative : Cond.code yX8_isAssociative cX8_isAssociative 7 (some .boolean) ∈ allw := am5 53 rfl rfl
theorem im_X8_isAssociative : Cond.instanceMethod yX8_isAssociative ∈ allw := am5 52 (by decide +kernel) rfl
theorem se_X8_isAssociative : Cond.selects yX8_isAssociative.cls yX8_isAssociative yX8_isAssociative ∈ allw := aps (q := (yX8_isAssociative, 6)) 26 (by decide +kernel) rfl
theorem cd_X8_isFree : Cond.code yX8_isFree cX8_isFree 4 (some .boolean) ∈ allw := am4 237 rfl rfl
theorem im_X8_isFree : Cond.instanceMethod yX8_isFree ∈ allw := am4 235 (by decide +kernel) rfl
theorem se_X8_isFree : Cond.selects RX8 yX8_isFree yX8_isFree ∈ allw := am4 236 (by decide +kernel) rfl
theorem cd_X8_partner : Cond.code yX8_partner cX8_partner 5 (some .int) ∈ allw := am5 45 rfl rfl
theorem im_X8_partner : Cond.instanceMethod yX8_partner ∈ allw := am5 44 (by decide +kernel) rfl
theorem se_X8_partner : Cond.selects yX8_partner.cls yX8_partner yX8_partner ∈ allw := aps (q := (yX8_partner, 6)) 25 (by decide +kernel) rfl
theorem cd_X8_put : Cond.code yX8_put cX8_put 5 none ∈ allw := am3 151 rfl rfl
theorem im_X8_put : Cond.instanceMethod yX8_put ∈ allw := am3 149 (by decide +kernel) rfl
theorem se_X8_put : Cond.selects RX8 yX8_put yX8_put ∈ allw := am3 150 (by decide +kernel) rfl
theorem cd_X8_shrinkSizes : Cond.code yX8_shrinkSizes cX8_shrinkSizes 6 none ∈ allw := am5 97 rfl rfl
theorem im_X8_shrinkSizes : Cond.instanceMethod yX8_shrinkSizes ∈ allw := am5 96 (by decide +kernel) rfl
theorem se_X8_shrinkSizes : Cond.selects yX8_shrinkSizes.cls yX8_shrinkSizes yX8_shrinkSizes ∈ allw := aps (q := (yX8_shrinkSizes, 6)) 29 (by decide +kernel) rfl
theorem cd_X8_sizeOf : Cond.code yX8_sizeOf cX8_sizeOf 7 (some .int) ∈ allw := am5 85 rfl rfl
theorem im_X8_sizeOf : Cond.instanceMethod yX8_sizeOf ∈ allw := am5 83 (by decide +kernel) rfl
theorem se_X8_sizeOf : Cond.selects RX8 yX8_sizeOf yX8_sizeOf ∈ allw := am5 84 (by decide +kernel) rfl
theorem cd_X8_spread : Cond.code yX8_spread cX8_spread 11 (some .boolean) ∈ allw := am3 156 rfl rfl
theorem im_X8_spread : Cond.instanceMethod yX8_spread ∈ allw := am3 155 (by decide +kernel) rfl
theorem se_X8_spread : Cond.selects yX8_spread.cls yX8_spread yX8_spread ∈ allw := aps (q := (yX8_spread, 6)) 3 (by decide +kernel) rfl
theorem cd_X8_waysOf : Cond.code yX8_waysOf cX8_waysOf 9 (some .int) ∈ allw := am5 113 rfl rfl
theorem im_X8_waysOf : Cond.instanceMethod yX8_waysOf ∈ allw := am5 111 (by decide +kernel) rfl
theorem se_X8_waysOf : Cond.selects RX8 yX8_waysOf yX8_waysOf ∈ allw := am5 112 (by decide +kernel) rfl
theorem cd_X8_weighSums : Cond.code yX8_weighSums cX8_weighSums 5 none ∈ allw := am5 89 rfl rfl
theorem im_X8_weighSums : Cond.instanceMethod yX8_weighSums ∈ allw := am5 88 (by decide +kernel) rfl
theorem se_X8_weighSums : Cond.selects yX8_weighSums.cls yX8_weighSums yX8_weighSums ∈ allw := aps (q := (yX8_weighSums, 6)) 28 (by decide +kernel) rfl
theorem cd_X9_begin : Cond.code yX9_begin cX9_begin 5 none ∈ allw := am1 127 rfl rfl
theorem im_X9_begin : Cond.instanceMethod yX9_begin ∈ allw := am1 125 (by decide +kernel) rfl
theorem se_X9_begin : Cond.selects RX9 yX9_begin yX9_begin ∈ allw := am1 126 (by decide +kernel) rfl
theorem cd_X9_checkHexagons : Cond.code yX9_checkHexagons cX9_checkHexagons 6 none ∈ allw := am6 107 rfl rfl
theorem im_X9_checkHexagons : Cond.instanceMethod yX9_checkHexagons ∈ allw := am6 105 (by decide +kernel) rfl
theorem se_X9_checkHexagons : Cond.selects RX9 yX9_checkHexagons yX9_checkHexagons ∈ allw := am6 106 (by decide +kernel) rfl
theorem cd_X9_checkHexagonsOf : Cond.code yX9_checkHexagonsOf cX9_checkHexagonsOf 11 none ∈ allw := am6 111 rfl rfl
theorem im_X9_checkHexagonsOf : Cond.instanceMethod yX9_checkHexagonsOf ∈ allw := am6 110 (by decide +kernel) rfl
theorem se_X9_checkHexagonsOf : Cond.selects yX9_checkHexagonsOf.cls yX9_checkHexagonsOf yX9_checkHexagonsOf ∈ allw := aps (q := (yX9_checkHexagonsOf, 8)) 51 (by decide +kernel) rfl
theorem cd_X9_checkPentagon : Cond.code yX9_checkPentagon cX9_checkPentagon 2 none ∈ allw := am6 94 rfl rfl
theorem im_X9_checkPentagon : Cond.instanceMethod yX9_checkPentagon ∈ allw := am6 93 (by decide +kernel) rfl
theorem se_X9_checkPentagon : Cond.selects yX9_checkPentagon.cls yX9_checkPentagon yX9_checkPentagon ∈ allw := aps (q := (yX9_checkPentagon, 8)) 50 (by decide +kernel) rfl
theorem cd_X9_checkPentagons : Cond.code yX9_checkPentagons cX9_checkPentagons 6 none ∈ allw := am6 82 rfl rfl
theorem im_X9_checkPentagons : Cond.instanceMethod yX9_checkPentagons ∈ allw := am6 80 (by decide +kernel) rfl
theorem se_X9_checkPentagons : Cond.selects RX9 yX9_checkPentagons yX9_checkPentagons ∈ allw := am6 81 (by decide +kernel) rfl
theorem cd_X9_checkPentagonsOf : Cond.code yX9_checkPentagonsOf cX9_checkPentagonsOf 9 none ∈ allw := am6 86 rfl rfl
theorem im_X9_checkPentagonsOf : Cond.instanceMethod yX9_checkPentagonsOf ∈ allw := am6 85 (by decide +kernel) rfl
theorem se_X9_checkPentagonsOf : Cond.selects yX9_checkPentagonsOf.cls yX9_checkPentagonsOf yX9_checkPentagonsOf ∈ allw := aps (q := (yX9_checkPentagonsOf, 8)) 48 (by decide +kernel) rfl
theorem cd_X9_checkPentagonsWith : Cond.code yX9_checkPentagonsWith cX9_checkPentagonsWith 4 none ∈ allw := am6 90 rfl rfl
theorem im_X9_checkPentagonsWith : Cond.instanceMethod yX9_checkPentagonsWith ∈ allw := am6 89 (by decide +kernel) rfl
theorem se_X9_checkPentagonsWith : Cond.selects yX9_checkPentagonsWith.cls yX9_checkPentagonsWith yX9_checkPentagonsWith ∈ allw := aps (q := (yX9_checkPentagonsWith, 8)) 49 (by decide +kernel) rfl
theorem cd_X9_copy : Cond.code yX9_copy cX9_copy 2 none ∈ allw := am3 229 rfl rfl
theorem im_X9_copy : Cond.instanceMethod yX9_copy ∈ allw := am3 227 (by decide +kernel) rfl
theorem se_X9_copy : Cond.selects RX9 yX9_copy yX9_copy ∈ allw := am3 228 (by decide +kernel) rfl
theorem cd_X9_hexagonSum : Cond.code yX9_hexagonSum cX9_hexagonSum 6 (some .int) ∈ allw := am6 115 rfl rfl
theorem im_X9_hexagonSum : Cond.instanceMethod yX9_hexagonSum ∈ allw := am6 114 (by decide +kernel) rfl
theorem se_X9_hexagonSum : Cond.selects yX9_hexagonSum.cls yX9_hexagonSum yX9_hexagonSum ∈ allw := aps (q := (yX9_hexagonSum, 8)) 52 (by decide +kernel) rfl
theorem cd_X9_init : Cond.code yX9_init cX9_init 1 none ∈ allw := am1 44 rfl rfl
theorem im_X9_init : Cond.instanceMethod yX9_init ∈ allw := am1 43 (by decide +kernel) rfl
theorem cd_X9_isThere : Cond.code yX9_isThere cX9_isThere 7 (some .boolean) ∈ allw := am1 138 rfl rfl
theorem im_X9_isThere : Cond.instanceMethod yX9_isThere ∈ allw := am1 136 (by decide +kernel) rfl
theorem se_X9_isThere : Cond.selects RX9 yX9_isThere yX9_isThere ∈ allw := am1 137 (by decide +kernel) rfl
theorem cd_X9_pentagonHolds : Cond.code yX9_pentagonHolds cX9_pentagonHolds 6 (some .boolean) ∈ allw := am6 102 rfl rfl
theorem im_X9_pentagonHolds : Cond.instanceMethod yX9_pentagonHolds ∈ allw := am6 100 (by decide +kernel) rfl
theorem se_X9_pentagonHolds : Cond.selects RX9 yX9_pentagonHolds yX9_pentagonHolds ∈ allw := am6 101 (by decide +kernel) rfl
theorem cd_X9_place : Cond.code yX9_place cX9_place 6 (some .int) ∈ allw := am1 145 rfl rfl
theorem sm_X9_place : Cond.static yX9_place ∈ allw := am1 144 (by decide +kernel) rfl
theorem cd_X9_placePentagon : Cond.code yX9_placePentagon cX9_placePentagon 9 none ∈ allw := am6 98 rfl rfl
theorem im_X9_placePentagon : Cond.instanceMethod yX9_placePentagon ∈ allw := am6 96 (by decide +kernel) rfl
theorem se_X9_placePentagon : Cond.selects RX9 yX9_placePentagon yX9_placePentagon ∈ allw := am6 97 (by decide +kernel) rfl
theorem cd_X9_putOnes : Cond.code yX9_putOnes cX9_putOnes 7 none ∈ allw := am1 134 rfl rfl
theorem im_X9_putOnes : Cond.instanceMethod yX9_putOnes ∈ allw := am1 133 (by decide +kernel) rfl
theorem se_X9_putOnes : Cond.selects yX9_putOnes.cls yX9_putOnes yX9_putOnes ∈ allw := aps (q := (yX9_putOnes, 8)) 1 (by decide +kernel) rfl
theorem cd_X9_swapPlace : Cond.code yX9_swapPlace cX9_swapPlace 3 (some .int) ∈ allw := am1 148 rfl rfl
theorem sm_X9_swapPlace : Cond.static yX9_swapPlace ∈ allw := am1 147 (by decide +kernel) rfl
theorem cl11_9 : CL RX11 9 yX6_init 0 := ⟨am1 36 (by decide +kernel) rfl, am1 2 (by decide +kernel) rfl, by decide +kernel⟩
theorem cl11_21 : CL RX11 21 yX8_init 0 := ⟨am1 187 (by decide +kernel) rfl, am1 4 (by decide +kernel) rfl, by decide +kernel⟩
theorem cl11_60 : CL RX11 60 yX3_init 0 := ⟨am2 71 (by decide +kernel) rfl, am1 9 (by decide +kernel) rfl, by decide +kernel⟩
theorem cl11_74 : CL RX11 74 yX10_init 0 := ⟨am2 134 (by decide +kernel) rfl, am1 11 (by decide +kernel) rfl, by decide +kernel⟩
theorem cl11_96 : CL RX11 96 yX11_feedNumber 1 := ⟨am3 116 (by decide +kernel) rfl, am1 1 (by decide +kernel) rfl, by decide +kernel⟩
theorem cl11_107 : CL RX11 107 yX4_read 3 := ⟨am4 72 (by decide +kernel) rfl, am1 6 (by decide +kernel) rfl, by decide +kernel⟩
theorem cl11_120 : CL RX11 120 yX8_copy 1 := ⟨am3 128 (by decide +kernel) rfl, am1 4 (by decide +kernel) rfl, by decide +kernel⟩
theorem cl11_124 : CL RX11 124 yX11_beginAgain 0 := ⟨am3 157 (by decide +kernel) rfl, am1 1 (by decide +kernel) rfl, by decide +kernel⟩
theorem cl11_127 : CL RX11 127 yX11_canMake 3 := ⟨am4 203 (by decide +kernel) rfl, am1 1 (by decide +kernel) rfl, by decide +kernel⟩
theorem cl11_133 : CL RX11 133 yX8_beGroup 1 := ⟨am4 207 (by decide +kernel) rfl, am1 4 (by decide +kernel) rfl, by decide +kernel⟩
theorem cl11_136 : CL RX11 136 yX8_beLevel 1 := ⟨am4 215 (by decide +kernel) rfl, am1 4 (by decide +kernel) rfl, by decide +kernel⟩
theorem cl11_139 : CL RX11 139 yX8_beNearGroup 2 := ⟨am4 222 (by decide +kernel) rfl, am1 4 (by decide +kernel) rfl, by decide +kernel⟩
theorem cl11_150 : CL RX11 150 yX8_beProduct 2 := ⟨am3 139 (by decide +kernel) rfl, am1 4 (by decide +kernel) rfl, by decide +kernel⟩
theorem cl11_157 : CL RX11 157 yX11_forgetFound 0 := ⟨am3 162 (by decide +kernel) rfl, am1 1 (by decide +kernel) rfl, by decide +kernel⟩
theorem cl11_160 : CL RX11 160 yX7_forget 0 := ⟨am3 166 (by decide +kernel) rfl, am1 8 (by decide +kernel) rfl, by decide +kernel⟩
theorem cl11_166 : CL RX11 166 yX10_forget 0 := ⟨am3 170 (by decide +kernel) rfl, am1 11 (by decide +kernel) rfl, by decide +kernel⟩
theorem cl11_168 : CL RX11 168 yX8_isFree 0 := ⟨am4 234 (by decide +kernel) rfl, am1 4 (by decide +kernel) rfl, by decide +kernel⟩
theorem cl11_195 : CL RX11 195 yX11_isKind 1 := ⟨am5 25 (by decide +kernel) rfl, am1 1 (by decide +kernel) rfl, by decide +kernel⟩
theorem cl11_201 : CL RX11 201 yX11_needKinds 3 := ⟨am5 21 (by decide +kernel) rfl, am1 1 (by decide +kernel) rfl, by decide +kernel⟩
theorem cl11_205 : CL RX11 205 yX8_at 3 := ⟨am5 30 (by decide +kernel) rfl, am1 4 (by decide +kernel) rfl, by decide +kernel⟩
theorem cl11_209 : CL RX11 209 yX8_firstWithoutDual 0 := ⟨am5 38 (by decide +kernel) rfl, am1 4 (by decide +kernel) rfl, by decide +kernel⟩
theorem cl11_213 : CL RX11 213 yX8_firstNotAssociative 0 := ⟨am5 46 (by decide +kernel) rfl, am1 4 (by decide +kernel) rfl, by decide +kernel⟩
theorem cl11_216 : CL RX11 216 yX8_firstNotCommutative 0 := ⟨am5 54 (by decide +kernel) rfl, am1 4 (by decide +kernel) rfl, by decide +kernel⟩
theorem cl11_219 : CL RX11 219 yX8_firstNotTurnable 0 := ⟨am5 58 (by decide +kernel) rfl, am1 4 (by decide +kernel) rfl, by decide +kernel⟩
theorem cl11_224 : CL RX11 224 yX11_needKind 1 := ⟨am5 71 (by decide +kernel) rfl, am1 1 (by decide +kernel) rfl, by decide +kernel⟩
theorem cl11_230 : CL RX11 230 yX8_sizeOf 1 := ⟨am5 82 (by decide +kernel) rfl, am1 4 (by decide +kernel) rfl, by decide +kernel⟩
theorem cl11_236 : CL RX11 236 yX8_waysOf 3 := ⟨am5 110 (by decide +kernel) rfl, am1 4 (by decide +kernel) rfl, by decide +kernel⟩
theorem cl11_241 : CL RX11 241 yX2_find 2 := ⟨am5 123 (by decide +kernel) rfl, am1 7 (by decide +kernel) rfl, by decide +kernel⟩
theorem cl11_246 : CL RX11 246 yX2_fill 2 := ⟨am5 203 (by decide +kernel) rfl, am1 7 (by decide +kernel) rfl, by decide +kernel⟩
theorem cl11_250 : CL RX11 250 yX3_isPrime 1 := ⟨am5 216 (by decide +kernel) rfl, am1 9 (by decide +kernel) rfl, by decide +kernel⟩
theorem cl11_256 : CL RX11 256 yX3_begin 1 := ⟨am3 236 (by decide +kernel) rfl, am1 9 (by decide +kernel) rfl, by decide +kernel⟩
theorem cl11_259 : CL RX11 259 yX1_find 2 := ⟨am5 227 (by decide +kernel) rfl, am1 10 (by decide +kernel) rfl, by decide +kernel⟩
theorem cl11_265 : CL RX11 265 yX11_needCharacter 1 := ⟨am6 21 (by decide +kernel) rfl, am1 1 (by decide +kernel) rfl, by decide +kernel⟩
theorem cl11_268 : CL RX11 268 yX1_at 2 := ⟨am6 26 (by decide +kernel) rfl, am1 10 (by decide +kernel) rfl, by decide +kernel⟩
theorem cl11_271 : CL RX11 271 yX6_valueAt 1 := ⟨am3 183 (by decide +kernel) rfl, am1 2 (by decide +kernel) rfl, by decide +kernel⟩
theorem cl11_274 : CL RX11 274 yX7_add 3 := ⟨am3 187 (by decide +kernel) rfl, am1 8 (by decide +kernel) rfl, by decide +kernel⟩
theorem cl11_277 : CL RX11 277 yX6_put 2 := ⟨am3 192 (by decide +kernel) rfl, am1 2 (by decide +kernel) rfl, by decide +kernel⟩
theorem cl11_280 : CL RX11 280 yX6_hasTrees 0 := ⟨am6 37 (by decide +kernel) rfl, am1 2 (by decide +kernel) rfl, by decide +kernel⟩
theorem cl11_283 : CL RX11 283 yX11_isNumber 1 := ⟨am6 42 (by decide +kernel) rfl, am1 1 (by decide +kernel) rfl, by decide +kernel⟩
theorem cl11_290 : CL RX11 290 yX9_isThere 6 := ⟨am6 46 (by decide +kernel) rfl, am1 3 (by decide +kernel) rfl, by decide +kernel⟩
theorem cl11_296 : CL RX11 296 yX11_refuse 0 := ⟨am3 175 (by decide +kernel) rfl, am1 1 (by decide +kernel) rfl, by decide +kernel⟩
theorem cl11_299 : CL RX11 299 yX9_place 6 := ⟨am6 47 (by decide +kernel) rfl, am1 3 (by decide +kernel) rfl, by decide +kernel⟩
theorem cl11_302 : CL RX11 302 yX11_remember 2 := ⟨am3 179 (by decide +kernel) rfl, am1 1 (by decide +kernel) rfl, by decide +kernel⟩
theorem cl11_306 : CL RX11 306 yX9_swapPlace 3 := ⟨am6 55 (by decide +kernel) rfl, am1 3 (by decide +kernel) rfl, by decide +kernel⟩
theorem cl11_313 : CL RX11 313 yX9_checkPentagons 1 := ⟨am6 79 (by decide +kernel) rfl, am1 3 (by decide +kernel) rfl, by decide +kernel⟩
theorem cl11_317 : CL RX11 317 yX9_checkHexagons 1 := ⟨am6 104 (by decide +kernel) rfl, am1 3 (by decide +kernel) rfl, by decide +kernel⟩
theorem cl11_331 : CL RX11 331 yX5_find 2 := ⟨am6 131 (by decide +kernel) rfl, am1 12 (by decide +kernel) rfl, by decide +kernel⟩
theorem cl11_341 : CL RX11 341 yX10_begin 4 := ⟨am6 187 (by decide +kernel) rfl, am1 11 (by decide +kernel) rfl, by decide +kernel⟩
theorem cl11_346 : CL RX11 346 yX10_fill 1 := ⟨am6 193 (by decide +kernel) rfl, am1 11 (by decide +kernel) rfl, by decide +kernel⟩
theorem cl11_352 : CL RX11 352 yX10_lawBits 0 := ⟨am6 205 (by decide +kernel) rfl, am1 11 (by decide +kernel) rfl, by decide +kernel⟩
theorem cl11_358 : CL RX11 358 yX10_findAll 1 := ⟨am6 237 (by decide +kernel) rfl, am1 11 (by decide +kernel) rfl, by decide +kernel⟩
theorem cl11_363 : CL RX11 363 yX10_foundAt 3 := ⟨am7 28 (by decide +kernel) rfl, am1 11 (by decide +kernel) rfl, by decide +kernel⟩
theorem cl11_368 : CL RX11 368 yX0_run 3 := ⟨am7 40 (by decide +kernel) rfl, am1 13 (by decide +kernel) rfl, by decide +kernel⟩
theorem cl11_375 : CL RX11 375 yX11_braidNumber 1 := ⟨am7 76 (by decide +kernel) rfl, am1 1 (by decide +kernel) rfl, by decide +kernel⟩
theorem cl11_381 : CL RX11 381 yX3_reduce 1 := ⟨am7 80 (by decide +kernel) rfl, am1 9 (by decide +kernel) rfl, by decide +kernel⟩
theorem cl11_384 : CL RX11 384 yX7_stepBack 0 := ⟨am3 200 (by decide +kernel) rfl, am1 8 (by decide +kernel) rfl, by decide +kernel⟩
theorem cl11_392 : CL RX11 392 yX6_takeBack 2 := ⟨am3 204 (by decide +kernel) rfl, am1 2 (by decide +kernel) rfl, by decide +kernel⟩
theorem cl11_398 : CL RX11 398 yX7_stepOn 0 := ⟨am3 213 (by decide +kernel) rfl, am1 8 (by decide +kernel) rfl, by decide +kernel⟩
theorem cl11_401 : CL RX11 401 yX6_copy 1 := ⟨am3 221 (by decide +kernel) rfl, am1 2 (by decide +kernel) rfl, by decide +kernel⟩
theorem cl0_61 : CL RX0 61 yX0_findPaths 3 := ⟨am7 44 (by decide +kernel) rfl, am1 13 (by decide +kernel) rfl, by decide +kernel⟩
theorem cl0_69 : CL RX0 69 yX0_layTrees 4 := ⟨am7 50 (by decide +kernel) rfl, am1 13 (by decide +kernel) rfl, by decide +kernel⟩
theorem cl0_73 : CL RX0 73 yX0_layLetters 3 := ⟨am7 56 (by decide +kernel) rfl, am1 13 (by decide +kernel) rfl, by decide +kernel⟩
theorem cl0_77 : CL RX0 77 yX0_traceOf 2 := ⟨am7 62 (by decide +kernel) rfl, am1 13 (by decide +kernel) rfl, by decide +kernel⟩
theorem cl0_81 : CL RX0 81 yX0_isRelated 1 := ⟨am7 72 (by decide +kernel) rfl, am1 13 (by decide +kernel) rfl, by decide +kernel⟩
theorem cl0_88 : CL RX0 88 yX8_at 3 := ⟨am7 48 (by decide +kernel) rfl, am1 4 (by decide +kernel) rfl, by decide +kernel⟩
theorem cl0_97 : CL RX0 97 yX9_swapPlace 3 := ⟨am7 49 (by decide +kernel) rfl, am1 3 (by decide +kernel) rfl, by decide +kernel⟩
theorem cl0_103 : CL RX0 103 yX9_place 6 := ⟨am7 54 (by decide +kernel) rfl, am1 3 (by decide +kernel) rfl, by decide +kernel⟩
theorem cl0_107 : CL RX0 107 yX3_turnBack 3 := ⟨am7 55 (by decide +kernel) rfl, am1 9 (by decide +kernel) rfl, by decide +kernel⟩
theorem cl0_116 : CL RX0 116 yX3_reduce 1 := ⟨am7 60 (by decide +kernel) rfl, am1 9 (by decide +kernel) rfl, by decide +kernel⟩
theorem cl0_120 : CL RX0 120 yX3_multiply 4 := ⟨am7 61 (by decide +kernel) rfl, am1 9 (by decide +kernel) rfl, by decide +kernel⟩
theorem cl0_124 : CL RX0 124 yX3_beUnit 2 := ⟨am7 66 (by decide +kernel) rfl, am1 9 (by decide +kernel) rfl, by decide +kernel⟩
theorem cl0_134 : CL RX0 134 yX0_squareOf 1 := ⟨am7 67 (by decide +kernel) rfl, am1 13 (by decide +kernel) rfl, by decide +kernel⟩
theorem cl1_40 : CL RX1 40 yX1_findValues 3 := ⟨am5 231 (by decide +kernel) rfl, am1 10 (by decide +kernel) rfl, by decide +kernel⟩
theorem cl1_47 : CL RX1 47 yX1_isCharacter 2 := ⟨am6 16 (by decide +kernel) rfl, am1 10 (by decide +kernel) rfl, by decide +kernel⟩
theorem cl1_62 : CL RX1 62 yX8_at 3 := ⟨am5 235 (by decide +kernel) rfl, am1 4 (by decide +kernel) rfl, by decide +kernel⟩
theorem cl1_66 : CL RX1 66 yX3_reduce 1 := ⟨am5 236 (by decide +kernel) rfl, am1 9 (by decide +kernel) rfl, by decide +kernel⟩
theorem cl1_70 : CL RX1 70 yX3_turnBack 3 := ⟨am5 237 (by decide +kernel) rfl, am1 9 (by decide +kernel) rfl, by decide +kernel⟩
theorem cl2_43 : CL RX2 43 yX2_arrange 1 := ⟨am5 127 (by decide +kernel) rfl, am1 7 (by decide +kernel) rfl, by decide +kernel⟩
theorem cl2_47 : CL RX2 47 yX2_search 0 := ⟨am5 139 (by decide +kernel) rfl, am1 7 (by decide +kernel) rfl, by decide +kernel⟩
theorem cl2_56 : CL RX2 56 yX8_begin 1 := ⟨am5 207 (by decide +kernel) rfl, am1 4 (by decide +kernel) rfl, by decide +kernel⟩
theorem cl2_62 : CL RX2 62 yX2_fused 3 := ⟨am5 161 (by decide +kernel) rfl, am1 7 (by decide +kernel) rfl, by decide +kernel⟩
theorem cl2_66 : CL RX2 66 yX8_put 4 := ⟨am5 208 (by decide +kernel) rfl, am1 4 (by decide +kernel) rfl, by decide +kernel⟩
theorem cl2_70 : CL RX2 70 yJ7_fill_53178 2 := ⟨am5 131 (by decide +kernel) rfl, am1 5 (by decide +kernel) rfl, by decide +kernel⟩
theorem cl2_76 : CL RX2 76 yX2_set 3 := ⟨am5 132 (by decide +kernel) rfl, am1 7 (by decide +kernel) rfl, by decide +kernel⟩
theorem cl2_79 : CL RX2 79 yX2_mark 3 := ⟨am5 135 (by decide +kernel) rfl, am1 7 (by decide +kernel) rfl, by decide +kernel⟩
theorem cl2_83 : CL RX2 83 yX2_addEquations 4 := ⟨am5 147 (by decide +kernel) rfl, am1 7 (by decide +kernel) rfl, by decide +kernel⟩
theorem cl2_87 : CL RX2 87 yX2_lastGroup 4 := ⟨am5 151 (by decide +kernel) rfl, am1 7 (by decide +kernel) rfl, by decide +kernel⟩
theorem cl2_90 : CL RX2 90 yJ9_max_7cf53 2 := ⟨am5 155 (by decide +kernel) rfl, am1 23 (by decide +kernel) rfl, by decide +kernel⟩
theorem cl2_96 : CL RX2 96 yX2_sortEquations 0 := ⟨am5 143 (by decide +kernel) rfl, am1 7 (by decide +kernel) rfl, by decide +kernel⟩
theorem cl2_100 : CL RX2 100 yX2_fitsAt 1 := ⟨am5 157 (by decide +kernel) rfl, am1 7 (by decide +kernel) rfl, by decide +kernel⟩
theorem cl2_104 : CL RX2 104 yX2_isLeast 0 := ⟨am5 165 (by decide +kernel) rfl, am1 7 (by decide +kernel) rfl, by decide +kernel⟩
theorem cl2_108 : CL RX2 108 yX2_addRow 0 := ⟨am5 179 (by decide +kernel) rfl, am1 7 (by decide +kernel) rfl, by decide +kernel⟩
theorem cl2_114 : CL RX2 114 yX2_keepsDuals 1 := ⟨am5 171 (by decide +kernel) rfl, am1 7 (by decide +kernel) rfl, by decide +kernel⟩
theorem cl2_117 : CL RX2 117 yX2_comesBelow 1 := ⟨am5 175 (by decide +kernel) rfl, am1 7 (by decide +kernel) rfl, by decide +kernel⟩
theorem cl2_120 : CL RX2 120 yJ7_copyOf_59c91 2 := ⟨am5 183 (by decide +kernel) rfl, am1 5 (by decide +kernel) rfl, by decide +kernel⟩
theorem cl3_16 : CL RX3 16 yX3_begin 1 := ⟨am2 75 (by decide +kernel) rfl, am1 9 (by decide +kernel) rfl, by decide +kernel⟩
theorem cl3_24 : CL RX3 24 yX3_reduce 1 := ⟨am2 79 (by decide +kernel) rfl, am1 9 (by decide +kernel) rfl, by decide +kernel⟩
theorem cl3_34 : CL RX3 34 yX3_beUnit 2 := ⟨am6 2 (by decide +kernel) rfl, am1 9 (by decide +kernel) rfl, by decide +kernel⟩
theorem cl3_38 : CL RX3 38 yX3_exchangeRows 4 := ⟨am6 5 (by decide +kernel) rfl, am1 9 (by decide +kernel) rfl, by decide +kernel⟩
theorem cl3_42 : CL RX3 42 yX3_scaleRow 4 := ⟨am6 8 (by decide +kernel) rfl, am1 9 (by decide +kernel) rfl, by decide +kernel⟩
theorem cl3_45 : CL RX3 45 yX3_clearColumn 3 := ⟨am6 12 (by decide +kernel) rfl, am1 9 (by decide +kernel) rfl, by decide +kernel⟩
theorem cl4_42 : CL RX4 42 yX4_readToken 0 := ⟨am4 76 (by decide +kernel) rfl, am1 6 (by decide +kernel) rfl, by decide +kernel⟩
theorem cl4_45 : CL RX4 45 yX4_useToken 0 := ⟨am4 151 (by decide +kernel) rfl, am1 6 (by decide +kernel) rfl, by decide +kernel⟩
theorem cl4_51 : CL RX4 51 yX4_isBlank 1 := ⟨am4 80 (by decide +kernel) rfl, am1 6 (by decide +kernel) rfl, by decide +kernel⟩
theorem cl4_58 : CL RX4 58 yX4_isLetter 1 := ⟨am4 83 (by decide +kernel) rfl, am1 6 (by decide +kernel) rfl, by decide +kernel⟩
theorem cl4_61 : CL RX4 61 yX4_readWord 0 := ⟨am4 86 (by decide +kernel) rfl, am1 6 (by decide +kernel) rfl, by decide +kernel⟩
theorem cl4_64 : CL RX4 64 yX4_isDigit 1 := ⟨am4 144 (by decide +kernel) rfl, am1 6 (by decide +kernel) rfl, by decide +kernel⟩
theorem cl4_67 : CL RX4 67 yX4_readNumber 0 := ⟨am4 147 (by decide +kernel) rfl, am1 6 (by decide +kernel) rfl, by decide +kernel⟩
theorem cl4_75 : CL RX4 75 yX4_isWord 1 := ⟨am4 91 (by decide +kernel) rfl, am1 6 (by decide +kernel) rfl, by decide +kernel⟩
theorem cl4_81 : CL RX4 81 yJ0_length_8abf5 0 := ⟨am4 95 (by decide +kernel) rfl, am1 19 (by decide +kernel) rfl, by decide +kernel⟩
theorem cl4_86 : CL RX4 86 yJ0_charAt_5068e 1 := ⟨am4 105 (by decide +kernel) rfl, am1 19 (by decide +kernel) rfl, by decide +kernel⟩
theorem cl4_90 : CL RX4 90 yX4_go 2 := ⟨am4 155 (by decide +kernel) rfl, am1 6 (by decide +kernel) rfl, by decide +kernel⟩
theorem cl4_94 : CL RX4 94 yX4_useRank 0 := ⟨am4 159 (by decide +kernel) rfl, am1 6 (by decide +kernel) rfl, by decide +kernel⟩
theorem cl4_97 : CL RX4 97 yX4_isSign 1 := ⟨am4 168 (by decide +kernel) rfl, am1 6 (by decide +kernel) rfl, by decide +kernel⟩
theorem cl4_100 : CL RX4 100 yX4_useFirst 0 := ⟨am4 172 (by decide +kernel) rfl, am1 6 (by decide +kernel) rfl, by decide +kernel⟩
theorem cl4_103 : CL RX4 103 yX4_useSecond 0 := ⟨am4 180 (by decide +kernel) rfl, am1 6 (by decide +kernel) rfl, by decide +kernel⟩
theorem cl4_106 : CL RX4 106 yX4_usePart 0 := ⟨am4 190 (by decide +kernel) rfl, am1 6 (by decide +kernel) rfl, by decide +kernel⟩
theorem cl4_109 : CL RX4 109 yX4_numberFault 0 := ⟨am4 163 (by decide +kernel) rfl, am1 6 (by decide +kernel) rfl, by decide +kernel⟩
theorem cl4_112 : CL RX4 112 yX8_begin 1 := ⟨am4 167 (by decide +kernel) rfl, am1 4 (by decide +kernel) rfl, by decide +kernel⟩
theorem cl4_121 : CL RX4 121 yX4_kindFault 1 := ⟨am4 176 (by decide +kernel) rfl, am1 6 (by decide +kernel) rfl, by decide +kernel⟩
theorem cl4_131 : CL RX4 131 yJ9_min_7cf53 2 := ⟨am4 184 (by decide +kernel) rfl, am1 23 (by decide +kernel) rfl, by decide +kernel⟩
theorem cl4_137 : CL RX4 137 yJ9_max_7cf53 2 := ⟨am4 187 (by decide +kernel) rfl, am1 23 (by decide +kernel) rfl, by decide +kernel⟩
theorem cl4_140 : CL RX4 140 yX8_at 3 := ⟨am4 194 (by decide +kernel) rfl, am1 4 (by decide +kernel) rfl, by decide +kernel⟩
theorem cl4_143 : CL RX4 143 yX8_put 4 := ⟨am4 195 (by decide +kernel) rfl, am1 4 (by decide +kernel) rfl, by decide +kernel⟩
theorem cl5_45 : CL RX5 45 yX8_copy 1 := ⟨am6 135 (by decide +kernel) rfl, am1 4 (by decide +kernel) rfl, by decide +kernel⟩
theorem cl5_51 : CL RX5 51 yX9_begin 0 := ⟨am6 136 (by decide +kernel) rfl, am1 3 (by decide +kernel) rfl, by decide +kernel⟩
theorem cl5_67 : CL RX5 67 yX5_gatherUnknowns 0 := ⟨am6 137 (by decide +kernel) rfl, am1 12 (by decide +kernel) rfl, by decide +kernel⟩
theorem cl5_70 : CL RX5 70 yX5_gatherPentagons 0 := ⟨am6 143 (by decide +kernel) rfl, am1 12 (by decide +kernel) rfl, by decide +kernel⟩
theorem cl5_73 : CL RX5 73 yX5_search 1 := ⟨am6 160 (by decide +kernel) rfl, am1 12 (by decide +kernel) rfl, by decide +kernel⟩
theorem cl5_81 : CL RX5 81 yX9_isThere 6 := ⟨am6 141 (by decide +kernel) rfl, am1 3 (by decide +kernel) rfl, by decide +kernel⟩
theorem cl5_85 : CL RX5 85 yX9_place 6 := ⟨am6 142 (by decide +kernel) rfl, am1 3 (by decide +kernel) rfl, by decide +kernel⟩
theorem cl5_92 : CL RX5 92 yJ7_fill_53178 2 := ⟨am6 147 (by decide +kernel) rfl, am1 5 (by decide +kernel) rfl, by decide +kernel⟩
theorem cl5_98 : CL RX5 98 yX8_at 3 := ⟨am6 148 (by decide +kernel) rfl, am1 4 (by decide +kernel) rfl, by decide +kernel⟩
theorem cl5_102 : CL RX5 102 yX5_addPentagon 0 := ⟨am6 149 (by decide +kernel) rfl, am1 12 (by decide +kernel) rfl, by decide +kernel⟩
theorem cl5_105 : CL RX5 105 yX9_placePentagon 0 := ⟨am6 153 (by decide +kernel) rfl, am1 3 (by decide +kernel) rfl, by decide +kernel⟩
theorem cl5_111 : CL RX5 111 yX5_indexOf 1 := ⟨am6 154 (by decide +kernel) rfl, am1 12 (by decide +kernel) rfl, by decide +kernel⟩
theorem cl5_115 : CL RX5 115 yJ9_max_7cf53 2 := ⟨am6 158 (by decide +kernel) rfl, am1 23 (by decide +kernel) rfl, by decide +kernel⟩
theorem cl5_136 : CL RX5 136 yX5_pentagonsHold 2 := ⟨am6 165 (by decide +kernel) rfl, am1 12 (by decide +kernel) rfl, by decide +kernel⟩
theorem cl5_140 : CL RX5 140 yX5_squareTurnsBack 2 := ⟨am6 170 (by decide +kernel) rfl, am1 12 (by decide +kernel) rfl, by decide +kernel⟩
theorem cl5_143 : CL RX5 143 yX5_addRow 0 := ⟨am6 175 (by decide +kernel) rfl, am1 12 (by decide +kernel) rfl, by decide +kernel⟩
theorem cl5_146 : CL RX5 146 yX9_pentagonHolds 3 := ⟨am6 169 (by decide +kernel) rfl, am1 3 (by decide +kernel) rfl, by decide +kernel⟩
theorem cl5_150 : CL RX5 150 yX3_turnBack 3 := ⟨am6 174 (by decide +kernel) rfl, am1 9 (by decide +kernel) rfl, by decide +kernel⟩
theorem cl6_34 : CL RX6 34 yX6_forgetTold 0 := ⟨am1 120 (by decide +kernel) rfl, am1 2 (by decide +kernel) rfl, by decide +kernel⟩
theorem cl6_37 : CL RX6 37 yX9_begin 0 := ⟨am1 124 (by decide +kernel) rfl, am1 3 (by decide +kernel) rfl, by decide +kernel⟩
theorem cl6_40 : CL RX6 40 yJ7_fill_53178 2 := ⟨am1 149 (by decide +kernel) rfl, am1 5 (by decide +kernel) rfl, by decide +kernel⟩
theorem cl6_49 : CL RX6 49 yX8_copy 1 := ⟨am3 225 (by decide +kernel) rfl, am1 4 (by decide +kernel) rfl, by decide +kernel⟩
theorem cl6_55 : CL RX6 55 yX9_copy 1 := ⟨am3 226 (by decide +kernel) rfl, am1 3 (by decide +kernel) rfl, by decide +kernel⟩
theorem cl6_73 : CL RX6 73 yX8_isFree 0 := ⟨am6 41 (by decide +kernel) rfl, am1 4 (by decide +kernel) rfl, by decide +kernel⟩
theorem cl6_83 : CL RX6 83 yX6_put 2 := ⟨am3 208 (by decide +kernel) rfl, am1 2 (by decide +kernel) rfl, by decide +kernel⟩
theorem cl8_38 : CL RX8 38 yJ7_fill_53178 2 := ⟨am3 147 (by decide +kernel) rfl, am1 5 (by decide +kernel) rfl, by decide +kernel⟩
theorem cl8_44 : CL RX8 44 yX8_put 4 := ⟨am3 148 (by decide +kernel) rfl, am1 4 (by decide +kernel) rfl, by decide +kernel⟩
theorem cl8_48 : CL RX8 48 yX8_begin 1 := ⟨am3 143 (by decide +kernel) rfl, am1 4 (by decide +kernel) rfl, by decide +kernel⟩
theorem cl8_52 : CL RX8 52 yX8_fillGroup 1 := ⟨am4 211 (by decide +kernel) rfl, am1 4 (by decide +kernel) rfl, by decide +kernel⟩
theorem cl8_55 : CL RX8 55 yJ9_abs_0f7a4 1 := ⟨am4 219 (by decide +kernel) rfl, am1 23 (by decide +kernel) rfl, by decide +kernel⟩
theorem cl8_61 : CL RX8 61 yX8_at 3 := ⟨am3 152 (by decide +kernel) rfl, am1 4 (by decide +kernel) rfl, by decide +kernel⟩
theorem cl8_65 : CL RX8 65 yX8_spread 5 := ⟨am3 153 (by decide +kernel) rfl, am1 4 (by decide +kernel) rfl, by decide +kernel⟩
theorem cl8_69 : CL RX8 69 yX8_partner 1 := ⟨am5 42 (by decide +kernel) rfl, am1 4 (by decide +kernel) rfl, by decide +kernel⟩
theorem cl8_72 : CL RX8 72 yX8_isAssociative 4 := ⟨am5 50 (by decide +kernel) rfl, am1 4 (by decide +kernel) rfl, by decide +kernel⟩
theorem cl8_76 : CL RX8 76 yX8_firstWithoutDual 0 := ⟨am5 62 (by decide +kernel) rfl, am1 4 (by decide +kernel) rfl, by decide +kernel⟩
theorem cl8_80 : CL RX8 80 yX8_weighSums 0 := ⟨am5 86 (by decide +kernel) rfl, am1 4 (by decide +kernel) rfl, by decide +kernel⟩
theorem cl8_85 : CL RX8 85 yJ7_fill_d0a16 2 := ⟨am5 91 (by decide +kernel) rfl, am1 5 (by decide +kernel) rfl, by decide +kernel⟩
theorem cl8_88 : CL RX8 88 yX8_shrinkSizes 0 := ⟨am5 94 (by decide +kernel) rfl, am1 4 (by decide +kernel) rfl, by decide +kernel⟩
theorem cl8_93 : CL RX8 93 yJ9_min_f86c9 2 := ⟨am5 99 (by decide +kernel) rfl, am1 23 (by decide +kernel) rfl, by decide +kernel⟩
theorem cl9_11 : CL RX9 11 yX8_init 0 := ⟨am1 48 (by decide +kernel) rfl, am1 4 (by decide +kernel) rfl, by decide +kernel⟩
theorem cl9_40 : CL RX9 40 yX8_at 3 := ⟨am1 139 (by decide +kernel) rfl, am1 4 (by decide +kernel) rfl, by decide +kernel⟩
theorem cl9_44 : CL RX9 44 yJ7_fill_53178 2 := ⟨am1 128 (by decide +kernel) rfl, am1 5 (by decide +kernel) rfl, by decide +kernel⟩
theorem cl9_54 : CL RX9 54 yX9_putOnes 3 := ⟨am1 131 (by decide +kernel) rfl, am1 3 (by decide +kernel) rfl, by decide +kernel⟩
theorem cl9_58 : CL RX9 58 yX9_swapPlace 3 := ⟨am1 146 (by decide +kernel) rfl, am1 3 (by decide +kernel) rfl, by decide +kernel⟩
theorem cl9_61 : CL RX9 61 yX9_isThere 6 := ⟨am1 135 (by decide +kernel) rfl, am1 3 (by decide +kernel) rfl, by decide +kernel⟩
theorem cl9_65 : CL RX9 65 yX9_place 6 := ⟨am1 143 (by decide +kernel) rfl, am1 3 (by decide +kernel) rfl, by decide +kernel⟩
theorem cl9_75 : CL RX9 75 yX9_checkPentagonsOf 5 := ⟨am6 83 (by decide +kernel) rfl, am1 3 (by decide +kernel) rfl, by decide +kernel⟩
theorem cl9_79 : CL RX9 79 yX9_checkPentagonsWith 1 := ⟨am6 87 (by decide +kernel) rfl, am1 3 (by decide +kernel) rfl, by decide +kernel⟩
theorem cl9_83 : CL RX9 83 yX9_checkPentagon 1 := ⟨am6 91 (by decide +kernel) rfl, am1 3 (by decide +kernel) rfl, by decide +kernel⟩
theorem cl9_86 : CL RX9 86 yX9_placePentagon 0 := ⟨am6 95 (by decide +kernel) rfl, am1 3 (by decide +kernel) rfl, by decide +kernel⟩
theorem cl9_89 : CL RX9 89 yX9_pentagonHolds 3 := ⟨am6 99 (by decide +kernel) rfl, am1 3 (by decide +kernel) rfl, by decide +kernel⟩
theorem cl9_93 : CL RX9 93 yX3_reduce 1 := ⟨am6 103 (by decide +kernel) rfl, am1 9 (by decide +kernel) rfl, by decide +kernel⟩
theorem cl9_99 : CL RX9 99 yX9_checkHexagonsOf 5 := ⟨am6 108 (by decide +kernel) rfl, am1 3 (by decide +kernel) rfl, by decide +kernel⟩
theorem cl9_102 : CL RX9 102 yX9_hexagonSum 3 := ⟨am6 112 (by decide +kernel) rfl, am1 3 (by decide +kernel) rfl, by decide +kernel⟩
theorem cl10_48 : CL RX10 48 yX10_forget 0 := ⟨am2 138 (by decide +kernel) rfl, am1 11 (by decide +kernel) rfl, by decide +kernel⟩
theorem cl10_51 : CL RX10 51 yJ7_fill_53178 2 := ⟨am2 142 (by decide +kernel) rfl, am1 5 (by decide +kernel) rfl, by decide +kernel⟩
theorem cl10_75 : CL RX10 75 yX1_at 2 := ⟨am6 191 (by decide +kernel) rfl, am1 10 (by decide +kernel) rfl, by decide +kernel⟩
theorem cl10_81 : CL RX10 81 yX3_reduce 1 := ⟨am6 192 (by decide +kernel) rfl, am1 9 (by decide +kernel) rfl, by decide +kernel⟩
theorem cl10_93 : CL RX10 93 yX8_at 3 := ⟨am6 197 (by decide +kernel) rfl, am1 4 (by decide +kernel) rfl, by decide +kernel⟩
theorem cl10_99 : CL RX10 99 yX3_multiply 4 := ⟨am6 209 (by decide +kernel) rfl, am1 9 (by decide +kernel) rfl, by decide +kernel⟩
theorem cl10_103 : CL RX10 103 yX3_turnBack 3 := ⟨am6 213 (by decide +kernel) rfl, am1 9 (by decide +kernel) rfl, by decide +kernel⟩
theorem cl10_107 : CL RX10 107 yX10_twiceIsDuals 0 := ⟨am6 214 (by decide +kernel) rfl, am1 11 (by decide +kernel) rfl, by decide +kernel⟩
theorem cl10_111 : CL RX10 111 yX10_thriceIsTwice 0 := ⟨am6 218 (by decide +kernel) rfl, am1 11 (by decide +kernel) rfl, by decide +kernel⟩
theorem cl10_114 : CL RX10 114 yX10_winsBack 0 := ⟨am6 222 (by decide +kernel) rfl, am1 11 (by decide +kernel) rfl, by decide +kernel⟩
theorem cl10_120 : CL RX10 120 yX10_wonBack 3 := ⟨am6 226 (by decide +kernel) rfl, am1 11 (by decide +kernel) rfl, by decide +kernel⟩
theorem cl10_123 : CL RX10 123 yX10_canHold 0 := ⟨am7 1 (by decide +kernel) rfl, am1 11 (by decide +kernel) rfl, by decide +kernel⟩
theorem cl10_126 : CL RX10 126 yX10_rowsAheadOfLast 0 := ⟨am7 5 (by decide +kernel) rfl, am1 11 (by decide +kernel) rfl, by decide +kernel⟩
theorem cl10_130 : CL RX10 130 yX10_tryLast 0 := ⟨am7 9 (by decide +kernel) rfl, am1 11 (by decide +kernel) rfl, by decide +kernel⟩
theorem cl10_133 : CL RX10 133 yX10_goOn 0 := ⟨am7 23 (by decide +kernel) rfl, am1 11 (by decide +kernel) rfl, by decide +kernel⟩
theorem cl10_139 : CL RX10 139 yX10_fill 1 := ⟨am7 13 (by decide +kernel) rfl, am1 11 (by decide +kernel) rfl, by decide +kernel⟩
theorem cl10_142 : CL RX10 142 yX10_addFound 0 := ⟨am7 14 (by decide +kernel) rfl, am1 11 (by decide +kernel) rfl, by decide +kernel⟩
theorem cl10_145 : CL RX10 145 yX10_allHold 0 := ⟨am7 19 (by decide +kernel) rfl, am1 11 (by decide +kernel) rfl, by decide +kernel⟩
theorem cl10_148 : CL RX10 148 yJ7_copyOf_59c91 2 := ⟨am7 18 (by decide +kernel) rfl, am1 5 (by decide +kernel) rfl, by decide +kernel⟩
theorem cl12_162 : CL RX12 162 yX12_fresh 0 := ⟨am7 87 (by decide +kernel) rfl, am1 14 (by decide +kernel) rfl, by decide +kernel⟩
theorem cl12_168 : CL RX12 168 yX12_isIn 3 := ⟨am8 156 (by decide +kernel) rfl, am1 14 (by decide +kernel) rfl, by decide +kernel⟩
theorem cl12_172 : CL RX12 172 yX12_cell 3 := ⟨am8 163 (by decide +kernel) rfl, am1 14 (by decide +kernel) rfl, by decide +kernel⟩
theorem cl12_194 : CL RX12 194 yX12_byteAt 1 := ⟨am8 130 (by decide +kernel) rfl, am1 14 (by decide +kernel) rfl, by decide +kernel⟩
theorem cl12_204 : CL RX12 204 yX12_isLetter 1 := ⟨am8 134 (by decide +kernel) rfl, am1 14 (by decide +kernel) rfl, by decide +kernel⟩
theorem cl12_208 : CL RX12 208 yX12_isDigit 1 := ⟨am8 137 (by decide +kernel) rfl, am1 14 (by decide +kernel) rfl, by decide +kernel⟩
theorem cl12_214 : CL RX12 214 yJ9_min_7cf53 2 := ⟨am8 140 (by decide +kernel) rfl, am1 23 (by decide +kernel) rfl, by decide +kernel⟩
theorem cl12_229 : CL RX12 229 yJ0_length_8abf5 0 := ⟨am8 150 (by decide +kernel) rfl, am1 19 (by decide +kernel) rfl, by decide +kernel⟩
theorem cl12_235 : CL RX12 235 yJ0_charAt_5068e 1 := ⟨am8 151 (by decide +kernel) rfl, am1 19 (by decide +kernel) rfl, by decide +kernel⟩
theorem cl12_239 : CL RX12 239 yX12_is 1 := ⟨am8 146 (by decide +kernel) rfl, am1 14 (by decide +kernel) rfl, by decide +kernel⟩
theorem cl12_243 : CL RX12 243 yX12_wrong 1 := ⟨am8 152 (by decide +kernel) rfl, am1 14 (by decide +kernel) rfl, by decide +kernel⟩
theorem cl12_247 : CL RX12 247 yX12_stepOn 0 := ⟨am8 126 (by decide +kernel) rfl, am1 14 (by decide +kernel) rfl, by decide +kernel⟩
theorem cl12_250 : CL RX12 250 yX12_isMarked 1 := ⟨am8 170 (by decide +kernel) rfl, am1 14 (by decide +kernel) rfl, by decide +kernel⟩
theorem cl12_256 : CL RX12 256 yX12_kindNow 1 := ⟨am8 182 (by decide +kernel) rfl, am1 14 (by decide +kernel) rfl, by decide +kernel⟩
theorem cl12_259 : CL RX12 259 yX12_readKind 1 := ⟨am8 178 (by decide +kernel) rfl, am1 14 (by decide +kernel) rfl, by decide +kernel⟩
theorem cl12_262 : CL RX12 262 yX12_mark 1 := ⟨am8 166 (by decide +kernel) rfl, am1 14 (by decide +kernel) rfl, by decide +kernel⟩
theorem cl12_267 : CL RX12 267 yX12_readSum 2 := ⟨am8 187 (by decide +kernel) rfl, am1 14 (by decide +kernel) rfl, by decide +kernel⟩
theorem cl12_271 : CL RX12 271 yX12_fail 1 := ⟨am8 122 (by decide +kernel) rfl, am1 14 (by decide +kernel) rfl, by decide +kernel⟩
theorem cl12_275 : CL RX12 275 yX12_wordIs 1 := ⟨am8 142 (by decide +kernel) rfl, am1 14 (by decide +kernel) rfl, by decide +kernel⟩
theorem cl12_279 : CL RX12 279 yX12_begin 2 := ⟨am8 159 (by decide +kernel) rfl, am1 14 (by decide +kernel) rfl, by decide +kernel⟩
theorem cl12_283 : CL RX12 283 yX12_readLine 1 := ⟨am8 174 (by decide +kernel) rfl, am1 14 (by decide +kernel) rfl, by decide +kernel⟩
theorem cl12_286 : CL RX12 286 yX12_takeRead 0 := ⟨am8 191 (by decide +kernel) rfl, am1 14 (by decide +kernel) rfl, by decide +kernel⟩
theorem cl12_289 : CL RX12 289 yX12_levelOf 4 := ⟨am8 203 (by decide +kernel) rfl, am1 14 (by decide +kernel) rfl, by decide +kernel⟩
theorem cl12_293 : CL RX12 293 yX12_nearOf 5 := ⟨am8 206 (by decide +kernel) rfl, am1 14 (by decide +kernel) rfl, by decide +kernel⟩
theorem cl12_300 : CL RX12 300 yX12_of 3 := ⟨am8 217 (by decide +kernel) rfl, am1 14 (by decide +kernel) rfl, by decide +kernel⟩
theorem cl12_303 : CL RX12 303 yX12_isFree 0 := ⟨am8 225 (by decide +kernel) rfl, am1 14 (by decide +kernel) rfl, by decide +kernel⟩
theorem cl12_310 : CL RX12 310 yX12_isKind 1 := ⟨am8 233 (by decide +kernel) rfl, am1 14 (by decide +kernel) rfl, by decide +kernel⟩
theorem cl12_313 : CL RX12 313 yX12_partner 1 := ⟨am9 9 (by decide +kernel) rfl, am1 14 (by decide +kernel) rfl, by decide +kernel⟩
theorem cl12_316 : CL RX12 316 yX12_firstWithoutDual 0 := ⟨am9 5 (by decide +kernel) rfl, am1 14 (by decide +kernel) rfl, by decide +kernel⟩
theorem cl12_319 : CL RX12 319 yX12_isSum 4 := ⟨am9 13 (by decide +kernel) rfl, am1 14 (by decide +kernel) rfl, by decide +kernel⟩
theorem cl12_323 : CL RX12 323 yX12_keeps 4 := ⟨am9 17 (by decide +kernel) rfl, am1 14 (by decide +kernel) rfl, by decide +kernel⟩
theorem cl12_326 : CL RX12 326 yX12_firstBroken 1 := ⟨am9 1 (by decide +kernel) rfl, am1 14 (by decide +kernel) rfl, by decide +kernel⟩
theorem cl12_329 : CL RX12 329 yX12_hasDuals 0 := ⟨am9 25 (by decide +kernel) rfl, am1 14 (by decide +kernel) rfl, by decide +kernel⟩
theorem cl12_336 : CL RX12 336 yJ9_min_f86c9 2 := ⟨am9 39 (by decide +kernel) rfl, am1 23 (by decide +kernel) rfl, by decide +kernel⟩
theorem cl12_339 : CL RX12 339 yX12_tellSizes 0 := ⟨am9 33 (by decide +kernel) rfl, am1 14 (by decide +kernel) rfl, by decide +kernel⟩
theorem cl12_347 : CL RX12 347 yX12_putGroup 4 := ⟨am9 53 (by decide +kernel) rfl, am1 14 (by decide +kernel) rfl, by decide +kernel⟩
theorem cl12_351 : CL RX12 351 yX12_dualBy 3 := ⟨am9 57 (by decide +kernel) rfl, am1 14 (by decide +kernel) rfl, by decide +kernel⟩
theorem cl12_354 : CL RX12 354 yX12_isLesser 1 := ⟨am9 76 (by decide +kernel) rfl, am1 14 (by decide +kernel) rfl, by decide +kernel⟩
theorem cl12_357 : CL RX12 357 yX12_isLeast 3 := ⟨am9 72 (by decide +kernel) rfl, am1 14 (by decide +kernel) rfl, by decide +kernel⟩
theorem cl12_369 : CL RX12 369 yX12_tellGroups 2 := ⟨am9 49 (by decide +kernel) rfl, am1 14 (by decide +kernel) rfl, by decide +kernel⟩
theorem cl12_372 : CL RX12 372 yX12_tellFigures 2 := ⟨am9 60 (by decide +kernel) rfl, am1 14 (by decide +kernel) rfl, by decide +kernel⟩
theorem cl12_375 : CL RX12 375 yX12_layTable 2 := ⟨am9 64 (by decide +kernel) rfl, am1 14 (by decide +kernel) rfl, by decide +kernel⟩
theorem cl12_378 : CL RX12 378 yX12_isReadSum 1 := ⟨am9 68 (by decide +kernel) rfl, am1 14 (by decide +kernel) rfl, by decide +kernel⟩
theorem cl12_381 : CL RX12 381 yX12_isPrime 1 := ⟨am9 88 (by decide +kernel) rfl, am1 14 (by decide +kernel) rfl, by decide +kernel⟩
theorem cl12_394 : CL RX12 394 yX12_isCharacter 1 := ⟨am9 103 (by decide +kernel) rfl, am1 14 (by decide +kernel) rfl, by decide +kernel⟩
theorem cl12_397 : CL RX12 397 yX12_characterOn 1 := ⟨am9 99 (by decide +kernel) rfl, am1 14 (by decide +kernel) rfl, by decide +kernel⟩
theorem cl12_400 : CL RX12 400 yX12_findCharacter 1 := ⟨am9 95 (by decide +kernel) rfl, am1 14 (by decide +kernel) rfl, by decide +kernel⟩
theorem cl12_403 : CL RX12 403 yX12_isTree 6 := ⟨am9 119 (by decide +kernel) rfl, am1 14 (by decide +kernel) rfl, by decide +kernel⟩
theorem cl12_407 : CL RX12 407 yX12_six 6 := ⟨am9 123 (by decide +kernel) rfl, am1 14 (by decide +kernel) rfl, by decide +kernel⟩
theorem cl12_411 : CL RX12 411 yX12_valueAt 2 := ⟨am9 130 (by decide +kernel) rfl, am1 14 (by decide +kernel) rfl, by decide +kernel⟩
theorem cl12_414 : CL RX12 414 yX12_log 4 := ⟨am9 134 (by decide +kernel) rfl, am1 14 (by decide +kernel) rfl, by decide +kernel⟩
theorem cl12_417 : CL RX12 417 yX12_put 3 := ⟨am9 138 (by decide +kernel) rfl, am1 14 (by decide +kernel) rfl, by decide +kernel⟩
theorem cl12_421 : CL RX12 421 yX12_areKinds 3 := ⟨am9 111 (by decide +kernel) rfl, am1 14 (by decide +kernel) rfl, by decide +kernel⟩
theorem cl12_424 : CL RX12 424 yX12_hasTrees 0 := ⟨am9 115 (by decide +kernel) rfl, am1 14 (by decide +kernel) rfl, by decide +kernel⟩
theorem cl12_427 : CL RX12 427 yX12_telling 4 := ⟨am9 126 (by decide +kernel) rfl, am1 14 (by decide +kernel) rfl, by decide +kernel⟩
theorem cl12_431 : CL RX12 431 yX12_treeOf 6 := ⟨am9 166 (by decide +kernel) rfl, am1 14 (by decide +kernel) rfl, by decide +kernel⟩
theorem cl12_434 : CL RX12 434 yX12_swapOf 3 := ⟨am9 170 (by decide +kernel) rfl, am1 14 (by decide +kernel) rfl, by decide +kernel⟩
theorem cl12_443 : CL RX12 443 yX12_mayGoOn 2 := ⟨am9 186 (by decide +kernel) rfl, am1 14 (by decide +kernel) rfl, by decide +kernel⟩
theorem cl12_447 : CL RX12 447 yX12_shapeOn 2 := ⟨am9 182 (by decide +kernel) rfl, am1 14 (by decide +kernel) rfl, by decide +kernel⟩
theorem cl12_450 : CL RX12 450 yX12_isPentagon 0 := ⟨am9 190 (by decide +kernel) rfl, am1 14 (by decide +kernel) rfl, by decide +kernel⟩
theorem cl12_453 : CL RX12 453 yX12_isHexagon 0 := ⟨am9 194 (by decide +kernel) rfl, am1 14 (by decide +kernel) rfl, by decide +kernel⟩
theorem cl12_459 : CL RX12 459 yX12_pentagonHolds 0 := ⟨am9 198 (by decide +kernel) rfl, am1 14 (by decide +kernel) rfl, by decide +kernel⟩
theorem cl12_462 : CL RX12 462 yX12_hexagonHolds 0 := ⟨am9 202 (by decide +kernel) rfl, am1 14 (by decide +kernel) rfl, by decide +kernel⟩
theorem cl12_465 : CL RX12 465 yX12_tellShapes 2 := ⟨am9 178 (by decide +kernel) rfl, am1 14 (by decide +kernel) rfl, by decide +kernel⟩
theorem cl12_469 : CL RX12 469 yX12_over 1 := ⟨am10 10 (by decide +kernel) rfl, am1 14 (by decide +kernel) rfl, by decide +kernel⟩
theorem cl12_472 : CL RX12 472 yX12_swapRows 3 := ⟨am9 238 (by decide +kernel) rfl, am1 14 (by decide +kernel) rfl, by decide +kernel⟩
theorem cl12_475 : CL RX12 475 yX12_turnedBack 1 := ⟨am10 2 (by decide +kernel) rfl, am1 14 (by decide +kernel) rfl, by decide +kernel⟩
theorem cl12_478 : CL RX12 478 yX12_addRow 4 := ⟨am10 6 (by decide +kernel) rfl, am1 14 (by decide +kernel) rfl, by decide +kernel⟩
theorem cl12_484 : CL RX12 484 yX12_addUnknowns 3 := ⟨am9 218 (by decide +kernel) rfl, am1 14 (by decide +kernel) rfl, by decide +kernel⟩
theorem cl12_487 : CL RX12 487 yX12_turnBack 1 := ⟨am9 234 (by decide +kernel) rfl, am1 14 (by decide +kernel) rfl, by decide +kernel⟩
theorem cl12_490 : CL RX12 490 yX12_isSquareTurned 4 := ⟨am9 230 (by decide +kernel) rfl, am1 14 (by decide +kernel) rfl, by decide +kernel⟩
theorem cl12_493 : CL RX12 493 yX12_solveOn 1 := ⟨am9 222 (by decide +kernel) rfl, am1 14 (by decide +kernel) rfl, by decide +kernel⟩
theorem cl12_496 : CL RX12 496 yX12_allTurned 0 := ⟨am9 226 (by decide +kernel) rfl, am1 14 (by decide +kernel) rfl, by decide +kernel⟩
theorem cl12_502 : CL RX12 502 yX12_tellUnknowns 0 := ⟨am9 214 (by decide +kernel) rfl, am1 14 (by decide +kernel) rfl, by decide +kernel⟩
theorem cl12_505 : CL RX12 505 yX12_tellS 0 := ⟨am10 18 (by decide +kernel) rfl, am1 14 (by decide +kernel) rfl, by decide +kernel⟩
theorem cl12_508 : CL RX12 508 yX12_multiply 0 := ⟨am10 38 (by decide +kernel) rfl, am1 14 (by decide +kernel) rfl, by decide +kernel⟩
theorem cl12_511 : CL RX12 511 yX12_sumOf 1 := ⟨am10 42 (by decide +kernel) rfl, am1 14 (by decide +kernel) rfl, by decide +kernel⟩
theorem cl12_515 : CL RX12 515 yX12_isSTurned 0 := ⟨am10 30 (by decide +kernel) rfl, am1 14 (by decide +kernel) rfl, by decide +kernel⟩
theorem cl12_518 : CL RX12 518 yX12_isSquareOfS 0 := ⟨am10 34 (by decide +kernel) rfl, am1 14 (by decide +kernel) rfl, by decide +kernel⟩
theorem cl12_521 : CL RX12 521 yX12_isCubeOfST 0 := ⟨am10 46 (by decide +kernel) rfl, am1 14 (by decide +kernel) rfl, by decide +kernel⟩
theorem cl12_524 : CL RX12 524 yX12_isWonBack 0 := ⟨am10 50 (by decide +kernel) rfl, am1 14 (by decide +kernel) rfl, by decide +kernel⟩
theorem cl12_527 : CL RX12 527 yX12_holdsOf 0 := ⟨am10 26 (by decide +kernel) rfl, am1 14 (by decide +kernel) rfl, by decide +kernel⟩
theorem cl12_539 : CL RX12 539 yX12_turnOn 1 := ⟨am10 62 (by decide +kernel) rfl, am1 14 (by decide +kernel) rfl, by decide +kernel⟩
theorem cl12_542 : CL RX12 542 yX12_findTurns 1 := ⟨am10 58 (by decide +kernel) rfl, am1 14 (by decide +kernel) rfl, by decide +kernel⟩
theorem cl12_548 : CL RX12 548 yX12_tellPaths 2 := ⟨am10 78 (by decide +kernel) rfl, am1 14 (by decide +kernel) rfl, by decide +kernel⟩
theorem cl12_551 : CL RX12 551 yX12_columnsOf 2 := ⟨am10 82 (by decide +kernel) rfl, am1 14 (by decide +kernel) rfl, by decide +kernel⟩
theorem cl12_555 : CL RX12 555 yX12_tellLetters 2 := ⟨am10 74 (by decide +kernel) rfl, am1 14 (by decide +kernel) rfl, by decide +kernel⟩
theorem cl12_558 : CL RX12 558 yX12_beginBraid 0 := ⟨am10 90 (by decide +kernel) rfl, am1 14 (by decide +kernel) rfl, by decide +kernel⟩
theorem cl12_561 : CL RX12 561 yX12_braidOn 1 := ⟨am10 94 (by decide +kernel) rfl, am1 14 (by decide +kernel) rfl, by decide +kernel⟩
theorem cl12_564 : CL RX12 564 yX12_canBraid 1 := ⟨am10 70 (by decide +kernel) rfl, am1 14 (by decide +kernel) rfl, by decide +kernel⟩
theorem cl12_567 : CL RX12 567 yX12_traceOf 2 := ⟨am10 86 (by decide +kernel) rfl, am1 14 (by decide +kernel) rfl, by decide +kernel⟩
theorem cl12_570 : CL RX12 570 yX12_isRelated 2 := ⟨am10 98 (by decide +kernel) rfl, am1 14 (by decide +kernel) rfl, by decide +kernel⟩
theorem cl12_585 : CL RX12 585 yX12_be 2 := ⟨am10 106 (by decide +kernel) rfl, am1 14 (by decide +kernel) rfl, by decide +kernel⟩
def W_8 (σ : HS) (o : Nat) : Prop := (isC σ o ∧ kK σ o = 8) ∧ (pP σ o 1 = (o + 1) ∧ isC σ (o + 1) ∧ kK σ (o + 1) = 13 ∧ zZ σ (o + 1) = 125) ∧ (pP σ o 2 = (o + 2) ∧ isC σ (o + 2) ∧ kK σ (o + 2) = 13 ∧ zZ σ (o + 2) = 5) ∧ (pP σ o 3 = (o + 3) ∧ isC σ (o + 3) ∧ kK σ (o + 3) = 14 ∧ zZ σ (o + 3) = 5) ∧ (pP σ o 4 = (o + 4) ∧ isC σ (o + 4) ∧ kK σ (o + 4) = 14 ∧ zZ σ (o + 4) = 5) ∧ (pP σ o 5 = (o + 5) ∧ isC σ (o + 5) ∧ kK σ (o + 5) = 13 ∧ zZ σ (o + 5) = 25) ∧ True
def W_9 (σ : HS) (o : Nat) : Prop := (isC σ o ∧ kK σ o = 9) ∧ (pP σ o 0 = (o - 6) ∧ W_8 σ (o - 6)) ∧ (pP σ o 1 = (o + 1) ∧ isC σ (o + 1) ∧ kK σ (o + 1) = 13 ∧ zZ σ (o + 1) = 729) ∧ (pP σ o 2 = (o + 2) ∧ isC σ (o + 2) ∧ kK σ (o + 2) = 13 ∧ zZ σ (o + 2) = 27) ∧ (pP σ o 3 = (o + 3) ∧ isC σ (o + 3) ∧ kK σ (o + 3) = 13 ∧ zZ σ (o + 3) = 9) ∧ (pP σ o 4 = (o + 4) ∧ isC σ (o + 4) ∧ kK σ (o + 4) = 13 ∧ zZ σ (o + 4) = 5) ∧ (pP σ o 5 = (o + 5) ∧ isC σ (o + 5) ∧ kK σ (o + 5) = 13 ∧ zZ σ (o + 5) = 9) ∧ True
def W_6 (σ : HS) (o : Nat) : Prop := (isC σ o ∧ kK σ o = 6) ∧ (pP σ o 0 = (o + 9) ∧ W_9 σ (o + 9)) ∧ (pP σ o 1 = (o + 3) ∧ W_8 σ (o + 3)) ∧ (pP σ o 2 = (o + 1) ∧ isC σ (o + 1) ∧ kK σ (o + 1) = 13 ∧ zZ σ (o + 1) = 5) ∧ (pP σ o 3 = (o + 2) ∧ isC σ (o + 2) ∧ kK σ (o + 2) = 13 ∧ zZ σ (o + 2) = 12) ∧ True
def W_3 (σ : HS) (o : Nat) : Prop := (isC σ o ∧ kK σ o = 3) ∧ (pP σ o 1 = (o + 1) ∧ isC σ (o + 1) ∧ kK σ (o + 1) = 13 ∧ zZ σ (o + 1) = 32) ∧ (pP σ o 2 = (o + 2) ∧ isC σ (o + 2) ∧ kK σ (o + 2) = 13 ∧ zZ σ (o + 2) = 25) ∧ True
def W_7 (σ : HS) (o : Nat) : Prop := (isC σ o ∧ kK σ o = 7) ∧ (pP σ o 0 = (o + 1) ∧ isC σ (o + 1) ∧ kK σ (o + 1) = 13 ∧ zZ σ (o + 1) = 100) ∧ (pP σ o 1 = (o + 2) ∧ isC σ (o + 2) ∧ kK σ (o + 2) = 13 ∧ zZ σ (o + 2) = 100) ∧ (pP σ o 2 = (o + 3) ∧ isC σ (o + 3) ∧ kK σ (o + 3) = 13 ∧ zZ σ (o + 3) = 100) ∧ True
def W_2 (σ : HS) (o : Nat) : Prop := (isC σ o ∧ kK σ o = 2) ∧ (pP σ o 5 = (o + 2) ∧ isC σ (o + 2) ∧ kK σ (o + 2) = 13 ∧ zZ σ (o + 2) = 4) ∧ (pP σ o 6 = (o + 3) ∧ isC σ (o + 3) ∧ kK σ (o + 3) = 13 ∧ zZ σ (o + 3) = 64) ∧ (pP σ o 7 = (o + 4) ∧ isC σ (o + 4) ∧ kK σ (o + 4) = 13 ∧ zZ σ (o + 4) = 10) ∧ (pP σ o 9 = (o + 5) ∧ isC σ (o + 5) ∧ kK σ (o + 5) = 13 ∧ zZ σ (o + 5) = 10) ∧ (pP σ o 10 = (o + 6) ∧ isC σ (o + 6) ∧ kK σ (o + 6) = 13 ∧ zZ σ (o + 6) = 27) ∧ (pP σ o 11 = (o + 7) ∧ isC σ (o + 7) ∧ kK σ (o + 7) = 13 ∧ zZ σ (o + 7) = 11) ∧ True
def W_4 (σ : HS) (o : Nat) : Prop := (isC σ o ∧ kK σ o = 4) ∧ True
def W_1 (σ : HS) (o : Nat) : Prop := (isC σ o ∧ kK σ o = 1) ∧ (pP σ o 2 = (o + 1) ∧ isC σ (o + 1) ∧ kK σ (o + 1) = 13 ∧ zZ σ (o + 1) = 25) ∧ (pP σ o 3 = (o + 2) ∧ isC σ (o + 2) ∧ kK σ (o + 2) = 13 ∧ zZ σ (o + 2) = 25) ∧ (pP σ o 4 = (o + 3) ∧ isC σ (o + 3) ∧ kK σ (o + 3) = 13 ∧ zZ σ (o + 3) = 5) ∧ (pP σ o 5 = (o + 4) ∧ isC σ (o + 4) ∧ kK σ (o + 4) = 13 ∧ zZ σ (o + 4) = 5) ∧ (pP σ o 6 = (o + 5) ∧ isC σ (o + 5) ∧ kK σ (o + 5) = 13 ∧ zZ σ (o + 5) = 25) ∧ (pP σ o 7 = (o + 6) ∧ isC σ (o + 6) ∧ kK σ (o + 6) = 13 ∧ zZ σ (o + 6) = 25) ∧ True
def W_10 (σ : HS) (o : Nat) : Prop := (isC σ o ∧ kK σ o = 10) ∧ (pP σ o 0 = (o + 1) ∧ isC σ (o + 1) ∧ kK σ (o + 1) = 13 ∧ zZ σ (o + 1) = 5) ∧ (pP σ o 1 = (o + 2) ∧ isC σ (o + 2) ∧ kK σ (o + 2) = 13 ∧ zZ σ (o + 2) = 5) ∧ (pP σ o 9 = (o + 4) ∧ isC σ (o + 4) ∧ kK σ (o + 4) = 13 ∧ zZ σ (o + 4) = 5) ∧ (pP σ o 10 = (o + 5) ∧ isC σ (o + 5) ∧ kK σ (o + 5) = 13 ∧ zZ σ (o + 5) = 5) ∧ (pP σ o 11 = (o + 6) ∧ isC σ (o + 6) ∧ kK σ (o + 6) = 13 ∧ zZ σ (o + 6) = 5) ∧ (pP σ o 12 = (o + 7) ∧ isC σ (o + 7) ∧ kK σ (o + 7) = 13 ∧ zZ σ (o + 7) = 5) ∧ (pP σ o 13 = (o + 8) ∧ isC σ (o + 8) ∧ kK σ (o + 8) = 13 ∧ zZ σ (o + 8) = 25) ∧ (pP σ o 14 = (o + 9) ∧ isC σ (o + 9) ∧ kK σ (o + 9) = 13 ∧ zZ σ (o + 9) = 25) ∧ (pP σ o 15 = (o + 10) ∧ isC σ (o + 10) ∧ kK σ (o + 10) = 13 ∧ zZ σ (o + 10) = 25) ∧ (pP σ o 16 = (o + 11) ∧ isC σ (o + 11) ∧ kK σ (o + 11) = 13 ∧ zZ σ (o + 11) = 25) ∧ (pP σ o 17 = (o + 12) ∧ isC σ (o + 12) ∧ kK σ (o + 12) = 13 ∧ zZ σ (o + 12) = 25) ∧ True
def W_5 (σ : HS) (o : Nat) : Prop := (isC σ o ∧ kK σ o = 5) ∧ (pP σ o 3 = (o + 1) ∧ isC σ (o + 1) ∧ kK σ (o + 1) = 13 ∧ zZ σ (o + 1) = 5) ∧ (pP σ o 4 = (o + 2) ∧ isC σ (o + 2) ∧ kK σ (o + 2) = 13 ∧ zZ σ (o + 2) = 5) ∧ (pP σ o 5 = (o + 3) ∧ isC σ (o + 3) ∧ kK σ (o + 3) = 13 ∧ zZ σ (o + 3) = 5) ∧ (pP σ o 6 = (o + 10) ∧ W_9 σ (o + 10)) ∧ (pP σ o 7 = (o + 4) ∧ W_8 σ (o + 4)) ∧ (pP σ o 8 = (o + 16) ∧ isC σ (o + 16) ∧ kK σ (o + 16) = 13 ∧ zZ σ (o + 16) = 160) ∧ (pP σ o 9 = (o + 17) ∧ isC σ (o + 17) ∧ kK σ (o + 17) = 13 ∧ zZ σ (o + 17) = 32) ∧ (pP σ o 11 = (o + 18) ∧ isC σ (o + 18) ∧ kK σ (o + 18) = 13 ∧ zZ σ (o + 18) = 25) ∧ (pP σ o 12 = (o + 19) ∧ isC σ (o + 19) ∧ kK σ (o + 19) = 13 ∧ zZ σ (o + 19) = 25) ∧ True
def W_0 (σ : HS) (o : Nat) : Prop := (isC σ o ∧ kK σ o = 0) ∧ (pP σ o 0 = (o + 1) ∧ isC σ (o + 1) ∧ kK σ (o + 1) = 13 ∧ zZ σ (o + 1) = 3) ∧ (pP σ o 3 = (o + 2) ∧ isC σ (o + 2) ∧ kK σ (o + 2) = 13 ∧ zZ σ (o + 2) = 3) ∧ (pP σ o 4 = (o + 3) ∧ isC σ (o + 3) ∧ kK σ (o + 3) = 13 ∧ zZ σ (o + 3) = 3) ∧ (pP σ o 5 = (o + 4) ∧ isC σ (o + 4) ∧ kK σ (o + 4) = 13 ∧ zZ σ (o + 4) = 25) ∧ (pP σ o 6 = (o + 5) ∧ isC σ (o + 5) ∧ kK σ (o + 5) = 13 ∧ zZ σ (o + 5) = 25) ∧ (pP σ o 7 = (o + 6) ∧ isC σ (o + 6) ∧ kK σ (o + 6) = 13 ∧ zZ σ (o + 6) = 25) ∧ (pP σ o 8 = (o + 7) ∧ isC σ (o + 7) ∧ kK σ (o + 7) = 13 ∧ zZ σ (o + 7) = 25) ∧ (pP σ o 9 = (o + 8) ∧ isC σ (o + 8) ∧ kK σ (o + 8) = 13 ∧ zZ σ (o + 8) = 25) ∧ (pP σ o 10 = (o + 9) ∧ isC σ (o + 9) ∧ kK σ (o + 9) = 13 ∧ zZ σ (o + 9) = 25) ∧ (pP σ o 11 = (o + 10) ∧ isC σ (o + 10) ∧ kK σ (o + 10) = 13 ∧ zZ σ (o + 10) = 25) ∧ (pP σ o 12 = (o + 11) ∧ isC σ (o + 11) ∧ kK σ (o + 11) = 13 ∧ zZ σ (o + 11) = 25) ∧ True
def W_12 (σ : HS) (o : Nat) : Prop := (isC σ o ∧ kK σ o = 12) ∧ (pP σ o 5 = (o + 1) ∧ isC σ (o + 1) ∧ kK σ (o + 1) = 13 ∧ zZ σ (o + 1) = 125) ∧ (pP σ o 6 = (o + 2) ∧ isC σ (o + 2) ∧ kK σ (o + 2) = 13 ∧ zZ σ (o + 2) = 125) ∧ (pP σ o 7 = (o + 3) ∧ isC σ (o + 3) ∧ kK σ (o + 3) = 13 ∧ zZ σ (o + 3) = 125) ∧ (pP σ o 8 = (o + 4) ∧ isC σ (o + 4) ∧ kK σ (o + 4) = 13 ∧ zZ σ (o + 4) = 729) ∧ (pP σ o 9 = (o + 5) ∧ isC σ (o + 5) ∧ kK σ (o + 5) = 13 ∧ zZ σ (o + 5) = 27) ∧ (pP σ o 10 = (o + 6) ∧ isC σ (o + 6) ∧ kK σ (o + 6) = 13 ∧ zZ σ (o + 6) = 5) ∧ (pP σ o 11 = (o + 7) ∧ isC σ (o + 7) ∧ kK σ (o + 7) = 13 ∧ zZ σ (o + 7) = 12) ∧ (pP σ o 12 = (o + 8) ∧ isC σ (o + 8) ∧ kK σ (o + 8) = 13 ∧ zZ σ (o + 8) = 2) ∧ (pP σ o 14 = (o + 9) ∧ isC σ (o + 9) ∧ kK σ (o + 9) = 13 ∧ zZ σ (o + 9) = 100) ∧ (pP σ o 15 = (o + 10) ∧ isC σ (o + 10) ∧ kK σ (o + 10) = 13 ∧ zZ σ (o + 10) = 100) ∧ (pP σ o 16 = (o + 11) ∧ isC σ (o + 11) ∧ kK σ (o + 11) = 13 ∧ zZ σ (o + 11) = 100) ∧ (pP σ o 17 = (o + 12) ∧ isC σ (o + 12) ∧ kK σ (o + 12) = 13 ∧ zZ σ (o + 12) = 100) ∧ (pP σ o 20 = (o + 13) ∧ isC σ (o + 13) ∧ kK σ (o + 13) = 13 ∧ zZ σ (o + 13) = 400) ∧ (pP σ o 31 = (o + 14) ∧ isC σ (o + 14) ∧ kK σ (o + 14) = 14 ∧ zZ σ (o + 14) = 5) ∧ (pP σ o 32 = (o + 15) ∧ isC σ (o + 15) ∧ kK σ (o + 15) = 14 ∧ zZ σ (o + 15) = 5) ∧ (pP σ o 37 = (o + 16) ∧ isC σ (o + 16) ∧ kK σ (o + 16) = 13 ∧ zZ σ (o + 16) = 4000) ∧ (pP σ o 38 = (o + 17) ∧ isC σ (o + 17) ∧ kK σ (o + 17) = 13 ∧ zZ σ (o + 17) = 4000) ∧ (pP σ o 39 = (o + 18) ∧ isC σ (o + 18) ∧ kK σ (o + 18) = 13 ∧ zZ σ (o + 18) = 125) ∧ (pP σ o 40 = (o + 19) ∧ isC σ (o + 19) ∧ kK σ (o + 19) = 13 ∧ zZ σ (o + 19) = 10) ∧ (pP σ o 41 = (o + 20) ∧ isC σ (o + 20) ∧ kK σ (o + 20) = 13 ∧ zZ σ (o + 20) = 10) ∧ (pP σ o 42 = (o + 21) ∧ isC σ (o + 21) ∧ kK σ (o + 21) = 13 ∧ zZ σ (o + 21) = 5) ∧ (pP σ o 44 = (o + 22) ∧ isC σ (o + 22) ∧ kK σ (o + 22) = 13 ∧ zZ σ (o + 22) = 5) ∧ (pP σ o 48 = (o + 23) ∧ isC σ (o + 23) ∧ kK σ (o + 23) = 13 ∧ zZ σ (o + 23) = 9) ∧ (pP σ o 49 = (o + 24) ∧ isC σ (o + 24) ∧ kK σ (o + 24) = 13 ∧ zZ σ (o + 24) = 9) ∧ (pP σ o 53 = (o + 25) ∧ isC σ (o + 25) ∧ kK σ (o + 25) = 13 ∧ zZ σ (o + 25) = 25) ∧ (pP σ o 54 = (o + 26) ∧ isC σ (o + 26) ∧ kK σ (o + 26) = 13 ∧ zZ σ (o + 26) = 25) ∧ (pP σ o 55 = (o + 27) ∧ isC σ (o + 27) ∧ kK σ (o + 27) = 13 ∧ zZ σ (o + 27) = 729) ∧ (pP σ o 56 = (o + 28) ∧ isC σ (o + 28) ∧ kK σ (o + 28) = 13 ∧ zZ σ (o + 28) = 729) ∧ (pP σ o 57 = (o + 29) ∧ isC σ (o + 29) ∧ kK σ (o + 29) = 13 ∧ zZ σ (o + 29) = 729) ∧ (pP σ o 60 = (o + 30) ∧ isC σ (o + 30) ∧ kK σ (o + 30) = 13 ∧ zZ σ (o + 30) = 25) ∧ (pP σ o 61 = (o + 31) ∧ isC σ (o + 31) ∧ kK σ (o + 31) = 13 ∧ zZ σ (o + 31) = 25) ∧ (pP σ o 62 = (o + 32) ∧ isC σ (o + 32) ∧ kK σ (o + 32) = 13 ∧ zZ σ (o + 32) = 25) ∧ (pP σ o 63 = (o + 33) ∧ isC σ (o + 33) ∧ kK σ (o + 33) = 13 ∧ zZ σ (o + 33) = 5) ∧ (pP σ o 64 = (o + 34) ∧ isC σ (o + 34) ∧ kK σ (o + 34) = 13 ∧ zZ σ (o + 34) = 5) ∧ (pP σ o 68 = (o + 35) ∧ isC σ (o + 35) ∧ kK σ (o + 35) = 13 ∧ zZ σ (o + 35) = 5) ∧ (pP σ o 69 = (o + 36) ∧ isC σ (o + 36) ∧ kK σ (o + 36) = 13 ∧ zZ σ (o + 36) = 25) ∧ (pP σ o 70 = (o + 37) ∧ isC σ (o + 37) ∧ kK σ (o + 37) = 13 ∧ zZ σ (o + 37) = 25) ∧ (pP σ o 71 = (o + 38) ∧ isC σ (o + 38) ∧ kK σ (o + 38) = 13 ∧ zZ σ (o + 38) = 25) ∧ (pP σ o 72 = (o + 39) ∧ isC σ (o + 39) ∧ kK σ (o + 39) = 13 ∧ zZ σ (o + 39) = 25) ∧ (pP σ o 73 = (o + 40) ∧ isC σ (o + 40) ∧ kK σ (o + 40) = 13 ∧ zZ σ (o + 40) = 25) ∧ (pP σ o 75 = (o + 41) ∧ isC σ (o + 41) ∧ kK σ (o + 41) = 13 ∧ zZ σ (o + 41) = 5) ∧ (pP σ o 80 = (o + 42) ∧ isC σ (o + 42) ∧ kK σ (o + 42) = 13 ∧ zZ σ (o + 42) = 125) ∧ (pP σ o 81 = (o + 43) ∧ isC σ (o + 43) ∧ kK σ (o + 43) = 13 ∧ zZ σ (o + 43) = 729) ∧ (pP σ o 82 = (o + 44) ∧ isC σ (o + 44) ∧ kK σ (o + 44) = 13 ∧ zZ σ (o + 44) = 27) ∧ (pP σ o 83 = (o + 45) ∧ isC σ (o + 45) ∧ kK σ (o + 45) = 13 ∧ zZ σ (o + 45) = 5) ∧ (pP σ o 84 = (o + 46) ∧ isC σ (o + 46) ∧ kK σ (o + 46) = 13 ∧ zZ σ (o + 46) = 12) ∧ (pP σ o 85 = (o + 47) ∧ isC σ (o + 47) ∧ kK σ (o + 47) = 13 ∧ zZ σ (o + 47) = 2) ∧ True
def W_11 (σ : HS) (o : Nat) : Prop := (isC σ o ∧ kK σ o = 11) ∧ (pP σ o 0 = (o + 1) ∧ W_6 σ (o + 1)) ∧ (pP σ o 1 = (o + 16) ∧ W_6 σ (o + 16)) ∧ (pP σ o 3 = (o + 31) ∧ W_8 σ (o + 31)) ∧ (pP σ o 5 = (o + 37) ∧ W_8 σ (o + 37)) ∧ (pP σ o 6 = (o + 43) ∧ isC σ (o + 43) ∧ kK σ (o + 43) = 13 ∧ zZ σ (o + 43) = 400) ∧ (pP σ o 9 = (o + 44) ∧ W_4 σ (o + 44)) ∧ (pP σ o 10 = (o + 45) ∧ W_2 σ (o + 45)) ∧ (pP σ o 11 = (o + 53) ∧ W_7 σ (o + 53)) ∧ (pP σ o 12 = (o + 57) ∧ W_3 σ (o + 57)) ∧ (pP σ o 13 = (o + 60) ∧ W_1 σ (o + 60)) ∧ (pP σ o 14 = (o + 67) ∧ W_10 σ (o + 67)) ∧ (pP σ o 15 = (o + 80) ∧ W_5 σ (o + 80)) ∧ (pP σ o 16 = (o + 100) ∧ W_0 σ (o + 100)) ∧ True
theorem ne9 {σ : HS} {q : Nat} (h : isC σ q) : q ≠ 0 := fun h9 => by have := h.1; omega
