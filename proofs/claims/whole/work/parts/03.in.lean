set_option maxRecDepth 20000 in
theorem in_r1 : ∀ w ∈ wsL_law_r1, w ∈ lw_tbl := fun w h => (goodIn_p wsL_law_r1 [132, 135] rfl (by decide +kernel) w h).1
set_option maxRecDepth 20000 in
theorem in_r2 : ∀ w ∈ wsL_law_r2, w ∈ lw_tbl := fun w h => (goodIn_p wsL_law_r2 [] rfl (by decide +kernel) w h).1
set_option maxRecDepth 20000 in
theorem in_r3 : ∀ w ∈ wsL_law_r3, w ∈ lw_tbl := fun w h => (goodIn_p wsL_law_r3 [140, 146, 214, 230] rfl (by decide +kernel) w h).1
set_option maxRecDepth 20000 in
theorem in_r4 : ∀ w ∈ wsL_law_r4, w ∈ lw_tbl := fun w h => (goodIn_p wsL_law_r4 [236, 345, 368] rfl (by decide +kernel) w h).1
set_option maxRecDepth 20000 in
theorem in_r5 : ∀ w ∈ wsL_law_r5, w ∈ lw_tbl := fun w h => (goodIn_p wsL_law_r5 [383, 1226] rfl (by decide +kernel) w h).1
set_option maxRecDepth 20000 in
theorem in_r6 : ∀ w ∈ wsL_law_r6, w ∈ lw_tbl := fun w h => (goodIn_p wsL_law_r6 [1230, 440, 443, 446, 449, 452] rfl (by decide +kernel) w h).1
set_option maxRecDepth 20000 in
theorem in_r7 : ∀ w ∈ wsL_law_r7, w ∈ lw_tbl := fun w h => (goodIn_p wsL_law_r7 [455, 459, 1345, 1348, 1352, 1356] rfl (by decide +kernel) w h).1
set_option maxRecDepth 20000 in
theorem in_r8 : ∀ w ∈ wsL_law_r8, w ∈ lw_tbl := fun w h => (goodIn_p wsL_law_r8 [1360, 463, 467, 1364, 1368] rfl (by decide +kernel) w h).1
set_option maxRecDepth 20000 in
theorem in_r9 : ∀ w ∈ wsL_law_r9, w ∈ lw_tbl := fun w h => (goodIn_p wsL_law_r9 [471, 1372, 475, 479, 486] rfl (by decide +kernel) w h).1
set_option maxRecDepth 20000 in
theorem in_r10 : ∀ w ∈ wsL_law_r10, w ∈ lw_tbl := fun w h => (goodIn_p wsL_law_r10 [483, 490, 493, 496, 499, 502] rfl (by decide +kernel) w h).1
set_option maxRecDepth 20000 in
theorem in_r11 : ∀ w ∈ wsL_law_r11, w ∈ lw_tbl := fun w h => (goodIn_p wsL_law_r11 [505, 508, 513, 517, 522, 525] rfl (by decide +kernel) w h).1
set_option maxRecDepth 20000 in
theorem in_r12 : ∀ w ∈ wsL_law_r12, w ∈ lw_tbl := fun w h => (goodIn_p wsL_law_r12 [530, 533, 536, 539, 543] rfl (by decide +kernel) w h).1
set_option maxRecDepth 20000 in
theorem in_r13 : ∀ w ∈ wsL_law_r13, w ∈ lw_tbl := fun w h => (goodIn_p wsL_law_r13 [554, 558, 562, 566, 569, 575, 572] rfl (by decide +kernel) w h).1
set_option maxRecDepth 20000 in
theorem in_r14 : ∀ w ∈ wsL_law_r14, w ∈ lw_tbl := fun w h => (goodIn_p wsL_law_r14 [579, 582, 588, 591, 594, 597, 600] rfl (by decide +kernel) w h).1
set_option maxRecDepth 20000 in
theorem in_r15 : ∀ w ∈ wsL_law_r15, w ∈ lw_tbl := fun w h => (goodIn_p wsL_law_r15 [603, 606, 609, 613, 617, 621] rfl (by decide +kernel) w h).1
set_option maxRecDepth 20000 in
theorem in_r16 : ∀ w ∈ wsL_law_r16, w ∈ lw_tbl := fun w h => (goodIn_p wsL_law_r16 [625, 628, 633, 637, 641, 645] rfl (by decide +kernel) w h).1
set_option maxRecDepth 20000 in
theorem in_r17 : ∀ w ∈ wsL_law_r17, w ∈ lw_tbl := fun w h => (goodIn_p wsL_law_r17 [649, 653, 657, 661, 693] rfl (by decide +kernel) w h).1
set_option maxRecDepth 20000 in
theorem in_r18 : ∀ w ∈ wsL_law_r18, w ∈ lw_tbl := fun w h => (goodIn_p wsL_law_r18 [677, 685, 689, 669, 673, 681] rfl (by decide +kernel) w h).1
set_option maxRecDepth 20000 in
theorem in_r19 : ∀ w ∈ wsL_law_r19, w ∈ lw_tbl := fun w h => (goodIn_p wsL_law_r19 [665, 696, 700, 704, 708, 1376] rfl (by decide +kernel) w h).1
set_option maxRecDepth 20000 in
theorem in_r20 : ∀ w ∈ wsL_law_r20, w ∈ lw_tbl := fun w h => (goodIn_p wsL_law_r20 [1380, 1384, 1388] rfl (by decide +kernel) w h).1
set_option maxRecDepth 20000 in
theorem in_r21 : ∀ w ∈ wsL_law_r21, w ∈ lw_tbl := fun w h => (goodIn_p wsL_law_r21 [1391, 1395, 1399, 1403, 1407, 1410, 1413] rfl (by decide +kernel) w h).1
set_option maxRecDepth 20000 in
theorem in_r22 : ∀ w ∈ wsL_law_r22, w ∈ lw_tbl := fun w h => (goodIn_p wsL_law_r22 [1416, 1419, 1423, 1426, 1429, 1433, 1437] rfl (by decide +kernel) w h).1
set_option maxRecDepth 20000 in
theorem in_r23 : ∀ w ∈ wsL_law_r23, w ∈ lw_tbl := fun w h => (goodIn_p wsL_law_r23 [1441, 1445, 1449, 1453, 1457, 1461] rfl (by decide +kernel) w h).1
set_option maxRecDepth 20000 in
theorem in_r24 : ∀ w ∈ wsL_law_r24, w ∈ lw_tbl := fun w h => (goodIn_p wsL_law_r24 [1465, 1469, 1473, 1477, 1480] rfl (by decide +kernel) w h).1
set_option maxRecDepth 20000 in
theorem in_r25 : ∀ w ∈ wsL_law_r25, w ∈ lw_tbl := fun w h => (goodIn_p wsL_law_r25 [1484, 1488, 1492, 1496, 1500, 1504] rfl (by decide +kernel) w h).1
set_option maxRecDepth 20000 in
theorem in_r26 : ∀ w ∈ wsL_law_r26, w ∈ lw_tbl := fun w h => (goodIn_p wsL_law_r26 [1508, 1512, 716, 1516, 720, 724] rfl (by decide +kernel) w h).1
set_option maxRecDepth 20000 in
theorem in_r27 : ∀ w ∈ wsL_law_r27, w ∈ lw_tbl := fun w h => (goodIn_p wsL_law_r27 [1520, 728, 732, 736, 740, 744] rfl (by decide +kernel) w h).1
set_option maxRecDepth 20000 in
theorem in_r28 : ∀ w ∈ wsL_law_r28, w ∈ lw_tbl := fun w h => (goodIn_p wsL_law_r28 [748, 752, 758, 762] rfl (by decide +kernel) w h).1
set_option maxRecDepth 20000 in
theorem in_r29 : ∀ w ∈ wsL_law_r29, w ∈ lw_tbl := fun w h => (goodIn_p wsL_law_r29 [766, 770, 774, 779, 783] rfl (by decide +kernel) w h).1
set_option maxRecDepth 20000 in
theorem in_r30 : ∀ w ∈ wsL_law_r30, w ∈ lw_tbl := fun w h => (goodIn_p wsL_law_r30 [787, 791, 794, 801, 805] rfl (by decide +kernel) w h).1
set_option maxRecDepth 20000 in
theorem in_r31 : ∀ w ∈ wsL_law_r31, w ∈ lw_tbl := fun w h => (goodIn_p wsL_law_r31 [811, 815, 819, 824, 827] rfl (by decide +kernel) w h).1
set_option maxRecDepth 20000 in
theorem in_r32 : ∀ w ∈ wsL_law_r32, w ∈ lw_tbl := fun w h => (goodIn_p wsL_law_r32 [832, 835, 838, 841, 844, 1528, 1532] rfl (by decide +kernel) w h).1
set_option maxRecDepth 20000 in
theorem in_r33 : ∀ w ∈ wsL_law_r33, w ∈ lw_tbl := fun w h => (goodIn_p wsL_law_r33 [1536, 1540, 1544, 1548, 1552, 1556] rfl (by decide +kernel) w h).1
set_option maxRecDepth 20000 in
theorem in_r34 : ∀ w ∈ wsL_law_r34, w ∈ lw_tbl := fun w h => (goodIn_p wsL_law_r34 [1560, 1564, 1567, 1571, 1575, 1579] rfl (by decide +kernel) w h).1
set_option maxRecDepth 20000 in
theorem in_r35 : ∀ w ∈ wsL_law_r35, w ∈ lw_tbl := fun w h => (goodIn_p wsL_law_r35 [1583, 1586, 1591, 1594, 1599, 1602] rfl (by decide +kernel) w h).1
set_option maxRecDepth 20000 in
theorem in_r36 : ∀ w ∈ wsL_law_r36, w ∈ lw_tbl := fun w h => (goodIn_p wsL_law_r36 [1605, 1608, 848, 852, 858, 1612] rfl (by decide +kernel) w h).1
set_option maxRecDepth 20000 in
theorem in_r37 : ∀ w ∈ wsL_law_r37, w ∈ lw_tbl := fun w h => (goodIn_p wsL_law_r37 [862, 866, 870, 875, 1616, 1620] rfl (by decide +kernel) w h).1
set_option maxRecDepth 20000 in
theorem in_r38 : ∀ w ∈ wsL_law_r38, w ∈ lw_tbl := fun w h => (goodIn_p wsL_law_r38 [1624, 1628, 880, 884, 889] rfl (by decide +kernel) w h).1
set_option maxRecDepth 20000 in
theorem in_r39 : ∀ w ∈ wsL_law_r39, w ∈ lw_tbl := fun w h => (goodIn_p wsL_law_r39 [1635, 1639, 1643, 894, 898, 902] rfl (by decide +kernel) w h).1
set_option maxRecDepth 20000 in
theorem in_r40 : ∀ w ∈ wsL_law_r40, w ∈ lw_tbl := fun w h => (goodIn_p wsL_law_r40 [907, 913, 1647, 1651] rfl (by decide +kernel) w h).1
set_option maxRecDepth 20000 in
theorem in_r41 : ∀ w ∈ wsL_law_r41, w ∈ lw_tbl := fun w h => (goodIn_p wsL_law_r41 [1655, 1659, 1663, 1667, 917, 921] rfl (by decide +kernel) w h).1
set_option maxRecDepth 20000 in
theorem in_r42 : ∀ w ∈ wsL_law_r42, w ∈ lw_tbl := fun w h => (goodIn_p wsL_law_r42 [925, 930, 937, 1671, 1675] rfl (by decide +kernel) w h).1
set_option maxRecDepth 20000 in
theorem in_r43 : ∀ w ∈ wsL_law_r43, w ∈ lw_tbl := fun w h => (goodIn_p wsL_law_r43 [943, 947, 1684, 1688] rfl (by decide +kernel) w h).1
set_option maxRecDepth 20000 in
theorem in_r44 : ∀ w ∈ wsL_law_r44, w ∈ lw_tbl := fun w h => (goodIn_p wsL_law_r44 [952, 956, 1524, 961] rfl (by decide +kernel) w h).1
set_option maxRecDepth 20000 in
theorem in_r45 : ∀ w ∈ wsL_law_r45, w ∈ lw_tbl := fun w h => (goodIn_p wsL_law_r45 [967, 1692, 974, 1696, 980] rfl (by decide +kernel) w h).1
set_option maxRecDepth 20000 in
theorem in_r46 : ∀ w ∈ wsL_law_r46, w ∈ lw_tbl := fun w h => (goodIn_p wsL_law_r46 [984, 989, 993, 1700, 1704, 997] rfl (by decide +kernel) w h).1
set_option maxRecDepth 20000 in
theorem in_r47 : ∀ w ∈ wsL_law_r47, w ∈ lw_tbl := fun w h => (goodIn_p wsL_law_r47 [1001, 1720, 1724, 1728, 1732, 1006] rfl (by decide +kernel) w h).1
set_option maxRecDepth 20000 in
theorem in_r48 : ∀ w ∈ wsL_law_r48, w ∈ lw_tbl := fun w h => (goodIn_p wsL_law_r48 [1010, 1744, 1748, 1014, 1752, 1018] rfl (by decide +kernel) w h).1
set_option maxRecDepth 20000 in
theorem in_r49 : ∀ w ∈ wsL_law_r49, w ∈ lw_tbl := fun w h => (goodIn_p wsL_law_r49 [1022, 1756, 1760, 1027, 1031] rfl (by decide +kernel) w h).1
set_option maxRecDepth 20000 in
theorem in_r50 : ∀ w ∈ wsL_law_r50, w ∈ lw_tbl := fun w h => (goodIn_p wsL_law_r50 [1764, 1035, 1768, 1040, 1736, 1044] rfl (by decide +kernel) w h).1
set_option maxRecDepth 20000 in
theorem in_r51 : ∀ w ∈ wsL_law_r51, w ∈ lw_tbl := fun w h => (goodIn_p wsL_law_r51 [1772, 1048, 1052, 1056] rfl (by decide +kernel) w h).1
set_option maxRecDepth 20000 in
theorem in_r52 : ∀ w ∈ wsL_law_r52, w ∈ lw_tbl := fun w h => (goodIn_p wsL_law_r52 [1063, 1067, 1071] rfl (by decide +kernel) w h).1
set_option maxRecDepth 20000 in
theorem in_r53 : ∀ w ∈ wsL_law_r53, w ∈ lw_tbl := fun w h => (goodIn_p wsL_law_r53 [1075, 1776, 1780, 1784, 1789] rfl (by decide +kernel) w h).1
set_option maxRecDepth 20000 in
theorem in_r54 : ∀ w ∈ wsL_law_r54, w ∈ lw_tbl := fun w h => (goodIn_p wsL_law_r54 [1079, 1083, 1793, 1796, 1087, 1091] rfl (by decide +kernel) w h).1
set_option maxRecDepth 20000 in
theorem in_r55 : ∀ w ∈ wsL_law_r55, w ∈ lw_tbl := fun w h => (goodIn_p wsL_law_r55 [1800, 1096, 1100, 1104, 1805] rfl (by decide +kernel) w h).1
set_option maxRecDepth 20000 in
theorem in_r56 : ∀ w ∈ wsL_law_r56, w ∈ lw_tbl := fun w h => (goodIn_p wsL_law_r56 [1809, 1109, 1813, 1113, 1118] rfl (by decide +kernel) w h).1
set_option maxRecDepth 20000 in
theorem in_r57 : ∀ w ∈ wsL_law_r57, w ∈ lw_tbl := fun w h => (goodIn_p wsL_law_r57 [1122, 1817, 1821, 1825, 1829, 1127] rfl (by decide +kernel) w h).1
set_option maxRecDepth 20000 in
theorem in_r58 : ∀ w ∈ wsL_law_r58, w ∈ lw_tbl := fun w h => (goodIn_p wsL_law_r58 [1131, 1833, 1837, 1135, 1139] rfl (by decide +kernel) w h).1
set_option maxRecDepth 20000 in
theorem in_r59 : ∀ w ∈ wsL_law_r59, w ∈ lw_tbl := fun w h => (goodIn_p wsL_law_r59 [1142, 1146, 1841, 1845, 1849] rfl (by decide +kernel) w h).1
set_option maxRecDepth 20000 in
theorem in_r60 : ∀ w ∈ wsL_law_r60, w ∈ lw_tbl := fun w h => (goodIn_p wsL_law_r60 [1853, 1857, 1153, 1861, 1157] rfl (by decide +kernel) w h).1
set_option maxRecDepth 20000 in
theorem in_r61 : ∀ w ∈ wsL_law_r61, w ∈ lw_tbl := fun w h => (goodIn_p wsL_law_r61 [1865, 1161, 1165, 1869, 1873, 1169] rfl (by decide +kernel) w h).1
set_option maxRecDepth 20000 in
theorem in_r62 : ∀ w ∈ wsL_law_r62, w ∈ lw_tbl := fun w h => (goodIn_p wsL_law_r62 [1877, 1173, 1177, 1881, 1885, 1182] rfl (by decide +kernel) w h).1
set_option maxRecDepth 20000 in
theorem in_r63 : ∀ w ∈ wsL_law_r63, w ∈ lw_tbl := fun w h => (goodIn_p wsL_law_r63 [1186, 1740, 1190, 1194, 1708] rfl (by decide +kernel) w h).1
set_option maxRecDepth 20000 in
theorem in_r64 : ∀ w ∈ wsL_law_r64, w ∈ lw_tbl := fun w h => (goodIn_p wsL_law_r64 [1712, 1200, 1716, 1204, 1889, 1892] rfl (by decide +kernel) w h).1
set_option maxRecDepth 20000 in
theorem in_r65 : ∀ w ∈ wsL_law_r65, w ∈ lw_tbl := fun w h => (goodIn_p wsL_law_r65 [1208, 1212, 1896, 1217, 1900, 1221] rfl (by decide +kernel) w h).1
set_option maxRecDepth 20000 in
theorem in_r66 : ∀ w ∈ wsL_law_r66, w ∈ lw_tbl := fun w h => (goodIn_p wsL_law_r66 [1904] rfl (by decide +kernel) w h).1
theorem in_wsX80 : ∀ w ∈ wsX80, w ∈ lw_tbl := by decide +kernel
theorem in_wsX90 : ∀ w ∈ wsX90, w ∈ lw_tbl := by decide +kernel
theorem in_wsX40 : ∀ w ∈ wsX40, w ∈ lw_tbl := by decide +kernel
theorem in_wsX50 : ∀ w ∈ wsX50, w ∈ lw_tbl := by decide +kernel
theorem in_wsX30 : ∀ w ∈ wsX30, w ∈ lw_tbl := by decide +kernel
theorem in_wsX70 : ∀ w ∈ wsX70, w ∈ lw_tbl := by decide +kernel
theorem in_wsX60 : ∀ w ∈ wsX60, w ∈ lw_tbl := by decide +kernel
theorem in_wsX20 : ∀ w ∈ wsX20, w ∈ lw_tbl := by decide +kernel
theorem in_wsX10 : ∀ w ∈ wsX10, w ∈ lw_tbl := by decide +kernel
theorem in_wsX00 : ∀ w ∈ wsX00, w ∈ lw_tbl := by decide +kernel
theorem wsL_law_in : ∀ w ∈ wsL_law, w ∈ lw_tbl := List.forall_mem_append.mpr ⟨(List.forall_mem_append.mpr ⟨(List.forall_mem_append.mpr ⟨(List.forall_mem_append.mpr ⟨(List.forall_mem_append.mpr ⟨(List.forall_mem_append.mpr ⟨(List.forall_mem_append.mpr ⟨(List.forall_mem_append.mpr ⟨(List.forall_mem_append.mpr ⟨(List.forall_mem_append.mpr ⟨(List.forall_mem_append.mpr ⟨(List.forall_mem_append.mpr ⟨in_r1, (List.forall_mem_append.mpr ⟨in_r2, (List.forall_mem_append.mpr ⟨in_r3, (List.forall_mem_append.mpr ⟨in_r4, (List.forall_mem_append.mpr ⟨in_r5, (List.forall_mem_append.mpr ⟨in_r6, (List.forall_mem_append.mpr ⟨in_r7, (List.forall_mem_append.mpr ⟨in_r8, (List.forall_mem_append.mpr ⟨in_r9, (List.forall_mem_append.mpr ⟨in_r10, (List.forall_mem_append.mpr ⟨in_r11, (List.forall_mem_append.mpr ⟨in_r12, (List.forall_mem_append.mpr ⟨in_r13, (List.forall_mem_append.mpr ⟨in_r14, (List.forall_mem_append.mpr ⟨in_r15, (List.forall_mem_append.mpr ⟨in_r16, (List.forall_mem_append.mpr ⟨in_r17, (List.forall_mem_append.mpr ⟨in_r18, (List.forall_mem_append.mpr ⟨in_r19, (List.forall_mem_append.mpr ⟨in_r20, (List.forall_mem_append.mpr ⟨in_r21, (List.forall_mem_append.mpr ⟨in_r22, (List.forall_mem_append.mpr ⟨in_r23, (List.forall_mem_append.mpr ⟨in_r24, (List.forall_mem_append.mpr ⟨in_r25, (List.forall_mem_append.mpr ⟨in_r26, (List.forall_mem_append.mpr ⟨in_r27, (List.forall_mem_append.mpr ⟨in_r28, (List.forall_mem_append.mpr ⟨in_r29, (List.forall_mem_append.mpr ⟨in_r30, (List.forall_mem_append.mpr ⟨in_r31, (List.forall_mem_append.mpr ⟨in_r32, (List.forall_mem_append.mpr ⟨in_r33, (List.forall_mem_append.mpr ⟨in_r34, (List.forall_mem_append.mpr ⟨in_r35, (List.forall_mem_append.mpr ⟨in_r36, (List.forall_mem_append.mpr ⟨in_r37, (List.forall_mem_append.mpr ⟨in_r38, (List.forall_mem_append.mpr ⟨in_r39, (List.forall_mem_append.mpr ⟨in_r40, (List.forall_mem_append.mpr ⟨in_r41, (List.forall_mem_append.mpr ⟨in_r42, (List.forall_mem_append.mpr ⟨in_r43, (List.forall_mem_append.mpr ⟨in_r44, (List.forall_mem_append.mpr ⟨in_r45, (List.forall_mem_append.mpr ⟨in_r46, (List.forall_mem_append.mpr ⟨in_r47, (List.forall_mem_append.mpr ⟨in_r48, (List.forall_mem_append.mpr ⟨in_r49, (List.forall_mem_append.mpr ⟨in_r50, (List.forall_mem_append.mpr ⟨in_r51, (List.forall_mem_append.mpr ⟨in_r52, (List.forall_mem_append.mpr ⟨in_r53, (List.forall_mem_append.mpr ⟨in_r54, (List.forall_mem_append.mpr ⟨in_r55, (List.forall_mem_append.mpr ⟨in_r56, (List.forall_mem_append.mpr ⟨in_r57, (List.forall_mem_append.mpr ⟨in_r58, (List.forall_mem_append.mpr ⟨in_r59, (List.forall_mem_append.mpr ⟨in_r60, (List.forall_mem_append.mpr ⟨in_r61, (List.forall_mem_append.mpr ⟨in_r62, (List.forall_mem_append.mpr ⟨in_r63, (List.forall_mem_append.mpr ⟨in_r64, (List.forall_mem_append.mpr ⟨in_r65, in_r66⟩)⟩)⟩)⟩)⟩)⟩)⟩)⟩)⟩)⟩)⟩)⟩)⟩)⟩)⟩)⟩)⟩)⟩)⟩)⟩)⟩)⟩)⟩)⟩)⟩)⟩)⟩)⟩)⟩)⟩)⟩)⟩)⟩)⟩)⟩)⟩)⟩)⟩)⟩)⟩)⟩)⟩)⟩)⟩)⟩)⟩)⟩)⟩)⟩)⟩)⟩)⟩)⟩)⟩)⟩)⟩)⟩)⟩)⟩)⟩)⟩)⟩)⟩)⟩)⟩), in_wsX80⟩), in_wsX90⟩), in_wsX40⟩), in_wsX50⟩), in_wsX30⟩), in_wsX70⟩), in_wsX60⟩), in_wsX20⟩), in_wsX10⟩), in_wsX00⟩), fun _ h => absurd h List.not_mem_nil⟩
