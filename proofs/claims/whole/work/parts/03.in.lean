set_option maxRecDepth 20000 in
theorem in_r1 : ∀ w ∈ wsL_law_r1, w ∈ lw_tbl := fun w h => (goodIn_r wsL_law_r1 [128, 129, 110, 1222, 1223, 119, 130, 131, 132, 133, 134, 135, 175, 397, 136, 137, 111, 400, 207, 401, 143, 112, 402, 210] rfl (by decide +kernel) w h).1
set_option maxRecDepth 20000 in
theorem in_r2 : ∀ w ∈ wsL_law_r2, w ∈ lw_tbl := fun w h => (goodIn_r wsL_law_r2 [211, 113, 403, 226, 227, 114, 404, 405, 339, 233, 115, 406, 341, 342, 116, 407, 364, 365, 117, 408, 379, 380, 118, 409] rfl (by decide +kernel) w h).1
set_option maxRecDepth 20000 in
theorem in_r3 : ∀ w ∈ wsL_law_r3, w ∈ lw_tbl := fun w h => (goodIn_r wsL_law_r3 [139, 140, 141, 142, 176, 180, 182, 183, 184, 145, 146, 147, 148, 152, 155, 158, 213, 214, 215, 216, 217, 228, 229, 230] rfl (by decide +kernel) w h).1
set_option maxRecDepth 20000 in
theorem in_r4 : ∀ w ∈ wsL_law_r4, w ∈ lw_tbl := fun w h => (goodIn_r wsL_law_r4 [231, 232, 283, 286, 292, 294, 297, 300, 306, 308, 235, 236, 237, 238, 242, 245, 248, 261, 344, 345, 346, 367, 368, 369] rfl (by decide +kernel) w h).1
set_option maxRecDepth 20000 in
theorem in_r5 : ∀ w ∈ wsL_law_r5, w ∈ lw_tbl := fun w h => (goodIn_r wsL_law_r5 [370, 382, 383, 384, 387, 389, 1224, 1225, 1226, 1227, 1231, 1232, 1233, 1234, 1236, 1237, 1246, 1252, 1340, 1253, 1341, 1254, 1255, 1260] rfl (by decide +kernel) w h).1
set_option maxRecDepth 20000 in
theorem in_r6 : ∀ w ∈ wsL_law_r6, w ∈ lw_tbl := fun w h => (goodIn_r wsL_law_r6 [1263, 1264, 1265, 1266, 1228, 1229, 1230, 437, 438, 439, 440, 285, 441, 442, 443, 444, 445, 446, 447, 448, 449, 450, 451, 452] rfl (by decide +kernel) w h).1
set_option maxRecDepth 20000 in
theorem in_r7 : ∀ w ∈ wsL_law_r7, w ∈ lw_tbl := fun w h => (goodIn_r wsL_law_r7 [453, 454, 455, 456, 457, 458, 459, 252, 1342, 1343, 1344, 1345, 1346, 1347, 1348, 1349, 1351, 33, 1352, 1353, 1355, 34, 1356, 1357] rfl (by decide +kernel) w h).1
set_option maxRecDepth 20000 in
theorem in_r8 : ∀ w ∈ wsL_law_r8, w ∈ lw_tbl := fun w h => (goodIn_r wsL_law_r8 [1359, 35, 1360, 460, 461, 462, 463, 398, 464, 466, 0, 467, 1361, 1362, 1363, 1364, 1235, 1365, 1367, 36, 1368, 468, 469, 470] rfl (by decide +kernel) w h).1
set_option maxRecDepth 20000 in
theorem in_r9 : ∀ w ∈ wsL_law_r9, w ∈ lw_tbl := fun w h => (goodIn_r wsL_law_r9 [471, 1369, 1370, 1371, 1372, 472, 473, 474, 475, 291, 399, 179, 177, 476, 477, 478, 479, 178, 186, 484, 485, 120, 486, 480] rfl (by decide +kernel) w h).1
set_option maxRecDepth 20000 in
theorem in_r10 : ∀ w ∈ wsL_law_r10, w ∈ lw_tbl := fun w h => (goodIn_r wsL_law_r10 [481, 482, 483, 150, 159, 487, 489, 1, 490, 185, 491, 492, 493, 494, 495, 496, 497, 498, 499, 500, 501, 502, 503, 504] rfl (by decide +kernel) w h).1
set_option maxRecDepth 20000 in
theorem in_r11 : ∀ w ∈ wsL_law_r11, w ∈ lw_tbl := fun w h => (goodIn_r wsL_law_r11 [505, 506, 507, 508, 510, 511, 512, 121, 513, 1906, 514, 515, 516, 517, 518, 1905, 520, 521, 122, 522, 523, 524, 525, 526] rfl (by decide +kernel) w h).1
set_option maxRecDepth 20000 in
theorem in_r12 : ∀ w ∈ wsL_law_r12, w ∈ lw_tbl := fun w h => (goodIn_r wsL_law_r12 [528, 529, 123, 530, 531, 532, 124, 533, 534, 535, 536, 537, 538, 539, 540, 541, 542, 543, 544, 546, 548, 551, 552, 553] rfl (by decide +kernel) w h).1
set_option maxRecDepth 20000 in
theorem in_r13 : ∀ w ∈ wsL_law_r13, w ∈ lw_tbl := fun w h => (goodIn_r wsL_law_r13 [554, 555, 556, 557, 558, 559, 560, 561, 562, 563, 564, 565, 566, 567, 568, 569, 573, 574, 575, 576, 570, 571, 572, 577] rfl (by decide +kernel) w h).1
set_option maxRecDepth 20000 in
theorem in_r14 : ∀ w ∈ wsL_law_r14, w ∈ lw_tbl := fun w h => (goodIn_r wsL_law_r14 [578, 579, 580, 581, 582, 583, 584, 585, 586, 587, 588, 589, 590, 591, 592, 593, 594, 595, 596, 597, 598, 599, 600, 601] rfl (by decide +kernel) w h).1
set_option maxRecDepth 20000 in
theorem in_r15 : ∀ w ∈ wsL_law_r15, w ∈ lw_tbl := fun w h => (goodIn_r wsL_law_r15 [602, 603, 604, 605, 125, 606, 607, 608, 609, 610, 611, 612, 613, 614, 615, 616, 617, 618, 620, 2, 621, 622, 624, 3] rfl (by decide +kernel) w h).1
set_option maxRecDepth 20000 in
theorem in_r16 : ∀ w ∈ wsL_law_r16, w ∈ lw_tbl := fun w h => (goodIn_r wsL_law_r16 [625, 161, 626, 627, 628, 630, 632, 4, 633, 634, 635, 636, 637, 638, 640, 5, 641, 642, 644, 6, 645, 187, 154, 151] rfl (by decide +kernel) w h).1
set_option maxRecDepth 20000 in
theorem in_r17 : ∀ w ∈ wsL_law_r17, w ∈ lw_tbl := fun w h => (goodIn_r wsL_law_r17 [157, 646, 648, 7, 649, 650, 652, 8, 653, 654, 656, 9, 657, 658, 660, 10, 661, 662, 664, 11, 690, 692, 17, 693] rfl (by decide +kernel) w h).1
set_option maxRecDepth 20000 in
theorem in_r18 : ∀ w ∈ wsL_law_r18, w ∈ lw_tbl := fun w h => (goodIn_r wsL_law_r18 [674, 675, 676, 677, 685, 686, 688, 16, 689, 666, 668, 12, 669, 670, 672, 13, 673, 678, 680, 14, 681, 682, 684, 15] rfl (by decide +kernel) w h).1
set_option maxRecDepth 20000 in
theorem in_r19 : ∀ w ∈ wsL_law_r19, w ∈ lw_tbl := fun w h => (goodIn_r wsL_law_r19 [665, 694, 695, 696, 697, 698, 699, 700, 701, 703, 18, 704, 705, 706, 707, 708, 709, 711, 710, 126, 1373, 1374, 1375, 1376] rfl (by decide +kernel) w h).1
set_option maxRecDepth 20000 in
theorem in_r20 : ∀ w ∈ wsL_law_r20, w ∈ lw_tbl := fun w h => (goodIn_r wsL_law_r20 [1239, 1377, 1379, 37, 1380, 1243, 1244, 1251, 1238, 1240, 1381, 1383, 38, 1384, 1241, 1392, 1242, 1396, 1385, 1387, 39, 1388, 1389, 1390] rfl (by decide +kernel) w h).1
set_option maxRecDepth 20000 in
theorem in_r21 : ∀ w ∈ wsL_law_r21, w ∈ lw_tbl := fun w h => (goodIn_r wsL_law_r21 [1391, 1393, 1394, 1395, 1397, 1398, 1399, 1400, 1402, 40, 1403, 1245, 1404, 1406, 41, 1407, 1408, 1409, 1410, 1411, 1412, 1413, 1414, 1415] rfl (by decide +kernel) w h).1
set_option maxRecDepth 20000 in
theorem in_r22 : ∀ w ∈ wsL_law_r22, w ∈ lw_tbl := fun w h => (goodIn_r wsL_law_r22 [1416, 1417, 1418, 1419, 1420, 1422, 42, 1423, 1424, 1425, 1426, 1427, 1428, 1429, 1430, 1432, 43, 1433, 1434, 1436, 44, 1437, 1438, 1440] rfl (by decide +kernel) w h).1
set_option maxRecDepth 20000 in
theorem in_r23 : ∀ w ∈ wsL_law_r23, w ∈ lw_tbl := fun w h => (goodIn_r wsL_law_r23 [45, 1441, 1442, 1444, 46, 1445, 1446, 1448, 47, 1449, 1450, 1452, 48, 1453, 1454, 1456, 49, 1457, 1458, 1460, 50, 1461, 1247, 1248] rfl (by decide +kernel) w h).1
set_option maxRecDepth 20000 in
theorem in_r24 : ∀ w ∈ wsL_law_r24, w ∈ lw_tbl := fun w h => (goodIn_r wsL_law_r24 [1249, 1250, 1462, 1464, 51, 1465, 1466, 1468, 52, 1469, 1470, 1472, 53, 1473, 1474, 1476, 54, 1477, 1478, 1479, 1480, 1481, 1483, 55] rfl (by decide +kernel) w h).1
set_option maxRecDepth 20000 in
theorem in_r25 : ∀ w ∈ wsL_law_r25, w ∈ lw_tbl := fun w h => (goodIn_r wsL_law_r25 [1484, 1485, 1487, 56, 1488, 1489, 1491, 57, 1492, 1493, 1495, 58, 1496, 1497, 1499, 59, 1500, 1501, 1503, 60, 1504, 1505, 1507, 61] rfl (by decide +kernel) w h).1
set_option maxRecDepth 20000 in
theorem in_r26 : ∀ w ∈ wsL_law_r26, w ∈ lw_tbl := fun w h => (goodIn_r wsL_law_r26 [1508, 1509, 1511, 62, 1512, 713, 714, 715, 716, 181, 1513, 1514, 1515, 1516, 717, 718, 719, 720, 293, 721, 723, 19, 724, 1517] rfl (by decide +kernel) w h).1
set_option maxRecDepth 20000 in
theorem in_r27 : ∀ w ∈ wsL_law_r27, w ∈ lw_tbl := fun w h => (goodIn_r wsL_law_r27 [1518, 1519, 1520, 725, 726, 727, 728, 729, 730, 731, 732, 733, 734, 735, 736, 737, 738, 739, 740, 256, 741, 742, 743, 744] rfl (by decide +kernel) w h).1
set_option maxRecDepth 20000 in
theorem in_r28 : ∀ w ∈ wsL_law_r28, w ∈ lw_tbl := fun w h => (goodIn_r wsL_law_r28 [287, 288, 745, 746, 747, 748, 749, 750, 751, 752, 753, 754, 250, 258, 755, 757, 20, 758, 260, 759, 760, 761, 762, 763] rfl (by decide +kernel) w h).1
set_option maxRecDepth 20000 in
theorem in_r29 : ∀ w ∈ wsL_law_r29, w ∈ lw_tbl := fun w h => (goodIn_r wsL_law_r29 [764, 765, 766, 767, 768, 769, 770, 771, 772, 773, 774, 775, 776, 777, 778, 779, 218, 780, 781, 782, 783, 784, 785, 786] rfl (by decide +kernel) w h).1
set_option maxRecDepth 20000 in
theorem in_r30 : ∀ w ∈ wsL_law_r30, w ∈ lw_tbl := fun w h => (goodIn_r wsL_law_r30 [787, 788, 789, 790, 791, 792, 793, 127, 794, 795, 796, 797, 798, 800, 21, 801, 802, 803, 804, 805, 246, 806, 807, 808] rfl (by decide +kernel) w h).1
set_option maxRecDepth 20000 in
theorem in_r31 : ∀ w ∈ wsL_law_r31, w ∈ lw_tbl := fun w h => (goodIn_r wsL_law_r31 [810, 22, 811, 243, 240, 156, 820, 153, 149, 812, 813, 814, 815, 816, 817, 818, 819, 822, 823, 824, 825, 826, 827, 828] rfl (by decide +kernel) w h).1
set_option maxRecDepth 20000 in
theorem in_r32 : ∀ w ∈ wsL_law_r32, w ∈ lw_tbl := fun w h => (goodIn_r wsL_law_r32 [829, 830, 831, 832, 833, 834, 835, 836, 837, 838, 839, 840, 841, 842, 843, 844, 1525, 1526, 1527, 1528, 1529, 1531, 63, 1532] rfl (by decide +kernel) w h).1
set_option maxRecDepth 20000 in
theorem in_r33 : ∀ w ∈ wsL_law_r33, w ∈ lw_tbl := fun w h => (goodIn_r wsL_law_r33 [1533, 1535, 64, 1536, 1537, 1539, 65, 1540, 1541, 1543, 66, 1544, 1545, 1547, 67, 1548, 1549, 1551, 68, 1552, 1553, 1555, 69, 1556] rfl (by decide +kernel) w h).1
set_option maxRecDepth 20000 in
theorem in_r34 : ∀ w ∈ wsL_law_r34, w ∈ lw_tbl := fun w h => (goodIn_r wsL_law_r34 [1557, 1559, 70, 1560, 1561, 1563, 71, 1564, 1565, 1566, 1567, 1568, 1570, 72, 1571, 1572, 1574, 73, 1575, 1576, 1578, 74, 1579, 1580] rfl (by decide +kernel) w h).1
set_option maxRecDepth 20000 in
theorem in_r35 : ∀ w ∈ wsL_law_r35, w ∈ lw_tbl := fun w h => (goodIn_r wsL_law_r35 [1582, 75, 1583, 1584, 1585, 1586, 1587, 1588, 1589, 1590, 1591, 1592, 1593, 1594, 1595, 1596, 1597, 1598, 1599, 1600, 1601, 1602, 1603, 1604] rfl (by decide +kernel) w h).1
set_option maxRecDepth 20000 in
theorem in_r36 : ∀ w ∈ wsL_law_r36, w ∈ lw_tbl := fun w h => (goodIn_r wsL_law_r36 [1605, 1606, 1607, 1608, 845, 846, 847, 848, 849, 850, 851, 852, 853, 854, 855, 856, 857, 858, 1609, 1610, 1611, 1612, 859, 860] rfl (by decide +kernel) w h).1
set_option maxRecDepth 20000 in
theorem in_r37 : ∀ w ∈ wsL_law_r37, w ∈ lw_tbl := fun w h => (goodIn_r wsL_law_r37 [861, 862, 863, 864, 865, 866, 867, 868, 869, 870, 871, 872, 873, 874, 875, 876, 1613, 1614, 1615, 1616, 1617, 1619, 76, 1620] rfl (by decide +kernel) w h).1
set_option maxRecDepth 20000 in
theorem in_r38 : ∀ w ∈ wsL_law_r38, w ∈ lw_tbl := fun w h => (goodIn_r wsL_law_r38 [1621, 1623, 77, 1624, 1625, 1627, 78, 1628, 1629, 1630, 1631, 877, 878, 879, 880, 881, 882, 883, 884, 886, 887, 888, 889, 890] rfl (by decide +kernel) w h).1
set_option maxRecDepth 20000 in
theorem in_r39 : ∀ w ∈ wsL_law_r39, w ∈ lw_tbl := fun w h => (goodIn_r wsL_law_r39 [1632, 1633, 1634, 1635, 1636, 1638, 79, 1639, 1640, 1642, 80, 1643, 891, 892, 893, 894, 895, 897, 23, 898, 899, 900, 901, 902] rfl (by decide +kernel) w h).1
set_option maxRecDepth 20000 in
theorem in_r40 : ∀ w ∈ wsL_law_r40, w ∈ lw_tbl := fun w h => (goodIn_r wsL_law_r40 [259, 254, 908, 903, 904, 905, 906, 907, 909, 910, 911, 912, 913, 1644, 1645, 1646, 1647, 1648, 1650, 81, 1651, 1652, 1654, 82] rfl (by decide +kernel) w h).1
set_option maxRecDepth 20000 in
theorem in_r41 : ∀ w ∈ wsL_law_r41, w ∈ lw_tbl := fun w h => (goodIn_r wsL_law_r41 [1655, 1656, 1658, 83, 1659, 1660, 1662, 84, 1663, 1664, 1666, 85, 1667, 914, 915, 916, 917, 160, 918, 920, 24, 921, 922, 923] rfl (by decide +kernel) w h).1
set_option maxRecDepth 20000 in
theorem in_r42 : ∀ w ∈ wsL_law_r42, w ∈ lw_tbl := fun w h => (goodIn_r wsL_law_r42 [924, 925, 927, 928, 929, 930, 931, 932, 933, 934, 936, 25, 937, 938, 939, 1668, 1669, 1670, 1671, 1672, 1674, 86, 1675, 1676] rfl (by decide +kernel) w h).1
set_option maxRecDepth 20000 in
theorem in_r43 : ∀ w ∈ wsL_law_r43, w ∈ lw_tbl := fun w h => (goodIn_r wsL_law_r43 [1677, 1678, 1679, 1680, 940, 941, 942, 943, 255, 262, 944, 946, 26, 947, 948, 1681, 1682, 1683, 1684, 1685, 1687, 87, 1688, 949] rfl (by decide +kernel) w h).1
set_option maxRecDepth 20000 in
theorem in_r44 : ∀ w ∈ wsL_law_r44, w ∈ lw_tbl := fun w h => (goodIn_r wsL_law_r44 [950, 951, 952, 953, 954, 955, 956, 957, 1521, 1522, 1523, 1524, 958, 959, 960, 961, 241, 244, 247, 962, 963, 964, 966, 27] rfl (by decide +kernel) w h).1
set_option maxRecDepth 20000 in
theorem in_r45 : ∀ w ∈ wsL_law_r45, w ∈ lw_tbl := fun w h => (goodIn_r wsL_law_r45 [967, 968, 969, 970, 1689, 1690, 1691, 1692, 971, 972, 973, 974, 975, 976, 1693, 1694, 1695, 1696, 977, 978, 979, 980, 251, 981] rfl (by decide +kernel) w h).1
set_option maxRecDepth 20000 in
theorem in_r46 : ∀ w ∈ wsL_law_r46, w ∈ lw_tbl := fun w h => (goodIn_r wsL_law_r46 [982, 983, 984, 986, 987, 988, 989, 990, 991, 992, 993, 1697, 1698, 1699, 1700, 1701, 1703, 88, 1704, 994, 995, 996, 997, 998] rfl (by decide +kernel) w h).1
set_option maxRecDepth 20000 in
theorem in_r47 : ∀ w ∈ wsL_law_r47, w ∈ lw_tbl := fun w h => (goodIn_r wsL_law_r47 [1000, 28, 1001, 1002, 1717, 1718, 1719, 1720, 1721, 1723, 90, 1724, 1725, 1727, 91, 1728, 1729, 1731, 92, 1732, 1003, 1004, 1005, 1006] rfl (by decide +kernel) w h).1
set_option maxRecDepth 20000 in
theorem in_r48 : ∀ w ∈ wsL_law_r48, w ∈ lw_tbl := fun w h => (goodIn_r wsL_law_r48 [1007, 1008, 1009, 1010, 1741, 1742, 1743, 1744, 1745, 1747, 93, 1748, 1011, 1012, 1013, 1014, 1749, 1750, 1751, 1752, 1015, 1016, 1017, 1018] rfl (by decide +kernel) w h).1
set_option maxRecDepth 20000 in
theorem in_r49 : ∀ w ∈ wsL_law_r49, w ∈ lw_tbl := fun w h => (goodIn_r wsL_law_r49 [1019, 1020, 1021, 1022, 1023, 1753, 1754, 1755, 1756, 1757, 1759, 94, 1760, 1024, 1025, 1026, 1027, 1028, 1029, 1030, 1031, 1761, 1762, 1763] rfl (by decide +kernel) w h).1
set_option maxRecDepth 20000 in
theorem in_r50 : ∀ w ∈ wsL_law_r50, w ∈ lw_tbl := fun w h => (goodIn_r wsL_law_r50 [1764, 1032, 1033, 1034, 1035, 1036, 1765, 1766, 1767, 1768, 1037, 1038, 1039, 1040, 1733, 1734, 1735, 1736, 1041, 1042, 1043, 1044, 305, 296] rfl (by decide +kernel) w h).1
set_option maxRecDepth 20000 in
theorem in_r51 : ∀ w ∈ wsL_law_r51, w ∈ lw_tbl := fun w h => (goodIn_r wsL_law_r51 [299, 302, 1769, 1770, 1771, 1772, 1045, 1046, 1047, 1048, 348, 1049, 1051, 29, 1052, 1053, 1054, 1055, 1056, 349, 350, 284, 249, 303] rfl (by decide +kernel) w h).1
set_option maxRecDepth 20000 in
theorem in_r52 : ∀ w ∈ wsL_law_r52, w ∈ lw_tbl := fun w h => (goodIn_r wsL_law_r52 [295, 298, 301, 351, 352, 347, 1057, 1058, 1059, 1060, 1062, 30, 1063, 1064, 1065, 1066, 1067, 1068, 1069, 1070, 1071, 1072, 1073, 1074] rfl (by decide +kernel) w h).1
set_option maxRecDepth 20000 in
theorem in_r53 : ∀ w ∈ wsL_law_r53, w ∈ lw_tbl := fun w h => (goodIn_r wsL_law_r53 [1075, 1773, 1774, 1775, 1776, 1258, 1259, 1777, 1779, 95, 1780, 1256, 1257, 1785, 1781, 1783, 96, 1784, 1786, 1788, 97, 1789, 1076, 1077] rfl (by decide +kernel) w h).1
set_option maxRecDepth 20000 in
theorem in_r54 : ∀ w ∈ wsL_law_r54, w ∈ lw_tbl := fun w h => (goodIn_r wsL_law_r54 [1078, 1079, 1080, 1081, 1082, 1083, 1790, 1791, 1792, 1793, 1794, 1795, 1796, 1084, 1085, 1086, 1087, 1088, 1089, 1090, 1091, 1092, 1797, 1798] rfl (by decide +kernel) w h).1
set_option maxRecDepth 20000 in
theorem in_r55 : ∀ w ∈ wsL_law_r55, w ∈ lw_tbl := fun w h => (goodIn_r wsL_law_r55 [1799, 1800, 1801, 1093, 1094, 1095, 1096, 1097, 1098, 1099, 1100, 1101, 1102, 1103, 1104, 1105, 1802, 1803, 1804, 1805, 1262, 1261, 1806, 1808] rfl (by decide +kernel) w h).1
set_option maxRecDepth 20000 in
theorem in_r56 : ∀ w ∈ wsL_law_r56, w ∈ lw_tbl := fun w h => (goodIn_r wsL_law_r56 [98, 1809, 1106, 1107, 1108, 1109, 1810, 1811, 1812, 1813, 1110, 1111, 1112, 1113, 373, 371, 1114, 1115, 1116, 1117, 1118, 372, 1119, 1120] rfl (by decide +kernel) w h).1
set_option maxRecDepth 20000 in
theorem in_r57 : ∀ w ∈ wsL_law_r57, w ∈ lw_tbl := fun w h => (goodIn_r wsL_law_r57 [1121, 1122, 257, 1123, 1814, 1815, 1816, 1817, 1818, 1820, 99, 1821, 1822, 1824, 100, 1825, 1826, 1828, 101, 1829, 1124, 1125, 1126, 1127] rfl (by decide +kernel) w h).1
set_option maxRecDepth 20000 in
theorem in_r58 : ∀ w ∈ wsL_law_r58, w ∈ lw_tbl := fun w h => (goodIn_r wsL_law_r58 [1128, 1129, 1130, 1131, 1830, 1831, 1832, 1833, 1834, 1836, 102, 1837, 1132, 1133, 1134, 1135, 386, 388, 1136, 1137, 1138, 1139, 385, 1140] rfl (by decide +kernel) w h).1
set_option maxRecDepth 20000 in
theorem in_r59 : ∀ w ∈ wsL_law_r59, w ∈ lw_tbl := fun w h => (goodIn_r wsL_law_r59 [1141, 1142, 253, 239, 1143, 1145, 31, 1146, 1147, 1148, 1149, 1838, 1839, 1840, 1841, 1842, 1844, 103, 1845, 1846, 1848, 104, 1849, 1850] rfl (by decide +kernel) w h).1
set_option maxRecDepth 20000 in
theorem in_r60 : ∀ w ∈ wsL_law_r60, w ∈ lw_tbl := fun w h => (goodIn_r wsL_law_r60 [1852, 105, 1853, 1854, 1856, 106, 1857, 1150, 1151, 1152, 1153, 1858, 1859, 1860, 1861, 1154, 1155, 1156, 1157, 311, 307, 309, 1862, 1863] rfl (by decide +kernel) w h).1
set_option maxRecDepth 20000 in
theorem in_r61 : ∀ w ∈ wsL_law_r61, w ∈ lw_tbl := fun w h => (goodIn_r wsL_law_r61 [1864, 1865, 1158, 1159, 1160, 1161, 1162, 1163, 1164, 1165, 310, 1866, 1867, 1868, 1869, 1870, 1872, 107, 1873, 1166, 1167, 1168, 1169, 1874] rfl (by decide +kernel) w h).1
set_option maxRecDepth 20000 in
theorem in_r62 : ∀ w ∈ wsL_law_r62, w ∈ lw_tbl := fun w h => (goodIn_r wsL_law_r62 [1875, 1876, 1877, 1170, 1171, 1172, 1173, 1174, 1176, 32, 1177, 1178, 1878, 1879, 1880, 1881, 1882, 1884, 108, 1885, 1179, 1180, 1181, 1182] rfl (by decide +kernel) w h).1
set_option maxRecDepth 20000 in
theorem in_r63 : ∀ w ∈ wsL_law_r63, w ∈ lw_tbl := fun w h => (goodIn_r wsL_law_r63 [1183, 1184, 1185, 1186, 1737, 1738, 1739, 1740, 1187, 1188, 1189, 1190, 1191, 1192, 1193, 1194, 1195, 1196, 1705, 1706, 1707, 1708, 1709, 1711] rfl (by decide +kernel) w h).1
set_option maxRecDepth 20000 in
theorem in_r64 : ∀ w ∈ wsL_law_r64, w ∈ lw_tbl := fun w h => (goodIn_r wsL_law_r64 [89, 1712, 1197, 1198, 1199, 1200, 1713, 1714, 1715, 1716, 1201, 1202, 1203, 1204, 1886, 1887, 1888, 1889, 1890, 1891, 1892, 1205, 1206, 1207] rfl (by decide +kernel) w h).1
set_option maxRecDepth 20000 in
theorem in_r65 : ∀ w ∈ wsL_law_r65, w ∈ lw_tbl := fun w h => (goodIn_r wsL_law_r65 [1208, 1209, 1210, 1211, 1212, 290, 1213, 304, 1893, 1894, 1895, 1896, 1214, 1215, 1216, 1217, 1897, 1898, 1899, 1900, 1218, 1219, 1220, 1221] rfl (by decide +kernel) w h).1
set_option maxRecDepth 20000 in
theorem in_r66 : ∀ w ∈ wsL_law_r66, w ∈ lw_tbl := fun w h => (goodIn_r wsL_law_r66 [289, 1901, 1902, 1903, 1904] rfl (by decide +kernel) w h).1
theorem in_wsX80 : ∀ w ∈ wsX80, w ∈ lw_tbl := by decide +kernel
theorem in_wsX90 : ∀ w ∈ wsX90, w ∈ lw_tbl := by decide +kernel
theorem in_wsX40 : ∀ w ∈ wsX40, w ∈ lw_tbl := by decide +kernel
theorem in_wsX50 : ∀ w ∈ wsX50, w ∈ lw_tbl := by decide +kernel
theorem in_wsX30 : ∀ w ∈ wsX30, w ∈ lw_tbl := by decide +kernel
theorem in_wsX70 : ∀ w ∈ wsX70, w ∈ lw_tbl := by decide +kernel
theorem in_wsX60 : ∀ w ∈ wsX60, w ∈ lw_tbl := by decide +kernel
theorem in_wsX20 : ∀ w ∈ wsX20, w ∈ lw_tbl := by decide +kernel
theorem in_wsX10 : ∀ w ∈ wsX10, w ∈ lw_tbl := by decide +kernel
theorem in_wsX00 : ∀ w ∈ wsX00, w ∈ lw_tbl := by decide +kernel
theorem wsL_law_in : ∀ w ∈ wsL_law, w ∈ lw_tbl := List.forall_mem_append.mpr ⟨(List.forall_mem_append.mpr ⟨(List.forall_mem_append.mpr ⟨(List.forall_mem_append.mpr ⟨(List.forall_mem_append.mpr ⟨(List.forall_mem_append.mpr ⟨(List.forall_mem_append.mpr ⟨(List.forall_mem_append.mpr ⟨(List.forall_mem_append.mpr ⟨(List.forall_mem_append.mpr ⟨(List.forall_mem_append.mpr ⟨(List.forall_mem_append.mpr ⟨in_r1, (List.forall_mem_append.mpr ⟨in_r2, (List.forall_mem_append.mpr ⟨in_r3, (List.forall_mem_append.mpr ⟨in_r4, (List.forall_mem_append.mpr ⟨in_r5, (List.forall_mem_append.mpr ⟨in_r6, (List.forall_mem_append.mpr ⟨in_r7, (List.forall_mem_append.mpr ⟨in_r8, (List.forall_mem_append.mpr ⟨in_r9, (List.forall_mem_append.mpr ⟨in_r10, (List.forall_mem_append.mpr ⟨in_r11, (List.forall_mem_append.mpr ⟨in_r12, (List.forall_mem_append.mpr ⟨in_r13, (List.forall_mem_append.mpr ⟨in_r14, (List.forall_mem_append.mpr ⟨in_r15, (List.forall_mem_append.mpr ⟨in_r16, (List.forall_mem_append.mpr ⟨in_r17, (List.forall_mem_append.mpr ⟨in_r18, (List.forall_mem_append.mpr ⟨in_r19, (List.forall_mem_append.mpr ⟨in_r20, (List.forall_mem_append.mpr ⟨in_r21, (List.forall_mem_append.mpr ⟨in_r22, (List.forall_mem_append.mpr ⟨in_r23, (List.forall_mem_append.mpr ⟨in_r24, (List.forall_mem_append.mpr ⟨in_r25, (List.forall_mem_append.mpr ⟨in_r26, (List.forall_mem_append.mpr ⟨in_r27, (List.forall_mem_append.mpr ⟨in_r28, (List.forall_mem_append.mpr ⟨in_r29, (List.forall_mem_append.mpr ⟨in_r30, (List.forall_mem_append.mpr ⟨in_r31, (List.forall_mem_append.mpr ⟨in_r32, (List.forall_mem_append.mpr ⟨in_r33, (List.forall_mem_append.mpr ⟨in_r34, (List.forall_mem_append.mpr ⟨in_r35, (List.forall_mem_append.mpr ⟨in_r36, (List.forall_mem_append.mpr ⟨in_r37, (List.forall_mem_append.mpr ⟨in_r38, (List.forall_mem_append.mpr ⟨in_r39, (List.forall_mem_append.mpr ⟨in_r40, (List.forall_mem_append.mpr ⟨in_r41, (List.forall_mem_append.mpr ⟨in_r42, (List.forall_mem_append.mpr ⟨in_r43, (List.forall_mem_append.mpr ⟨in_r44, (List.forall_mem_append.mpr ⟨in_r45, (List.forall_mem_append.mpr ⟨in_r46, (List.forall_mem_append.mpr ⟨in_r47, (List.forall_mem_append.mpr ⟨in_r48, (List.forall_mem_append.mpr ⟨in_r49, (List.forall_mem_append.mpr ⟨in_r50, (List.forall_mem_append.mpr ⟨in_r51, (List.forall_mem_append.mpr ⟨in_r52, (List.forall_mem_append.mpr ⟨in_r53, (List.forall_mem_append.mpr ⟨in_r54, (List.forall_mem_append.mpr ⟨in_r55, (List.forall_mem_append.mpr ⟨in_r56, (List.forall_mem_append.mpr ⟨in_r57, (List.forall_mem_append.mpr ⟨in_r58, (List.forall_mem_append.mpr ⟨in_r59, (List.forall_mem_append.mpr ⟨in_r60, (List.forall_mem_append.mpr ⟨in_r61, (List.forall_mem_append.mpr ⟨in_r62, (List.forall_mem_append.mpr ⟨in_r63, (List.forall_mem_append.mpr ⟨in_r64, (List.forall_mem_append.mpr ⟨in_r65, in_r66⟩)⟩)⟩)⟩)⟩)⟩)⟩)⟩)⟩)⟩)⟩)⟩)⟩)⟩)⟩)⟩)⟩)⟩)⟩)⟩)⟩)⟩)⟩)⟩)⟩)⟩)⟩)⟩)⟩)⟩)⟩)⟩)⟩)⟩)⟩)⟩)⟩)⟩)⟩)⟩)⟩)⟩)⟩)⟩)⟩)⟩)⟩)⟩)⟩)⟩)⟩)⟩)⟩)⟩)⟩)⟩)⟩)⟩)⟩)⟩)⟩)⟩)⟩)⟩)⟩), in_wsX80⟩), in_wsX90⟩), in_wsX40⟩), in_wsX50⟩), in_wsX30⟩), in_wsX70⟩), in_wsX60⟩), in_wsX20⟩), in_wsX10⟩), in_wsX00⟩), fun _ h => absurd h List.not_mem_nil⟩
