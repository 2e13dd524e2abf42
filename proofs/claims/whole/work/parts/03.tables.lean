/-! THE TABLES: each place of the abstract machine's tables has its word among lw_tbl. -/
def vwC : List vw_C := [(RX0, TX0, 3), (RX1, TX1, 3), (RX2, TX2, 9), (RX3, TX3, 11), (RX4, TX4, 3), (RX5, TX5, 4), (RX6, TX6, 2), (RX7, TX7, 12), (RX8, TX8, 3), (RX9, TX9, 10), (RX10, TX10, 3), (RX11, TX11, 19), (RX12, TX12, 41)]
def cnm (c : Nat) : String := [RX0, RX1, RX2, RX3, RX4, RX5, RX6, RX7, RX8, RX9, RX10, RX11, RX12, RJ6, RL].getD c ""
def tyX (c : Nat) : Nat → FieldType := [tyX0, tyX1, tyX2, tyX3, tyX4, tyX5, tyX6, tyX7, tyX8, tyX9, tyX10, tyX11, tyX12].getD c tyX0
def retT (r : Nat) : Option FieldType := match r with | 1 => some .int | 2 => some .boolean | 3 => some .long | _ => none
def fT (c j : Nat) : String × String × String × Bool := (vwC.getD c (RX0, TX0, 3)).2.1 j
-- places of the words of a method: its code, its class initialised, static or not, selects; its kind (0 virtual, 1 static, 2 constructor), its arguments
def mpos : List (Nat × Nat × Nat × Nat × Nat × Nat) := [
  (434, 98, 433, 0, 2, 1), (1113, 98, 1111, 1112, 0, 2), (384, 96, 383, 0, 2, 1), (932, 96, 931, 23, 0, 1), (928, 96, 926, 927, 0, 1), (940, 96, 939, 24, 0, 1), (1099, 96, 1097, 1098, 0, 2), (400, 97, 399, 0, 2, 1),
  (1045, 97, 1043, 1044, 0, 1), (1075, 97, 1073, 1074, 0, 2), (1082, 97, 1081, 0, 1, 5), (1049, 97, 1048, 26, 0, 1), (1054, 97, 1053, 27, 0, 1), (1062, 97, 1061, 28, 0, 1), (1067, 97, 1066, 29, 0, 2), (200, 93, 199, 0, 2, 0),
  (615, 93, 613, 614, 0, 0), (1163, 93, 1161, 1162, 0, 1), (666, 93, 664, 665, 0, 1), (725, 93, 723, 724, 0, 0), (696, 93, 694, 695, 0, 2), (864, 93, 862, 863, 0, 2), (883, 93, 881, 882, 0, 2), (914, 93, 912, 913, 0, 2),
  (910, 93, 908, 909, 0, 2), (165, 90, 164, 0, 2, 1), (611, 90, 609, 610, 0, 2), (648, 90, 647, 7, 0, 1), (688, 90, 687, 8, 0, 2), (692, 90, 691, 9, 0, 2), (656, 90, 655, 0, 1, 1), (700, 90, 699, 10, 0, 4),
  (713, 90, 712, 11, 0, 1), (717, 90, 716, 12, 0, 1), (721, 90, 720, 13, 0, 1), (294, 95, 293, 0, 2, 0), (746, 95, 744, 745, 0, 0), (1173, 95, 1171, 1172, 0, 1), (784, 95, 782, 783, 0, 2), (791, 95, 789, 790, 0, 0),
  (1079, 95, 1077, 1078, 0, 1), (181, 91, 180, 0, 2, 1), (742, 91, 740, 741, 0, 2), (755, 91, 754, 15, 0, 2), (759, 91, 758, 16, 0, 2), (763, 91, 762, 17, 0, 2), (779, 91, 778, 0, 1, 1), (767, 91, 766, 0, 1, 1),
  (194, 92, 193, 0, 2, 0), (1159, 92, 1157, 1158, 0, 1), (826, 92, 824, 825, 0, 1), (833, 92, 831, 832, 0, 1), (1000, 92, 998, 999, 0, 3), (967, 92, 965, 966, 0, 2), (1025, 92, 1023, 1024, 0, 1), (1009, 92, 1007, 1008, 0, 3),
  (878, 92, 876, 877, 0, 3), (887, 92, 885, 886, 0, 3), (936, 92, 934, 935, 0, 2), (944, 92, 942, 943, 0, 2), (956, 92, 954, 955, 0, 2), (1151, 92, 1149, 1150, 0, 1), (1130, 92, 1128, 1129, 0, 3), (1139, 92, 1138, 31, 0, 1),
  (1134, 92, 1133, 30, 0, 1), (206, 94, 205, 0, 2, 0), (619, 94, 617, 618, 0, 0), (1167, 94, 1165, 1166, 0, 1), (868, 94, 866, 867, 0, 2), (729, 94, 727, 728, 0, 2), (1143, 94, 1141, 1142, 0, 4), (122, 89, 121, 0, 2, 0),
  (603, 89, 601, 602, 0, 1), (623, 89, 621, 622, 0, 1), (643, 89, 641, 642, 0, 0), (639, 89, 637, 638, 0, 0), (709, 89, 707, 708, 0, 0), (683, 89, 681, 682, 0, 1), (652, 89, 650, 651, 0, 1), (627, 89, 625, 626, 0, 0),
  (631, 89, 630, 5, 0, 0), (635, 89, 634, 6, 0, 0), (674, 89, 672, 673, 0, 2), (670, 89, 668, 669, 0, 2), (679, 89, 677, 678, 0, 1), (455, 99, 454, 0, 2, 0), (576, 99, 574, 575, 0, 0), (560, 99, 558, 559, 0, 2),
  (580, 99, 578, 579, 0, 2), (112, 88, 111, 0, 2, 0), (531, 88, 529, 530, 0, 0), (535, 88, 533, 534, 0, 0), (539, 88, 537, 538, 0, 0), (543, 88, 541, 542, 0, 3), (568, 88, 566, 567, 0, 3), (584, 88, 582, 583, 0, 2),
  (592, 88, 590, 591, 0, 5), (599, 88, 597, 598, 0, 5), (607, 88, 605, 606, 0, 1), (738, 88, 736, 737, 0, 1), (795, 88, 793, 794, 0, 1), (799, 88, 797, 798, 0, 1), (803, 88, 801, 802, 0, 2), (812, 88, 810, 811, 0, 4),
  (822, 88, 820, 821, 0, 1), (840, 88, 838, 839, 0, 2), (851, 88, 849, 850, 0, 3), (856, 88, 854, 855, 0, 2), (860, 88, 858, 859, 0, 2), (873, 88, 871, 872, 0, 2), (898, 88, 896, 897, 0, 2), (902, 88, 900, 901, 0, 2),
  (921, 88, 919, 920, 0, 1), (952, 88, 950, 951, 0, 1), (962, 88, 960, 961, 0, 3), (980, 88, 978, 979, 0, 0), (988, 88, 986, 987, 0, 1), (996, 88, 994, 995, 0, 3), (1005, 88, 1003, 1004, 0, 3), (1013, 88, 1011, 1012, 0, 4),
  (1021, 88, 1019, 1020, 0, 1), (1029, 88, 1027, 1028, 0, 2), (1037, 88, 1035, 1036, 0, 1), (1071, 88, 1069, 1070, 0, 2), (1089, 88, 1087, 1088, 0, 1), (1093, 88, 1091, 1092, 0, 3), (1104, 88, 1102, 1103, 0, 2), (1108, 88, 1106, 1107, 0, 2),
  (1122, 88, 1120, 1121, 0, 0), (1126, 88, 1124, 1125, 0, 3), (1147, 88, 1145, 1146, 0, 2), (1155, 88, 1153, 1154, 0, 0), (1179, 88, 1177, 1178, 0, 0), (588, 88, 587, 4, 0, 1), (556, 88, 555, 1, 0, 1), (734, 88, 733, 14, 0, 1),
  (564, 88, 563, 2, 0, 0), (891, 88, 890, 21, 0, 2), (572, 88, 571, 3, 0, 2), (547, 88, 546, 0, 0, 1), (807, 88, 806, 18, 0, 1), (816, 88, 815, 19, 0, 2), (906, 88, 905, 22, 0, 1), (844, 88, 843, 20, 0, 1),
  (1041, 88, 1040, 25, 0, 1), (924, 88, 923, 0, 1, 1), (551, 88, 550, 0, 1, 3), (894, 88, 893, 0, 1, 2), (1032, 88, 1031, 0, 1, 3), (983, 88, 982, 0, 1, 4), (992, 88, 991, 0, 1, 5), (847, 88, 846, 0, 1, 2),
  (836, 88, 835, 0, 1, 3), (970, 88, 969, 0, 1, 2), (705, 88, 704, 0, 1, 3), (1184, 100, 1183, 0, 2, 0), (1189, 100, 1188, 32, 0, 1), (1317, 100, 1315, 1316, 0, 0), (1321, 100, 1319, 1320, 0, 0), (1325, 100, 1323, 1324, 0, 0),
  (1336, 100, 1335, 33, 0, 1), (1376, 100, 1375, 36, 0, 1), (1500, 100, 1499, 52, 0, 1), (1615, 100, 1614, 67, 0, 2), (1332, 100, 1331, 0, 1, 1), (1347, 100, 1346, 0, 1, 2), (1329, 100, 1327, 1328, 0, 3), (1344, 100, 1343, 34, 0, 2),
  (1340, 100, 1338, 1339, 0, 3), (1351, 100, 1349, 1350, 0, 2), (1356, 100, 1354, 1355, 0, 5), (1360, 100, 1358, 1359, 0, 5), (1364, 100, 1363, 35, 0, 1), (1388, 100, 1387, 39, 0, 1), (1391, 100, 1390, 0, 1, 1), (1394, 100, 1393, 0, 1, 1),
  (1384, 100, 1383, 38, 0, 0), (1492, 100, 1491, 50, 0, 1), (1405, 100, 1404, 41, 0, 1), (1457, 100, 1456, 42, 0, 1), (1380, 100, 1379, 37, 0, 1), (1496, 100, 1495, 51, 0, 0), (1461, 100, 1460, 43, 0, 3), (1368, 100, 1366, 1367, 0, 1),
  (1469, 100, 1468, 45, 0, 0), (1477, 100, 1476, 47, 0, 0), (1473, 100, 1472, 46, 0, 1), (1480, 100, 1479, 0, 1, 4), (1465, 100, 1464, 44, 0, 0), (1488, 100, 1487, 49, 0, 1), (1484, 100, 1483, 48, 0, 0), (1400, 100, 1399, 40, 0, 0),
  (1372, 100, 1370, 1371, 0, 1), (1521, 100, 1520, 56, 0, 2), (1517, 100, 1516, 55, 0, 1), (1525, 100, 1524, 57, 0, 0), (1513, 100, 1512, 54, 0, 0), (1508, 100, 1507, 53, 0, 0), (1504, 100, 1502, 1503, 0, 1), (1537, 100, 1536, 58, 0, 1),
  (1569, 100, 1568, 61, 0, 1), (1557, 100, 1556, 60, 0, 1), (1552, 100, 1551, 0, 1, 1), (1561, 100, 1560, 0, 1, 3), (1545, 100, 1544, 59, 0, 1), (1573, 100, 1572, 62, 0, 2), (1529, 100, 1527, 1528, 0, 1), (1533, 100, 1531, 1532, 0, 2),
  (1541, 100, 1539, 1540, 0, 4), (1549, 100, 1547, 1548, 0, 1), (1565, 100, 1563, 1564, 0, 2), (1577, 100, 1575, 1576, 0, 3), (1581, 100, 1579, 1580, 0, 2), (1600, 100, 1599, 65, 0, 4), (1596, 100, 1595, 64, 0, 3), (1592, 100, 1591, 0, 1, 1),
  (1589, 100, 1588, 63, 0, 2), (1585, 100, 1583, 1584, 0, 2), (1611, 100, 1610, 66, 0, 2), (1607, 100, 1606, 0, 1, 1), (1604, 100, 1602, 1603, 0, 2), (1619, 100, 1617, 1618, 0, 2), (1631, 100, 1630, 69, 0, 2), (1627, 100, 1626, 68, 0, 2),
  (1623, 100, 1621, 1622, 0, 2), (1640, 100, 1639, 70, 0, 1), (1644, 100, 1643, 71, 0, 2), (1636, 100, 1634, 1635, 0, 1), (1649, 100, 1647, 1648, 0, 1), (1657, 100, 1656, 72, 0, 2), (1653, 100, 1651, 1652, 0, 3), (1665, 100, 1664, 73, 0, 0),
  (1669, 100, 1668, 74, 0, 1), (1673, 100, 1672, 75, 0, 1), (1661, 100, 1659, 1660, 0, 0), (1677, 100, 1675, 1676, 0, 1), (1682, 100, 1680, 1681, 0, 3), (1698, 100, 1697, 78, 0, 3), (1701, 100, 1700, 0, 1, 1), (1694, 100, 1693, 77, 0, 0),
  (1690, 100, 1689, 76, 0, 2), (1686, 100, 1684, 1685, 0, 3), (1705, 100, 1703, 1704, 0, 4), (1709, 100, 1707, 1708, 0, 1), (1713, 100, 1711, 1712, 0, 2), (1738, 100, 1737, 83, 0, 1), (1734, 100, 1733, 82, 0, 3), (1730, 100, 1729, 81, 0, 2),
  (1722, 100, 1721, 79, 0, 1), (1726, 100, 1725, 80, 0, 1), (1718, 100, 1716, 1717, 0, 1), (1742, 100, 1740, 1741, 0, 2), (1746, 100, 1744, 1745, 0, 1), (1757, 100, 1756, 84, 0, 3), (1753, 100, 1752, 0, 1, 2), (1750, 100, 1748, 1749, 0, 3),
  (1761, 100, 1759, 1760, 0, 2), (1765, 100, 1763, 1764, 0, 2), (1770, 100, 1768, 1769, 0, 0), (1779, 100, 1778, 85, 0, 1), (1774, 100, 1772, 1773, 0, 3), (1784, 100, 1782, 1783, 0, 2), (1792, 100, 1791, 86, 0, 2), (1788, 100, 1786, 1787, 0, 0),
  (1796, 100, 1794, 1795, 0, 0), (973, 107, 972, 0, 1, 1)
]
def mpo (k : Nat) : Nat × Nat × Nat × Nat × Nat × Nat := mpos.getD k (0, 0, 0, 0, 0, 0)
theorem tm_1 {w : Cond} (h : w ∈ tables_1_1) : w ∈ lw_tbl := List.mem_append_right _ (List.mem_append_left _ h)
theorem tm_2 {w : Cond} (h : w ∈ tables_1_2) : w ∈ lw_tbl := List.mem_append_right _ (List.mem_append_right _ (List.mem_append_left _ h))
theorem tm_3 {w : Cond} (h : w ∈ tables_1_3) : w ∈ lw_tbl := List.mem_append_right _ (List.mem_append_right _ (List.mem_append_right _ (List.mem_append_left _ h)))
theorem tm_4 {w : Cond} (h : w ∈ tables_1_4) : w ∈ lw_tbl := List.mem_append_right _ (List.mem_append_right _ (List.mem_append_right _ (List.mem_append_right _ (List.mem_append_left _ h))))
theorem tm_5 {w : Cond} (h : w ∈ tables_1_5) : w ∈ lw_tbl := List.mem_append_right _ (List.mem_append_right _ (List.mem_append_right _ (List.mem_append_right _ (List.mem_append_right _ (List.mem_append_left _ h)))))
theorem tm_6 {w : Cond} (h : w ∈ tables_1_6) : w ∈ lw_tbl := List.mem_append_right _ (List.mem_append_right _ (List.mem_append_right _ (List.mem_append_right _ (List.mem_append_right _ (List.mem_append_right _ (List.mem_append_left _ h))))))
theorem tm_7 {w : Cond} (h : w ∈ tables_1_7) : w ∈ lw_tbl := List.mem_append_right _ (List.mem_append_right _ (List.mem_append_right _ (List.mem_append_right _ (List.mem_append_right _ (List.mem_append_right _ (List.mem_append_right _ (List.mem_append_left _ h)))))))
theorem tm_8 {w : Cond} (h : w ∈ tables_1_8) : w ∈ lw_tbl := List.mem_append_right _ (List.mem_append_right _ (List.mem_append_right _ (List.mem_append_right _ (List.mem_append_right _ (List.mem_append_right _ (List.mem_append_right _ (List.mem_append_right _ (h))))))))
theorem cw0 : Cond.code yX0_init cX0_init 2 (retT 0) ∈ lw_tbl := tm_2 (List.mem_of_getElem? (i := 107) rfl)
theorem cw1 : Cond.code yX0_choose cX0_choose 11 (retT 0) ∈ lw_tbl := tm_5 (List.mem_of_getElem? (i := 66) rfl)
theorem cw2 : Cond.code yX1_init cX1_init 2 (retT 0) ∈ lw_tbl := tm_2 (List.mem_of_getElem? (i := 57) rfl)
theorem cw3 : Cond.code yX1_putInOrder cX1_putInOrder 5 (retT 1) ∈ lw_tbl := tm_4 (List.mem_of_getElem? (i := 125) rfl)
theorem cw4 : Cond.code yX1_longestWalk cX1_longestWalk 7 (retT 1) ∈ lw_tbl := tm_4 (List.mem_of_getElem? (i := 121) rfl)
theorem cw5 : Cond.code yX1_measureWalks cX1_measureWalks 5 (retT 1) ∈ lw_tbl := tm_4 (List.mem_of_getElem? (i := 133) rfl)
theorem cw6 : Cond.code yX1_worthSet cX1_worthSet 9 (retT 1) ∈ lw_tbl := tm_5 (List.mem_of_getElem? (i := 52) rfl)
theorem cw7 : Cond.code yX2_init cX2_init 2 (retT 0) ∈ lw_tbl := tm_2 (List.mem_of_getElem? (i := 73) rfl)
theorem cw8 : Cond.code yX2_flaggedSet cX2_flaggedSet 4 (retT 1) ∈ lw_tbl := tm_4 (List.mem_of_getElem? (i := 238) rfl)
theorem cw9 : Cond.code yX2_nearestHidden cX2_nearestHidden 6 (retT 1) ∈ lw_tbl := tm_5 (List.mem_of_getElem? (i := 28) rfl)
theorem cw10 : Cond.code yX2_search cX2_search 11 (retT 1) ∈ lw_tbl := tm_5 (List.mem_of_getElem? (i := 35) rfl)
theorem cw11 : Cond.code yX2_view cX2_view 3 (retT 0) ∈ lw_tbl := tm_5 (List.mem_of_getElem? (i := 2) rfl)
theorem cw12 : Cond.code yX2_suppose cX2_suppose 3 (retT 0) ∈ lw_tbl := tm_5 (List.mem_of_getElem? (i := 7) rfl)
theorem cw13 : Cond.code yX2_flags cX2_flags 7 (retT 2) ∈ lw_tbl := tm_5 (List.mem_of_getElem? (i := 15) rfl)
theorem cw14 : Cond.code yX2_holds cX2_holds 3 (retT 2) ∈ lw_tbl := tm_5 (List.mem_of_getElem? (i := 20) rfl)
theorem cw15 : Cond.code yX3_init cX3_init 1 (retT 0) ∈ lw_tbl := tm_1 (List.mem_of_getElem? (i := 113) rfl)
theorem cw16 : Cond.code yX3_clear cX3_clear 1 (retT 0) ∈ lw_tbl := tm_3 (List.mem_of_getElem? (i := 48) rfl)
theorem cw17 : Cond.code yX3_copyFrom cX3_copyFrom 2 (retT 0) ∈ lw_tbl := tm_5 (List.mem_of_getElem? (i := 116) rfl)
theorem cw18 : Cond.code yX3_find cX3_find 4 (retT 1) ∈ lw_tbl := tm_3 (List.mem_of_getElem? (i := 99) rfl)
theorem cw19 : Cond.code yX3_shareOutUntold cX3_shareOutUntold 2 (retT 0) ∈ lw_tbl := tm_3 (List.mem_of_getElem? (i := 158) rfl)
theorem cw20 : Cond.code yX3_rowsOf cX3_rowsOf 4 (retT 1) ∈ lw_tbl := tm_3 (List.mem_of_getElem? (i := 129) rfl)
theorem cw21 : Cond.code yX3_product cX3_product 5 (retT 1) ∈ lw_tbl := tm_4 (List.mem_of_getElem? (i := 57) rfl)
theorem cw22 : Cond.code yX3_cardWeight cX3_cardWeight 3 (retT 1) ∈ lw_tbl := tm_4 (List.mem_of_getElem? (i := 76) rfl)
theorem cw23 : Cond.code yX3_stepsBetween cX3_stepsBetween 3 (retT 1) ∈ lw_tbl := tm_4 (List.mem_of_getElem? (i := 107) rfl)
theorem cw24 : Cond.code yX3_minutesBetween cX3_minutesBetween 3 (retT 1) ∈ lw_tbl := tm_4 (List.mem_of_getElem? (i := 103) rfl)
theorem cw25 : Cond.code yX4_init cX4_init 2 (retT 0) ∈ lw_tbl := tm_1 (List.mem_of_getElem? (i := 78) rfl)
theorem cw26 : Cond.code yX4_take cX4_take 6 (retT 2) ∈ lw_tbl := tm_3 (List.mem_of_getElem? (i := 44) rfl)
theorem cw27 : Cond.code yX4_takeAsk cX4_takeAsk 5 (retT 0) ∈ lw_tbl := tm_3 (List.mem_of_getElem? (i := 81) rfl)
theorem cw28 : Cond.code yX4_takeTable cX4_takeTable 4 (retT 0) ∈ lw_tbl := tm_3 (List.mem_of_getElem? (i := 121) rfl)
theorem cw29 : Cond.code yX4_knownName cX4_knownName 4 (retT 1) ∈ lw_tbl := tm_3 (List.mem_of_getElem? (i := 125) rfl)
theorem cw30 : Cond.code yX4_isName cX4_isName 2 (retT 2) ∈ lw_tbl := tm_3 (List.mem_of_getElem? (i := 89) rfl)
theorem cw31 : Cond.code yX4_takeWeights cX4_takeWeights 9 (retT 0) ∈ lw_tbl := tm_3 (List.mem_of_getElem? (i := 133) rfl)
theorem cw32 : Cond.code yX4_takeDoor cX4_takeDoor 2 (retT 0) ∈ lw_tbl := tm_3 (List.mem_of_getElem? (i := 146) rfl)
theorem cw33 : Cond.code yX4_takeWalk cX4_takeWalk 2 (retT 0) ∈ lw_tbl := tm_3 (List.mem_of_getElem? (i := 150) rfl)
theorem cw34 : Cond.code yX4_takeCards cX4_takeCards 2 (retT 0) ∈ lw_tbl := tm_3 (List.mem_of_getElem? (i := 154) rfl)
theorem cw35 : Cond.code yX5_init cX5_init 1 (retT 0) ∈ lw_tbl := tm_1 (List.mem_of_getElem? (i := 207) rfl)
theorem cw36 : Cond.code yX5_clear cX5_clear 1 (retT 0) ∈ lw_tbl := tm_3 (List.mem_of_getElem? (i := 179) rfl)
theorem cw37 : Cond.code yX5_copyFrom cX5_copyFrom 2 (retT 0) ∈ lw_tbl := tm_5 (List.mem_of_getElem? (i := 126) rfl)
theorem cw38 : Cond.code yX5_addStep cX5_addStep 3 (retT 0) ∈ lw_tbl := tm_3 (List.mem_of_getElem? (i := 217) rfl)
theorem cw39 : Cond.code yX5_endRule cX5_endRule 1 (retT 0) ∈ lw_tbl := tm_3 (List.mem_of_getElem? (i := 224) rfl)
theorem cw40 : Cond.code yX5_goesByAnswers cX5_goesByAnswers 4 (retT 2) ∈ lw_tbl := tm_5 (List.mem_of_getElem? (i := 32) rfl)
theorem cw41 : Cond.code yX6_init cX6_init 2 (retT 0) ∈ lw_tbl := tm_1 (List.mem_of_getElem? (i := 94) rfl)
theorem cw42 : Cond.code yX6_take cX6_take 4 (retT 2) ∈ lw_tbl := tm_3 (List.mem_of_getElem? (i := 175) rfl)
theorem cw43 : Cond.code yX6_takeTerms cX6_takeTerms 4 (retT 0) ∈ lw_tbl := tm_3 (List.mem_of_getElem? (i := 188) rfl)
theorem cw44 : Cond.code yX6_takeTerm cX6_takeTerm 4 (retT 0) ∈ lw_tbl := tm_3 (List.mem_of_getElem? (i := 192) rfl)
theorem cw45 : Cond.code yX6_takeTest cX6_takeTest 6 (retT 0) ∈ lw_tbl := tm_3 (List.mem_of_getElem? (i := 196) rfl)
theorem cw46 : Cond.code yX6_mostOf cX6_mostOf 1 (retT 1) ∈ lw_tbl := tm_3 (List.mem_of_getElem? (i := 212) rfl)
theorem cw47 : Cond.code yX6_stepOf cX6_stepOf 2 (retT 1) ∈ lw_tbl := tm_3 (List.mem_of_getElem? (i := 200) rfl)
theorem cw48 : Cond.code yX7_init cX7_init 1 (retT 0) ∈ lw_tbl := tm_1 (List.mem_of_getElem? (i := 107) rfl)
theorem cw49 : Cond.code yX7_copyFrom cX7_copyFrom 2 (retT 0) ∈ lw_tbl := tm_5 (List.mem_of_getElem? (i := 112) rfl)
theorem cw50 : Cond.code yX7_couldAdd cX7_couldAdd 4 (retT 2) ∈ lw_tbl := tm_4 (List.mem_of_getElem? (i := 19) rfl)
theorem cw51 : Cond.code yX7_add cX7_add 4 (retT 1) ∈ lw_tbl := tm_4 (List.mem_of_getElem? (i := 26) rfl)
theorem cw52 : Cond.code yX7_sameAnswer cX7_sameAnswer 4 (retT 2) ∈ lw_tbl := tm_4 (List.mem_of_getElem? (i := 193) rfl)
theorem cw53 : Cond.code yX7_countAlike cX7_countAlike 5 (retT 1) ∈ lw_tbl := tm_4 (List.mem_of_getElem? (i := 160) rfl)
theorem cw54 : Cond.code yX7_isRepeated cX7_isRepeated 3 (retT 2) ∈ lw_tbl := tm_4 (List.mem_of_getElem? (i := 218) rfl)
theorem cw55 : Cond.code yX7_countWith cX7_countWith 6 (retT 1) ∈ lw_tbl := tm_4 (List.mem_of_getElem? (i := 202) rfl)
theorem cw56 : Cond.code yX7_madeSide cX7_madeSide 4 (retT 3) ∈ lw_tbl := tm_4 (List.mem_of_getElem? (i := 71) rfl)
theorem cw57 : Cond.code yX7_askedSide cX7_askedSide 6 (retT 3) ∈ lw_tbl := tm_4 (List.mem_of_getElem? (i := 80) rfl)
theorem cw58 : Cond.code yX7_isAhead cX7_isAhead 3 (retT 2) ∈ lw_tbl := tm_4 (List.mem_of_getElem? (i := 129) rfl)
theorem cw59 : Cond.code yX7_fits cX7_fits 3 (retT 2) ∈ lw_tbl := tm_4 (List.mem_of_getElem? (i := 137) rfl)
theorem cw60 : Cond.code yX7_areAmiss cX7_areAmiss 3 (retT 2) ∈ lw_tbl := tm_4 (List.mem_of_getElem? (i := 149) rfl)
theorem cw61 : Cond.code yX7_setOfTruth cX7_setOfTruth 4 (retT 1) ∈ lw_tbl := tm_5 (List.mem_of_getElem? (i := 104) rfl)
theorem cw62 : Cond.code yX7_drawWorld cX7_drawWorld 8 (retT 1) ∈ lw_tbl := tm_5 (List.mem_of_getElem? (i := 83) rfl)
theorem cw63 : Cond.code yX7_drawAnswers cX7_drawAnswers 5 (retT 1) ∈ lw_tbl := tm_5 (List.mem_of_getElem? (i := 92) rfl)
theorem cw64 : Cond.code yX7_draw cX7_draw 2 (retT 1) ∈ lw_tbl := tm_5 (List.mem_of_getElem? (i := 87) rfl)
theorem cw65 : Cond.code yX8_init cX8_init 1 (retT 0) ∈ lw_tbl := tm_1 (List.mem_of_getElem? (i := 119) rfl)
theorem cw66 : Cond.code yX8_clear cX8_clear 2 (retT 0) ∈ lw_tbl := tm_3 (List.mem_of_getElem? (i := 52) rfl)
theorem cw67 : Cond.code yX8_copyFrom cX8_copyFrom 2 (retT 0) ∈ lw_tbl := tm_5 (List.mem_of_getElem? (i := 120) rfl)
theorem cw68 : Cond.code yX8_weightIn cX8_weightIn 4 (retT 1) ∈ lw_tbl := tm_4 (List.mem_of_getElem? (i := 61) rfl)
theorem cw69 : Cond.code yX8_shareOut cX8_shareOut 4 (retT 0) ∈ lw_tbl := tm_3 (List.mem_of_getElem? (i := 162) rfl)
theorem cw70 : Cond.code yX8_drawnAnswer cX8_drawnAnswer 8 (retT 1) ∈ lw_tbl := tm_5 (List.mem_of_getElem? (i := 96) rfl)
theorem cw71 : Cond.code yX9_init cX9_init 1 (retT 0) ∈ lw_tbl := tm_1 (List.mem_of_getElem? (i := 35) rfl)
theorem cw72 : Cond.code yX9_feedInt cX9_feedInt 3 (retT 0) ∈ lw_tbl := tm_3 (List.mem_of_getElem? (i := 36) rfl)
theorem cw73 : Cond.code yX9_start cX9_start 2 (retT 0) ∈ lw_tbl := tm_3 (List.mem_of_getElem? (i := 56) rfl)
theorem cw74 : Cond.code yX9_isSound cX9_isSound 1 (retT 2) ∈ lw_tbl := tm_3 (List.mem_of_getElem? (i := 76) rfl)
theorem cw75 : Cond.code yX9_hasMore cX9_hasMore 1 (retT 2) ∈ lw_tbl := tm_3 (List.mem_of_getElem? (i := 72) rfl)
theorem cw76 : Cond.code yX9_isNumber cX9_isNumber 1 (retT 2) ∈ lw_tbl := tm_3 (List.mem_of_getElem? (i := 142) rfl)
theorem cw77 : Cond.code yX9_isSign cX9_isSign 2 (retT 2) ∈ lw_tbl := tm_3 (List.mem_of_getElem? (i := 116) rfl)
theorem cw78 : Cond.code yX9_fail cX9_fail 2 (retT 0) ∈ lw_tbl := tm_3 (List.mem_of_getElem? (i := 85) rfl)
theorem cw79 : Cond.code yX9_advance cX9_advance 1 (retT 0) ∈ lw_tbl := tm_3 (List.mem_of_getElem? (i := 60) rfl)
theorem cw80 : Cond.code yX9_takeWord cX9_takeWord 1 (retT 0) ∈ lw_tbl := tm_3 (List.mem_of_getElem? (i := 64) rfl)
theorem cw81 : Cond.code yX9_takeNumber cX9_takeNumber 1 (retT 0) ∈ lw_tbl := tm_3 (List.mem_of_getElem? (i := 68) rfl)
theorem cw82 : Cond.code yX9_numberWithin cX9_numberWithin 3 (retT 1) ∈ lw_tbl := tm_3 (List.mem_of_getElem? (i := 107) rfl)
theorem cw83 : Cond.code yX9_takeNumberWithin cX9_takeNumberWithin 4 (retT 1) ∈ lw_tbl := tm_3 (List.mem_of_getElem? (i := 103) rfl)
theorem cw84 : Cond.code yX9_takeSign cX9_takeSign 2 (retT 0) ∈ lw_tbl := tm_3 (List.mem_of_getElem? (i := 112) rfl)
theorem cw85 : Cond.code yX10_init cX10_init 1 (retT 0) ∈ lw_tbl := tm_2 (List.mem_of_getElem? (i := 128) rfl)
theorem cw86 : Cond.code yX10_isMissing cX10_isMissing 1 (retT 2) ∈ lw_tbl := tm_3 (List.mem_of_getElem? (i := 9) rfl)
theorem cw87 : Cond.code yX10_lay cX10_lay 4 (retT 0) ∈ lw_tbl := tm_2 (List.mem_of_getElem? (i := 233) rfl)
theorem cw88 : Cond.code yX10_put cX10_put 4 (retT 0) ∈ lw_tbl := tm_3 (List.mem_of_getElem? (i := 13) rfl)
theorem cw89 : Cond.code yX11_init cX11_init 2 (retT 0) ∈ lw_tbl := tm_1 (List.mem_of_getElem? (i := 25) rfl)
theorem cw90 : Cond.code yX11_status cX11_status 1 (retT 1) ∈ lw_tbl := tm_2 (List.mem_of_getElem? (i := 204) rfl)
theorem cw91 : Cond.code yX11_top cX11_top 1 (retT 3) ∈ lw_tbl := tm_2 (List.mem_of_getElem? (i := 208) rfl)
theorem cw92 : Cond.code yX11_bottom cX11_bottom 1 (retT 3) ∈ lw_tbl := tm_2 (List.mem_of_getElem? (i := 212) rfl)
theorem cw93 : Cond.code yX11_tray cX11_tray 4 (retT 2) ∈ lw_tbl := tm_2 (List.mem_of_getElem? (i := 216) rfl)
theorem cw94 : Cond.code yX11_write cX11_write 6 (retT 2) ∈ lw_tbl := tm_3 (List.mem_of_getElem? (i := 1) rfl)
theorem cw95 : Cond.code yX11_read cX11_read 4 (retT 3) ∈ lw_tbl := tm_3 (List.mem_of_getElem? (i := 17) rfl)
theorem cw96 : Cond.code yX11_pour cX11_pour 8 (retT 2) ∈ lw_tbl := tm_3 (List.mem_of_getElem? (i := 25) rfl)
theorem cw97 : Cond.code yX11_feed cX11_feed 6 (retT 1) ∈ lw_tbl := tm_3 (List.mem_of_getElem? (i := 32) rfl)
theorem cw98 : Cond.code yX11_land cX11_land 3 (retT 1) ∈ lw_tbl := tm_3 (List.mem_of_getElem? (i := 40) rfl)
theorem cw99 : Cond.code yX11_rules cX11_rules 3 (retT 1) ∈ lw_tbl := tm_3 (List.mem_of_getElem? (i := 171) rfl)
theorem cw100 : Cond.code yX11_fault cX11_fault 2 (retT 1) ∈ lw_tbl := tm_3 (List.mem_of_getElem? (i := 228) rfl)
theorem cw101 : Cond.code yX11_told cX11_told 3 (retT 1) ∈ lw_tbl := tm_3 (List.mem_of_getElem? (i := 232) rfl)
theorem cw102 : Cond.code yX11_question cX11_question 5 (retT 1) ∈ lw_tbl := tm_3 (List.mem_of_getElem? (i := 236) rfl)
theorem cw103 : Cond.code yX11_weight cX11_weight 6 (retT 1) ∈ lw_tbl := tm_4 (List.mem_of_getElem? (i := 5) rfl)
theorem cw104 : Cond.code yX11_sheet cX11_sheet 3 (retT 1) ∈ lw_tbl := tm_4 (List.mem_of_getElem? (i := 15) rfl)
theorem cw105 : Cond.code yX11_look cX11_look 3 (retT 1) ∈ lw_tbl := tm_4 (List.mem_of_getElem? (i := 33) rfl)
theorem cw106 : Cond.code yX11_alter cX11_alter 4 (retT 2) ∈ lw_tbl := tm_4 (List.mem_of_getElem? (i := 44) rfl)
theorem cw107 : Cond.code yX11_card cX11_card 3 (retT 2) ∈ lw_tbl := tm_4 (List.mem_of_getElem? (i := 49) rfl)
theorem cw108 : Cond.code yX11_sheetWeight cX11_sheetWeight 3 (retT 1) ∈ lw_tbl := tm_4 (List.mem_of_getElem? (i := 53) rfl)
theorem cw109 : Cond.code yX11_odds cX11_odds 7 (retT 2) ∈ lw_tbl := tm_4 (List.mem_of_getElem? (i := 66) rfl)
theorem cw110 : Cond.code yX11_half cX11_half 6 (retT 2) ∈ lw_tbl := tm_4 (List.mem_of_getElem? (i := 91) rfl)
theorem cw111 : Cond.code yX11_way cX11_way 3 (retT 1) ∈ lw_tbl := tm_4 (List.mem_of_getElem? (i := 95) rfl)
theorem cw112 : Cond.code yX11_walked cX11_walked 2 (retT 1) ∈ lw_tbl := tm_4 (List.mem_of_getElem? (i := 114) rfl)
theorem cw113 : Cond.code yX11_amiss cX11_amiss 5 (retT 1) ∈ lw_tbl := tm_4 (List.mem_of_getElem? (i := 145) rfl)
theorem cw114 : Cond.code yX11_group cX11_group 8 (retT 1) ∈ lw_tbl := tm_4 (List.mem_of_getElem? (i := 155) rfl)
theorem cw115 : Cond.code yX11_twins cX11_twins 1 (retT 2) ∈ lw_tbl := tm_4 (List.mem_of_getElem? (i := 173) rfl)
theorem cw116 : Cond.code yX11_strange cX11_strange 2 (retT 2) ∈ lw_tbl := tm_4 (List.mem_of_getElem? (i := 181) rfl)
theorem cw117 : Cond.code yX11_goes cX11_goes 8 (retT 2) ∈ lw_tbl := tm_4 (List.mem_of_getElem? (i := 189) rfl)
theorem cw118 : Cond.code yX11_number cX11_number 4 (retT 2) ∈ lw_tbl := tm_4 (List.mem_of_getElem? (i := 198) rfl)
theorem cw119 : Cond.code yX11_bounds cX11_bounds 7 (retT 2) ∈ lw_tbl := tm_4 (List.mem_of_getElem? (i := 206) rfl)
theorem cw120 : Cond.code yX11_unlike cX11_unlike 4 (retT 1) ∈ lw_tbl := tm_4 (List.mem_of_getElem? (i := 214) rfl)
theorem cw121 : Cond.code yX11_doubtful cX11_doubtful 9 (retT 1) ∈ lw_tbl := tm_4 (List.mem_of_getElem? (i := 222) rfl)
theorem cw122 : Cond.code yX11_flagged cX11_flagged 2 (retT 1) ∈ lw_tbl := tm_4 (List.mem_of_getElem? (i := 230) rfl)
theorem cw123 : Cond.code yX11_hides cX11_hides 4 (retT 1) ∈ lw_tbl := tm_5 (List.mem_of_getElem? (i := 24) rfl)
theorem cw124 : Cond.code yX11_hidden cX11_hidden 2 (retT 1) ∈ lw_tbl := tm_5 (List.mem_of_getElem? (i := 42) rfl)
theorem cw125 : Cond.code yX11_worth cX11_worth 4 (retT 1) ∈ lw_tbl := tm_5 (List.mem_of_getElem? (i := 46) rfl)
theorem cw126 : Cond.code yX11_deters cX11_deters 4 (retT 1) ∈ lw_tbl := tm_5 (List.mem_of_getElem? (i := 57) rfl)
theorem cw127 : Cond.code yX11_checked cX11_checked 3 (retT 1) ∈ lw_tbl := tm_5 (List.mem_of_getElem? (i := 61) rfl)
theorem cw128 : Cond.code yX11_found cX11_found 1 (retT 1) ∈ lw_tbl := tm_5 (List.mem_of_getElem? (i := 75) rfl)
theorem cw129 : Cond.code yX11_world cX11_world 4 (retT 1) ∈ lw_tbl := tm_5 (List.mem_of_getElem? (i := 79) rfl)
theorem cw130 : Cond.code yX11_score cX11_score 5 (retT 1) ∈ lw_tbl := tm_5 (List.mem_of_getElem? (i := 100) rfl)
theorem cw131 : Cond.code yX11_mark cX11_mark 1 (retT 1) ∈ lw_tbl := tm_5 (List.mem_of_getElem? (i := 108) rfl)
theorem cw132 : Cond.code yX11_back cX11_back 1 (retT 1) ∈ lw_tbl := tm_5 (List.mem_of_getElem? (i := 132) rfl)
theorem cw133 : Cond.code yX11_refuse cX11_refuse 2 (retT 1) ∈ lw_tbl := tm_3 (List.mem_of_getElem? (i := 21) rfl)
theorem cw134 : Cond.code yX11_deny cX11_deny 2 (retT 2) ∈ lw_tbl := tm_2 (List.mem_of_getElem? (i := 229) rfl)
theorem cw135 : Cond.code yX11_answer cX11_answer 2 (retT 1) ∈ lw_tbl := tm_3 (List.mem_of_getElem? (i := 167) rfl)
theorem cw136 : Cond.code yX11_agree cX11_agree 1 (retT 2) ∈ lw_tbl := tm_2 (List.mem_of_getElem? (i := 237) rfl)
theorem cw137 : Cond.code yX11_tell cX11_tell 7 (retT 2) ∈ lw_tbl := tm_4 (List.mem_of_getElem? (i := 84) rfl)
theorem cw138 : Cond.code yX11_whyNoPlace cX11_whyNoPlace 3 (retT 1) ∈ lw_tbl := tm_3 (List.mem_of_getElem? (i := 5) rfl)
theorem cw139 : Cond.code yX11_isTray cX11_isTray 2 (retT 2) ∈ lw_tbl := tm_2 (List.mem_of_getElem? (i := 220) rfl)
theorem cw140 : Cond.code yX11_isQuestion cX11_isQuestion 2 (retT 2) ∈ lw_tbl := tm_4 (List.mem_of_getElem? (i := 0) rfl)
theorem cw141 : Cond.code yX11_isAnswer cX11_isAnswer 3 (retT 2) ∈ lw_tbl := tm_4 (List.mem_of_getElem? (i := 9) rfl)
theorem cw142 : Cond.code yX11_isDoor cX11_isDoor 2 (retT 2) ∈ lw_tbl := tm_4 (List.mem_of_getElem? (i := 99) rfl)
theorem cw143 : Cond.code yX11_isSheet cX11_isSheet 2 (retT 2) ∈ lw_tbl := tm_4 (List.mem_of_getElem? (i := 37) rfl)
theorem cw144 : Cond.code yX11_isRule cX11_isRule 2 (retT 2) ∈ lw_tbl := tm_4 (List.mem_of_getElem? (i := 234) rfl)
theorem cw145 : Cond.code yX11_isAsker cX11_isAsker 1 (retT 2) ∈ lw_tbl := tm_4 (List.mem_of_getElem? (i := 117) rfl)
theorem cw146 : Cond.code yX11_within cX11_within 6 (retT 2) ∈ lw_tbl := tm_2 (List.mem_of_getElem? (i := 224) rfl)
theorem cw147 : Cond.code yX11_commonDivisor cX11_commonDivisor 11 (retT 3) ∈ lw_tbl := tm_4 (List.mem_of_getElem? (i := 87) rfl)
theorem cw148 : Cond.code yX11_partMade cX11_partMade 7 (retT 3) ∈ lw_tbl := tm_4 (List.mem_of_getElem? (i := 225) rfl)
theorem cw149 : Cond.code yX11_sumOfSquares cX11_sumOfSquares 9 (retT 3) ∈ lw_tbl := tm_4 (List.mem_of_getElem? (i := 176) rfl)
theorem cw150 : Cond.code yX11_sumBelow cX11_sumBelow 10 (retT 3) ∈ lw_tbl := tm_4 (List.mem_of_getElem? (i := 185) rfl)
theorem cw151 : Cond.code yX11_answerIn cX11_answerIn 2 (retT 1) ∈ lw_tbl := tm_4 (List.mem_of_getElem? (i := 40) rfl)
theorem cw152 : Cond.code yX11_withAnswer cX11_withAnswer 4 (retT 1) ∈ lw_tbl := tm_4 (List.mem_of_getElem? (i := 29) rfl)
theorem cw153 : Cond.code yX11_unlikeAnswers cX11_unlikeAnswers 3 (retT 1) ∈ lw_tbl := tm_4 (List.mem_of_getElem? (i := 163) rfl)
theorem cw154 : Cond.code yX11_placeOf cX11_placeOf 3 (retT 1) ∈ lw_tbl := tm_3 (List.mem_of_getElem? (i := 138) rfl)
theorem cw155 : Cond.code yX12_init cX12_init 1 (retT 0) ∈ lw_tbl := tm_5 (List.mem_of_getElem? (i := 137) rfl)
theorem cw156 : Cond.code yX12_plain cX12_plain 3 (retT 0) ∈ lw_tbl := tm_5 (List.mem_of_getElem? (i := 142) rfl)
theorem cw157 : Cond.code yX12_status cX12_status 1 (retT 1) ∈ lw_tbl := tm_6 (List.mem_of_getElem? (i := 30) rfl)
theorem cw158 : Cond.code yX12_top cX12_top 1 (retT 3) ∈ lw_tbl := tm_6 (List.mem_of_getElem? (i := 34) rfl)
theorem cw159 : Cond.code yX12_bottom cX12_bottom 1 (retT 3) ∈ lw_tbl := tm_6 (List.mem_of_getElem? (i := 38) rfl)
theorem cw160 : Cond.code yX12_is cX12_is 2 (retT 2) ∈ lw_tbl := tm_6 (List.mem_of_getElem? (i := 49) rfl)
theorem cw161 : Cond.code yX12_refuse cX12_refuse 2 (retT 1) ∈ lw_tbl := tm_6 (List.mem_of_getElem? (i := 89) rfl)
theorem cw162 : Cond.code yX12_gives cX12_gives 2 (retT 1) ∈ lw_tbl := tm_6 (List.mem_of_getElem? (i := 213) rfl)
theorem cw163 : Cond.code yX12_tells cX12_tells 11 (retT 2) ∈ lw_tbl := tm_7 (List.mem_of_getElem? (i := 88) rfl)
theorem cw164 : Cond.code yX12_isTray cX12_isTray 1 (retT 2) ∈ lw_tbl := tm_6 (List.mem_of_getElem? (i := 45) rfl)
theorem cw165 : Cond.code yX12_cut cX12_cut 3 (retT 3) ∈ lw_tbl := tm_6 (List.mem_of_getElem? (i := 60) rfl)
theorem cw166 : Cond.code yX12_tray cX12_tray 5 (retT 2) ∈ lw_tbl := tm_6 (List.mem_of_getElem? (i := 42) rfl)
theorem cw167 : Cond.code yX12_wrongPlace cX12_wrongPlace 3 (retT 1) ∈ lw_tbl := tm_6 (List.mem_of_getElem? (i := 57) rfl)
theorem cw168 : Cond.code yX12_write cX12_write 6 (retT 2) ∈ lw_tbl := tm_6 (List.mem_of_getElem? (i := 53) rfl)
theorem cw169 : Cond.code yX12_read cX12_read 3 (retT 3) ∈ lw_tbl := tm_6 (List.mem_of_getElem? (i := 64) rfl)
theorem cw170 : Cond.code yX12_pour cX12_pour 8 (retT 2) ∈ lw_tbl := tm_6 (List.mem_of_getElem? (i := 69) rfl)
theorem cw171 : Cond.code yX12_feed cX12_feed 6 (retT 1) ∈ lw_tbl := tm_6 (List.mem_of_getElem? (i := 73) rfl)
theorem cw172 : Cond.code yX12_four cX12_four 3 (retT 0) ∈ lw_tbl := tm_6 (List.mem_of_getElem? (i := 77) rfl)
theorem cw173 : Cond.code yX12_byteAt cX12_byteAt 2 (retT 1) ∈ lw_tbl := tm_6 (List.mem_of_getElem? (i := 101) rfl)
theorem cw174 : Cond.code yX12_isSmall cX12_isSmall 1 (retT 2) ∈ lw_tbl := tm_6 (List.mem_of_getElem? (i := 104) rfl)
theorem cw175 : Cond.code yX12_isDigit cX12_isDigit 1 (retT 2) ∈ lw_tbl := tm_6 (List.mem_of_getElem? (i := 107) rfl)
theorem cw176 : Cond.code yX12_ahead cX12_ahead 2 (retT 0) ∈ lw_tbl := tm_6 (List.mem_of_getElem? (i := 97) rfl)
theorem cw177 : Cond.code yX12_isSign cX12_isSign 2 (retT 2) ∈ lw_tbl := tm_6 (List.mem_of_getElem? (i := 205) rfl)
theorem cw178 : Cond.code yX12_inWords cX12_inWords 7 (retT 1) ∈ lw_tbl := tm_6 (List.mem_of_getElem? (i := 118) rfl)
theorem cw179 : Cond.code yX12_fails cX12_fails 2 (retT 2) ∈ lw_tbl := tm_6 (List.mem_of_getElem? (i := 170) rfl)
theorem cw180 : Cond.code yX12_begins cX12_begins 3 (retT 0) ∈ lw_tbl := tm_6 (List.mem_of_getElem? (i := 93) rfl)
theorem cw181 : Cond.code yX12_closes cX12_closes 1 (retT 2) ∈ lw_tbl := tm_6 (List.mem_of_getElem? (i := 209) rfl)
theorem cw182 : Cond.code yX12_passes cX12_passes 4 (retT 2) ∈ lw_tbl := tm_6 (List.mem_of_getElem? (i := 174) rfl)
theorem cw183 : Cond.code yX12_fault cX12_fault 2 (retT 1) ∈ lw_tbl := tm_6 (List.mem_of_getElem? (i := 81) rfl)
theorem cw184 : Cond.code yX12_isName cX12_isName 1 (retT 2) ∈ lw_tbl := tm_6 (List.mem_of_getElem? (i := 182) rfl)
theorem cw185 : Cond.code yX12_nameHere cX12_nameHere 4 (retT 3) ∈ lw_tbl := tm_6 (List.mem_of_getElem? (i := 190) rfl)
theorem cw186 : Cond.code yX12_findHere cX12_findHere 3 (retT 1) ∈ lw_tbl := tm_6 (List.mem_of_getElem? (i := 186) rfl)
theorem cw187 : Cond.code yX12_rowAt cX12_rowAt 4 (retT 1) ∈ lw_tbl := tm_6 (List.mem_of_getElem? (i := 193) rfl)
theorem cw188 : Cond.code yX12_anAsk cX12_anAsk 5 (retT 2) ∈ lw_tbl := tm_6 (List.mem_of_getElem? (i := 178) rfl)
theorem cw189 : Cond.code yX12_someWeights cX12_someWeights 8 (retT 2) ∈ lw_tbl := tm_6 (List.mem_of_getElem? (i := 201) rfl)
theorem cw190 : Cond.code yX12_aDoor cX12_aDoor 2 (retT 2) ∈ lw_tbl := tm_6 (List.mem_of_getElem? (i := 197) rfl)
theorem cw191 : Cond.code yX12_part cX12_part 3 (retT 2) ∈ lw_tbl := tm_6 (List.mem_of_getElem? (i := 113) rfl)
theorem cw192 : Cond.code yX12_land cX12_land 4 (retT 1) ∈ lw_tbl := tm_6 (List.mem_of_getElem? (i := 85) rfl)
theorem cw193 : Cond.code yX12_puts cX12_puts 3 (retT 0) ∈ lw_tbl := tm_6 (List.mem_of_getElem? (i := 234) rfl)
theorem cw194 : Cond.code yX12_falls cX12_falls 2 (retT 0) ∈ lw_tbl := tm_6 (List.mem_of_getElem? (i := 230) rfl)
theorem cw195 : Cond.code yX12_begin cX12_begin 4 (retT 2) ∈ lw_tbl := tm_6 (List.mem_of_getElem? (i := 238) rfl)
theorem cw196 : Cond.code yX12_joins cX12_joins 2 (retT 2) ∈ lw_tbl := tm_6 (List.mem_of_getElem? (i := 226) rfl)
theorem cw197 : Cond.code yX12_flag cX12_flag 2 (retT 2) ∈ lw_tbl := tm_6 (List.mem_of_getElem? (i := 221) rfl)
theorem cw198 : Cond.code yX12_rules cX12_rules 4 (retT 1) ∈ lw_tbl := tm_6 (List.mem_of_getElem? (i := 217) rfl)
theorem cw199 : Cond.code yX12_isQuestion cX12_isQuestion 2 (retT 2) ∈ lw_tbl := tm_7 (List.mem_of_getElem? (i := 10) rfl)
theorem cw200 : Cond.code yX12_isSheet cX12_isSheet 2 (retT 2) ∈ lw_tbl := tm_7 (List.mem_of_getElem? (i := 42) rfl)
theorem cw201 : Cond.code yX12_isDoor cX12_isDoor 3 (retT 2) ∈ lw_tbl := tm_7 (List.mem_of_getElem? (i := 30) rfl)
theorem cw202 : Cond.code yX12_isAsker cX12_isAsker 2 (retT 2) ∈ lw_tbl := tm_7 (List.mem_of_getElem? (i := 25) rfl)
theorem cw203 : Cond.code yX12_isFrom cX12_isFrom 6 (retT 2) ∈ lw_tbl := tm_7 (List.mem_of_getElem? (i := 34) rfl)
theorem cw204 : Cond.code yX12_answersOf cX12_answersOf 2 (retT 1) ∈ lw_tbl := tm_7 (List.mem_of_getElem? (i := 18) rfl)
theorem cw205 : Cond.code yX12_ofSheet cX12_ofSheet 3 (retT 1) ∈ lw_tbl := tm_7 (List.mem_of_getElem? (i := 46) rfl)
theorem cw206 : Cond.code yX12_told cX12_told 2 (retT 1) ∈ lw_tbl := tm_7 (List.mem_of_getElem? (i := 2) rfl)
theorem cw207 : Cond.code yX12_question cX12_question 4 (retT 1) ∈ lw_tbl := tm_7 (List.mem_of_getElem? (i := 6) rfl)
theorem cw208 : Cond.code yX12_weight cX12_weight 6 (retT 1) ∈ lw_tbl := tm_7 (List.mem_of_getElem? (i := 14) rfl)
theorem cw209 : Cond.code yX12_sheet cX12_sheet 7 (retT 1) ∈ lw_tbl := tm_7 (List.mem_of_getElem? (i := 22) rfl)
theorem cw210 : Cond.code yX12_look cX12_look 3 (retT 1) ∈ lw_tbl := tm_7 (List.mem_of_getElem? (i := 38) rfl)
theorem cw211 : Cond.code yX12_alter cX12_alter 4 (retT 2) ∈ lw_tbl := tm_7 (List.mem_of_getElem? (i := 50) rfl)
theorem cw212 : Cond.code yX12_card cX12_card 3 (retT 2) ∈ lw_tbl := tm_7 (List.mem_of_getElem? (i := 54) rfl)
theorem cw213 : Cond.code yX12_weightOf cX12_weightOf 6 (retT 1) ∈ lw_tbl := tm_7 (List.mem_of_getElem? (i := 73) rfl)
theorem cw214 : Cond.code yX12_weighs cX12_weighs 7 (retT 3) ∈ lw_tbl := tm_7 (List.mem_of_getElem? (i := 69) rfl)
theorem cw215 : Cond.code yX12_answersAt cX12_answersAt 1 (retT 1) ∈ lw_tbl := tm_7 (List.mem_of_getElem? (i := 65) rfl)
theorem cw216 : Cond.code yX12_sheetWeighs cX12_sheetWeighs 3 (retT 3) ∈ lw_tbl := tm_7 (List.mem_of_getElem? (i := 62) rfl)
theorem cw217 : Cond.code yX12_sheetWeight cX12_sheetWeight 3 (retT 1) ∈ lw_tbl := tm_7 (List.mem_of_getElem? (i := 58) rfl)
theorem cw218 : Cond.code yX12_asksOdds cX12_asksOdds 6 (retT 0) ∈ lw_tbl := tm_7 (List.mem_of_getElem? (i := 84) rfl)
theorem cw219 : Cond.code yX12_isShare cX12_isShare 1 (retT 2) ∈ lw_tbl := tm_7 (List.mem_of_getElem? (i := 80) rfl)
theorem cw220 : Cond.code yX12_odds cX12_odds 3 (retT 2) ∈ lw_tbl := tm_7 (List.mem_of_getElem? (i := 77) rfl)
theorem cw221 : Cond.code yX12_half cX12_half 7 (retT 2) ∈ lw_tbl := tm_7 (List.mem_of_getElem? (i := 92) rfl)
theorem cw222 : Cond.code yX12_stepsOf cX12_stepsOf 3 (retT 1) ∈ lw_tbl := tm_7 (List.mem_of_getElem? (i := 104) rfl)
theorem cw223 : Cond.code yX12_wayOf cX12_wayOf 3 (retT 1) ∈ lw_tbl := tm_7 (List.mem_of_getElem? (i := 100) rfl)
theorem cw224 : Cond.code yX12_way cX12_way 3 (retT 1) ∈ lw_tbl := tm_7 (List.mem_of_getElem? (i := 96) rfl)
theorem cw225 : Cond.code yX12_orders cX12_orders 4 (retT 0) ∈ lw_tbl := tm_7 (List.mem_of_getElem? (i := 113) rfl)
theorem cw226 : Cond.code yX12_fits cX12_fits 3 (retT 2) ∈ lw_tbl := tm_7 (List.mem_of_getElem? (i := 117) rfl)
theorem cw227 : Cond.code yX12_walked cX12_walked 6 (retT 1) ∈ lw_tbl := tm_7 (List.mem_of_getElem? (i := 109) rfl)
theorem cw228 : Cond.code yX12_amiss cX12_amiss 5 (retT 1) ∈ lw_tbl := tm_7 (List.mem_of_getElem? (i := 122) rfl)
theorem cw229 : Cond.code yX12_differs cX12_differs 5 (retT 1) ∈ lw_tbl := tm_7 (List.mem_of_getElem? (i := 130) rfl)
theorem cw230 : Cond.code yX12_group cX12_group 9 (retT 1) ∈ lw_tbl := tm_7 (List.mem_of_getElem? (i := 126) rfl)
theorem cw231 : Cond.code yX12_rowsMany cX12_rowsMany 3 (retT 1) ∈ lw_tbl := tm_7 (List.mem_of_getElem? (i := 138) rfl)
theorem cw232 : Cond.code yX12_takesRow cX12_takesRow 4 (retT 0) ∈ lw_tbl := tm_7 (List.mem_of_getElem? (i := 142) rfl)
theorem cw233 : Cond.code yX12_whole cX12_whole 5 (retT 3) ∈ lw_tbl := tm_7 (List.mem_of_getElem? (i := 146) rfl)
theorem cw234 : Cond.code yX12_twins cX12_twins 6 (retT 2) ∈ lw_tbl := tm_7 (List.mem_of_getElem? (i := 134) rfl)
theorem cw235 : Cond.code yX12_strange cX12_strange 7 (retT 2) ∈ lw_tbl := tm_7 (List.mem_of_getElem? (i := 150) rfl)
theorem cw236 : Cond.code yX12_goes cX12_goes 8 (retT 2) ∈ lw_tbl := tm_7 (List.mem_of_getElem? (i := 155) rfl)
theorem cw237 : Cond.code yX12_countOf cX12_countOf 6 (retT 1) ∈ lw_tbl := tm_7 (List.mem_of_getElem? (i := 171) rfl)
theorem cw238 : Cond.code yX12_bits cX12_bits 3 (retT 1) ∈ lw_tbl := tm_7 (List.mem_of_getElem? (i := 174) rfl)
theorem cw239 : Cond.code yX12_all cX12_all 1 (retT 1) ∈ lw_tbl := tm_7 (List.mem_of_getElem? (i := 167) rfl)
theorem cw240 : Cond.code yX12_isAnswer cX12_isAnswer 3 (retT 2) ∈ lw_tbl := tm_7 (List.mem_of_getElem? (i := 163) rfl)
theorem cw241 : Cond.code yX12_number cX12_number 4 (retT 2) ∈ lw_tbl := tm_7 (List.mem_of_getElem? (i := 159) rfl)
theorem cw242 : Cond.code yX12_bounds cX12_bounds 7 (retT 2) ∈ lw_tbl := tm_7 (List.mem_of_getElem? (i := 178) rfl)
theorem cw243 : Cond.code yX12_unlike cX12_unlike 6 (retT 1) ∈ lw_tbl := tm_7 (List.mem_of_getElem? (i := 182) rfl)
theorem cw244 : Cond.code yX12_doubtful cX12_doubtful 5 (retT 1) ∈ lw_tbl := tm_7 (List.mem_of_getElem? (i := 186) rfl)
theorem cw245 : Cond.code yX12_isAmiss cX12_isAmiss 5 (retT 2) ∈ lw_tbl := tm_7 (List.mem_of_getElem? (i := 211) rfl)
theorem cw246 : Cond.code yX12_says cX12_says 6 (retT 2) ∈ lw_tbl := tm_7 (List.mem_of_getElem? (i := 207) rfl)
theorem cw247 : Cond.code yX12_flags cX12_flags 6 (retT 2) ∈ lw_tbl := tm_7 (List.mem_of_getElem? (i := 203) rfl)
theorem cw248 : Cond.code yX12_isRule cX12_isRule 2 (retT 2) ∈ lw_tbl := tm_7 (List.mem_of_getElem? (i := 195) rfl)
theorem cw249 : Cond.code yX12_flagsAll cX12_flagsAll 4 (retT 1) ∈ lw_tbl := tm_7 (List.mem_of_getElem? (i := 199) rfl)
theorem cw250 : Cond.code yX12_flagged cX12_flagged 2 (retT 1) ∈ lw_tbl := tm_7 (List.mem_of_getElem? (i := 191) rfl)
theorem cw251 : Cond.code yX12_hides cX12_hides 10 (retT 1) ∈ lw_tbl := tm_7 (List.mem_of_getElem? (i := 215) rfl)
theorem cw252 : Cond.code yX12_hidden cX12_hidden 2 (retT 1) ∈ lw_tbl := tm_7 (List.mem_of_getElem? (i := 219) rfl)
theorem cw253 : Cond.code yX12_worthOf cX12_worthOf 9 (retT 1) ∈ lw_tbl := tm_7 (List.mem_of_getElem? (i := 230) rfl)
theorem cw254 : Cond.code yX12_isMinute cX12_isMinute 2 (retT 2) ∈ lw_tbl := tm_7 (List.mem_of_getElem? (i := 226) rfl)
theorem cw255 : Cond.code yX12_worth cX12_worth 4 (retT 1) ∈ lw_tbl := tm_7 (List.mem_of_getElem? (i := 223) rfl)
theorem cw256 : Cond.code yX12_deters cX12_deters 4 (retT 1) ∈ lw_tbl := tm_7 (List.mem_of_getElem? (i := 234) rfl)
theorem cw257 : Cond.code yX12_checked cX12_checked 10 (retT 1) ∈ lw_tbl := tm_7 (List.mem_of_getElem? (i := 238) rfl)
theorem cw258 : Cond.code yX12_found cX12_found 1 (retT 1) ∈ lw_tbl := tm_8 (List.mem_of_getElem? (i := 3) rfl)
theorem cw259 : Cond.code yX12_draw cX12_draw 2 (retT 1) ∈ lw_tbl := tm_8 (List.mem_of_getElem? (i := 12) rfl)
theorem cw260 : Cond.code yX12_world cX12_world 14 (retT 1) ∈ lw_tbl := tm_8 (List.mem_of_getElem? (i := 7) rfl)
theorem cw261 : Cond.code yX12_score cX12_score 8 (retT 1) ∈ lw_tbl := tm_8 (List.mem_of_getElem? (i := 17) rfl)
theorem cw262 : Cond.code yX12_copies cX12_copies 4 (retT 0) ∈ lw_tbl := tm_8 (List.mem_of_getElem? (i := 25) rfl)
theorem cw263 : Cond.code yX12_mark cX12_mark 1 (retT 1) ∈ lw_tbl := tm_8 (List.mem_of_getElem? (i := 21) rfl)
theorem cw264 : Cond.code yX12_back cX12_back 1 (retT 1) ∈ lw_tbl := tm_8 (List.mem_of_getElem? (i := 29) rfl)
theorem cw265 : Cond.code yJ6_bitCount_0f7a4 cJ6_bitCount_0f7a4 1 (retT 1) ∈ lw_tbl := tm_4 (List.mem_of_getElem? (i := 166) rfl)
theorem cx0 : ∀ r ∈ mtab_0, Cond.code r.1 r.2.1 r.2.2.1 (retT r.2.2.2.1) ∈ lw_tbl := List.forall_mem_cons.mpr ⟨cw0, List.forall_mem_cons.mpr ⟨cw1, List.forall_mem_cons.mpr ⟨cw2, List.forall_mem_cons.mpr ⟨cw3, List.forall_mem_cons.mpr ⟨cw4, List.forall_mem_cons.mpr ⟨cw5, List.forall_mem_cons.mpr ⟨cw6, List.forall_mem_cons.mpr ⟨cw7, List.forall_mem_cons.mpr ⟨cw8, List.forall_mem_cons.mpr ⟨cw9, List.forall_mem_cons.mpr ⟨cw10, List.forall_mem_cons.mpr ⟨cw11, List.forall_mem_cons.mpr ⟨cw12, List.forall_mem_cons.mpr ⟨cw13, List.forall_mem_cons.mpr ⟨cw14, List.forall_mem_cons.mpr ⟨cw15, List.forall_mem_cons.mpr ⟨cw16, List.forall_mem_cons.mpr ⟨cw17, List.forall_mem_cons.mpr ⟨cw18, List.forall_mem_cons.mpr ⟨cw19, fun _ h => absurd h List.not_mem_nil⟩⟩⟩⟩⟩⟩⟩⟩⟩⟩⟩⟩⟩⟩⟩⟩⟩⟩⟩⟩
theorem cx1 : ∀ r ∈ mtab_1, Cond.code r.1 r.2.1 r.2.2.1 (retT r.2.2.2.1) ∈ lw_tbl := List.forall_mem_cons.mpr ⟨cw20, List.forall_mem_cons.mpr ⟨cw21, List.forall_mem_cons.mpr ⟨cw22, List.forall_mem_cons.mpr ⟨cw23, List.forall_mem_cons.mpr ⟨cw24, List.forall_mem_cons.mpr ⟨cw25, List.forall_mem_cons.mpr ⟨cw26, List.forall_mem_cons.mpr ⟨cw27, List.forall_mem_cons.mpr ⟨cw28, List.forall_mem_cons.mpr ⟨cw29, List.forall_mem_cons.mpr ⟨cw30, List.forall_mem_cons.mpr ⟨cw31, List.forall_mem_cons.mpr ⟨cw32, List.forall_mem_cons.mpr ⟨cw33, List.forall_mem_cons.mpr ⟨cw34, List.forall_mem_cons.mpr ⟨cw35, List.forall_mem_cons.mpr ⟨cw36, List.forall_mem_cons.mpr ⟨cw37, List.forall_mem_cons.mpr ⟨cw38, List.forall_mem_cons.mpr ⟨cw39, fun _ h => absurd h List.not_mem_nil⟩⟩⟩⟩⟩⟩⟩⟩⟩⟩⟩⟩⟩⟩⟩⟩⟩⟩⟩⟩
theorem cx2 : ∀ r ∈ mtab_2, Cond.code r.1 r.2.1 r.2.2.1 (retT r.2.2.2.1) ∈ lw_tbl := List.forall_mem_cons.mpr ⟨cw40, List.forall_mem_cons.mpr ⟨cw41, List.forall_mem_cons.mpr ⟨cw42, List.forall_mem_cons.mpr ⟨cw43, List.forall_mem_cons.mpr ⟨cw44, List.forall_mem_cons.mpr ⟨cw45, List.forall_mem_cons.mpr ⟨cw46, List.forall_mem_cons.mpr ⟨cw47, List.forall_mem_cons.mpr ⟨cw48, List.forall_mem_cons.mpr ⟨cw49, List.forall_mem_cons.mpr ⟨cw50, List.forall_mem_cons.mpr ⟨cw51, List.forall_mem_cons.mpr ⟨cw52, List.forall_mem_cons.mpr ⟨cw53, List.forall_mem_cons.mpr ⟨cw54, List.forall_mem_cons.mpr ⟨cw55, List.forall_mem_cons.mpr ⟨cw56, List.forall_mem_cons.mpr ⟨cw57, List.forall_mem_cons.mpr ⟨cw58, List.forall_mem_cons.mpr ⟨cw59, fun _ h => absurd h List.not_mem_nil⟩⟩⟩⟩⟩⟩⟩⟩⟩⟩⟩⟩⟩⟩⟩⟩⟩⟩⟩⟩
theorem cx3 : ∀ r ∈ mtab_3, Cond.code r.1 r.2.1 r.2.2.1 (retT r.2.2.2.1) ∈ lw_tbl := List.forall_mem_cons.mpr ⟨cw60, List.forall_mem_cons.mpr ⟨cw61, List.forall_mem_cons.mpr ⟨cw62, List.forall_mem_cons.mpr ⟨cw63, List.forall_mem_cons.mpr ⟨cw64, List.forall_mem_cons.mpr ⟨cw65, List.forall_mem_cons.mpr ⟨cw66, List.forall_mem_cons.mpr ⟨cw67, List.forall_mem_cons.mpr ⟨cw68, List.forall_mem_cons.mpr ⟨cw69, List.forall_mem_cons.mpr ⟨cw70, List.forall_mem_cons.mpr ⟨cw71, List.forall_mem_cons.mpr ⟨cw72, List.forall_mem_cons.mpr ⟨cw73, List.forall_mem_cons.mpr ⟨cw74, List.forall_mem_cons.mpr ⟨cw75, List.forall_mem_cons.mpr ⟨cw76, List.forall_mem_cons.mpr ⟨cw77, List.forall_mem_cons.mpr ⟨cw78, List.forall_mem_cons.mpr ⟨cw79, fun _ h => absurd h List.not_mem_nil⟩⟩⟩⟩⟩⟩⟩⟩⟩⟩⟩⟩⟩⟩⟩⟩⟩⟩⟩⟩
theorem cx4 : ∀ r ∈ mtab_4, Cond.code r.1 r.2.1 r.2.2.1 (retT r.2.2.2.1) ∈ lw_tbl := List.forall_mem_cons.mpr ⟨cw80, List.forall_mem_cons.mpr ⟨cw81, List.forall_mem_cons.mpr ⟨cw82, List.forall_mem_cons.mpr ⟨cw83, List.forall_mem_cons.mpr ⟨cw84, List.forall_mem_cons.mpr ⟨cw85, List.forall_mem_cons.mpr ⟨cw86, List.forall_mem_cons.mpr ⟨cw87, List.forall_mem_cons.mpr ⟨cw88, List.forall_mem_cons.mpr ⟨cw89, List.forall_mem_cons.mpr ⟨cw90, List.forall_mem_cons.mpr ⟨cw91, List.forall_mem_cons.mpr ⟨cw92, List.forall_mem_cons.mpr ⟨cw93, List.forall_mem_cons.mpr ⟨cw94, List.forall_mem_cons.mpr ⟨cw95, List.forall_mem_cons.mpr ⟨cw96, List.forall_mem_cons.mpr ⟨cw97, List.forall_mem_cons.mpr ⟨cw98, List.forall_mem_cons.mpr ⟨cw99, fun _ h => absurd h List.not_mem_nil⟩⟩⟩⟩⟩⟩⟩⟩⟩⟩⟩⟩⟩⟩⟩⟩⟩⟩⟩⟩
theorem cx5 : ∀ r ∈ mtab_5, Cond.code r.1 r.2.1 r.2.2.1 (retT r.2.2.2.1) ∈ lw_tbl := List.forall_mem_cons.mpr ⟨cw100, List.forall_mem_cons.mpr ⟨cw101, List.forall_mem_cons.mpr ⟨cw102, List.forall_mem_cons.mpr ⟨cw103, List.forall_mem_cons.mpr ⟨cw104, List.forall_mem_cons.mpr ⟨cw105, List.forall_mem_cons.mpr ⟨cw106, List.forall_mem_cons.mpr ⟨cw107, List.forall_mem_cons.mpr ⟨cw108, List.forall_mem_cons.mpr ⟨cw109, List.forall_mem_cons.mpr ⟨cw110, List.forall_mem_cons.mpr ⟨cw111, List.forall_mem_cons.mpr ⟨cw112, List.forall_mem_cons.mpr ⟨cw113, List.forall_mem_cons.mpr ⟨cw114, List.forall_mem_cons.mpr ⟨cw115, List.forall_mem_cons.mpr ⟨cw116, List.forall_mem_cons.mpr ⟨cw117, List.forall_mem_cons.mpr ⟨cw118, List.forall_mem_cons.mpr ⟨cw119, fun _ h => absurd h List.not_mem_nil⟩⟩⟩⟩⟩⟩⟩⟩⟩⟩⟩⟩⟩⟩⟩⟩⟩⟩⟩⟩
theorem cx6 : ∀ r ∈ mtab_6, Cond.code r.1 r.2.1 r.2.2.1 (retT r.2.2.2.1) ∈ lw_tbl := List.forall_mem_cons.mpr ⟨cw120, List.forall_mem_cons.mpr ⟨cw121, List.forall_mem_cons.mpr ⟨cw122, List.forall_mem_cons.mpr ⟨cw123, List.forall_mem_cons.mpr ⟨cw124, List.forall_mem_cons.mpr ⟨cw125, List.forall_mem_cons.mpr ⟨cw126, List.forall_mem_cons.mpr ⟨cw127, List.forall_mem_cons.mpr ⟨cw128, List.forall_mem_cons.mpr ⟨cw129, List.forall_mem_cons.mpr ⟨cw130, List.forall_mem_cons.mpr ⟨cw131, List.forall_mem_cons.mpr ⟨cw132, List.forall_mem_cons.mpr ⟨cw133, List.forall_mem_cons.mpr ⟨cw134, List.forall_mem_cons.mpr ⟨cw135, List.forall_mem_cons.mpr ⟨cw136, List.forall_mem_cons.mpr ⟨cw137, List.forall_mem_cons.mpr ⟨cw138, List.forall_mem_cons.mpr ⟨cw139, fun _ h => absurd h List.not_mem_nil⟩⟩⟩⟩⟩⟩⟩⟩⟩⟩⟩⟩⟩⟩⟩⟩⟩⟩⟩⟩
theorem cx7 : ∀ r ∈ mtab_7, Cond.code r.1 r.2.1 r.2.2.1 (retT r.2.2.2.1) ∈ lw_tbl := List.forall_mem_cons.mpr ⟨cw140, List.forall_mem_cons.mpr ⟨cw141, List.forall_mem_cons.mpr ⟨cw142, List.forall_mem_cons.mpr ⟨cw143, List.forall_mem_cons.mpr ⟨cw144, List.forall_mem_cons.mpr ⟨cw145, List.forall_mem_cons.mpr ⟨cw146, List.forall_mem_cons.mpr ⟨cw147, List.forall_mem_cons.mpr ⟨cw148, List.forall_mem_cons.mpr ⟨cw149, List.forall_mem_cons.mpr ⟨cw150, List.forall_mem_cons.mpr ⟨cw151, List.forall_mem_cons.mpr ⟨cw152, List.forall_mem_cons.mpr ⟨cw153, List.forall_mem_cons.mpr ⟨cw154, List.forall_mem_cons.mpr ⟨cw155, List.forall_mem_cons.mpr ⟨cw156, List.forall_mem_cons.mpr ⟨cw157, List.forall_mem_cons.mpr ⟨cw158, List.forall_mem_cons.mpr ⟨cw159, fun _ h => absurd h List.not_mem_nil⟩⟩⟩⟩⟩⟩⟩⟩⟩⟩⟩⟩⟩⟩⟩⟩⟩⟩⟩⟩
theorem cx8 : ∀ r ∈ mtab_8, Cond.code r.1 r.2.1 r.2.2.1 (retT r.2.2.2.1) ∈ lw_tbl := List.forall_mem_cons.mpr ⟨cw160, List.forall_mem_cons.mpr ⟨cw161, List.forall_mem_cons.mpr ⟨cw162, List.forall_mem_cons.mpr ⟨cw163, List.forall_mem_cons.mpr ⟨cw164, List.forall_mem_cons.mpr ⟨cw165, List.forall_mem_cons.mpr ⟨cw166, List.forall_mem_cons.mpr ⟨cw167, List.forall_mem_cons.mpr ⟨cw168, List.forall_mem_cons.mpr ⟨cw169, List.forall_mem_cons.mpr ⟨cw170, List.forall_mem_cons.mpr ⟨cw171, List.forall_mem_cons.mpr ⟨cw172, List.forall_mem_cons.mpr ⟨cw173, List.forall_mem_cons.mpr ⟨cw174, List.forall_mem_cons.mpr ⟨cw175, List.forall_mem_cons.mpr ⟨cw176, List.forall_mem_cons.mpr ⟨cw177, List.forall_mem_cons.mpr ⟨cw178, List.forall_mem_cons.mpr ⟨cw179, fun _ h => absurd h List.not_mem_nil⟩⟩⟩⟩⟩⟩⟩⟩⟩⟩⟩⟩⟩⟩⟩⟩⟩⟩⟩⟩
theorem cx9 : ∀ r ∈ mtab_9, Cond.code r.1 r.2.1 r.2.2.1 (retT r.2.2.2.1) ∈ lw_tbl := List.forall_mem_cons.mpr ⟨cw180, List.forall_mem_cons.mpr ⟨cw181, List.forall_mem_cons.mpr ⟨cw182, List.forall_mem_cons.mpr ⟨cw183, List.forall_mem_cons.mpr ⟨cw184, List.forall_mem_cons.mpr ⟨cw185, List.forall_mem_cons.mpr ⟨cw186, List.forall_mem_cons.mpr ⟨cw187, List.forall_mem_cons.mpr ⟨cw188, List.forall_mem_cons.mpr ⟨cw189, List.forall_mem_cons.mpr ⟨cw190, List.forall_mem_cons.mpr ⟨cw191, List.forall_mem_cons.mpr ⟨cw192, List.forall_mem_cons.mpr ⟨cw193, List.forall_mem_cons.mpr ⟨cw194, List.forall_mem_cons.mpr ⟨cw195, List.forall_mem_cons.mpr ⟨cw196, List.forall_mem_cons.mpr ⟨cw197, List.forall_mem_cons.mpr ⟨cw198, List.forall_mem_cons.mpr ⟨cw199, fun _ h => absurd h List.not_mem_nil⟩⟩⟩⟩⟩⟩⟩⟩⟩⟩⟩⟩⟩⟩⟩⟩⟩⟩⟩⟩
theorem cx10 : ∀ r ∈ mtab_10, Cond.code r.1 r.2.1 r.2.2.1 (retT r.2.2.2.1) ∈ lw_tbl := List.forall_mem_cons.mpr ⟨cw200, List.forall_mem_cons.mpr ⟨cw201, List.forall_mem_cons.mpr ⟨cw202, List.forall_mem_cons.mpr ⟨cw203, List.forall_mem_cons.mpr ⟨cw204, List.forall_mem_cons.mpr ⟨cw205, List.forall_mem_cons.mpr ⟨cw206, List.forall_mem_cons.mpr ⟨cw207, List.forall_mem_cons.mpr ⟨cw208, List.forall_mem_cons.mpr ⟨cw209, List.forall_mem_cons.mpr ⟨cw210, List.forall_mem_cons.mpr ⟨cw211, List.forall_mem_cons.mpr ⟨cw212, List.forall_mem_cons.mpr ⟨cw213, List.forall_mem_cons.mpr ⟨cw214, List.forall_mem_cons.mpr ⟨cw215, List.forall_mem_cons.mpr ⟨cw216, List.forall_mem_cons.mpr ⟨cw217, List.forall_mem_cons.mpr ⟨cw218, List.forall_mem_cons.mpr ⟨cw219, fun _ h => absurd h List.not_mem_nil⟩⟩⟩⟩⟩⟩⟩⟩⟩⟩⟩⟩⟩⟩⟩⟩⟩⟩⟩⟩
theorem cx11 : ∀ r ∈ mtab_11, Cond.code r.1 r.2.1 r.2.2.1 (retT r.2.2.2.1) ∈ lw_tbl := List.forall_mem_cons.mpr ⟨cw220, List.forall_mem_cons.mpr ⟨cw221, List.forall_mem_cons.mpr ⟨cw222, List.forall_mem_cons.mpr ⟨cw223, List.forall_mem_cons.mpr ⟨cw224, List.forall_mem_cons.mpr ⟨cw225, List.forall_mem_cons.mpr ⟨cw226, List.forall_mem_cons.mpr ⟨cw227, List.forall_mem_cons.mpr ⟨cw228, List.forall_mem_cons.mpr ⟨cw229, List.forall_mem_cons.mpr ⟨cw230, List.forall_mem_cons.mpr ⟨cw231, List.forall_mem_cons.mpr ⟨cw232, List.forall_mem_cons.mpr ⟨cw233, List.forall_mem_cons.mpr ⟨cw234, List.forall_mem_cons.mpr ⟨cw235, List.forall_mem_cons.mpr ⟨cw236, List.forall_mem_cons.mpr ⟨cw237, List.forall_mem_cons.mpr ⟨cw238, List.forall_mem_cons.mpr ⟨cw239, fun _ h => absurd h List.not_mem_nil⟩⟩⟩⟩⟩⟩⟩⟩⟩⟩⟩⟩⟩⟩⟩⟩⟩⟩⟩⟩
theorem cx12 : ∀ r ∈ mtab_12, Cond.code r.1 r.2.1 r.2.2.1 (retT r.2.2.2.1) ∈ lw_tbl := List.forall_mem_cons.mpr ⟨cw240, List.forall_mem_cons.mpr ⟨cw241, List.forall_mem_cons.mpr ⟨cw242, List.forall_mem_cons.mpr ⟨cw243, List.forall_mem_cons.mpr ⟨cw244, List.forall_mem_cons.mpr ⟨cw245, List.forall_mem_cons.mpr ⟨cw246, List.forall_mem_cons.mpr ⟨cw247, List.forall_mem_cons.mpr ⟨cw248, List.forall_mem_cons.mpr ⟨cw249, List.forall_mem_cons.mpr ⟨cw250, List.forall_mem_cons.mpr ⟨cw251, List.forall_mem_cons.mpr ⟨cw252, List.forall_mem_cons.mpr ⟨cw253, List.forall_mem_cons.mpr ⟨cw254, List.forall_mem_cons.mpr ⟨cw255, List.forall_mem_cons.mpr ⟨cw256, List.forall_mem_cons.mpr ⟨cw257, List.forall_mem_cons.mpr ⟨cw258, List.forall_mem_cons.mpr ⟨cw259, fun _ h => absurd h List.not_mem_nil⟩⟩⟩⟩⟩⟩⟩⟩⟩⟩⟩⟩⟩⟩⟩⟩⟩⟩⟩⟩
theorem cx13 : ∀ r ∈ mtab_13, Cond.code r.1 r.2.1 r.2.2.1 (retT r.2.2.2.1) ∈ lw_tbl := List.forall_mem_cons.mpr ⟨cw260, List.forall_mem_cons.mpr ⟨cw261, List.forall_mem_cons.mpr ⟨cw262, List.forall_mem_cons.mpr ⟨cw263, List.forall_mem_cons.mpr ⟨cw264, List.forall_mem_cons.mpr ⟨cw265, fun _ h => absurd h List.not_mem_nil⟩⟩⟩⟩⟩⟩
set_option maxRecDepth 100000 in
theorem tb_code : ∀ k, k < 266 → Cond.code (mnm k) (mcode k) (mloc k) (retT (mret k)) ∈ lw_tbl := by
  intro k hk
  have hm : mrow k ∈ mtab_0 ++ (mtab_1 ++ (mtab_2 ++ (mtab_3 ++ (mtab_4 ++ (mtab_5 ++ (mtab_6 ++ (mtab_7 ++ (mtab_8 ++ (mtab_9 ++ (mtab_10 ++ (mtab_11 ++ (mtab_12 ++ (mtab_13))))))))))))) := by
    have e : mtab = (mtab_0 ++ (mtab_1 ++ (mtab_2 ++ (mtab_3 ++ (mtab_4 ++ (mtab_5 ++ (mtab_6 ++ (mtab_7 ++ (mtab_8 ++ (mtab_9 ++ (mtab_10 ++ (mtab_11 ++ (mtab_12 ++ (mtab_13)))))))))))))) ++ [(yL_law, code, 4, 2, 14, false)] := by simp only [mtab, List.append_assoc]
    have hl : k < (mtab_0 ++ (mtab_1 ++ (mtab_2 ++ (mtab_3 ++ (mtab_4 ++ (mtab_5 ++ (mtab_6 ++ (mtab_7 ++ (mtab_8 ++ (mtab_9 ++ (mtab_10 ++ (mtab_11 ++ (mtab_12 ++ (mtab_13)))))))))))))).length := hk
    unfold mrow
    rw [e, List.getD_eq_getElem?_getD, List.getElem?_append_left hl, List.getElem?_eq_getElem hl]
    exact List.getElem_mem hl
  have all : ∀ r ∈ mtab_0 ++ (mtab_1 ++ (mtab_2 ++ (mtab_3 ++ (mtab_4 ++ (mtab_5 ++ (mtab_6 ++ (mtab_7 ++ (mtab_8 ++ (mtab_9 ++ (mtab_10 ++ (mtab_11 ++ (mtab_12 ++ (mtab_13))))))))))))), Cond.code r.1 r.2.1 r.2.2.1 (retT r.2.2.2.1) ∈ lw_tbl := List.forall_mem_append.mpr ⟨cx0, List.forall_mem_append.mpr ⟨cx1, List.forall_mem_append.mpr ⟨cx2, List.forall_mem_append.mpr ⟨cx3, List.forall_mem_append.mpr ⟨cx4, List.forall_mem_append.mpr ⟨cx5, List.forall_mem_append.mpr ⟨cx6, List.forall_mem_append.mpr ⟨cx7, List.forall_mem_append.mpr ⟨cx8, List.forall_mem_append.mpr ⟨cx9, List.forall_mem_append.mpr ⟨cx10, List.forall_mem_append.mpr ⟨cx11, List.forall_mem_append.mpr ⟨cx12, cx13⟩⟩⟩⟩⟩⟩⟩⟩⟩⟩⟩⟩⟩
  exact all _ hm
theorem tb_init : ∀ k, k < 266 → lw_tbl[(mpo k).2.1]? = some (Cond.initialized (mnm k).cls) := by decide +kernel
theorem tb_kind : ∀ k, k < 266 → lw_tbl[(mpo k).2.2.1]? = some (if (mpo k).2.2.2.2.1 = 1 then Cond.static (mnm k) else Cond.instanceMethod (mnm k)) := by decide +kernel
theorem tb_sel : ∀ k, k < 266 → (mpo k).2.2.2.2.1 = 0 → lw_tbl[(mpo k).2.2.2.1]? = some (Cond.selects (mnm k).cls (mnm k) (mnm k)) := by decide +kernel
theorem tb_nm : ∀ k, k < 266 → (mnm k).cls = cnm (mcls k) ∧ plainName (mnm k).cls = true ∧ (mnm k).cls ≠ "java/lang/invoke/MethodHandle" ∧ (mnm k).cls ≠ "java/lang/invoke/VarHandle" ∧ (parseMethodDescriptor (mnm k).desc).map (fun d => d.parameters.length) = some (mpo k).2.2.2.2.2 ∧ mloc k ≤ 14 ∧ ((mpo k).2.2.2.2.1 = 2 ↔ (mnm k).name = "<init>") ∧ (minit k = true ↔ (mnm k).name = "<init>") := by decide +kernel
theorem tb_fld : ∀ e ∈ ftab, lw_tbl[e.2.2.2.2.2 + 87]? = some (Cond.fieldLink (cnm e.1) e.2.1 (fT e.2.2.1 e.2.2.2.1).1 (fT e.2.2.1 e.2.2.2.1).2.1 (fT e.2.2.1 e.2.2.2.1).2.2.1) := by decide +kernel
theorem tb_fl2 : ∀ e ∈ ftab, e.2.2.1 < 13 ∧ e.2.2.2.1 < nfl e.2.2.1 ∧ fty e.2.2.1 e.2.2.2.1 = e.2.2.2.2.1 ∧ (fT e.2.2.1 e.2.2.2.1).1 = cnm e.2.2.1 ∧ (fT e.2.2.1 e.2.2.2.1).2.2.2 = ffi e.2.2.1 e.2.2.2.1 := by decide +kernel
theorem tb_cls : ∀ c, c < 13 → ∃ r, vwC[c]? = some r ∧ r.1 = cnm c ∧ r.2.2 = nfl c ∧ (∀ j, j < nfl c → r.2.1 j = fT c j) := by decide +kernel
theorem tb_mth : ∀ e ∈ mtabl, lw_tbl[e.2.2.2.2.2.2 + 87]? = some (if e.2.2.2.2.2.1 = 0 then Cond.methodLink (cnm e.1) e.2.1 (mnm e.2.2.1) else Cond.methodLinkNest (cnm e.1) e.2.1 (mnm e.2.2.1) "KitchenSheets") := by decide +kernel
theorem tb_mt2 : ∀ e ∈ mtabl, e.2.2.1 < 266 ∧ e.2.2.2.2.1 = (mpo e.2.2.1).2.2.2.2.1 ∧ e.2.2.2.1 = (mpo e.2.2.1).2.2.2.2.2 + (if e.2.2.2.2.1 = 1 then 0 else 1) ∧ (e.2.2.2.2.1 ≠ 1 → mcls e.2.2.1 < 13) := by decide +kernel
def inm (i : Nat) : MethodName := [⟨"java/lang/Object", "<init>", "()V"⟩, ⟨"java/lang/Math", "abs", "(I)I"⟩, ⟨"java/lang/Math", "max", "(II)I"⟩, ⟨"java/lang/Math", "min", "(II)I"⟩, ⟨"java/lang/System", "arraycopy", "(Ljava/lang/Object;ILjava/lang/Object;II)V"⟩, ⟨"java/lang/String", "length", "()I"⟩, ⟨"java/lang/String", "charAt", "(I)C"⟩].getD i ⟨"", "", ""⟩
def ipos : List Nat := [
  435, 1117, 385, 946, 401, 201, 1169, 915, 166, 295, 1174, 182, 195, 1175, 207, 1168, 123, 456, 113, 593,
  1014, 1017, 1185, 1396, 1406, 1416, 1632, 1645
]
theorem tb_itr : ∀ q ∈ itab.zip ipos, lw_tbl[q.2]? = some (Cond.methodLink (cnm q.1.1) q.1.2.1 (inm q.1.2.2)) := by decide +kernel
theorem tb_itl : itab.length = ipos.length := rfl
def cpos : List Nat := [
  202, 196, 290, 116, 118, 161, 177, 190, 380, 396, 430, 448, 450, 108, 1180
]
theorem tb_ncl : ∀ q ∈ ctab.zip cpos, lw_tbl[q.2]? = some (Cond.classLink (cnm q.1.1) q.1.2.1 (cnm q.1.2.2)) ∧ q.1.2.2 < 13 := by decide +kernel
theorem tb_ncn : ctab.length = cpos.length := rfl
def npos : List Nat := [
  431, 381, 397, 197, 162, 291, 178, 191, 203, 119, 452, 109, 1181
]
theorem tb_inst : ∀ c, c < 13 → lw_tbl[npos.getD c 0]? = some (Cond.instantiable (cnm c) (nfl c)) := by decide +kernel
def zpos : List Nat := [
  98, 96, 97, 93, 90, 95, 91, 92, 94, 89, 99, 88, 100
]
theorem tb_ini : ∀ c, c < 13 → lw_tbl[zpos.getD c 0]? = some (Cond.initialized (cnm c)) := by decide +kernel
def anm (c : Nat) : String := if c = 24 then RX10 else RX7
def apos : List Nat := [
  116, 190
]
theorem tb_nar : ∀ q ∈ atab.zip apos, lw_tbl[q.2]? = some (Cond.classLink (cnm q.1.1) q.1.2.1 (anm q.1.2.2)) ∧ (q.1.2.2 = 24 ∨ q.1.2.2 = 25) := by decide +kernel
theorem tb_nan : atab.length = apos.length := rfl
theorem tb_ao : lw_tbl[117]? = some (Cond.arrayOver (.object RX10)) ∧ lw_tbl[379]? = some (Cond.arrayOver (.object RX7)) := by decide +kernel
theorem tb_ac : lw_tbl[226]? = some (Cond.arrayClass .int) ∧ lw_tbl[225]? = some (Cond.arrayClass .long) ∧ lw_tbl[160]? = some (Cond.arrayClass .byte) ∧ lw_tbl[227]? = some (Cond.arrayClass .boolean) := by decide +kernel
def kpos : List Nat := [
  1063, 644, 657, 658, 660, 661, 662, 659, 749, 787, 786, 764, 768, 769, 770, 771, 772, 773, 774, 827,
  829, 1135, 548, 552, 808, 874, 963, 989, 1094, 1095, 1109, 1033, 1352, 1395, 1401, 1509, 1553, 1558, 1678, 1714,
  1766, 1780, 1775, 974, 975, 976, 1797
]
def kcond (c i t : Nat) (v : Int) : Cond := match t with | 0 => .constant (cnm c) i (Int32.ofInt v) | 1 => .constantLong (cnm c) i (Int64.ofInt v) | _ => .stringRef (cnm c) i (if v = -2 then " ask law mind by door walk cards " else " flag or and not same short late rare made card amiss ")
theorem tb_kst : ∀ q ∈ ktab.zip kpos, lw_tbl[q.2]? = some (kcond q.1.1 q.1.2.1 q.1.2.2.1 q.1.2.2.2) := by decide +kernel
theorem tb_ksn : ktab.length = kpos.length := rfl
theorem tb_ksr : ∀ e ∈ ktab, (e.2.2.1 = 0 → -2147483648 ≤ e.2.2.2 ∧ e.2.2.2 ≤ 2147483647) ∧ (e.2.2.1 = 1 → -9223372036854775808 ≤ e.2.2.2 ∧ e.2.2.2 ≤ 9223372036854775807) ∧ (e.2.2.1 = 2 → e.1 = 12 ∧ ((e.2.1 = 164 ∧ e.2.2.2 = -2) ∨ (e.2.1 = 229 ∧ e.2.2.2 = -3))) := by decide +kernel
theorem tb_ws : ∀ c, c < 13 → ∀ r, vwC[c]? = some r → ∀ w ∈ u_ws r.1 r.2.1 r.2.2, w ∈ lw_tbl := by
  have h : ∀ c, c < 13 → (match vwC[c]? with | some r => (u_ws r.1 r.2.1 r.2.2).all (fun w => decide (w ∈ lw_tbl)) | none => true) = true := by decide +kernel
  intro c hc r hr w hw
  have h1 := h c hc
  rw [hr] at h1
  exact of_decide_eq_true (List.all_eq_true.mp h1 w hw)
theorem tb_ty : ∀ c, c < 13 → ∀ j, j < nfl c → parseFieldDescriptor (fT c j).2.2.1 = some (tyX c j) ∧ (fty c j = 1 → tyX c j = .long) ∧ (fty c j = 0 → tyX c j = .int) ∧ (fty c j = 3 → tyX c j = .boolean) ∧ (fty c j = 2 → (match tyX c j with | .object _ => true | .array _ => true | _ => false) = true) ∧ fty c j ≤ 3 := by decide +kernel
theorem tb_ap : ∀ c, c < 13 → ∀ a, a < nfl c → ∀ b, b < nfl c → a ≠ b → (fT c a).2.1 ≠ (fT c b).2.1 := by decide +kernel
