noncomputable def mpT : List (List (Nat × Nat × Nat × Nat × Nat)) := [[(505, 107, 504, 0, 5), (1141, 107, 1139, 1140, 2), (1146, 107, 1145, 18, 3), (1154, 107, 1153, 0, 2), (1167, 107, 1166, 21, 2), (1151, 107, 1150, 19, 2), (1163, 107, 1162, 20, 2), (1173, 107, 1171, 1172, 1), (1309, 107, 1307, 1308, 3), (1314, 107, 1313, 30, 2), (1419, 107, 1417, 1418, 3), (1423, 107, 1422, 34, 2), (1435, 107, 1434, 35, 3), (562, 108, 561, 0, 2), (1192, 108, 1190, 1191, 1), (1209, 108, 1207, 1208, 0)],
  [(1214, 108, 1213, 22, 2), (1224, 108, 1223, 23, 1), (1233, 108, 1231, 1232, 1), (1237, 108, 1236, 24, 2), (341, 103, 340, 0, 1), (850, 103, 848, 849, 0), (943, 103, 941, 942, 0), (947, 103, 945, 946, 1), (990, 103, 988, 989, 0), (959, 103, 957, 958, 1), (1054, 103, 1052, 1053, 1), (1077, 103, 1075, 1076, 1), (939, 103, 937, 938, 0), (1058, 103, 1056, 1057, 2), (1061, 103, 1060, 0, 3), (601, 109, 600, 0, 3)],
  [(1258, 109, 1256, 1257, 1), (1267, 109, 1265, 1266, 2), (1276, 109, 1275, 26, 3), (1271, 109, 1270, 25, 4), (1288, 109, 1286, 1287, 0), (1292, 109, 1291, 27, 2), (1296, 109, 1295, 28, 0), (1300, 109, 1299, 29, 3), (294, 102, 293, 0, 0), (1205, 102, 1203, 1204, 0), (1455, 102, 1453, 1454, 1), (131, 99, 130, 0, 0), (724, 99, 722, 723, 1), (731, 99, 729, 730, 1), (720, 99, 718, 719, 1), (1182, 99, 1180, 1181, 1)],
  [(811, 99, 809, 810, 0), (1444, 99, 1442, 1443, 1), (637, 110, 636, 0, 3), (1371, 110, 1369, 1370, 2), (1376, 110, 1375, 31, 1), (1385, 110, 1384, 32, 0), (1381, 110, 1379, 1380, 0), (1391, 110, 1389, 1390, 1), (1399, 110, 1397, 1398, 1), (1407, 110, 1405, 1406, 1), (1411, 110, 1410, 33, 0), (430, 105, 429, 0, 1), (767, 105, 765, 766, 0), (745, 105, 743, 744, 1), (775, 105, 773, 774, 2), (779, 105, 777, 778, 5)],
  [(800, 105, 798, 799, 4), (793, 105, 791, 792, 1), (783, 105, 781, 782, 5), (787, 105, 786, 0, 2), (370, 104, 369, 0, 0), (830, 104, 828, 829, 1), (846, 104, 845, 1, 1), (842, 104, 840, 841, 1), (854, 104, 853, 2, 0), (857, 104, 856, 0, 1), (867, 104, 866, 0, 1), (861, 104, 860, 3, 0), (871, 104, 870, 4, 0), (875, 104, 874, 5, 0), (928, 104, 927, 6, 0), (931, 104, 930, 0, 1)],
  [(935, 104, 934, 7, 0), (951, 104, 950, 8, 0), (955, 104, 954, 9, 0), (963, 104, 962, 10, 0), (971, 104, 970, 12, 0), (986, 104, 985, 15, 0), (975, 104, 974, 13, 0), (967, 104, 966, 11, 1), (982, 104, 981, 14, 1), (978, 104, 977, 0, 1), (453, 106, 452, 0, 5), (1050, 106, 1049, 17, 0), (1010, 106, 1008, 1009, 2), (1034, 106, 1032, 1033, 2), (1085, 106, 1083, 1084, 2), (1318, 106, 1316, 1317, 4)],
  [(1015, 106, 1013, 1014, 2), (1038, 106, 1036, 1037, 5), (1046, 106, 1044, 1045, 0), (1073, 106, 1071, 1072, 0), (1019, 106, 1017, 1018, 1), (1095, 106, 1093, 1094, 1), (1099, 106, 1097, 1098, 0), (1091, 106, 1089, 1090, 2), (1107, 106, 1105, 1106, 2), (1123, 106, 1121, 1122, 0), (1129, 106, 1127, 1128, 0), (1349, 106, 1347, 1348, 3), (206, 101, 205, 0, 0), (1119, 101, 1117, 1118, 0), (1328, 101, 1326, 1327, 1), (1337, 101, 1335, 1336, 2)],
  [(1280, 101, 1278, 1279, 1), (1023, 101, 1021, 1022, 4), (1450, 101, 1448, 1449, 1), (123, 98, 122, 0, 0), (712, 98, 710, 711, 1), (716, 98, 714, 715, 4), (749, 98, 747, 748, 1), (753, 98, 751, 752, 2), (757, 98, 755, 756, 3), (763, 98, 761, 762, 4), (771, 98, 769, 770, 2), (804, 98, 802, 803, 3), (815, 98, 813, 814, 3), (822, 98, 820, 821, 4), (826, 98, 824, 825, 5), (834, 98, 832, 833, 1)],
  [(838, 98, 836, 837, 0), (994, 98, 992, 993, 1), (998, 98, 996, 997, 1), (1002, 98, 1000, 1001, 3), (1030, 98, 1028, 1029, 2), (1081, 98, 1079, 1080, 3), (1103, 98, 1101, 1102, 3), (1115, 98, 1113, 1114, 3), (1133, 98, 1131, 1132, 3), (1137, 98, 1135, 1136, 3), (1178, 98, 1176, 1177, 2), (1197, 98, 1195, 1196, 2), (1201, 98, 1199, 1200, 1), (1229, 98, 1227, 1228, 1), (1242, 98, 1240, 1241, 2), (1246, 98, 1244, 1245, 1)],
  [(1250, 98, 1248, 1249, 0), (1254, 98, 1252, 1253, 3), (1284, 98, 1282, 1283, 2), (1305, 98, 1303, 1304, 4), (1324, 98, 1322, 1323, 2), (1333, 98, 1331, 1332, 1), (1341, 98, 1339, 1340, 3), (1345, 98, 1343, 1344, 4), (1355, 98, 1353, 1354, 3), (1359, 98, 1357, 1358, 1), (1363, 98, 1361, 1362, 4), (1367, 98, 1365, 1366, 3), (1395, 98, 1393, 1394, 3), (1403, 98, 1401, 1402, 3), (1415, 98, 1413, 1414, 4), (1440, 98, 1438, 1439, 0)],
  [(1460, 98, 1458, 1459, 0), (1464, 98, 1462, 1463, 1), (1468, 98, 1467, 36, 1), (1006, 98, 1005, 16, 3), (727, 98, 726, 0, 3), (807, 98, 806, 0, 1), (818, 98, 817, 0, 1), (734, 98, 733, 0, 3), (1026, 98, 1025, 0, 1), (738, 98, 737, 0, 3), (1042, 98, 1041, 0, 1), (1426, 98, 1425, 0, 1), (1429, 98, 1428, 0, 1), (741, 98, 740, 0, 4), (1217, 98, 1216, 0, 2), (1473, 111, 1472, 0, 0)],
  [(1477, 111, 1476, 0, 2), (1617, 111, 1616, 0, 3), (1674, 111, 1673, 0, 1), (1614, 111, 1613, 38, 1), (1621, 111, 1620, 39, 1), (1610, 111, 1609, 37, 1), (1684, 111, 1683, 0, 1), (1624, 111, 1623, 0, 3), (1635, 111, 1634, 41, 2), (1677, 111, 1676, 0, 1), (1602, 111, 1600, 1601, 1), (1627, 111, 1626, 0, 3), (1631, 111, 1630, 40, 2), (1639, 111, 1638, 42, 2), (1606, 111, 1604, 1605, 4), (1643, 111, 1641, 1642, 1)],
  [(1647, 111, 1645, 1646, 2), (1651, 111, 1649, 1650, 3), (1658, 111, 1657, 0, 1), (1655, 111, 1653, 1654, 4), (1671, 111, 1670, 44, 2), (1666, 111, 1665, 43, 2), (1662, 111, 1660, 1661, 2), (1688, 111, 1687, 45, 0), (1681, 111, 1679, 1680, 3), (1692, 111, 1690, 1691, 3), (1696, 111, 1694, 1695, 4), (1708, 111, 1707, 47, 2), (1712, 111, 1711, 48, 3), (1704, 111, 1703, 46, 3), (1700, 111, 1698, 1699, 3), (1720, 111, 1719, 49, 1)],
  [(1716, 111, 1714, 1715, 5), (1724, 111, 1722, 1723, 1), (1740, 111, 1739, 52, 1), (1747, 111, 1746, 0, 1), (1743, 111, 1742, 0, 1), (1736, 111, 1735, 51, 0), (1758, 111, 1757, 0, 3), (1796, 111, 1795, 0, 5), (1765, 111, 1764, 0, 4), (1799, 111, 1798, 0, 6), (1762, 111, 1761, 55, 1), (1781, 111, 1780, 59, 2), (1793, 111, 1792, 62, 0), (1785, 111, 1784, 60, 1), (1777, 111, 1776, 58, 1), (1789, 111, 1788, 61, 0)],
  [(1773, 111, 1772, 57, 0), (1769, 111, 1768, 56, 0), (1812, 111, 1811, 65, 0), (1808, 111, 1807, 64, 0), (1816, 111, 1815, 66, 1), (1804, 111, 1803, 63, 0), (1755, 111, 1754, 54, 0), (1751, 111, 1750, 53, 0), (1732, 111, 1731, 50, 0), (1728, 111, 1726, 1727, 0), (1821, 111, 1819, 1820, 1), (1825, 111, 1823, 1824, 1), (1851, 111, 1850, 0, 1), (1848, 111, 1847, 0, 3), (1856, 111, 1855, 0, 3), (1845, 111, 1844, 70, 3)],
  [(1841, 111, 1840, 69, 1), (1837, 111, 1836, 68, 3), (1833, 111, 1832, 67, 1), (1860, 111, 1859, 71, 1), (1829, 111, 1827, 1828, 2), (1876, 111, 1875, 74, 2), (1872, 111, 1871, 73, 2), (1888, 111, 1887, 76, 4), (1884, 111, 1883, 75, 4), (1868, 111, 1867, 72, 4), (1864, 111, 1862, 1863, 3), (1880, 111, 1878, 1879, 3), (1896, 111, 1895, 77, 3), (1900, 111, 1899, 78, 3), (1904, 111, 1903, 79, 0), (1892, 111, 1890, 1891, 3)],
  [(1908, 111, 1906, 1907, 3), (1916, 111, 1915, 80, 1), (1920, 111, 1919, 81, 2), (1912, 111, 1910, 1911, 3), (1928, 111, 1927, 82, 1), (1924, 111, 1922, 1923, 2), (1932, 111, 1930, 1931, 2), (1940, 111, 1939, 83, 1), (1948, 111, 1947, 85, 1), (1952, 111, 1951, 86, 1), (1944, 111, 1943, 84, 1), (1936, 111, 1934, 1935, 1), (1956, 111, 1954, 1955, 1), (1960, 111, 1958, 1959, 2), (1964, 111, 1962, 1963, 1), (1968, 111, 1966, 1967, 0)],
  [(1984, 111, 1983, 89, 1), (1980, 111, 1979, 88, 2), (1976, 111, 1975, 87, 0), (1972, 111, 1970, 1971, 3), (1992, 111, 1991, 90, 1), (1996, 111, 1995, 91, 1), (1988, 111, 1986, 1987, 2), (2000, 111, 1998, 1999, 4), (2008, 111, 2007, 92, 1), (2016, 111, 2015, 93, 2), (2004, 111, 2002, 2003, 2), (2012, 111, 2010, 2011, 1), (2020, 111, 2018, 2019, 3), (2028, 111, 2027, 94, 3), (2024, 111, 2022, 2023, 4), (2032, 111, 2030, 2031, 3)],
  [(2036, 111, 2034, 2035, 1), (2040, 111, 2038, 2039, 4), (2051, 111, 2050, 95, 2), (2047, 111, 2046, 0, 1), (2044, 111, 2042, 2043, 3), (2055, 111, 2053, 2054, 3), (2059, 111, 2057, 2058, 3), (2067, 111, 2066, 96, 5), (2063, 111, 2061, 2062, 4), (2071, 111, 2069, 2070, 0), (2075, 111, 2073, 2074, 0), (2079, 111, 2077, 2078, 1), (1185, 117, 1184, 0, 1), (135, 100, 134, 0, 2), (0, 97, 0, 0, 1)]]
noncomputable def mP (mid : Nat) : Nat × Nat × Nat × Nat × Nat := (mpT.getD (mid / 16) []).getD (mid % 16) (0, 0, 0, 0, 0)
noncomputable def cpT : List (Nat × Nat) := [(502, 107), (559, 108), (338, 103), (598, 109), (291, 102), (128, 99), (634, 110), (427, 105), (367, 104), (450, 106), (203, 101), (120, 98), (1470, 111)]
noncomputable def Ts0 : List Cond := lw_tbl.filter goodWord
def isNest (w : Cond) : Bool := match w with
  | .fieldLinkNest _ _ _ _ _ _ => true
  | .methodLinkNest _ _ _ _ => true
  | _ => false
noncomputable def Nw0 : List Cond := lw_tbl.filter isNest
noncomputable def Tw (pos : Nat) (w : Cond) : Bool := decide (lw_tbl[pos]? = some w)
theorem Tw_in {pos : Nat} {w : Cond} (h : Tw pos w = true) (hg : goodWord w = true) : w ∈ Ts0 := List.mem_filter.mpr ⟨List.mem_of_getElem? (of_decide_eq_true h), hg⟩
theorem Tw_nw {pos : Nat} {w : Cond} (h : Tw pos w = true) (hg : isNest w = true) : w ∈ Nw0 := List.mem_filter.mpr ⟨List.mem_of_getElem? (of_decide_eq_true h), hg⟩
abbrev AO0 : List String := ["WordlessSigns$Grammar"]
def nm0 (ci : Nat) : String := match vwCl[ci]? with
  | some q => q.1
  | none => ""
noncomputable def chkF (own : String) (idx pos : Nat) (T : u_T) (k : Nat) : Bool := Tw pos (.fieldLink own idx (T k).1 (T k).2.1 (T k).2.2.1) || Tw pos (.fieldLinkNest own idx (T k).1 (T k).2.1 (T k).2.2.1 "WordlessSigns")
noncomputable def chkK (own : String) (idx pos : Nat) (y : MethodName) : Bool := Tw pos (.methodLink own idx y) || Tw pos (.methodLinkNest own idx y "WordlessSigns")
def chkR (t : Nat) (ty : Option FieldType) : Bool := match t, ty with
  | 0, none => true
  | 1, some .int => true
  | 2, some .boolean => true
  | 3, some .long => true
  | 4, some (.object _) => true
  | _, _ => false
noncomputable def chkM (mid : Nat) : Bool := decide ((gNl mid).1 ≤ 40) && plainName (mY mid).cls && decide ((mY mid).cls ≠ "java/lang/invoke/MethodHandle") && decide ((mY mid).cls ≠ "java/lang/invoke/VarHandle") && decide ((parseMethodDescriptor (mY mid).desc).map (fun d => d.parameters.length) = some (mP mid).2.2.2.2) && Tw (mP mid).2.1 (.initialized (mY mid).cls) && chkR (gNl mid).2 (rT mid)
noncomputable def chkB (own : String) (idx pos b : Nat) : Bool := match b with
  | 1 => Tw pos (.methodLink own idx Lib.Math.min.name) && Tw 863 (.static Lib.Math.min.name) && Tw 112 (.initialized "java/lang/Math") && Tw 864 (.code Lib.Math.min.name Lib.Math.min.code 2 (some .int))
  | 2 => Tw pos (.methodLink own idx Lib.Math.max.name) && Tw 795 (.static Lib.Math.max.name) && Tw 112 (.initialized "java/lang/Math") && Tw 796 (.code Lib.Math.max.name Lib.Math.max.code 2 (some .int))
  | 3 => Tw pos (.methodLink own idx Lib.MathLoose.min_long.x) && Tw 1065 (.static Lib.MathLoose.min_long.x) && Tw 112 (.initialized "java/lang/Math") && Tw 1066 (.code Lib.MathLoose.min_long.x Lib.MathLoose.min_long.code 4 (some .long))
  | 4 => Tw pos (.methodLink own idx Lib.MathLoose.max_long.x) && Tw 1068 (.static Lib.MathLoose.max_long.x) && Tw 112 (.initialized "java/lang/Math") && Tw 1069 (.code Lib.MathLoose.max_long.x Lib.MathLoose.max_long.code 4 (some .long))
  | 5 => Tw pos (.methodLink own idx arraycopyName) && Tw 1220 (.native arraycopyName) && Tw 1219 (.static arraycopyName) && Tw 118 (.initialized "java/lang/System")
  | 8 => Tw pos (.methodLink own idx objectInit) && Tw 125 (.instanceMethod objectInit) && Tw 126 (.code objectInit ⟨#[0xb1]⟩ 1 none)
  | _ => false
noncomputable def chkI (mid : Nat) (a : Rw) : Bool :=
  let own := (mY mid).cls
  let pos := a.2.2.2.2
  let w := a.2.2.2.1
  match a.2.1 with
  | .goto off => decide ((a.1 : Int) + off = (w.1 : Int))
  | .ifCond _ off => decide ((a.1 : Int) + off = (w.1 : Int))
  | .if_icmp _ off => decide ((a.1 : Int) + off = (w.1 : Int))
  | .tableswitch d lo hi offs => decide ((gSwt mid a.1).1 = lo) && decide ((gSwt mid a.1).2.1 = hi) && decide ((a.1 : Int) + d = ((gSwt mid a.1).2.2.2 : Int)) && (List.range offs.size).all (fun j => decide ((a.1 : Int) + offs.getD j 0 = ((gSwt mid a.1).2.2.1.getD j 0 : Int))) && decide ((hi - lo + 1).toNat = offs.size)
  | .ldc idx => (match gCst mid a.1 with
    | .int x => Tw pos (.constant own idx x)
    | _ => decide (own = "WordlessSigns$Parser") && Nat.beq idx 114)
  | .getstatic idx => Tw pos (.fieldLinkNest own idx "WordlessSigns" "PLACE_GAPS" "[I" "WordlessSigns")
  | .ldc_w idx => (match gCst mid a.1 with
    | .int x => Tw pos (.constant own idx x)
    | _ => true)
  | .ldc2_w idx => (match gCst mid a.1 with
    | .long x => Tw pos (.constantLong own idx x)
    | _ => true)
  | .getfield idx => (match vwCl[w.1]? with
    | some q => decide (w.2.1 < q.2.2) && chkF own idx pos q.2.1 w.2.1
    | none => false)
  | .putfield idx => (match vwCl[w.1]? with
    | some q => decide (w.2.1 < q.2.2) && chkF own idx pos q.2.1 w.2.1 && (!(q.2.1 w.2.1).2.2.2 || (decide ((mY mid).name = "<init>") && decide ((q.2.1 w.2.1).1 = own) && Tw pos (.fieldLink own idx (q.2.1 w.2.1).1 (q.2.1 w.2.1).2.1 (q.2.1 w.2.1).2.2.1)))
    | none => false)
  | .new idx => (match vwCl[w.1]? with
    | some q => decide (w.2.1 = q.2.2) && Tw pos (.classLink own idx q.1) && Tw (cpT.getD w.1 (0, 0)).1 (.instantiable q.1 q.2.2) && Tw (cpT.getD w.1 (0, 0)).2 (.initialized q.1)
    | none => false)
  | .newarray t => (match t with
    | .int => Tw 200 (.arrayClass (newarray.typeOf .int))
    | .boolean => Tw 201 (.arrayClass (newarray.typeOf .boolean))
    | .byte => Tw 425 (.arrayClass (newarray.typeOf .byte))
    | .long => Tw 1598 (.arrayClass (newarray.typeOf .long))
    | _ => false)
  | .anewarray idx => Tw pos (.classLink own idx (nm0 w.1)) && decide (nm0 w.1 ∈ AO0)
  | .invokestatic idx => bif Nat.beq w.2.2.2 0 then (Nat.blt w.1 302 && Nat.beq w.2.1 (mP w.1).2.2.2.2 && Tw (mP w.1).2.2.1 (.static (mY w.1)) && chkK own idx pos (mY w.1)) else (Nat.ble w.2.2.2 5 && chkB own idx pos w.2.2.2)
  | .invokespecial idx => bif Nat.beq w.2.2.2 0 then (Nat.blt w.1 302 && Nat.beq w.2.1 (mP w.1).2.2.2.2 && Tw (mP w.1).2.2.1 (.instanceMethod (mY w.1)) && chkK own idx pos (mY w.1) && (rT w.1).isNone && decide ((mY w.1).name = "<init>")) else (Nat.beq w.2.2.2 8 && chkB own idx pos 8)
  | .invokevirtual idx => bif Nat.beq w.2.2.2 0 then (Nat.blt w.1 302 && Nat.beq w.2.1 (mP w.1).2.2.2.2 && Tw (mP w.1).2.2.1 (.instanceMethod (mY w.1)) && chkK own idx pos (mY w.1) && Nat.blt w.2.2.1 100 && (match vwCl[w.2.2.1]? with
    | some q => decide (q.1 = (mY w.1).cls) && Tw (mP w.1).2.2.2.1 (.selects q.1 (mY w.1) (mY w.1))
    | none => false)) else ((Nat.beq w.2.2.2 6 && Tw pos (.methodLink own idx ⟨"java/lang/String", "length", "()I"⟩)) || (Nat.beq w.2.2.2 7 && Tw pos (.methodLink own idx ⟨"java/lang/String", "charAt", "(I)C"⟩)))
  | _ => true
def ilen (i : Instr) : Nat := match i with
  | .bipush _ | .ldc _ | .iload _ | .lload _ | .aload _ | .istore _ | .lstore _ | .astore _ | .newarray _ => 2
  | .sipush _ | .ldc_w _ | .ldc2_w _ | .getstatic _ | .iinc _ _ | .goto _ | .ifCond _ _ | .if_icmp _ _ | .getfield _ | .putfield _ | .new _ | .anewarray _ | .invokestatic _ | .invokevirtual _ | .invokespecial _ => 3
  | _ => 1
def chkL (i : Instr) (ln : Nat) : Bool := match i with
  | .tableswitch _ _ _ _ => true
  | _ => Nat.beq ln (ilen i)
noncomputable def chk (mid : Nat) (a : Rw) : Bool := decide (decode (mC mid) a.1 = .ok (a.2.1, a.2.2.1)) && chkL a.2.1 a.2.2.1 && chkI mid a
noncomputable def chkMid (mid : Nat) : Bool := (mrow mid).all (fun c => c.2.all (chk mid))
