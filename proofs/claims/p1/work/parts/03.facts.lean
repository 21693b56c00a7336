/-! What the tables rest on: each row against the bytes and the words, by evaluation. -/
noncomputable section
def chkW (p : Nat) (w : Jvm.Cond) : Bool := decide (lw_tbl[p]? = some w) && goodWord w
theorem chkW_in {p : Nat} {w : Jvm.Cond} (h : chkW p w = true) : w ∈ lw_tbl ∧ goodWord w = true := by
  unfold chkW at h
  rw [Bool.and_eq_true] at h
  exact ⟨List.mem_of_getElem? (of_decide_eq_true h.1), h.2⟩
def chkD (m : Nat) : Bool := (M_c m).all (fun r => decide (decode (M_b m) r.1 = .ok r.2))
def chkF (q : (Nat × Nat) × Nat × Nat × Nat × Bool × Bool) : Bool := match vwCl[q.2.2.1]? with
  | none => false
  | some (_, T, N) => decide (q.2.2.2.1 < N) && chkW q.2.1 (.fieldLink (ownS q.1.1) q.1.2 (T q.2.2.2.1).1 (T q.2.2.2.1).2.1 (T q.2.2.2.1).2.2.1) && ((T q.2.2.2.1).2.2.2 == q.2.2.2.2.1) && (!q.2.2.2.2.1 || decide (¬ ownCi q.1.1 = q.2.2.1) || decide ((T q.2.2.2.1).1 = ownS q.1.1)) && (match parseFieldDescriptor (T q.2.2.2.1).2.2.1 with
    | some .int => !q.2.2.2.2.2
    | some (.object _) => q.2.2.2.2.2
    | some (.array _) => q.2.2.2.2.2
    | _ => false)
def chkC (q : (Nat × Nat) × Nat × Nat) : Bool := match vwCl[q.2.2]? with
  | none => false
  | some (C, _, _) => chkW q.2.1 (.classLink (ownS q.1.1) q.1.2 C)
def chkK (q : (Nat × Nat) × Nat × Int) : Bool := chkW q.2.1 (.constant (ownS q.1.1) q.1.2 (Int32.ofInt q.2.2))
def chkL (q : (Nat × Nat) × Nat × Nat) : Bool :=
  if q.2.2 = 1000 then chkW q.2.1 (.methodLink (ownS q.1.1) q.1.2 Lib.Math.max.name)
  else if q.2.2 = 1001 then chkW q.2.1 (.methodLink (ownS q.1.1) q.1.2 Lib.Math.min.name)
  else if q.2.2 = 1002 then chkW q.2.1 (.methodLink (ownS q.1.1) q.1.2 Lib.objectInit)
  else chkW q.2.1 (.methodLink (ownS q.1.1) q.1.2 (M_y q.2.2))
def M_h4 (m : Nat) : List (Nat × Nat × Nat × Nat) := (M_hh m).map (fun h => (h.1, h.2.1, h.2.2.1, h.2.2.2.1))
def M_code (m : Nat) : Jvm.Cond := if M_hh m = [] then .code (M_y m) (M_b m) (M_L m) (M_ret m) else .codeWith (M_y m) (M_b m) (M_L m) (M_ret m) (M_h4 m)
def chkP (p m : Nat) : Bool := decide (p = (M_r m).1.2.1) && decide (¬ m = 0) && (match lw_tbl[p]? with
  | some (.code y b L r) => decide (M_hh m = []) && decide (y = M_y m) && decide (L = M_L m) && decide (r = M_ret m) && goodWord (.code y b L r)
  | some (.codeWith y b L r hh) => decide (¬ M_hh m = []) && decide (y = M_y m) && decide (L = M_L m) && decide (r = M_ret m) && decide (hh = M_h4 m) && goodWord (.codeWith y b L r hh)
  | _ => false)
def mpT : List (Nat × Nat × Nat × Nat) := [(0, 0, 0, 0), (288, 153, 287, 0), (1058, 153, 1056, 1057), (972, 153, 970, 971), (993, 153, 991, 992), (1002, 153, 1001, 27), (1018, 153, 1016, 1017), (1029, 153, 1027, 1028), (1034, 153, 1032, 1033), (1041, 153, 1040, 0), (1411, 153, 1409, 1410), (1078, 153, 1076, 1077), (1082, 153, 1081, 29), (1086, 153, 1085, 30), (252, 152, 251, 0), (747, 152, 745, 746), (855, 152, 853, 854), (1185, 152, 1183, 1184), (1188, 152, 1187, 0), (751, 152, 750, 5), (765, 152, 764, 6), (778, 152, 777, 8), (782, 152, 781, 9), (787, 152, 786, 10), (774, 152, 773, 7), (795, 152, 794, 11), (799, 152, 798, 12), (808, 152, 807, 14), (804, 152, 803, 13), (812, 152, 811, 15), (816, 152, 815, 16), (828, 152, 827, 17), (832, 152, 831, 18), (836, 152, 835, 19), (451, 159, 450, 0), (1757, 159, 1755, 1756), (1722, 159, 1720, 1721), (1741, 159, 1740, 66), (1736, 159, 1735, 65), (1727, 159, 1726, 0), (1730, 159, 1729, 0), (1770, 159, 1769, 0), (1767, 159, 1765, 1766), (1776, 159, 1774, 1775), (1815, 159, 1813, 1814), (1790, 159, 1789, 0), (1793, 159, 1792, 0), (1787, 159, 1785, 1786), (1804, 159, 1802, 1803), (422, 158, 421, 0), (1578, 158, 1576, 1577), (1581, 158, 1580, 0), (1585, 158, 1583, 1584), (1589, 158, 1587, 1588), (1605, 158, 1603, 1604), (1668, 158, 1666, 1667), (1611, 158, 1609, 1610), (1663, 158, 1661, 1662), (1650, 158, 1649, 62), (1621, 158, 1620, 56), (1616, 158, 1615, 55), (1626, 158, 1625, 57), (1641, 158, 1640, 60), (1630, 158, 1629, 58), (1635, 158, 1634, 59), (1645, 158, 1644, 61), (621, 165, 620, 0), (618, 165, 617, 0), (615, 165, 614, 0), (932, 165, 931, 0), (716, 165, 715, 0), (713, 165, 712, 0), (719, 165, 718, 0), (722, 165, 721, 0), (725, 165, 724, 0), (329, 155, 328, 0), (1269, 155, 1267, 1268), (1275, 155, 1274, 40), (1278, 155, 1277, 0), (1288, 155, 1287, 41), (1300, 155, 1299, 43), (1292, 155, 1291, 42), (1317, 155, 1315, 1316), (1320, 155, 1319, 0), (1323, 155, 1322, 0), (1335, 155, 1333, 1334), (1338, 155, 1337, 0), (207, 151, 206, 0), (200, 151, 199, 0), (967, 151, 966, 0), (1038, 151, 1036, 1037), (1045, 151, 1043, 1044), (1049, 151, 1047, 1048), (1053, 151, 1051, 1052), (875, 151, 873, 874), (866, 151, 864, 865), (953, 151, 951, 952), (1173, 151, 1171, 1172), (889, 151, 887, 888), (1123, 151, 1121, 1122), (917, 151, 915, 916), (893, 151, 891, 892), (921, 151, 919, 920), (897, 151, 895, 896), (901, 151, 899, 900), (944, 151, 942, 943), (913, 151, 911, 912), (940, 151, 938, 939), (885, 151, 883, 884), (905, 151, 904, 20), (909, 151, 908, 21), (925, 151, 924, 22), (928, 151, 927, 0), (936, 151, 935, 23), (1134, 151, 1132, 1133), (1138, 151, 1137, 32), (1147, 151, 1146, 34), (1143, 151, 1142, 33), (1162, 151, 1161, 0), (1151, 151, 1150, 35), (1155, 151, 1154, 36), (1159, 151, 1158, 37), (1539, 151, 1537, 1538), (1543, 151, 1542, 51), (1547, 151, 1546, 52), (1552, 151, 1551, 53), (360, 156, 359, 0), (1359, 156, 1357, 1358), (1364, 156, 1362, 1363), (1382, 156, 1380, 1381), (1387, 156, 1385, 1386), (1440, 156, 1438, 1439), (1534, 156, 1532, 1533), (1556, 156, 1554, 1555), (1567, 156, 1565, 1566), (310, 154, 309, 0), (1208, 154, 1206, 1207), (1250, 154, 1248, 1249), (1212, 154, 1211, 38), (1218, 154, 1217, 0), (1225, 154, 1224, 0), (1228, 154, 1227, 0), (1236, 154, 1235, 39), (188, 149, 187, 0), (179, 149, 178, 0), (531, 149, 530, 0), (603, 149, 601, 602), (671, 149, 669, 670), (791, 149, 789, 790), (769, 149, 767, 768), (660, 149, 658, 659), (675, 149, 673, 674), (761, 149, 759, 760), (757, 149, 755, 756), (1240, 149, 1238, 1239), (686, 149, 684, 685), (988, 149, 986, 987), (820, 149, 818, 819), (1420, 149, 1418, 1419), (880, 149, 878, 879), (824, 149, 822, 823), (391, 157, 390, 0), (1474, 157, 1472, 1473), (1479, 157, 1478, 46), (1484, 157, 1483, 47), (1497, 157, 1495, 1496), (1501, 157, 1500, 0), (1511, 157, 1510, 0), (1505, 157, 1504, 48), (1520, 157, 1519, 50), (1516, 157, 1515, 49), (173, 148, 172, 0), (524, 148, 522, 523), (667, 148, 665, 666), (682, 148, 680, 681), (696, 148, 694, 695), (703, 148, 701, 702), (710, 148, 708, 709), (738, 148, 736, 737), (843, 148, 841, 842), (851, 148, 849, 850), (862, 148, 860, 861), (960, 148, 958, 959), (980, 148, 978, 979), (1014, 148, 1012, 1013), (1025, 148, 1023, 1024), (1065, 148, 1063, 1064), (510, 148, 508, 509), (1093, 148, 1091, 1092), (1105, 148, 1103, 1104), (1112, 148, 1110, 1111), (1119, 148, 1117, 1118), (1130, 148, 1128, 1129), (1169, 148, 1167, 1168), (1181, 148, 1179, 1180), (1204, 148, 1202, 1203), (1257, 148, 1255, 1256), (1264, 148, 1262, 1263), (1313, 148, 1311, 1312), (1331, 148, 1329, 1330), (1346, 148, 1344, 1345), (1354, 148, 1352, 1353), (1373, 148, 1371, 1372), (1395, 148, 1393, 1394), (1407, 148, 1405, 1406), (1427, 148, 1425, 1426), (1435, 148, 1433, 1434), (1449, 148, 1447, 1448), (514, 148, 512, 513), (1456, 148, 1454, 1455), (1463, 148, 1461, 1462), (1470, 148, 1468, 1469), (1492, 148, 1490, 1491), (1530, 148, 1528, 1529), (1563, 148, 1561, 1562), (1574, 148, 1572, 1573), (1597, 148, 1595, 1596), (1659, 148, 1657, 1658), (1676, 148, 1674, 1675), (1684, 148, 1682, 1683), (1698, 148, 1696, 1697), (1706, 148, 1704, 1705), (1713, 148, 1711, 1712), (1749, 148, 1747, 1748), (1783, 148, 1781, 1782), (1800, 148, 1798, 1799), (1811, 148, 1809, 1810), (528, 148, 527, 0), (1688, 148, 1687, 63), (1753, 148, 1752, 67), (964, 148, 963, 25), (1399, 148, 1398, 45), (607, 148, 606, 2), (1097, 148, 1096, 31), (1071, 148, 1070, 28), (612, 148, 611, 3), (742, 148, 741, 4), (984, 148, 983, 26), (1377, 148, 1376, 44), (1601, 148, 1600, 54), (1717, 148, 1716, 64), (1763, 148, 1762, 68), (948, 148, 947, 24), (1820, 160, 1819, 0), (2009, 160, 2007, 2008), (2032, 160, 2031, 69), (2019, 160, 2018, 0), (2016, 160, 2015, 0), (2180, 160, 2179, 93), (2026, 160, 2025, 0), (2022, 160, 2021, 0), (2168, 160, 2167, 0), (2063, 160, 2062, 0), (2066, 160, 2065, 0), (2060, 160, 2059, 71), (2493, 160, 2492, 0), (2013, 160, 2011, 2012), (2040, 160, 2039, 70), (2036, 160, 2034, 2035), (2044, 160, 2042, 2043), (2048, 160, 2046, 2047), (2052, 160, 2050, 2051), (2056, 160, 2054, 2055), (2081, 160, 2080, 73), (2085, 160, 2084, 74), (2101, 160, 2100, 78), (2097, 160, 2096, 77), (2093, 160, 2092, 76), (2105, 160, 2104, 79), (2113, 160, 2112, 81), (2117, 160, 2116, 82), (2121, 160, 2120, 83), (2109, 160, 2108, 80), (2125, 160, 2124, 84), (2089, 160, 2088, 75), (2073, 160, 2072, 0), (2077, 160, 2076, 72), (2070, 160, 2068, 2069), (2129, 160, 2127, 2128), (2133, 160, 2131, 2132), (2145, 160, 2144, 86), (2157, 160, 2156, 89), (2153, 160, 2152, 88), (2161, 160, 2160, 90), (2172, 160, 2171, 92), (2149, 160, 2148, 87), (2165, 160, 2164, 91), (2141, 160, 2140, 85), (2231, 160, 2230, 102), (2227, 160, 2226, 101), (2196, 160, 2195, 96), (2211, 160, 2210, 0), (2208, 160, 2207, 98), (2188, 160, 2187, 95), (2184, 160, 2183, 94), (2200, 160, 2199, 97), (2223, 160, 2222, 100), (2219, 160, 2218, 99), (2243, 160, 2242, 104), (2137, 160, 2135, 2136), (2176, 160, 2174, 2175), (2192, 160, 2190, 2191), (2204, 160, 2202, 2203), (2215, 160, 2213, 2214), (2239, 160, 2238, 103), (2235, 160, 2233, 2234), (2247, 160, 2245, 2246), (2251, 160, 2249, 2250), (2259, 160, 2258, 105), (2255, 160, 2253, 2254), (2263, 160, 2261, 2262), (2267, 160, 2265, 2266), (2283, 160, 2282, 108), (2287, 160, 2286, 109), (2279, 160, 2278, 107), (2275, 160, 2274, 106), (2271, 160, 2269, 2270), (2291, 160, 2289, 2290), (2299, 160, 2298, 110), (2304, 160, 2303, 111), (2295, 160, 2293, 2294), (2325, 160, 2324, 114), (2321, 160, 2320, 113), (2317, 160, 2316, 0), (2314, 160, 2313, 112), (2329, 160, 2328, 115), (2310, 160, 2308, 2309), (2333, 160, 2331, 2332), (2353, 160, 2352, 119), (2357, 160, 2356, 120), (2349, 160, 2348, 118), (2345, 160, 2344, 117), (2341, 160, 2340, 116), (2337, 160, 2335, 2336), (2374, 160, 2373, 123), (2378, 160, 2377, 124), (2370, 160, 2369, 122), (2366, 160, 2365, 121), (2362, 160, 2360, 2361), (2382, 160, 2380, 2381), (2414, 160, 2413, 128), (2398, 160, 2397, 126), (2402, 160, 2401, 127), (2386, 160, 2384, 2385), (2394, 160, 2393, 125), (2390, 160, 2388, 2389), (2406, 160, 2404, 2405), (2410, 160, 2408, 2409), (2418, 160, 2416, 2417), (2422, 160, 2420, 2421), (2430, 160, 2429, 129), (2426, 160, 2424, 2425), (2434, 160, 2432, 2433), (2438, 160, 2436, 2437), (2442, 160, 2440, 2441), (2446, 160, 2444, 2445), (2454, 160, 2453, 130), (2450, 160, 2448, 2449), (2466, 160, 2465, 132), (2462, 160, 2461, 131), (2470, 160, 2469, 133), (2458, 160, 2456, 2457), (2490, 160, 2489, 137), (2486, 160, 2485, 136), (2482, 160, 2481, 135), (2478, 160, 2477, 134), (2474, 160, 2472, 2473), (2497, 160, 2495, 2496), (2501, 160, 2499, 2500), (2513, 160, 2512, 139), (2525, 160, 2524, 142), (2509, 160, 2508, 138), (2517, 160, 2516, 140), (2521, 160, 2520, 141), (2505, 160, 2503, 2504), (2529, 160, 2527, 2528), (2533, 160, 2531, 2532), (2540, 160, 2539, 0), (2537, 160, 2535, 2536), (2544, 160, 2542, 2543), (2548, 160, 2546, 2547), (2556, 160, 2555, 143), (2552, 160, 2550, 2551), (2564, 160, 2563, 144), (2568, 160, 2567, 145), (2560, 160, 2558, 2559), (2576, 160, 2575, 146), (2572, 160, 2570, 2571), (2580, 160, 2578, 2579), (2584, 160, 2582, 2583), (517, 147, 516, 0), (663, 147, 662, 0), (678, 147, 677, 0), (692, 147, 691, 0), (699, 147, 698, 0), (706, 147, 705, 0), (734, 147, 733, 0), (839, 147, 838, 0), (847, 147, 846, 0), (858, 147, 857, 0), (956, 147, 955, 0), (976, 147, 975, 0), (1010, 147, 1009, 0), (1021, 147, 1020, 0), (1061, 147, 1060, 0), (1089, 147, 1088, 0), (1101, 147, 1100, 0), (1108, 147, 1107, 0), (1115, 147, 1114, 0), (1126, 147, 1125, 0), (1165, 147, 1164, 0), (1177, 147, 1176, 0), (1200, 147, 1199, 0), (1253, 147, 1252, 0), (1260, 147, 1259, 0), (1309, 147, 1308, 0), (1327, 147, 1326, 0), (1342, 147, 1341, 0), (1350, 147, 1349, 0), (1369, 147, 1368, 0), (1391, 147, 1390, 0), (1403, 147, 1402, 0), (1423, 147, 1422, 0), (1431, 147, 1430, 0), (1445, 147, 1444, 0), (1452, 147, 1451, 0), (1459, 147, 1458, 0), (1466, 147, 1465, 0), (1488, 147, 1487, 0), (1526, 147, 1525, 0), (1559, 147, 1558, 0), (1570, 147, 1569, 0), (1593, 147, 1592, 0), (1655, 147, 1654, 0), (1672, 147, 1671, 0), (1680, 147, 1679, 0), (1694, 147, 1693, 0), (1702, 147, 1701, 0), (1709, 147, 1708, 0), (1745, 147, 1744, 0), (1779, 147, 1778, 0), (1796, 147, 1795, 0), (1807, 147, 1806, 0), (728, 168, 727, 0)]
/-- a method's words at its places: code, class initialized, static or of an object, selected -/
def chkM (m : Nat) : Bool := match mpT[m]? with
  | none => false
  | some (p1, p2, p3, p4) => chkP p1 m && chkW p2 (.initialized (M_y m).cls) && (if M_k m = 0 then chkW p3 (.static (M_y m)) else chkW p3 (.instanceMethod (M_y m))) &&
      (if M_k m = 1 then chkW p4 (.selects (M_y m).cls (M_y m) (M_y m)) && (match vwCl[ownCi (M_o m)]? with | some (C, _, _) => decide (C = (M_y m).cls) | none => false) else true) &&
      decide ((M_y m).cls = ownS (M_o m)) && plainName (M_y m).cls && decide ((M_y m).cls ≠ "java/lang/invoke/MethodHandle") && decide ((M_y m).cls ≠ "java/lang/invoke/VarHandle") &&
      decide ((parseMethodDescriptor (M_y m).desc).map (fun d => d.parameters.length) = some (if M_k m = 0 then M_n m else M_n m - 1)) && decide (M_k m < 3) && (if M_k m = 2 then decide ((M_y m).name = "<init>") && decide (M_ret m = none) && decide (M_hh m = []) else true) && (if M_k m = 0 then true else decide (0 < M_n m) && decide (M_hh m = []))
theorem all_cut {α : Type} {f : α → Bool} (l : List α) (a k : Nat) (h1 : ((l.drop a).take k).all f = true) (h2 : (l.drop (a + k)).all f = true) : (l.drop a).all f = true := by
  have h : l.drop a = (l.drop a).take k ++ l.drop (a + k) := by rw [← List.drop_drop]; exact (List.take_append_drop k (l.drop a)).symm
  rw [h, List.all_append, h1, h2]; rfl
theorem all_end {α : Type} {f : α → Bool} (l : List α) (a : Nat) (h : l.length ≤ a) : (l.drop a).all f = true := by rw [List.drop_eq_nil_of_le h]; rfl
set_option maxRecDepth 100000 in
theorem okF_0 : ((flT.drop 0).take 40).all chkF = true := by decide +kernel
set_option maxRecDepth 100000 in
theorem okF_1 : ((flT.drop 40).take 40).all chkF = true := by decide +kernel
set_option maxRecDepth 100000 in
theorem okF_2 : ((flT.drop 80).take 40).all chkF = true := by decide +kernel
set_option maxRecDepth 100000 in
theorem okF_3 : ((flT.drop 120).take 40).all chkF = true := by decide +kernel
set_option maxRecDepth 100000 in
theorem okF_all : flT.all chkF = true := all_cut _ 0 40 okF_0 (all_cut _ 40 40 okF_1 (all_cut _ 80 40 okF_2 (all_cut _ 120 40 okF_3 (all_end _ 160 (by decide +kernel)))))
set_option maxRecDepth 100000 in
theorem okC_0 : ((clT.drop 0).take 40).all chkC = true := by decide +kernel
set_option maxRecDepth 100000 in
theorem okC_all : clT.all chkC = true := all_cut _ 0 40 okC_0 (all_end _ 40 (by decide +kernel))
set_option maxRecDepth 100000 in
theorem okK_0 : ((ckT.drop 0).take 40).all chkK = true := by decide +kernel
set_option maxRecDepth 100000 in
theorem okK_all : ckT.all chkK = true := all_cut _ 0 40 okK_0 (all_end _ 40 (by decide +kernel))
set_option maxRecDepth 100000 in
theorem okL_0 : ((mlT.drop 0).take 40).all chkL = true := by decide +kernel
set_option maxRecDepth 100000 in
theorem okL_1 : ((mlT.drop 40).take 40).all chkL = true := by decide +kernel
set_option maxRecDepth 100000 in
theorem okL_2 : ((mlT.drop 80).take 40).all chkL = true := by decide +kernel
set_option maxRecDepth 100000 in
theorem okL_3 : ((mlT.drop 120).take 40).all chkL = true := by decide +kernel
set_option maxRecDepth 100000 in
theorem okL_4 : ((mlT.drop 160).take 40).all chkL = true := by decide +kernel
set_option maxRecDepth 100000 in
theorem okL_5 : ((mlT.drop 200).take 40).all chkL = true := by decide +kernel
set_option maxRecDepth 100000 in
theorem okL_6 : ((mlT.drop 240).take 40).all chkL = true := by decide +kernel
set_option maxRecDepth 100000 in
theorem okL_7 : ((mlT.drop 280).take 40).all chkL = true := by decide +kernel
set_option maxRecDepth 100000 in
theorem okL_8 : ((mlT.drop 320).take 40).all chkL = true := by decide +kernel
set_option maxRecDepth 100000 in
theorem okL_9 : ((mlT.drop 360).take 40).all chkL = true := by decide +kernel
set_option maxRecDepth 100000 in
theorem okL_10 : ((mlT.drop 400).take 40).all chkL = true := by decide +kernel
set_option maxRecDepth 100000 in
theorem okL_11 : ((mlT.drop 440).take 40).all chkL = true := by decide +kernel
set_option maxRecDepth 100000 in
theorem okL_12 : ((mlT.drop 480).take 40).all chkL = true := by decide +kernel
set_option maxRecDepth 100000 in
theorem okL_13 : ((mlT.drop 520).take 40).all chkL = true := by decide +kernel
set_option maxRecDepth 100000 in
theorem okL_14 : ((mlT.drop 560).take 40).all chkL = true := by decide +kernel
set_option maxRecDepth 100000 in
theorem okL_all : mlT.all chkL = true := all_cut _ 0 40 okL_0 (all_cut _ 40 40 okL_1 (all_cut _ 80 40 okL_2 (all_cut _ 120 40 okL_3 (all_cut _ 160 40 okL_4 (all_cut _ 200 40 okL_5 (all_cut _ 240 40 okL_6 (all_cut _ 280 40 okL_7 (all_cut _ 320 40 okL_8 (all_cut _ 360 40 okL_9 (all_cut _ 400 40 okL_10 (all_cut _ 440 40 okL_11 (all_cut _ 480 40 okL_12 (all_cut _ 520 40 okL_13 (all_cut _ 560 40 okL_14 (all_end _ 600 (by decide +kernel))))))))))))))))
def mIdx : List Nat := List.range 444
def mIdx1 : List Nat := (List.range 444).drop 1
set_option maxRecDepth 100000 in
theorem okM_0 : ((mIdx1.drop 0).take 30).all chkM = true := by decide +kernel
set_option maxRecDepth 100000 in
theorem okM_1 : ((mIdx1.drop 30).take 30).all chkM = true := by decide +kernel
set_option maxRecDepth 100000 in
theorem okM_2 : ((mIdx1.drop 60).take 30).all chkM = true := by decide +kernel
set_option maxRecDepth 100000 in
theorem okM_3 : ((mIdx1.drop 90).take 30).all chkM = true := by decide +kernel
set_option maxRecDepth 100000 in
theorem okM_4 : ((mIdx1.drop 120).take 30).all chkM = true := by decide +kernel
set_option maxRecDepth 100000 in
theorem okM_5 : ((mIdx1.drop 150).take 30).all chkM = true := by decide +kernel
set_option maxRecDepth 100000 in
theorem okM_6 : ((mIdx1.drop 180).take 30).all chkM = true := by decide +kernel
set_option maxRecDepth 100000 in
theorem okM_7 : ((mIdx1.drop 210).take 30).all chkM = true := by decide +kernel
set_option maxRecDepth 100000 in
theorem okM_8 : ((mIdx1.drop 240).take 30).all chkM = true := by decide +kernel
set_option maxRecDepth 100000 in
theorem okM_9 : ((mIdx1.drop 270).take 30).all chkM = true := by decide +kernel
set_option maxRecDepth 100000 in
theorem okM_10 : ((mIdx1.drop 300).take 30).all chkM = true := by decide +kernel
set_option maxRecDepth 100000 in
theorem okM_11 : ((mIdx1.drop 330).take 30).all chkM = true := by decide +kernel
set_option maxRecDepth 100000 in
theorem okM_12 : ((mIdx1.drop 360).take 30).all chkM = true := by decide +kernel
set_option maxRecDepth 100000 in
theorem okM_13 : ((mIdx1.drop 390).take 30).all chkM = true := by decide +kernel
set_option maxRecDepth 100000 in
theorem okM_14 : ((mIdx1.drop 420).take 30).all chkM = true := by decide +kernel
set_option maxRecDepth 100000 in
theorem okM_all : mIdx1.all chkM = true := all_cut _ 0 30 okM_0 (all_cut _ 30 30 okM_1 (all_cut _ 60 30 okM_2 (all_cut _ 90 30 okM_3 (all_cut _ 120 30 okM_4 (all_cut _ 150 30 okM_5 (all_cut _ 180 30 okM_6 (all_cut _ 210 30 okM_7 (all_cut _ 240 30 okM_8 (all_cut _ 270 30 okM_9 (all_cut _ 300 30 okM_10 (all_cut _ 330 30 okM_11 (all_cut _ 360 30 okM_12 (all_cut _ 390 30 okM_13 (all_cut _ 420 30 okM_14 (all_end _ 450 (by decide +kernel))))))))))))))))
def ilen (i : Instr) : Nat := match i with
  | .iload _ | .aload _ | .istore _ | .astore _ | .bipush _ | .ldc _ | .newarray _ => 2
  | .sipush _ | .ldc_w _ | .iinc _ _ | .ifCond _ _ | .if_icmp _ _ | .ifnull _ | .ifnonnull _ | .goto _ | .getfield _ | .putfield _ | .anewarray _ | .new _ | .invokestatic _ | .invokevirtual _ | .invokespecial _ => 3
  | .tableswitch _ _ _ _ => 0
  | _ => 1
def chkN (m : Nat) : Bool := (M_c m).all (fun r => r.2.2 == ilen r.2.1 || ilen r.2.1 == 0)
set_option maxRecDepth 100000 in
theorem okN_0 : ((mIdx.drop 0).take 60).all chkN = true := by decide +kernel
set_option maxRecDepth 100000 in
theorem okN_1 : ((mIdx.drop 60).take 60).all chkN = true := by decide +kernel
set_option maxRecDepth 100000 in
theorem okN_2 : ((mIdx.drop 120).take 60).all chkN = true := by decide +kernel
set_option maxRecDepth 100000 in
theorem okN_3 : ((mIdx.drop 180).take 60).all chkN = true := by decide +kernel
set_option maxRecDepth 100000 in
theorem okN_4 : ((mIdx.drop 240).take 60).all chkN = true := by decide +kernel
set_option maxRecDepth 100000 in
theorem okN_5 : ((mIdx.drop 300).take 60).all chkN = true := by decide +kernel
set_option maxRecDepth 100000 in
theorem okN_6 : ((mIdx.drop 360).take 60).all chkN = true := by decide +kernel
set_option maxRecDepth 100000 in
theorem okN_7 : ((mIdx.drop 420).take 60).all chkN = true := by decide +kernel
set_option maxRecDepth 100000 in
theorem okN_all : mIdx.all chkN = true := all_cut _ 0 60 okN_0 (all_cut _ 60 60 okN_1 (all_cut _ 120 60 okN_2 (all_cut _ 180 60 okN_3 (all_cut _ 240 60 okN_4 (all_cut _ 300 60 okN_5 (all_cut _ 360 60 okN_6 (all_cut _ 420 60 okN_7 (all_end _ 480 (by decide +kernel)))))))))
def nMeth : Nat := 444
theorem mtab_len : mtab.length = 444 := by decide +kernel
end
