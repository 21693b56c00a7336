/-! What the tables rest on: each row against the bytes and the words, by evaluation. -/
noncomputable section
def chkW (p : Nat) (w : Jvm.Cond) : Bool := decide (lw_tbl[p]? = some w) && goodWord w
theorem chkW_in {p : Nat} {w : Jvm.Cond} (h : chkW p w = true) : w ∈ lw_tbl ∧ goodWord w = true := by
  unfold chkW at h
  rw [Bool.and_eq_true] at h
  exact ⟨List.mem_of_getElem? (of_decide_eq_true h.1), h.2⟩
def chkD (m : Nat) : Bool := (zM_c m).all (fun r => decide (decode (zM_b m) r.1 = .ok r.2))
def chkF (q : (Nat × Nat) × Nat × Nat × Nat × Bool × Bool) : Bool := match vwCl[q.2.2.1]? with
  | none => false
  | some (_, T, N) => decide (q.2.2.2.1 < N) && chkW q.2.1 (.fieldLink (zownS q.1.1) q.1.2 (T q.2.2.2.1).1 (T q.2.2.2.1).2.1 (T q.2.2.2.1).2.2.1) && ((T q.2.2.2.1).2.2.2 == q.2.2.2.2.1) && (!q.2.2.2.2.1 || decide (¬ zownCi q.1.1 = q.2.2.1) || decide ((T q.2.2.2.1).1 = zownS q.1.1)) && (match parseFieldDescriptor (T q.2.2.2.1).2.2.1 with
    | some .int => !q.2.2.2.2.2
    | some (.object _) => q.2.2.2.2.2
    | some (.array _) => q.2.2.2.2.2
    | _ => false)
def chkC (q : (Nat × Nat) × Nat × Nat) : Bool := match vwCl[q.2.2]? with
  | none => false
  | some (C, _, _) => chkW q.2.1 (.classLink (zownS q.1.1) q.1.2 C)
def chkK (q : (Nat × Nat) × Nat × Int) : Bool := chkW q.2.1 (.constant (zownS q.1.1) q.1.2 (Int32.ofInt q.2.2))
def chkL (q : (Nat × Nat) × Nat × Nat) : Bool :=
  if q.2.2 = 1000 then chkW q.2.1 (.methodLink (zownS q.1.1) q.1.2 Lib.Math.max.name)
  else if q.2.2 = 1001 then chkW q.2.1 (.methodLink (zownS q.1.1) q.1.2 Lib.Math.min.name)
  else if q.2.2 = 1002 then chkW q.2.1 (.methodLink (zownS q.1.1) q.1.2 Lib.objectInit)
  else chkW q.2.1 (.methodLink (zownS q.1.1) q.1.2 (zM_y q.2.2))
def M_h4 (m : Nat) : List (Nat × Nat × Nat × Nat) := (zM_hh m).map (fun h => (h.1, h.2.1, h.2.2.1, h.2.2.2.1))
def M_code (m : Nat) : Jvm.Cond := if zM_hh m = [] then .code (zM_y m) (zM_b m) (zM_L m) (zM_ret m) else .codeWith (zM_y m) (zM_b m) (zM_L m) (zM_ret m) (M_h4 m)
def chkP (p m : Nat) : Bool := decide (p = (zM_r m).1.2.1) && decide (¬ m = 0) && (match lw_tbl[p]? with
  | some (.code y b L r) => decide (zM_hh m = []) && decide (y = zM_y m) && decide (L = zM_L m) && decide (r = zM_ret m) && goodWord (.code y b L r)
  | some (.codeWith y b L r hh) => decide (¬ zM_hh m = []) && decide (y = zM_y m) && decide (L = zM_L m) && decide (r = zM_ret m) && decide (hh = M_h4 m) && goodWord (.codeWith y b L r hh)
  | _ => false)
def mpT : List (Nat × Nat × Nat × Nat) := [(0, 0, 0, 0), (209, 75, 208, 0), (1178, 75, 1176, 1177), (1147, 75, 1145, 1146), (1203, 75, 1201, 1202), (1209, 75, 1208, 42), (653, 75, 651, 652), (679, 75, 677, 678), (684, 75, 682, 683), (692, 75, 691, 0), (646, 75, 644, 645), (1166, 75, 1164, 1165), (1170, 75, 1169, 39), (1174, 75, 1173, 40), (173, 74, 172, 0), (806, 74, 804, 805), (899, 74, 897, 898), (1052, 74, 1050, 1051), (1055, 74, 1054, 0), (810, 74, 809, 9), (821, 74, 820, 10), (831, 74, 830, 12), (835, 74, 834, 13), (840, 74, 839, 14), (827, 74, 826, 11), (848, 74, 847, 15), (852, 74, 851, 16), (861, 74, 860, 18), (857, 74, 856, 17), (865, 74, 864, 19), (869, 74, 868, 20), (878, 74, 877, 21), (882, 74, 881, 22), (886, 74, 885, 23), (372, 81, 371, 0), (1593, 81, 1591, 1592), (1630, 81, 1628, 1629), (1645, 81, 1644, 68), (1641, 81, 1640, 67), (1633, 81, 1632, 0), (1636, 81, 1635, 0), (1608, 81, 1607, 0), (1603, 81, 1601, 1602), (1681, 81, 1679, 1680), (1614, 81, 1612, 1613), (1656, 81, 1655, 0), (1659, 81, 1658, 0), (1667, 81, 1665, 1666), (1653, 81, 1651, 1652), (343, 80, 342, 0), (1462, 80, 1460, 1461), (1465, 80, 1464, 0), (1469, 80, 1467, 1468), (1473, 80, 1471, 1472), (1486, 80, 1484, 1485), (1541, 80, 1539, 1540), (1492, 80, 1490, 1491), (1549, 80, 1547, 1548), (1531, 80, 1530, 62), (1502, 80, 1501, 56), (1497, 80, 1496, 55), (1507, 80, 1506, 57), (1522, 80, 1521, 60), (1511, 80, 1510, 58), (1516, 80, 1515, 59), (1526, 80, 1525, 61), (444, 86, 443, 0), (441, 86, 440, 0), (438, 86, 437, 0), (952, 86, 951, 0), (521, 86, 520, 0), (518, 86, 517, 0), (524, 86, 523, 0), (527, 86, 526, 0), (530, 86, 529, 0), (250, 77, 249, 0), (1226, 77, 1224, 1225), (1232, 77, 1231, 43), (1235, 77, 1234, 0), (1245, 77, 1244, 44), (1257, 77, 1256, 46), (1249, 77, 1248, 45), (1274, 77, 1272, 1273), (1277, 77, 1276, 0), (1280, 77, 1279, 0), (1293, 77, 1291, 1292), (1296, 77, 1295, 0), (128, 73, 127, 0), (121, 73, 120, 0), (649, 73, 648, 0), (688, 73, 686, 687), (697, 73, 695, 696), (702, 73, 700, 701), (706, 73, 704, 705), (710, 73, 708, 709), (910, 73, 908, 909), (635, 73, 633, 634), (1132, 73, 1130, 1131), (657, 73, 655, 656), (1004, 73, 1002, 1003), (671, 73, 669, 670), (922, 73, 920, 921), (667, 73, 665, 666), (662, 73, 660, 661), (927, 73, 925, 926), (675, 73, 673, 674), (939, 73, 937, 938), (960, 73, 958, 959), (917, 73, 915, 916), (931, 73, 930, 24), (935, 73, 934, 25), (945, 73, 944, 26), (948, 73, 947, 0), (956, 73, 955, 27), (1016, 73, 1014, 1015), (1020, 73, 1019, 31), (1029, 73, 1028, 33), (1025, 73, 1024, 32), (1044, 73, 1043, 0), (1033, 73, 1032, 34), (1037, 73, 1036, 35), (1041, 73, 1040, 36), (1426, 73, 1424, 1425), (1430, 73, 1429, 51), (1434, 73, 1433, 52), (1439, 73, 1438, 53), (281, 78, 280, 0), (572, 78, 570, 571), (1321, 78, 1319, 1320), (1336, 78, 1334, 1335), (1341, 78, 1339, 1340), (1404, 78, 1402, 1403), (1421, 78, 1419, 1420), (1443, 78, 1441, 1442), (1451, 78, 1449, 1450), (231, 76, 230, 0), (1072, 76, 1070, 1071), (1114, 76, 1112, 1113), (1076, 76, 1075, 37), (1082, 76, 1081, 0), (1089, 76, 1088, 0), (1092, 76, 1091, 0), (1100, 76, 1099, 38), (109, 71, 108, 0), (100, 71, 99, 0), (748, 71, 747, 0), (619, 71, 617, 618), (576, 71, 574, 575), (844, 71, 842, 843), (615, 71, 613, 614), (779, 71, 777, 778), (770, 71, 768, 769), (604, 71, 602, 603), (816, 71, 814, 815), (1104, 71, 1102, 1103), (639, 71, 637, 638), (725, 71, 723, 724), (873, 71, 871, 872), (1357, 71, 1355, 1356), (714, 71, 712, 713), (627, 71, 625, 626), (312, 79, 311, 0), (1365, 79, 1363, 1364), (1369, 79, 1368, 48), (1373, 79, 1372, 49), (600, 79, 598, 599), (607, 79, 606, 0), (623, 79, 622, 0), (611, 79, 610, 3), (719, 79, 718, 5), (631, 79, 630, 4), (94, 70, 93, 0), (774, 70, 772, 773), (766, 70, 764, 765), (783, 70, 781, 782), (741, 70, 739, 740), (757, 70, 755, 756), (431, 70, 429, 430), (797, 70, 795, 796), (890, 70, 888, 889), (895, 70, 893, 894), (906, 70, 904, 905), (1143, 70, 1141, 1142), (1199, 70, 1197, 1198), (1214, 70, 1212, 1213), (1185, 70, 1183, 1184), (1159, 70, 1157, 1158), (540, 70, 538, 539), (977, 70, 975, 976), (1008, 70, 1006, 1007), (990, 70, 988, 989), (995, 70, 993, 994), (1012, 70, 1010, 1011), (1128, 70, 1126, 1127), (1048, 70, 1046, 1047), (1068, 70, 1066, 1067), (1118, 70, 1116, 1117), (1221, 70, 1219, 1220), (1270, 70, 1268, 1269), (1289, 70, 1287, 1288), (1304, 70, 1302, 1303), (1315, 70, 1313, 1314), (1327, 70, 1325, 1326), (1395, 70, 1393, 1394), (1352, 70, 1350, 1351), (1378, 70, 1376, 1377), (1399, 70, 1397, 1398), (1388, 70, 1386, 1387), (544, 70, 542, 543), (1413, 70, 1411, 1412), (548, 70, 546, 547), (1361, 70, 1359, 1360), (580, 70, 578, 579), (1417, 70, 1415, 1416), (1447, 70, 1445, 1446), (1458, 70, 1456, 1457), (1478, 70, 1476, 1477), (1545, 70, 1543, 1544), (1537, 70, 1535, 1536), (1576, 70, 1574, 1575), (1571, 70, 1569, 1570), (1562, 70, 1560, 1561), (1621, 70, 1619, 1620), (1677, 70, 1675, 1676), (1663, 70, 1661, 1662), (1649, 70, 1647, 1648), (1585, 70, 1583, 1584), (745, 70, 744, 6), (1566, 70, 1565, 63), (1589, 70, 1588, 64), (981, 70, 980, 29), (1382, 70, 1381, 50), (761, 70, 760, 7), (552, 70, 551, 2), (999, 70, 998, 30), (435, 70, 434, 0), (801, 70, 800, 8), (1189, 70, 1188, 41), (1331, 70, 1330, 47), (1482, 70, 1481, 54), (1625, 70, 1624, 66), (1599, 70, 1598, 65), (965, 70, 964, 28), (728, 69, 727, 0), (734, 69, 733, 0), (737, 69, 736, 0), (753, 69, 752, 0), (787, 69, 786, 0), (793, 69, 792, 0), (790, 69, 789, 0), (973, 69, 972, 0), (970, 69, 969, 0), (1124, 69, 1123, 0), (986, 69, 985, 0), (902, 69, 901, 0), (1121, 69, 1120, 0), (1136, 69, 1135, 0), (1181, 69, 1180, 0), (1154, 69, 1153, 0), (1266, 69, 1265, 0), (1348, 69, 1347, 0), (1673, 69, 1672, 0), (1581, 69, 1580, 0), (1139, 69, 1138, 0), (1151, 69, 1150, 0), (1284, 69, 1283, 0), (1217, 69, 1216, 0), (1300, 69, 1299, 0), (1311, 69, 1310, 0), (1308, 69, 1307, 0), (1345, 69, 1344, 0), (1391, 69, 1390, 0), (1409, 69, 1408, 0), (1454, 69, 1453, 0), (1558, 69, 1557, 0), (1555, 69, 1554, 0), (1670, 69, 1669, 0), (533, 88, 532, 0)]
/-- a method's words at its places: code, class initialized, static or of an object, selected -/
def chkM (m : Nat) : Bool := match mpT[m]? with
  | none => false
  | some (p1, p2, p3, p4) => chkP p1 m && chkW p2 (.initialized (zM_y m).cls) && (if zM_k m = 0 then chkW p3 (.static (zM_y m)) else chkW p3 (.instanceMethod (zM_y m))) &&
      (if zM_k m = 1 then chkW p4 (.selects (zM_y m).cls (zM_y m) (zM_y m)) && (match vwCl[zownCi (zM_o m)]? with | some (C, _, _) => decide (C = (zM_y m).cls) | none => false) else true) &&
      decide ((zM_y m).cls = zownS (zM_o m)) && plainName (zM_y m).cls && decide ((zM_y m).cls ≠ "java/lang/invoke/MethodHandle") && decide ((zM_y m).cls ≠ "java/lang/invoke/VarHandle") &&
      decide ((parseMethodDescriptor (zM_y m).desc).map (fun d => d.parameters.length) = some (if zM_k m = 0 then zM_n m else zM_n m - 1)) && decide (zM_k m < 3) && (if zM_k m = 2 then decide ((zM_y m).name = "<init>") && decide (zM_ret m = none) && decide (zM_hh m = []) else true) && (if zM_k m = 0 then true else decide (0 < zM_n m) && decide (zM_hh m = []))
theorem all_cut {α : Type} {f : α → Bool} (l : List α) (a k : Nat) (h1 : ((l.drop a).take k).all f = true) (h2 : (l.drop (a + k)).all f = true) : (l.drop a).all f = true := by
  have h : l.drop a = (l.drop a).take k ++ l.drop (a + k) := by rw [← List.drop_drop]; exact (List.take_append_drop k (l.drop a)).symm
  rw [h, List.all_append, h1, h2]; rfl
theorem all_end {α : Type} {f : α → Bool} (l : List α) (a : Nat) (h : l.length ≤ a) : (l.drop a).all f = true := by rw [List.drop_eq_nil_of_le h]; rfl
set_option maxRecDepth 100000 in
theorem okF_0 : ((zflT.drop 0).take 40).all chkF = true := by decide +kernel
set_option maxRecDepth 100000 in
theorem okF_1 : ((zflT.drop 40).take 40).all chkF = true := by decide +kernel
set_option maxRecDepth 100000 in
theorem okF_2 : ((zflT.drop 80).take 40).all chkF = true := by decide +kernel
set_option maxRecDepth 100000 in
theorem okF_all : zflT.all chkF = true := all_cut _ 0 40 okF_0 (all_cut _ 40 40 okF_1 (all_cut _ 80 40 okF_2 (all_end _ 120 (by decide +kernel))))
set_option maxRecDepth 100000 in
theorem okC_0 : ((zclT.drop 0).take 40).all chkC = true := by decide +kernel
set_option maxRecDepth 100000 in
theorem okC_all : zclT.all chkC = true := all_cut _ 0 40 okC_0 (all_end _ 40 (by decide +kernel))
set_option maxRecDepth 100000 in
theorem okK_0 : ((zckT.drop 0).take 40).all chkK = true := by decide +kernel
set_option maxRecDepth 100000 in
theorem okK_all : zckT.all chkK = true := all_cut _ 0 40 okK_0 (all_end _ 40 (by decide +kernel))
set_option maxRecDepth 100000 in
theorem okL_0 : ((zmlT.drop 0).take 40).all chkL = true := by decide +kernel
set_option maxRecDepth 100000 in
theorem okL_1 : ((zmlT.drop 40).take 40).all chkL = true := by decide +kernel
set_option maxRecDepth 100000 in
theorem okL_2 : ((zmlT.drop 80).take 40).all chkL = true := by decide +kernel
set_option maxRecDepth 100000 in
theorem okL_3 : ((zmlT.drop 120).take 40).all chkL = true := by decide +kernel
set_option maxRecDepth 100000 in
theorem okL_4 : ((zmlT.drop 160).take 40).all chkL = true := by decide +kernel
set_option maxRecDepth 100000 in
theorem okL_5 : ((zmlT.drop 200).take 40).all chkL = true := by decide +kernel
set_option maxRecDepth 100000 in
theorem okL_6 : ((zmlT.drop 240).take 40).all chkL = true := by decide +kernel
set_option maxRecDepth 100000 in
theorem okL_7 : ((zmlT.drop 280).take 40).all chkL = true := by decide +kernel
set_option maxRecDepth 100000 in
theorem okL_8 : ((zmlT.drop 320).take 40).all chkL = true := by decide +kernel
set_option maxRecDepth 100000 in
theorem okL_9 : ((zmlT.drop 360).take 40).all chkL = true := by decide +kernel
set_option maxRecDepth 100000 in
theorem okL_10 : ((zmlT.drop 400).take 40).all chkL = true := by decide +kernel
set_option maxRecDepth 100000 in
theorem okL_all : zmlT.all chkL = true := all_cut _ 0 40 okL_0 (all_cut _ 40 40 okL_1 (all_cut _ 80 40 okL_2 (all_cut _ 120 40 okL_3 (all_cut _ 160 40 okL_4 (all_cut _ 200 40 okL_5 (all_cut _ 240 40 okL_6 (all_cut _ 280 40 okL_7 (all_cut _ 320 40 okL_8 (all_cut _ 360 40 okL_9 (all_cut _ 400 40 okL_10 (all_end _ 440 (by decide +kernel))))))))))))
def mIdx : List Nat := List.range 278
def mIdx1 : List Nat := (List.range 278).drop 1
set_option maxRecDepth 100000 in
theorem okM_0 : ((mIdx1.drop 0).take 30).all chkM = true := by decide +kernel
set_option maxRecDepth 100000 in
theorem okM_1 : ((mIdx1.drop 30).take 30).all chkM = true := by decide +kernel
set_option maxRecDepth 100000 in
theorem okM_2 : ((mIdx1.drop 60).take 30).all chkM = true := by decide +kernel
set_option maxRecDepth 100000 in
theorem okM_3 : ((mIdx1.drop 90).take 30).all chkM = true := by decide +kernel
set_option maxRecDepth 100000 in
theorem okM_4 : ((mIdx1.drop 120).take 30).all chkM = true := by decide +kernel
set_option maxRecDepth 100000 in
theorem okM_5 : ((mIdx1.drop 150).take 30).all chkM = true := by decide +kernel
set_option maxRecDepth 100000 in
theorem okM_6 : ((mIdx1.drop 180).take 30).all chkM = true := by decide +kernel
set_option maxRecDepth 100000 in
theorem okM_7 : ((mIdx1.drop 210).take 30).all chkM = true := by decide +kernel
set_option maxRecDepth 100000 in
theorem okM_8 : ((mIdx1.drop 240).take 30).all chkM = true := by decide +kernel
set_option maxRecDepth 100000 in
theorem okM_9 : ((mIdx1.drop 270).take 30).all chkM = true := by decide +kernel
set_option maxRecDepth 100000 in
theorem okM_all : mIdx1.all chkM = true := all_cut _ 0 30 okM_0 (all_cut _ 30 30 okM_1 (all_cut _ 60 30 okM_2 (all_cut _ 90 30 okM_3 (all_cut _ 120 30 okM_4 (all_cut _ 150 30 okM_5 (all_cut _ 180 30 okM_6 (all_cut _ 210 30 okM_7 (all_cut _ 240 30 okM_8 (all_cut _ 270 30 okM_9 (all_end _ 300 (by decide +kernel)))))))))))
def ilen (i : Instr) : Nat := match i with
  | .iload _ | .aload _ | .istore _ | .astore _ | .bipush _ | .ldc _ | .newarray _ => 2
  | .sipush _ | .ldc_w _ | .iinc _ _ | .ifCond _ _ | .if_icmp _ _ | .ifnull _ | .ifnonnull _ | .goto _ | .getfield _ | .putfield _ | .anewarray _ | .new _ | .invokestatic _ | .invokevirtual _ | .invokespecial _ => 3
  | .tableswitch _ _ _ _ => 0
  | _ => 1
def chkN (m : Nat) : Bool := (zM_c m).all (fun r => r.2.2 == ilen r.2.1 || ilen r.2.1 == 0)
set_option maxRecDepth 100000 in
theorem okN_0 : ((mIdx.drop 0).take 60).all chkN = true := by decide +kernel
set_option maxRecDepth 100000 in
theorem okN_1 : ((mIdx.drop 60).take 60).all chkN = true := by decide +kernel
set_option maxRecDepth 100000 in
theorem okN_2 : ((mIdx.drop 120).take 60).all chkN = true := by decide +kernel
set_option maxRecDepth 100000 in
theorem okN_3 : ((mIdx.drop 180).take 60).all chkN = true := by decide +kernel
set_option maxRecDepth 100000 in
theorem okN_4 : ((mIdx.drop 240).take 60).all chkN = true := by decide +kernel
set_option maxRecDepth 100000 in
theorem okN_all : mIdx.all chkN = true := all_cut _ 0 60 okN_0 (all_cut _ 60 60 okN_1 (all_cut _ 120 60 okN_2 (all_cut _ 180 60 okN_3 (all_cut _ 240 60 okN_4 (all_end _ 300 (by decide +kernel))))))
def nMeth : Nat := 278
theorem mtab_len : zmtab.length = 278 := by decide +kernel
end
