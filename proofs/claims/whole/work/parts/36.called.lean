theorem xrun {P : Nat → Prop} {a n : Nat} (h : ∀ y, a ≤ y → y < n → P y) (hn : P n) : ∀ y, a ≤ y → y < n + 1 → P y := fun y ha hy => by
  rcases Nat.lt_or_ge y n with g | g
  · exact h y ha g
  · rw [show y = n by omega]; exact hn
theorem xrun0 {P : Nat → Prop} {a : Nat} : ∀ y, a ≤ y → y < a → P y := fun y h1 h2 => absurd h2 (by omega)
/-! The methods that are called are as the words say; the words by their places -/
def xMokB (tb : List Cond) (it : xMi) (q : Nat × Nat × Nat × Nat) : Bool := (decide (tb[q.2.1]? = some (Cond.initialized it.1.cls)) && (decide (it.1.cls ≠ "java/lang/invoke/MethodHandle" ∧ it.1.cls ≠ "java/lang/invoke/VarHandle") && (plainName it.1.cls && (decide ((parseMethodDescriptor it.1.desc).map (fun d => d.parameters.length) = some it.2.2.2.2.2.2.2) && (match it.2.2.2.2.2.2.1 with
  | 0 => decide (tb[q.2.2.1]? = some (Cond.static it.1))
  | 1 => decide (it.1.name = "<init>") && (decide (tb[q.2.2.1]? = some (Cond.instanceMethod it.1)) && decide (it.2.2.2.1 = none))
  | 2 => decide (tb[q.2.2.1]? = some (Cond.instanceMethod it.1)) && decide (tb[q.2.2.2]? = some (Cond.selects it.1.cls it.1 it.1))
  | _ => false)))))
theorem xMokB_of {tb : List Cond} {it : xMi} {q : Nat × Nat × Nat × Nat} (h1 : tb[q.1]? = some (Cond.code it.1 it.2.1 it.2.2.1 it.2.2.2.1)) (h : xMokB tb it q = true) : xMok tb it := by
  simp only [xMokB, Bool.and_eq_true, decide_eq_true_eq] at h
  obtain ⟨h2, h3, h4, h5, h6⟩ := h
  refine ⟨List.mem_of_getElem? h1, List.mem_of_getElem? h2, h3, h4, h5, fun e => ?_, fun e => ?_, fun e => ?_⟩
  · rw [e] at h6; exact List.mem_of_getElem? (decide_eq_true_eq.mp h6)
  · rw [e] at h6; simp only [Bool.and_eq_true, decide_eq_true_eq] at h6; exact ⟨h6.1, List.mem_of_getElem? h6.2.1, h6.2.2⟩
  · rw [e] at h6; simp only [Bool.and_eq_true, decide_eq_true_eq] at h6; exact ⟨List.mem_of_getElem? h6.1, List.mem_of_getElem? h6.2⟩
def xmps : List (Nat × Nat × Nat × Nat) := [(125, 100, 124, 0), (650, 100, 648, 649), (749, 100, 747, 748), (927, 100, 925, 926), (511, 100, 509, 510), (1000, 100, 998, 999), (1026, 100, 1024, 1025), (1084, 100, 1082, 1083), (1106, 100, 1104, 1105), (1113, 100, 1111, 1112), (1120, 100, 1118, 1119), (1127, 100, 1125, 1126), (535, 100, 533, 534), (546, 100, 544, 545), (550, 100, 548, 549), (1134, 100, 1132, 1133), (1141, 100, 1139, 1140), (638, 100, 636, 637), (754, 100, 753, 7), (763, 100, 762, 8), (992, 100, 991, 36), (955, 100, 954, 32), (542, 100, 541, 0), (572, 100, 571, 0), (569, 100, 568, 0), (584, 100, 583, 0), (578, 100, 577, 0), (575, 100, 574, 0), (581, 100, 580, 0), (837, 100, 836, 0), (1150, 112, 1149, 0), (1259, 112, 1257, 1258), (1267, 112, 1266, 42), (1350, 112, 1349, 59), (1330, 112, 1329, 55), (1334, 112, 1333, 56), (1386, 112, 1385, 66), (1382, 112, 1381, 0), (1379, 112, 1378, 65), (1390, 112, 1389, 67), (1394, 112, 1393, 68), (1369, 112, 1368, 63), (1375, 112, 1374, 64), (1416, 112, 1415, 72), (1276, 112, 1275, 43), (1424, 112, 1423, 74), (1302, 112, 1301, 0), (1299, 112, 1298, 0), (1322, 112, 1321, 53), (1318, 112, 1317, 52), (1326, 112, 1325, 54), (1310, 112, 1309, 50), (1314, 112, 1313, 51), (1306, 112, 1305, 49), (1288, 112, 1287, 46), (1346, 112, 1345, 58), (1342, 112, 1341, 57), (1361, 112, 1360, 61), (1365, 112, 1364, 62), (1401, 112, 1400, 0), (1353, 112, 1352, 0), (1296, 112, 1295, 48), (1357, 112, 1356, 60), (1398, 112, 1397, 69), (1412, 112, 1411, 71), (1408, 112, 1407, 0), (1405, 112, 1404, 70), (1420, 112, 1419, 73), (1284, 112, 1283, 45), (1292, 112, 1291, 47), (1280, 112, 1279, 44), (1477, 112, 1476, 86), (1473, 112, 1472, 85), (1469, 112, 1468, 84), (1432, 112, 1431, 75), (1456, 112, 1455, 81), (1448, 112, 1447, 79), (1444, 112, 1443, 78), (1452, 112, 1451, 80), (1440, 112, 1439, 77), (1465, 112, 1464, 83), (1460, 112, 1459, 82), (1436, 112, 1435, 76), (1263, 112, 1261, 1262), (1271, 112, 1269, 1270), (1428, 112, 1426, 1427), (1481, 112, 1479, 1480), (1485, 112, 1483, 1484), (1489, 112, 1487, 1488), (1496, 112, 1495, 0), (1493, 112, 1491, 1492), (1500, 112, 1498, 1499), (1504, 112, 1502, 1503), (1508, 112, 1506, 1507), (1512, 112, 1510, 1511), (1516, 112, 1514, 1515), (1528, 112, 1527, 88), (1546, 112, 1545, 91), (1538, 112, 1537, 0), (1535, 112, 1534, 0), (1542, 112, 1541, 90), (1532, 112, 1531, 89), (1524, 112, 1523, 87), (1520, 112, 1518, 1519), (1550, 112, 1548, 1549), (1554, 112, 1552, 1553), (1566, 112, 1565, 93), (1574, 112, 1573, 95), (1582, 112, 1581, 97), (1570, 112, 1569, 94), (1578, 112, 1577, 96), (1586, 112, 1585, 98), (1562, 112, 1561, 92), (1558, 112, 1556, 1557), (1590, 112, 1588, 1589), (297, 106, 296, 0), (872, 106, 870, 871), (857, 106, 855, 856), (828, 106, 826, 827), (876, 106, 875, 21), (883, 106, 882, 22), (887, 106, 886, 23), (865, 106, 864, 20), (832, 106, 831, 17), (133, 101, 132, 0), (779, 101, 777, 778), (771, 101, 769, 770), (951, 101, 949, 950), (784, 101, 783, 9), (843, 101, 842, 18), (853, 101, 852, 19), (891, 101, 890, 24), (896, 101, 895, 25), (911, 101, 910, 27), (915, 101, 914, 28), (902, 101, 901, 26), (223, 105, 222, 0), (523, 105, 521, 522), (319, 105, 317, 318), (737, 105, 735, 736), (861, 105, 859, 860), (983, 105, 981, 982), (987, 105, 985, 986), (139, 102, 138, 0), (519, 102, 517, 518), (733, 102, 731, 732), (847, 102, 845, 846), (968, 102, 966, 967), (173, 104, 172, 0), (531, 104, 529, 530), (789, 104, 787, 788), (797, 104, 795, 796), (802, 104, 801, 11), (807, 104, 806, 12), (811, 104, 810, 13), (815, 104, 814, 14), (819, 104, 818, 15), (793, 104, 792, 10), (823, 104, 822, 16), (416, 109, 415, 0), (758, 109, 756, 757), (515, 109, 513, 514), (919, 109, 917, 918), (1145, 109, 1143, 1144), (742, 109, 740, 741), (436, 110, 435, 0), (1030, 110, 1028, 1029), (1076, 110, 1074, 1075), (1034, 110, 1032, 1033), (1049, 110, 1047, 1048), (1057, 110, 1055, 1056), (1062, 110, 1061, 40), (1069, 110, 1068, 41), (1053, 110, 1052, 39), (1042, 110, 1041, 38), (1038, 110, 1037, 37), (353, 107, 352, 0), (767, 107, 765, 766), (775, 107, 773, 774), (931, 107, 929, 930), (936, 107, 935, 29), (942, 107, 941, 30), (946, 107, 945, 31), (147, 103, 146, 0), (527, 103, 525, 526), (558, 103, 556, 557), (596, 103, 594, 595), (600, 103, 598, 599), (629, 103, 627, 628), (605, 103, 603, 604), (612, 103, 610, 611), (621, 103, 619, 620), (608, 103, 607, 0), (375, 108, 374, 0), (1019, 108, 1017, 1018), (959, 108, 957, 958), (978, 108, 977, 35), (972, 108, 971, 34), (964, 108, 963, 33), (457, 111, 456, 0), (539, 111, 537, 538), (554, 111, 552, 553), (562, 111, 561, 0), (566, 111, 565, 1), (592, 111, 591, 3), (633, 111, 632, 5), (617, 111, 616, 4), (588, 111, 587, 2)]
set_option maxRecDepth 100000 in
theorem mc_0 : lw_tbl[125]? = some (Cond.code mi0.1 mi0.2.1 mi0.2.2.1 mi0.2.2.2.1) := rfl
set_option maxRecDepth 100000 in
theorem mc_1 : lw_tbl[650]? = some (Cond.code mi1.1 mi1.2.1 mi1.2.2.1 mi1.2.2.2.1) := rfl
set_option maxRecDepth 100000 in
theorem mc_2 : lw_tbl[749]? = some (Cond.code mi2.1 mi2.2.1 mi2.2.2.1 mi2.2.2.2.1) := rfl
set_option maxRecDepth 100000 in
theorem mc_3 : lw_tbl[927]? = some (Cond.code mi3.1 mi3.2.1 mi3.2.2.1 mi3.2.2.2.1) := rfl
set_option maxRecDepth 100000 in
theorem mc_4 : lw_tbl[511]? = some (Cond.code mi4.1 mi4.2.1 mi4.2.2.1 mi4.2.2.2.1) := rfl
set_option maxRecDepth 100000 in
theorem mc_5 : lw_tbl[1000]? = some (Cond.code mi5.1 mi5.2.1 mi5.2.2.1 mi5.2.2.2.1) := rfl
set_option maxRecDepth 100000 in
theorem mc_6 : lw_tbl[1026]? = some (Cond.code mi6.1 mi6.2.1 mi6.2.2.1 mi6.2.2.2.1) := rfl
set_option maxRecDepth 100000 in
theorem mc_7 : lw_tbl[1084]? = some (Cond.code mi7.1 mi7.2.1 mi7.2.2.1 mi7.2.2.2.1) := rfl
set_option maxRecDepth 100000 in
theorem mc_8 : lw_tbl[1106]? = some (Cond.code mi8.1 mi8.2.1 mi8.2.2.1 mi8.2.2.2.1) := rfl
set_option maxRecDepth 100000 in
theorem mc_9 : lw_tbl[1113]? = some (Cond.code mi9.1 mi9.2.1 mi9.2.2.1 mi9.2.2.2.1) := rfl
set_option maxRecDepth 100000 in
theorem mc_10 : lw_tbl[1120]? = some (Cond.code mi10.1 mi10.2.1 mi10.2.2.1 mi10.2.2.2.1) := rfl
set_option maxRecDepth 100000 in
theorem mc_11 : lw_tbl[1127]? = some (Cond.code mi11.1 mi11.2.1 mi11.2.2.1 mi11.2.2.2.1) := rfl
set_option maxRecDepth 100000 in
theorem mc_12 : lw_tbl[535]? = some (Cond.code mi12.1 mi12.2.1 mi12.2.2.1 mi12.2.2.2.1) := rfl
set_option maxRecDepth 100000 in
theorem mc_13 : lw_tbl[546]? = some (Cond.code mi13.1 mi13.2.1 mi13.2.2.1 mi13.2.2.2.1) := rfl
set_option maxRecDepth 100000 in
theorem mc_14 : lw_tbl[550]? = some (Cond.code mi14.1 mi14.2.1 mi14.2.2.1 mi14.2.2.2.1) := rfl
set_option maxRecDepth 100000 in
theorem mc_15 : lw_tbl[1134]? = some (Cond.code mi15.1 mi15.2.1 mi15.2.2.1 mi15.2.2.2.1) := rfl
set_option maxRecDepth 100000 in
theorem mc_16 : lw_tbl[1141]? = some (Cond.code mi16.1 mi16.2.1 mi16.2.2.1 mi16.2.2.2.1) := rfl
set_option maxRecDepth 100000 in
theorem mc_17 : lw_tbl[638]? = some (Cond.code mi17.1 mi17.2.1 mi17.2.2.1 mi17.2.2.2.1) := rfl
set_option maxRecDepth 100000 in
theorem mc_18 : lw_tbl[754]? = some (Cond.code mi18.1 mi18.2.1 mi18.2.2.1 mi18.2.2.2.1) := rfl
set_option maxRecDepth 100000 in
theorem mc_19 : lw_tbl[763]? = some (Cond.code mi19.1 mi19.2.1 mi19.2.2.1 mi19.2.2.2.1) := rfl
set_option maxRecDepth 100000 in
theorem mc_20 : lw_tbl[992]? = some (Cond.code mi20.1 mi20.2.1 mi20.2.2.1 mi20.2.2.2.1) := rfl
set_option maxRecDepth 100000 in
theorem mc_21 : lw_tbl[955]? = some (Cond.code mi21.1 mi21.2.1 mi21.2.2.1 mi21.2.2.2.1) := rfl
set_option maxRecDepth 100000 in
theorem mc_22 : lw_tbl[542]? = some (Cond.code mi22.1 mi22.2.1 mi22.2.2.1 mi22.2.2.2.1) := rfl
set_option maxRecDepth 100000 in
theorem mc_23 : lw_tbl[572]? = some (Cond.code mi23.1 mi23.2.1 mi23.2.2.1 mi23.2.2.2.1) := rfl
set_option maxRecDepth 100000 in
theorem mc_24 : lw_tbl[569]? = some (Cond.code mi24.1 mi24.2.1 mi24.2.2.1 mi24.2.2.2.1) := rfl
set_option maxRecDepth 100000 in
theorem mc_25 : lw_tbl[584]? = some (Cond.code mi25.1 mi25.2.1 mi25.2.2.1 mi25.2.2.2.1) := rfl
set_option maxRecDepth 100000 in
theorem mc_26 : lw_tbl[578]? = some (Cond.code mi26.1 mi26.2.1 mi26.2.2.1 mi26.2.2.2.1) := rfl
set_option maxRecDepth 100000 in
theorem mc_27 : lw_tbl[575]? = some (Cond.code mi27.1 mi27.2.1 mi27.2.2.1 mi27.2.2.2.1) := rfl
set_option maxRecDepth 100000 in
theorem mc_28 : lw_tbl[581]? = some (Cond.code mi28.1 mi28.2.1 mi28.2.2.1 mi28.2.2.2.1) := rfl
set_option maxRecDepth 100000 in
theorem mc_29 : lw_tbl[837]? = some (Cond.code mi29.1 mi29.2.1 mi29.2.2.1 mi29.2.2.2.1) := rfl
set_option maxRecDepth 100000 in
theorem mc_30 : lw_tbl[1150]? = some (Cond.code mi30.1 mi30.2.1 mi30.2.2.1 mi30.2.2.2.1) := rfl
set_option maxRecDepth 100000 in
theorem mc_31 : lw_tbl[1259]? = some (Cond.code mi31.1 mi31.2.1 mi31.2.2.1 mi31.2.2.2.1) := rfl
set_option maxRecDepth 100000 in
theorem mc_32 : lw_tbl[1267]? = some (Cond.code mi32.1 mi32.2.1 mi32.2.2.1 mi32.2.2.2.1) := rfl
set_option maxRecDepth 100000 in
theorem mc_33 : lw_tbl[1350]? = some (Cond.code mi33.1 mi33.2.1 mi33.2.2.1 mi33.2.2.2.1) := rfl
set_option maxRecDepth 100000 in
theorem mc_34 : lw_tbl[1330]? = some (Cond.code mi34.1 mi34.2.1 mi34.2.2.1 mi34.2.2.2.1) := rfl
set_option maxRecDepth 100000 in
theorem mc_35 : lw_tbl[1334]? = some (Cond.code mi35.1 mi35.2.1 mi35.2.2.1 mi35.2.2.2.1) := rfl
set_option maxRecDepth 100000 in
theorem mc_36 : lw_tbl[1386]? = some (Cond.code mi36.1 mi36.2.1 mi36.2.2.1 mi36.2.2.2.1) := rfl
set_option maxRecDepth 100000 in
theorem mc_37 : lw_tbl[1382]? = some (Cond.code mi37.1 mi37.2.1 mi37.2.2.1 mi37.2.2.2.1) := rfl
set_option maxRecDepth 100000 in
theorem mc_38 : lw_tbl[1379]? = some (Cond.code mi38.1 mi38.2.1 mi38.2.2.1 mi38.2.2.2.1) := rfl
set_option maxRecDepth 100000 in
theorem mc_39 : lw_tbl[1390]? = some (Cond.code mi39.1 mi39.2.1 mi39.2.2.1 mi39.2.2.2.1) := rfl
set_option maxRecDepth 100000 in
theorem mc_40 : lw_tbl[1394]? = some (Cond.code mi40.1 mi40.2.1 mi40.2.2.1 mi40.2.2.2.1) := rfl
set_option maxRecDepth 100000 in
theorem mc_41 : lw_tbl[1369]? = some (Cond.code mi41.1 mi41.2.1 mi41.2.2.1 mi41.2.2.2.1) := rfl
set_option maxRecDepth 100000 in
theorem mc_42 : lw_tbl[1375]? = some (Cond.code mi42.1 mi42.2.1 mi42.2.2.1 mi42.2.2.2.1) := rfl
set_option maxRecDepth 100000 in
theorem mc_43 : lw_tbl[1416]? = some (Cond.code mi43.1 mi43.2.1 mi43.2.2.1 mi43.2.2.2.1) := rfl
set_option maxRecDepth 100000 in
theorem mc_44 : lw_tbl[1276]? = some (Cond.code mi44.1 mi44.2.1 mi44.2.2.1 mi44.2.2.2.1) := rfl
set_option maxRecDepth 100000 in
theorem mc_45 : lw_tbl[1424]? = some (Cond.code mi45.1 mi45.2.1 mi45.2.2.1 mi45.2.2.2.1) := rfl
set_option maxRecDepth 100000 in
theorem mc_46 : lw_tbl[1302]? = some (Cond.code mi46.1 mi46.2.1 mi46.2.2.1 mi46.2.2.2.1) := rfl
set_option maxRecDepth 100000 in
theorem mc_47 : lw_tbl[1299]? = some (Cond.code mi47.1 mi47.2.1 mi47.2.2.1 mi47.2.2.2.1) := rfl
set_option maxRecDepth 100000 in
theorem mc_48 : lw_tbl[1322]? = some (Cond.code mi48.1 mi48.2.1 mi48.2.2.1 mi48.2.2.2.1) := rfl
set_option maxRecDepth 100000 in
theorem mc_49 : lw_tbl[1318]? = some (Cond.code mi49.1 mi49.2.1 mi49.2.2.1 mi49.2.2.2.1) := rfl
set_option maxRecDepth 100000 in
theorem mc_50 : lw_tbl[1326]? = some (Cond.code mi50.1 mi50.2.1 mi50.2.2.1 mi50.2.2.2.1) := rfl
set_option maxRecDepth 100000 in
theorem mc_51 : lw_tbl[1310]? = some (Cond.code mi51.1 mi51.2.1 mi51.2.2.1 mi51.2.2.2.1) := rfl
set_option maxRecDepth 100000 in
theorem mc_52 : lw_tbl[1314]? = some (Cond.code mi52.1 mi52.2.1 mi52.2.2.1 mi52.2.2.2.1) := rfl
set_option maxRecDepth 100000 in
theorem mc_53 : lw_tbl[1306]? = some (Cond.code mi53.1 mi53.2.1 mi53.2.2.1 mi53.2.2.2.1) := rfl
set_option maxRecDepth 100000 in
theorem mc_54 : lw_tbl[1288]? = some (Cond.code mi54.1 mi54.2.1 mi54.2.2.1 mi54.2.2.2.1) := rfl
set_option maxRecDepth 100000 in
theorem mc_55 : lw_tbl[1346]? = some (Cond.code mi55.1 mi55.2.1 mi55.2.2.1 mi55.2.2.2.1) := rfl
set_option maxRecDepth 100000 in
theorem mc_56 : lw_tbl[1342]? = some (Cond.code mi56.1 mi56.2.1 mi56.2.2.1 mi56.2.2.2.1) := rfl
set_option maxRecDepth 100000 in
theorem mc_57 : lw_tbl[1361]? = some (Cond.code mi57.1 mi57.2.1 mi57.2.2.1 mi57.2.2.2.1) := rfl
set_option maxRecDepth 100000 in
theorem mc_58 : lw_tbl[1365]? = some (Cond.code mi58.1 mi58.2.1 mi58.2.2.1 mi58.2.2.2.1) := rfl
set_option maxRecDepth 100000 in
theorem mc_59 : lw_tbl[1401]? = some (Cond.code mi59.1 mi59.2.1 mi59.2.2.1 mi59.2.2.2.1) := rfl
set_option maxRecDepth 100000 in
theorem mc_60 : lw_tbl[1353]? = some (Cond.code mi60.1 mi60.2.1 mi60.2.2.1 mi60.2.2.2.1) := rfl
set_option maxRecDepth 100000 in
theorem mc_61 : lw_tbl[1296]? = some (Cond.code mi61.1 mi61.2.1 mi61.2.2.1 mi61.2.2.2.1) := rfl
set_option maxRecDepth 100000 in
theorem mc_62 : lw_tbl[1357]? = some (Cond.code mi62.1 mi62.2.1 mi62.2.2.1 mi62.2.2.2.1) := rfl
set_option maxRecDepth 100000 in
theorem mc_63 : lw_tbl[1398]? = some (Cond.code mi63.1 mi63.2.1 mi63.2.2.1 mi63.2.2.2.1) := rfl
set_option maxRecDepth 100000 in
theorem mc_64 : lw_tbl[1412]? = some (Cond.code mi64.1 mi64.2.1 mi64.2.2.1 mi64.2.2.2.1) := rfl
set_option maxRecDepth 100000 in
theorem mc_65 : lw_tbl[1408]? = some (Cond.code mi65.1 mi65.2.1 mi65.2.2.1 mi65.2.2.2.1) := rfl
set_option maxRecDepth 100000 in
theorem mc_66 : lw_tbl[1405]? = some (Cond.code mi66.1 mi66.2.1 mi66.2.2.1 mi66.2.2.2.1) := rfl
set_option maxRecDepth 100000 in
theorem mc_67 : lw_tbl[1420]? = some (Cond.code mi67.1 mi67.2.1 mi67.2.2.1 mi67.2.2.2.1) := rfl
set_option maxRecDepth 100000 in
theorem mc_68 : lw_tbl[1284]? = some (Cond.code mi68.1 mi68.2.1 mi68.2.2.1 mi68.2.2.2.1) := rfl
set_option maxRecDepth 100000 in
theorem mc_69 : lw_tbl[1292]? = some (Cond.code mi69.1 mi69.2.1 mi69.2.2.1 mi69.2.2.2.1) := rfl
set_option maxRecDepth 100000 in
theorem mc_70 : lw_tbl[1280]? = some (Cond.code mi70.1 mi70.2.1 mi70.2.2.1 mi70.2.2.2.1) := rfl
set_option maxRecDepth 100000 in
theorem mc_71 : lw_tbl[1477]? = some (Cond.code mi71.1 mi71.2.1 mi71.2.2.1 mi71.2.2.2.1) := rfl
set_option maxRecDepth 100000 in
theorem mc_72 : lw_tbl[1473]? = some (Cond.code mi72.1 mi72.2.1 mi72.2.2.1 mi72.2.2.2.1) := rfl
set_option maxRecDepth 100000 in
theorem mc_73 : lw_tbl[1469]? = some (Cond.code mi73.1 mi73.2.1 mi73.2.2.1 mi73.2.2.2.1) := rfl
set_option maxRecDepth 100000 in
theorem mc_74 : lw_tbl[1432]? = some (Cond.code mi74.1 mi74.2.1 mi74.2.2.1 mi74.2.2.2.1) := rfl
set_option maxRecDepth 100000 in
theorem mc_75 : lw_tbl[1456]? = some (Cond.code mi75.1 mi75.2.1 mi75.2.2.1 mi75.2.2.2.1) := rfl
set_option maxRecDepth 100000 in
theorem mc_76 : lw_tbl[1448]? = some (Cond.code mi76.1 mi76.2.1 mi76.2.2.1 mi76.2.2.2.1) := rfl
set_option maxRecDepth 100000 in
theorem mc_77 : lw_tbl[1444]? = some (Cond.code mi77.1 mi77.2.1 mi77.2.2.1 mi77.2.2.2.1) := rfl
set_option maxRecDepth 100000 in
theorem mc_78 : lw_tbl[1452]? = some (Cond.code mi78.1 mi78.2.1 mi78.2.2.1 mi78.2.2.2.1) := rfl
set_option maxRecDepth 100000 in
theorem mc_79 : lw_tbl[1440]? = some (Cond.code mi79.1 mi79.2.1 mi79.2.2.1 mi79.2.2.2.1) := rfl
set_option maxRecDepth 100000 in
theorem mc_80 : lw_tbl[1465]? = some (Cond.code mi80.1 mi80.2.1 mi80.2.2.1 mi80.2.2.2.1) := rfl
set_option maxRecDepth 100000 in
theorem mc_81 : lw_tbl[1460]? = some (Cond.code mi81.1 mi81.2.1 mi81.2.2.1 mi81.2.2.2.1) := rfl
set_option maxRecDepth 100000 in
theorem mc_82 : lw_tbl[1436]? = some (Cond.code mi82.1 mi82.2.1 mi82.2.2.1 mi82.2.2.2.1) := rfl
set_option maxRecDepth 100000 in
theorem mc_83 : lw_tbl[1263]? = some (Cond.code mi83.1 mi83.2.1 mi83.2.2.1 mi83.2.2.2.1) := rfl
set_option maxRecDepth 100000 in
theorem mc_84 : lw_tbl[1271]? = some (Cond.code mi84.1 mi84.2.1 mi84.2.2.1 mi84.2.2.2.1) := rfl
set_option maxRecDepth 100000 in
theorem mc_85 : lw_tbl[1428]? = some (Cond.code mi85.1 mi85.2.1 mi85.2.2.1 mi85.2.2.2.1) := rfl
set_option maxRecDepth 100000 in
theorem mc_86 : lw_tbl[1481]? = some (Cond.code mi86.1 mi86.2.1 mi86.2.2.1 mi86.2.2.2.1) := rfl
set_option maxRecDepth 100000 in
theorem mc_87 : lw_tbl[1485]? = some (Cond.code mi87.1 mi87.2.1 mi87.2.2.1 mi87.2.2.2.1) := rfl
set_option maxRecDepth 100000 in
theorem mc_88 : lw_tbl[1489]? = some (Cond.code mi88.1 mi88.2.1 mi88.2.2.1 mi88.2.2.2.1) := rfl
set_option maxRecDepth 100000 in
theorem mc_89 : lw_tbl[1496]? = some (Cond.code mi89.1 mi89.2.1 mi89.2.2.1 mi89.2.2.2.1) := rfl
set_option maxRecDepth 100000 in
theorem mc_90 : lw_tbl[1493]? = some (Cond.code mi90.1 mi90.2.1 mi90.2.2.1 mi90.2.2.2.1) := rfl
set_option maxRecDepth 100000 in
theorem mc_91 : lw_tbl[1500]? = some (Cond.code mi91.1 mi91.2.1 mi91.2.2.1 mi91.2.2.2.1) := rfl
set_option maxRecDepth 100000 in
theorem mc_92 : lw_tbl[1504]? = some (Cond.code mi92.1 mi92.2.1 mi92.2.2.1 mi92.2.2.2.1) := rfl
set_option maxRecDepth 100000 in
theorem mc_93 : lw_tbl[1508]? = some (Cond.code mi93.1 mi93.2.1 mi93.2.2.1 mi93.2.2.2.1) := rfl
set_option maxRecDepth 100000 in
theorem mc_94 : lw_tbl[1512]? = some (Cond.code mi94.1 mi94.2.1 mi94.2.2.1 mi94.2.2.2.1) := rfl
set_option maxRecDepth 100000 in
theorem mc_95 : lw_tbl[1516]? = some (Cond.code mi95.1 mi95.2.1 mi95.2.2.1 mi95.2.2.2.1) := rfl
set_option maxRecDepth 100000 in
theorem mc_96 : lw_tbl[1528]? = some (Cond.code mi96.1 mi96.2.1 mi96.2.2.1 mi96.2.2.2.1) := rfl
set_option maxRecDepth 100000 in
theorem mc_97 : lw_tbl[1546]? = some (Cond.code mi97.1 mi97.2.1 mi97.2.2.1 mi97.2.2.2.1) := rfl
set_option maxRecDepth 100000 in
theorem mc_98 : lw_tbl[1538]? = some (Cond.code mi98.1 mi98.2.1 mi98.2.2.1 mi98.2.2.2.1) := rfl
set_option maxRecDepth 100000 in
theorem mc_99 : lw_tbl[1535]? = some (Cond.code mi99.1 mi99.2.1 mi99.2.2.1 mi99.2.2.2.1) := rfl
set_option maxRecDepth 100000 in
theorem mc_100 : lw_tbl[1542]? = some (Cond.code mi100.1 mi100.2.1 mi100.2.2.1 mi100.2.2.2.1) := rfl
set_option maxRecDepth 100000 in
theorem mc_101 : lw_tbl[1532]? = some (Cond.code mi101.1 mi101.2.1 mi101.2.2.1 mi101.2.2.2.1) := rfl
set_option maxRecDepth 100000 in
theorem mc_102 : lw_tbl[1524]? = some (Cond.code mi102.1 mi102.2.1 mi102.2.2.1 mi102.2.2.2.1) := rfl
set_option maxRecDepth 100000 in
theorem mc_103 : lw_tbl[1520]? = some (Cond.code mi103.1 mi103.2.1 mi103.2.2.1 mi103.2.2.2.1) := rfl
set_option maxRecDepth 100000 in
theorem mc_104 : lw_tbl[1550]? = some (Cond.code mi104.1 mi104.2.1 mi104.2.2.1 mi104.2.2.2.1) := rfl
set_option maxRecDepth 100000 in
theorem mc_105 : lw_tbl[1554]? = some (Cond.code mi105.1 mi105.2.1 mi105.2.2.1 mi105.2.2.2.1) := rfl
set_option maxRecDepth 100000 in
theorem mc_106 : lw_tbl[1566]? = some (Cond.code mi106.1 mi106.2.1 mi106.2.2.1 mi106.2.2.2.1) := rfl
set_option maxRecDepth 100000 in
theorem mc_107 : lw_tbl[1574]? = some (Cond.code mi107.1 mi107.2.1 mi107.2.2.1 mi107.2.2.2.1) := rfl
set_option maxRecDepth 100000 in
theorem mc_108 : lw_tbl[1582]? = some (Cond.code mi108.1 mi108.2.1 mi108.2.2.1 mi108.2.2.2.1) := rfl
set_option maxRecDepth 100000 in
theorem mc_109 : lw_tbl[1570]? = some (Cond.code mi109.1 mi109.2.1 mi109.2.2.1 mi109.2.2.2.1) := rfl
set_option maxRecDepth 100000 in
theorem mc_110 : lw_tbl[1578]? = some (Cond.code mi110.1 mi110.2.1 mi110.2.2.1 mi110.2.2.2.1) := rfl
set_option maxRecDepth 100000 in
theorem mc_111 : lw_tbl[1586]? = some (Cond.code mi111.1 mi111.2.1 mi111.2.2.1 mi111.2.2.2.1) := rfl
set_option maxRecDepth 100000 in
theorem mc_112 : lw_tbl[1562]? = some (Cond.code mi112.1 mi112.2.1 mi112.2.2.1 mi112.2.2.2.1) := rfl
set_option maxRecDepth 100000 in
theorem mc_113 : lw_tbl[1558]? = some (Cond.code mi113.1 mi113.2.1 mi113.2.2.1 mi113.2.2.2.1) := rfl
set_option maxRecDepth 100000 in
theorem mc_114 : lw_tbl[1590]? = some (Cond.code mi114.1 mi114.2.1 mi114.2.2.1 mi114.2.2.2.1) := rfl
set_option maxRecDepth 100000 in
theorem mc_115 : lw_tbl[297]? = some (Cond.code mi115.1 mi115.2.1 mi115.2.2.1 mi115.2.2.2.1) := rfl
set_option maxRecDepth 100000 in
theorem mc_116 : lw_tbl[872]? = some (Cond.code mi116.1 mi116.2.1 mi116.2.2.1 mi116.2.2.2.1) := rfl
set_option maxRecDepth 100000 in
theorem mc_117 : lw_tbl[857]? = some (Cond.code mi117.1 mi117.2.1 mi117.2.2.1 mi117.2.2.2.1) := rfl
set_option maxRecDepth 100000 in
theorem mc_118 : lw_tbl[828]? = some (Cond.code mi118.1 mi118.2.1 mi118.2.2.1 mi118.2.2.2.1) := rfl
set_option maxRecDepth 100000 in
theorem mc_119 : lw_tbl[876]? = some (Cond.code mi119.1 mi119.2.1 mi119.2.2.1 mi119.2.2.2.1) := rfl
set_option maxRecDepth 100000 in
theorem mc_120 : lw_tbl[883]? = some (Cond.code mi120.1 mi120.2.1 mi120.2.2.1 mi120.2.2.2.1) := rfl
set_option maxRecDepth 100000 in
theorem mc_121 : lw_tbl[887]? = some (Cond.code mi121.1 mi121.2.1 mi121.2.2.1 mi121.2.2.2.1) := rfl
set_option maxRecDepth 100000 in
theorem mc_122 : lw_tbl[865]? = some (Cond.code mi122.1 mi122.2.1 mi122.2.2.1 mi122.2.2.2.1) := rfl
set_option maxRecDepth 100000 in
theorem mc_123 : lw_tbl[832]? = some (Cond.code mi123.1 mi123.2.1 mi123.2.2.1 mi123.2.2.2.1) := rfl
set_option maxRecDepth 100000 in
theorem mc_124 : lw_tbl[133]? = some (Cond.code mi124.1 mi124.2.1 mi124.2.2.1 mi124.2.2.2.1) := rfl
set_option maxRecDepth 100000 in
theorem mc_125 : lw_tbl[779]? = some (Cond.code mi125.1 mi125.2.1 mi125.2.2.1 mi125.2.2.2.1) := rfl
set_option maxRecDepth 100000 in
theorem mc_126 : lw_tbl[771]? = some (Cond.code mi126.1 mi126.2.1 mi126.2.2.1 mi126.2.2.2.1) := rfl
set_option maxRecDepth 100000 in
theorem mc_127 : lw_tbl[951]? = some (Cond.code mi127.1 mi127.2.1 mi127.2.2.1 mi127.2.2.2.1) := rfl
set_option maxRecDepth 100000 in
theorem mc_128 : lw_tbl[784]? = some (Cond.code mi128.1 mi128.2.1 mi128.2.2.1 mi128.2.2.2.1) := rfl
set_option maxRecDepth 100000 in
theorem mc_129 : lw_tbl[843]? = some (Cond.code mi129.1 mi129.2.1 mi129.2.2.1 mi129.2.2.2.1) := rfl
set_option maxRecDepth 100000 in
theorem mc_130 : lw_tbl[853]? = some (Cond.code mi130.1 mi130.2.1 mi130.2.2.1 mi130.2.2.2.1) := rfl
set_option maxRecDepth 100000 in
theorem mc_131 : lw_tbl[891]? = some (Cond.code mi131.1 mi131.2.1 mi131.2.2.1 mi131.2.2.2.1) := rfl
set_option maxRecDepth 100000 in
theorem mc_132 : lw_tbl[896]? = some (Cond.code mi132.1 mi132.2.1 mi132.2.2.1 mi132.2.2.2.1) := rfl
set_option maxRecDepth 100000 in
theorem mc_133 : lw_tbl[911]? = some (Cond.code mi133.1 mi133.2.1 mi133.2.2.1 mi133.2.2.2.1) := rfl
set_option maxRecDepth 100000 in
theorem mc_134 : lw_tbl[915]? = some (Cond.code mi134.1 mi134.2.1 mi134.2.2.1 mi134.2.2.2.1) := rfl
set_option maxRecDepth 100000 in
theorem mc_135 : lw_tbl[902]? = some (Cond.code mi135.1 mi135.2.1 mi135.2.2.1 mi135.2.2.2.1) := rfl
set_option maxRecDepth 100000 in
theorem mc_136 : lw_tbl[223]? = some (Cond.code mi136.1 mi136.2.1 mi136.2.2.1 mi136.2.2.2.1) := rfl
set_option maxRecDepth 100000 in
theorem mc_137 : lw_tbl[523]? = some (Cond.code mi137.1 mi137.2.1 mi137.2.2.1 mi137.2.2.2.1) := rfl
set_option maxRecDepth 100000 in
theorem mc_138 : lw_tbl[319]? = some (Cond.code mi138.1 mi138.2.1 mi138.2.2.1 mi138.2.2.2.1) := rfl
set_option maxRecDepth 100000 in
theorem mc_139 : lw_tbl[737]? = some (Cond.code mi139.1 mi139.2.1 mi139.2.2.1 mi139.2.2.2.1) := rfl
set_option maxRecDepth 100000 in
theorem mc_140 : lw_tbl[861]? = some (Cond.code mi140.1 mi140.2.1 mi140.2.2.1 mi140.2.2.2.1) := rfl
set_option maxRecDepth 100000 in
theorem mc_141 : lw_tbl[983]? = some (Cond.code mi141.1 mi141.2.1 mi141.2.2.1 mi141.2.2.2.1) := rfl
set_option maxRecDepth 100000 in
theorem mc_142 : lw_tbl[987]? = some (Cond.code mi142.1 mi142.2.1 mi142.2.2.1 mi142.2.2.2.1) := rfl
set_option maxRecDepth 100000 in
theorem mc_143 : lw_tbl[139]? = some (Cond.code mi143.1 mi143.2.1 mi143.2.2.1 mi143.2.2.2.1) := rfl
set_option maxRecDepth 100000 in
theorem mc_144 : lw_tbl[519]? = some (Cond.code mi144.1 mi144.2.1 mi144.2.2.1 mi144.2.2.2.1) := rfl
set_option maxRecDepth 100000 in
theorem mc_145 : lw_tbl[733]? = some (Cond.code mi145.1 mi145.2.1 mi145.2.2.1 mi145.2.2.2.1) := rfl
set_option maxRecDepth 100000 in
theorem mc_146 : lw_tbl[847]? = some (Cond.code mi146.1 mi146.2.1 mi146.2.2.1 mi146.2.2.2.1) := rfl
set_option maxRecDepth 100000 in
theorem mc_147 : lw_tbl[968]? = some (Cond.code mi147.1 mi147.2.1 mi147.2.2.1 mi147.2.2.2.1) := rfl
set_option maxRecDepth 100000 in
theorem mc_148 : lw_tbl[173]? = some (Cond.code mi148.1 mi148.2.1 mi148.2.2.1 mi148.2.2.2.1) := rfl
set_option maxRecDepth 100000 in
theorem mc_149 : lw_tbl[531]? = some (Cond.code mi149.1 mi149.2.1 mi149.2.2.1 mi149.2.2.2.1) := rfl
set_option maxRecDepth 100000 in
theorem mc_150 : lw_tbl[789]? = some (Cond.code mi150.1 mi150.2.1 mi150.2.2.1 mi150.2.2.2.1) := rfl
set_option maxRecDepth 100000 in
theorem mc_151 : lw_tbl[797]? = some (Cond.code mi151.1 mi151.2.1 mi151.2.2.1 mi151.2.2.2.1) := rfl
set_option maxRecDepth 100000 in
theorem mc_152 : lw_tbl[802]? = some (Cond.code mi152.1 mi152.2.1 mi152.2.2.1 mi152.2.2.2.1) := rfl
set_option maxRecDepth 100000 in
theorem mc_153 : lw_tbl[807]? = some (Cond.code mi153.1 mi153.2.1 mi153.2.2.1 mi153.2.2.2.1) := rfl
set_option maxRecDepth 100000 in
theorem mc_154 : lw_tbl[811]? = some (Cond.code mi154.1 mi154.2.1 mi154.2.2.1 mi154.2.2.2.1) := rfl
set_option maxRecDepth 100000 in
theorem mc_155 : lw_tbl[815]? = some (Cond.code mi155.1 mi155.2.1 mi155.2.2.1 mi155.2.2.2.1) := rfl
set_option maxRecDepth 100000 in
theorem mc_156 : lw_tbl[819]? = some (Cond.code mi156.1 mi156.2.1 mi156.2.2.1 mi156.2.2.2.1) := rfl
set_option maxRecDepth 100000 in
theorem mc_157 : lw_tbl[793]? = some (Cond.code mi157.1 mi157.2.1 mi157.2.2.1 mi157.2.2.2.1) := rfl
set_option maxRecDepth 100000 in
theorem mc_158 : lw_tbl[823]? = some (Cond.code mi158.1 mi158.2.1 mi158.2.2.1 mi158.2.2.2.1) := rfl
set_option maxRecDepth 100000 in
theorem mc_159 : lw_tbl[416]? = some (Cond.code mi159.1 mi159.2.1 mi159.2.2.1 mi159.2.2.2.1) := rfl
set_option maxRecDepth 100000 in
theorem mc_160 : lw_tbl[758]? = some (Cond.code mi160.1 mi160.2.1 mi160.2.2.1 mi160.2.2.2.1) := rfl
set_option maxRecDepth 100000 in
theorem mc_161 : lw_tbl[515]? = some (Cond.code mi161.1 mi161.2.1 mi161.2.2.1 mi161.2.2.2.1) := rfl
set_option maxRecDepth 100000 in
theorem mc_162 : lw_tbl[919]? = some (Cond.code mi162.1 mi162.2.1 mi162.2.2.1 mi162.2.2.2.1) := rfl
set_option maxRecDepth 100000 in
theorem mc_163 : lw_tbl[1145]? = some (Cond.code mi163.1 mi163.2.1 mi163.2.2.1 mi163.2.2.2.1) := rfl
set_option maxRecDepth 100000 in
theorem mc_164 : lw_tbl[742]? = some (Cond.code mi164.1 mi164.2.1 mi164.2.2.1 mi164.2.2.2.1) := rfl
set_option maxRecDepth 100000 in
theorem mc_165 : lw_tbl[436]? = some (Cond.code mi165.1 mi165.2.1 mi165.2.2.1 mi165.2.2.2.1) := rfl
set_option maxRecDepth 100000 in
theorem mc_166 : lw_tbl[1030]? = some (Cond.code mi166.1 mi166.2.1 mi166.2.2.1 mi166.2.2.2.1) := rfl
set_option maxRecDepth 100000 in
theorem mc_167 : lw_tbl[1076]? = some (Cond.code mi167.1 mi167.2.1 mi167.2.2.1 mi167.2.2.2.1) := rfl
set_option maxRecDepth 100000 in
theorem mc_168 : lw_tbl[1034]? = some (Cond.code mi168.1 mi168.2.1 mi168.2.2.1 mi168.2.2.2.1) := rfl
set_option maxRecDepth 100000 in
theorem mc_169 : lw_tbl[1049]? = some (Cond.code mi169.1 mi169.2.1 mi169.2.2.1 mi169.2.2.2.1) := rfl
set_option maxRecDepth 100000 in
theorem mc_170 : lw_tbl[1057]? = some (Cond.code mi170.1 mi170.2.1 mi170.2.2.1 mi170.2.2.2.1) := rfl
set_option maxRecDepth 100000 in
theorem mc_171 : lw_tbl[1062]? = some (Cond.code mi171.1 mi171.2.1 mi171.2.2.1 mi171.2.2.2.1) := rfl
set_option maxRecDepth 100000 in
theorem mc_172 : lw_tbl[1069]? = some (Cond.code mi172.1 mi172.2.1 mi172.2.2.1 mi172.2.2.2.1) := rfl
set_option maxRecDepth 100000 in
theorem mc_173 : lw_tbl[1053]? = some (Cond.code mi173.1 mi173.2.1 mi173.2.2.1 mi173.2.2.2.1) := rfl
set_option maxRecDepth 100000 in
theorem mc_174 : lw_tbl[1042]? = some (Cond.code mi174.1 mi174.2.1 mi174.2.2.1 mi174.2.2.2.1) := rfl
set_option maxRecDepth 100000 in
theorem mc_175 : lw_tbl[1038]? = some (Cond.code mi175.1 mi175.2.1 mi175.2.2.1 mi175.2.2.2.1) := rfl
set_option maxRecDepth 100000 in
theorem mc_176 : lw_tbl[353]? = some (Cond.code mi176.1 mi176.2.1 mi176.2.2.1 mi176.2.2.2.1) := rfl
set_option maxRecDepth 100000 in
theorem mc_177 : lw_tbl[767]? = some (Cond.code mi177.1 mi177.2.1 mi177.2.2.1 mi177.2.2.2.1) := rfl
set_option maxRecDepth 100000 in
theorem mc_178 : lw_tbl[775]? = some (Cond.code mi178.1 mi178.2.1 mi178.2.2.1 mi178.2.2.2.1) := rfl
set_option maxRecDepth 100000 in
theorem mc_179 : lw_tbl[931]? = some (Cond.code mi179.1 mi179.2.1 mi179.2.2.1 mi179.2.2.2.1) := rfl
set_option maxRecDepth 100000 in
theorem mc_180 : lw_tbl[936]? = some (Cond.code mi180.1 mi180.2.1 mi180.2.2.1 mi180.2.2.2.1) := rfl
set_option maxRecDepth 100000 in
theorem mc_181 : lw_tbl[942]? = some (Cond.code mi181.1 mi181.2.1 mi181.2.2.1 mi181.2.2.2.1) := rfl
set_option maxRecDepth 100000 in
theorem mc_182 : lw_tbl[946]? = some (Cond.code mi182.1 mi182.2.1 mi182.2.2.1 mi182.2.2.2.1) := rfl
set_option maxRecDepth 100000 in
theorem mc_183 : lw_tbl[147]? = some (Cond.code mi183.1 mi183.2.1 mi183.2.2.1 mi183.2.2.2.1) := rfl
set_option maxRecDepth 100000 in
theorem mc_184 : lw_tbl[527]? = some (Cond.code mi184.1 mi184.2.1 mi184.2.2.1 mi184.2.2.2.1) := rfl
set_option maxRecDepth 100000 in
theorem mc_185 : lw_tbl[558]? = some (Cond.code mi185.1 mi185.2.1 mi185.2.2.1 mi185.2.2.2.1) := rfl
set_option maxRecDepth 100000 in
theorem mc_186 : lw_tbl[596]? = some (Cond.code mi186.1 mi186.2.1 mi186.2.2.1 mi186.2.2.2.1) := rfl
set_option maxRecDepth 100000 in
theorem mc_187 : lw_tbl[600]? = some (Cond.code mi187.1 mi187.2.1 mi187.2.2.1 mi187.2.2.2.1) := rfl
set_option maxRecDepth 100000 in
theorem mc_188 : lw_tbl[629]? = some (Cond.code mi188.1 mi188.2.1 mi188.2.2.1 mi188.2.2.2.1) := rfl
set_option maxRecDepth 100000 in
theorem mc_189 : lw_tbl[605]? = some (Cond.code mi189.1 mi189.2.1 mi189.2.2.1 mi189.2.2.2.1) := rfl
set_option maxRecDepth 100000 in
theorem mc_190 : lw_tbl[612]? = some (Cond.code mi190.1 mi190.2.1 mi190.2.2.1 mi190.2.2.2.1) := rfl
set_option maxRecDepth 100000 in
theorem mc_191 : lw_tbl[621]? = some (Cond.code mi191.1 mi191.2.1 mi191.2.2.1 mi191.2.2.2.1) := rfl
set_option maxRecDepth 100000 in
theorem mc_192 : lw_tbl[608]? = some (Cond.code mi192.1 mi192.2.1 mi192.2.2.1 mi192.2.2.2.1) := rfl
set_option maxRecDepth 100000 in
theorem mc_193 : lw_tbl[375]? = some (Cond.code mi193.1 mi193.2.1 mi193.2.2.1 mi193.2.2.2.1) := rfl
set_option maxRecDepth 100000 in
theorem mc_194 : lw_tbl[1019]? = some (Cond.code mi194.1 mi194.2.1 mi194.2.2.1 mi194.2.2.2.1) := rfl
set_option maxRecDepth 100000 in
theorem mc_195 : lw_tbl[959]? = some (Cond.code mi195.1 mi195.2.1 mi195.2.2.1 mi195.2.2.2.1) := rfl
set_option maxRecDepth 100000 in
theorem mc_196 : lw_tbl[978]? = some (Cond.code mi196.1 mi196.2.1 mi196.2.2.1 mi196.2.2.2.1) := rfl
set_option maxRecDepth 100000 in
theorem mc_197 : lw_tbl[972]? = some (Cond.code mi197.1 mi197.2.1 mi197.2.2.1 mi197.2.2.2.1) := rfl
set_option maxRecDepth 100000 in
theorem mc_198 : lw_tbl[964]? = some (Cond.code mi198.1 mi198.2.1 mi198.2.2.1 mi198.2.2.2.1) := rfl
set_option maxRecDepth 100000 in
theorem mc_199 : lw_tbl[457]? = some (Cond.code mi199.1 mi199.2.1 mi199.2.2.1 mi199.2.2.2.1) := rfl
set_option maxRecDepth 100000 in
theorem mc_200 : lw_tbl[539]? = some (Cond.code mi200.1 mi200.2.1 mi200.2.2.1 mi200.2.2.2.1) := rfl
set_option maxRecDepth 100000 in
theorem mc_201 : lw_tbl[554]? = some (Cond.code mi201.1 mi201.2.1 mi201.2.2.1 mi201.2.2.2.1) := rfl
set_option maxRecDepth 100000 in
theorem mc_202 : lw_tbl[562]? = some (Cond.code mi202.1 mi202.2.1 mi202.2.2.1 mi202.2.2.2.1) := rfl
set_option maxRecDepth 100000 in
theorem mc_203 : lw_tbl[566]? = some (Cond.code mi203.1 mi203.2.1 mi203.2.2.1 mi203.2.2.2.1) := rfl
set_option maxRecDepth 100000 in
theorem mc_204 : lw_tbl[592]? = some (Cond.code mi204.1 mi204.2.1 mi204.2.2.1 mi204.2.2.2.1) := rfl
set_option maxRecDepth 100000 in
theorem mc_205 : lw_tbl[633]? = some (Cond.code mi205.1 mi205.2.1 mi205.2.2.1 mi205.2.2.2.1) := rfl
set_option maxRecDepth 100000 in
theorem mc_206 : lw_tbl[617]? = some (Cond.code mi206.1 mi206.2.1 mi206.2.2.1 mi206.2.2.2.1) := rfl
set_option maxRecDepth 100000 in
theorem mc_207 : lw_tbl[588]? = some (Cond.code mi207.1 mi207.2.1 mi207.2.2.1 mi207.2.2.2.1) := rfl
set_option maxRecDepth 100000 in
theorem mok_0 : ((List.range' 0 26).all fun y => xMokB lw_tbl (xmi y) (xmps.getD y (0, 0, 0, 0))) = true := by decide +kernel
set_option maxRecDepth 100000 in
theorem mok_26 : ((List.range' 26 26).all fun y => xMokB lw_tbl (xmi y) (xmps.getD y (0, 0, 0, 0))) = true := by decide +kernel
set_option maxRecDepth 100000 in
theorem mok_52 : ((List.range' 52 26).all fun y => xMokB lw_tbl (xmi y) (xmps.getD y (0, 0, 0, 0))) = true := by decide +kernel
set_option maxRecDepth 100000 in
theorem mok_78 : ((List.range' 78 26).all fun y => xMokB lw_tbl (xmi y) (xmps.getD y (0, 0, 0, 0))) = true := by decide +kernel
set_option maxRecDepth 100000 in
theorem mok_104 : ((List.range' 104 26).all fun y => xMokB lw_tbl (xmi y) (xmps.getD y (0, 0, 0, 0))) = true := by decide +kernel
set_option maxRecDepth 100000 in
theorem mok_130 : ((List.range' 130 26).all fun y => xMokB lw_tbl (xmi y) (xmps.getD y (0, 0, 0, 0))) = true := by decide +kernel
set_option maxRecDepth 100000 in
theorem mok_156 : ((List.range' 156 26).all fun y => xMokB lw_tbl (xmi y) (xmps.getD y (0, 0, 0, 0))) = true := by decide +kernel
set_option maxRecDepth 100000 in
theorem mok_182 : ((List.range' 182 26).all fun y => xMokB lw_tbl (xmi y) (xmps.getD y (0, 0, 0, 0))) = true := by decide +kernel
set_option maxRecDepth 100000 in
theorem mcs_0 : ∀ y, 0 ≤ y → y < 26 → lw_tbl[(xmps.getD y (0, 0, 0, 0)).1]? = some (Cond.code (xmi y).1 (xmi y).2.1 (xmi y).2.2.1 (xmi y).2.2.2.1) :=
  (xrun (xrun (xrun (xrun (xrun (xrun (xrun (xrun (xrun (xrun (xrun (xrun (xrun (xrun (xrun (xrun (xrun (xrun (xrun (xrun (xrun (xrun (xrun (xrun (xrun (xrun (xrun0 (P := fun y => lw_tbl[(xmps.getD y (0, 0, 0, 0)).1]? = some (Cond.code (xmi y).1 (xmi y).2.1 (xmi y).2.2.1 (xmi y).2.2.2.1)) (a := 0)) mc_0) mc_1) mc_2) mc_3) mc_4) mc_5) mc_6) mc_7) mc_8) mc_9) mc_10) mc_11) mc_12) mc_13) mc_14) mc_15) mc_16) mc_17) mc_18) mc_19) mc_20) mc_21) mc_22) mc_23) mc_24) mc_25)
set_option maxRecDepth 100000 in
theorem mcs_26 : ∀ y, 26 ≤ y → y < 52 → lw_tbl[(xmps.getD y (0, 0, 0, 0)).1]? = some (Cond.code (xmi y).1 (xmi y).2.1 (xmi y).2.2.1 (xmi y).2.2.2.1) :=
  (xrun (xrun (xrun (xrun (xrun (xrun (xrun (xrun (xrun (xrun (xrun (xrun (xrun (xrun (xrun (xrun (xrun (xrun (xrun (xrun (xrun (xrun (xrun (xrun (xrun (xrun (xrun0 (P := fun y => lw_tbl[(xmps.getD y (0, 0, 0, 0)).1]? = some (Cond.code (xmi y).1 (xmi y).2.1 (xmi y).2.2.1 (xmi y).2.2.2.1)) (a := 26)) mc_26) mc_27) mc_28) mc_29) mc_30) mc_31) mc_32) mc_33) mc_34) mc_35) mc_36) mc_37) mc_38) mc_39) mc_40) mc_41) mc_42) mc_43) mc_44) mc_45) mc_46) mc_47) mc_48) mc_49) mc_50) mc_51)
set_option maxRecDepth 100000 in
theorem mcs_52 : ∀ y, 52 ≤ y → y < 78 → lw_tbl[(xmps.getD y (0, 0, 0, 0)).1]? = some (Cond.code (xmi y).1 (xmi y).2.1 (xmi y).2.2.1 (xmi y).2.2.2.1) :=
  (xrun (xrun (xrun (xrun (xrun (xrun (xrun (xrun (xrun (xrun (xrun (xrun (xrun (xrun (xrun (xrun (xrun (xrun (xrun (xrun (xrun (xrun (xrun (xrun (xrun (xrun (xrun0 (P := fun y => lw_tbl[(xmps.getD y (0, 0, 0, 0)).1]? = some (Cond.code (xmi y).1 (xmi y).2.1 (xmi y).2.2.1 (xmi y).2.2.2.1)) (a := 52)) mc_52) mc_53) mc_54) mc_55) mc_56) mc_57) mc_58) mc_59) mc_60) mc_61) mc_62) mc_63) mc_64) mc_65) mc_66) mc_67) mc_68) mc_69) mc_70) mc_71) mc_72) mc_73) mc_74) mc_75) mc_76) mc_77)
set_option maxRecDepth 100000 in
theorem mcs_78 : ∀ y, 78 ≤ y → y < 104 → lw_tbl[(xmps.getD y (0, 0, 0, 0)).1]? = some (Cond.code (xmi y).1 (xmi y).2.1 (xmi y).2.2.1 (xmi y).2.2.2.1) :=
  (xrun (xrun (xrun (xrun (xrun (xrun (xrun (xrun (xrun (xrun (xrun (xrun (xrun (xrun (xrun (xrun (xrun (xrun (xrun (xrun (xrun (xrun (xrun (xrun (xrun (xrun (xrun0 (P := fun y => lw_tbl[(xmps.getD y (0, 0, 0, 0)).1]? = some (Cond.code (xmi y).1 (xmi y).2.1 (xmi y).2.2.1 (xmi y).2.2.2.1)) (a := 78)) mc_78) mc_79) mc_80) mc_81) mc_82) mc_83) mc_84) mc_85) mc_86) mc_87) mc_88) mc_89) mc_90) mc_91) mc_92) mc_93) mc_94) mc_95) mc_96) mc_97) mc_98) mc_99) mc_100) mc_101) mc_102) mc_103)
set_option maxRecDepth 100000 in
theorem mcs_104 : ∀ y, 104 ≤ y → y < 130 → lw_tbl[(xmps.getD y (0, 0, 0, 0)).1]? = some (Cond.code (xmi y).1 (xmi y).2.1 (xmi y).2.2.1 (xmi y).2.2.2.1) :=
  (xrun (xrun (xrun (xrun (xrun (xrun (xrun (xrun (xrun (xrun (xrun (xrun (xrun (xrun (xrun (xrun (xrun (xrun (xrun (xrun (xrun (xrun (xrun (xrun (xrun (xrun (xrun0 (P := fun y => lw_tbl[(xmps.getD y (0, 0, 0, 0)).1]? = some (Cond.code (xmi y).1 (xmi y).2.1 (xmi y).2.2.1 (xmi y).2.2.2.1)) (a := 104)) mc_104) mc_105) mc_106) mc_107) mc_108) mc_109) mc_110) mc_111) mc_112) mc_113) mc_114) mc_115) mc_116) mc_117) mc_118) mc_119) mc_120) mc_121) mc_122) mc_123) mc_124) mc_125) mc_126) mc_127) mc_128) mc_129)
set_option maxRecDepth 100000 in
theorem mcs_130 : ∀ y, 130 ≤ y → y < 156 → lw_tbl[(xmps.getD y (0, 0, 0, 0)).1]? = some (Cond.code (xmi y).1 (xmi y).2.1 (xmi y).2.2.1 (xmi y).2.2.2.1) :=
  (xrun (xrun (xrun (xrun (xrun (xrun (xrun (xrun (xrun (xrun (xrun (xrun (xrun (xrun (xrun (xrun (xrun (xrun (xrun (xrun (xrun (xrun (xrun (xrun (xrun (xrun (xrun0 (P := fun y => lw_tbl[(xmps.getD y (0, 0, 0, 0)).1]? = some (Cond.code (xmi y).1 (xmi y).2.1 (xmi y).2.2.1 (xmi y).2.2.2.1)) (a := 130)) mc_130) mc_131) mc_132) mc_133) mc_134) mc_135) mc_136) mc_137) mc_138) mc_139) mc_140) mc_141) mc_142) mc_143) mc_144) mc_145) mc_146) mc_147) mc_148) mc_149) mc_150) mc_151) mc_152) mc_153) mc_154) mc_155)
set_option maxRecDepth 100000 in
theorem mcs_156 : ∀ y, 156 ≤ y → y < 182 → lw_tbl[(xmps.getD y (0, 0, 0, 0)).1]? = some (Cond.code (xmi y).1 (xmi y).2.1 (xmi y).2.2.1 (xmi y).2.2.2.1) :=
  (xrun (xrun (xrun (xrun (xrun (xrun (xrun (xrun (xrun (xrun (xrun (xrun (xrun (xrun (xrun (xrun (xrun (xrun (xrun (xrun (xrun (xrun (xrun (xrun (xrun (xrun (xrun0 (P := fun y => lw_tbl[(xmps.getD y (0, 0, 0, 0)).1]? = some (Cond.code (xmi y).1 (xmi y).2.1 (xmi y).2.2.1 (xmi y).2.2.2.1)) (a := 156)) mc_156) mc_157) mc_158) mc_159) mc_160) mc_161) mc_162) mc_163) mc_164) mc_165) mc_166) mc_167) mc_168) mc_169) mc_170) mc_171) mc_172) mc_173) mc_174) mc_175) mc_176) mc_177) mc_178) mc_179) mc_180) mc_181)
set_option maxRecDepth 100000 in
theorem mcs_182 : ∀ y, 182 ≤ y → y < 208 → lw_tbl[(xmps.getD y (0, 0, 0, 0)).1]? = some (Cond.code (xmi y).1 (xmi y).2.1 (xmi y).2.2.1 (xmi y).2.2.2.1) :=
  (xrun (xrun (xrun (xrun (xrun (xrun (xrun (xrun (xrun (xrun (xrun (xrun (xrun (xrun (xrun (xrun (xrun (xrun (xrun (xrun (xrun (xrun (xrun (xrun (xrun (xrun (xrun0 (P := fun y => lw_tbl[(xmps.getD y (0, 0, 0, 0)).1]? = some (Cond.code (xmi y).1 (xmi y).2.1 (xmi y).2.2.1 (xmi y).2.2.2.1)) (a := 182)) mc_182) mc_183) mc_184) mc_185) mc_186) mc_187) mc_188) mc_189) mc_190) mc_191) mc_192) mc_193) mc_194) mc_195) mc_196) mc_197) mc_198) mc_199) mc_200) mc_201) mc_202) mc_203) mc_204) mc_205) mc_206) mc_207)
theorem xMok_all {y : Nat} (h : y < 208) : xMok lw_tbl (xmi y) := by
  have key : ∀ a, ((List.range' a 26).all fun y => xMokB lw_tbl (xmi y) (xmps.getD y (0, 0, 0, 0))) = true → lw_tbl[(xmps.getD y (0, 0, 0, 0)).1]? = some (Cond.code (xmi y).1 (xmi y).2.1 (xmi y).2.2.1 (xmi y).2.2.2.1) → a ≤ y → y < a + 26 → xMok lw_tbl (xmi y) := fun a hm h0 h1 h2 => xMokB_of h0 (List.all_eq_true.mp hm y (List.mem_range'_1.mpr ⟨h1, h2⟩))
  have : y < 26 ∨ (26 ≤ y ∧ y < 52) ∨ (52 ≤ y ∧ y < 78) ∨ (78 ≤ y ∧ y < 104) ∨ (104 ≤ y ∧ y < 130) ∨ (130 ≤ y ∧ y < 156) ∨ (156 ≤ y ∧ y < 182) ∨ (182 ≤ y ∧ y < 208) := by omega
  rcases this with g | g | g | g | g | g | g | g
  · exact key 0 mok_0 (mcs_0 y (Nat.zero_le _) g) (Nat.zero_le _) g
  · exact key 26 mok_26 (mcs_26 y g.1 g.2) g.1 g.2
  · exact key 52 mok_52 (mcs_52 y g.1 g.2) g.1 g.2
  · exact key 78 mok_78 (mcs_78 y g.1 g.2) g.1 g.2
  · exact key 104 mok_104 (mcs_104 y g.1 g.2) g.1 g.2
  · exact key 130 mok_130 (mcs_130 y g.1 g.2) g.1 g.2
  · exact key 156 mok_156 (mcs_156 y g.1 g.2) g.1 g.2
  · exact key 182 mok_182 (mcs_182 y g.1 g.2) g.1 g.2
