/-! The tables' words that the interpreter's tables stand on. -/
def okTag (w : Jvm.Cond) : Bool := goodWord w || (match w with
  | .fieldLinkNest .. => true
  | .methodLinkNest .. => true
  | _ => false)
def Inv (U : State) : Prop := ∀ w ∈ lw_tbl, okTag w = true → va_Nw w U
theorem Inv.warm {s U : State} (hW : s.WarmedH U.vm) (h : Inv s) : Inv U := by
  intro w hw ht
  have h1 := h w hw ht
  unfold okTag at ht
  rw [Bool.or_eq_true] at ht
  rcases ht with hg | hn
  · exact word_at hW (good_of_word hg) h1
  · cases w <;> first | (cases hn; done) | exact va_Nw.warmF hW h1 | exact va_Nw.warmM hW h1
theorem Inv.same {u U : State} (hv : u.vm = U.vm) (h : Inv u) : Inv U := Inv.warm (by rw [← hv]; exact State.WarmedH.refl u) h
theorem Inv.use {s : State} (h : Inv s) {w : Jvm.Cond} (hw : w ∈ lw_tbl) (hg : goodWord w = true) (args : Array Value) : w.before args s = true := word_at (State.WarmedH.refl s) (good_of_word hg) (h w hw (by simp [okTag, hg]))
theorem Inv.nw {s : State} (h : Inv s) {w : Jvm.Cond} (hw : w ∈ lw_tbl) (ht : okTag w = true) : va_Nw w s := h w hw ht
theorem in_tbl {w : Jvm.Cond} (h : w ∈ tables_1) : w ∈ lw_tbl := List.mem_append_right _ h
/-- good words of the tables -/
def G : List Jvm.Cond := lw_tbl.filter goodWord
theorem G_hts {s : State} (h : Inv s) (args : Array Value) : ∀ w ∈ G, w.before args s = true := fun w hw => Inv.use h (List.mem_filter.mp hw).1 (List.mem_filter.mp hw).2 args
theorem G_good : GoodIn G G := fun w hw => ⟨hw, good_of_word (List.mem_filter.mp hw).2⟩
theorem G_in {w : Jvm.Cond} (hw : w ∈ lw_tbl) (hg : goodWord w = true) : w ∈ G := List.mem_filter.mpr ⟨hw, hg⟩

def xFp : List Nat := [120, 123, 116, 271, 272, 273, 274, 275, 276, 277, 278, 270, 279, 280, 281, 282, 283, 285, 222, 225, 230, 236, 232, 210, 228, 61, 62, 63, 38, 41, 146, 147, 148, 150, 152, 153, 142, 117, 141, 139, 144, 182, 184, 187, 185, 118, 209, 212, 213, 73, 74, 64, 89, 90, 91, 93, 65, 94, 95, 37, 39, 223, 224, 226, 227, 229, 231, 233, 234, 235, 237, 115, 221, 121, 124, 211, 318, 319, 321, 322, 323, 324, 325, 326, 327, 329, 330, 331, 332, 333, 40, 119, 143, 75, 320, 125, 122, 140, 183, 186, 149, 238, 286, 284, 145, 151, 92, 328, 1116, 1117, 1118, 1119, 1120, 1130, 1131, 1133, 1134, 1136, 1137, 1138, 1139, 1140, 1141, 1142, 1143, 1144, 1154, 1156, 1157, 1158, 1160, 1161, 1115, 1121, 1125, 1124, 1123, 1126, 1127, 1132, 1128, 1129, 1135, 1145, 1122, 1146, 1159, 1147, 1148, 1149, 1150, 1152, 1151, 1153, 1155, 1165, 1162, 1163, 1164, 1166, 1167]
def xMp : List Nat := [114, 523, 524, 1018, 267, 269, 777, 778, 799, 782, 783, 784, 789, 797, 798, 793, 803, 804, 808, 816, 821, 822, 820, 812, 813, 814, 815, 60, 404, 408, 138, 597, 598, 599, 600, 608, 612, 615, 634, 637, 655, 604, 693, 675, 685, 1005, 926, 927, 928, 929, 1023, 181, 581, 573, 589, 592, 580, 582, 586, 208, 725, 732, 733, 737, 54, 57, 396, 400, 412, 424, 425, 416, 420, 86, 88, 433, 443, 444, 483, 510, 448, 449, 450, 495, 498, 502, 506, 474, 478, 470, 454, 484, 458, 462, 479, 482, 466, 489, 492, 36, 381, 533, 202, 205, 710, 711, 712, 726, 788, 717, 741, 745, 721, 727, 728, 749, 768, 767, 753, 754, 763, 759, 772, 28, 33, 51, 83, 111, 135, 178, 199, 264, 371, 377, 392, 429, 515, 525, 519, 529, 538, 542, 436, 442, 550, 558, 569, 593, 622, 630, 647, 651, 439, 663, 668, 671, 374, 681, 689, 698, 702, 823, 827, 837, 852, 762, 773, 864, 879, 883, 706, 713, 907, 910, 914, 922, 942, 945, 949, 959, 967, 975, 979, 984, 988, 1001, 1014, 1019, 744, 830, 611, 678, 688, 1112, 1284, 1287, 1318, 1314, 1424, 1425, 1336, 1411, 1399, 1310, 1415, 1407, 1419, 1403, 1426, 1429, 1387, 1395, 1391, 1306, 1332, 1299, 1322, 1302, 1328, 1437, 1442, 1446, 1453, 1456, 1471, 1494, 1510, 1506, 1553, 1549, 1545, 1502, 1483, 1490, 1498, 1526, 1560, 1538, 1541, 1556, 1585, 1589, 1581, 1577, 1597, 1601, 1568, 1573, 1593, 1629, 1646, 1649, 1661, 1666, 1669, 1681, 1697, 1709, 1734, 1750, 1758, 25, 1109, 367, 1280, 384, 1291, 388, 1295, 511, 1433, 1032, 1438, 1276, 534, 1449, 546, 1459, 561, 1475, 565, 1479, 618, 1514, 626, 1518, 643, 1522, 659, 1530, 664, 1534, 694, 1564, 833, 1605, 840, 1609, 844, 1613, 848, 1617, 856, 1621, 860, 1625, 869, 1635, 903, 1642, 918, 1653, 934, 1463, 938, 1657, 951, 1673, 554, 1467, 955, 1677, 971, 1685, 980, 1689, 875, 1693, 887, 1701, 891, 1705, 895, 1713, 899, 1717, 963, 1721, 992, 1725, 997, 1730, 930, 1738, 1006, 1742, 1010, 1746, 1024, 1754, 1028, 1762]
def xCp : List Nat := [268, 55, 87, 203, 31, 49, 81, 109, 133, 176, 197, 262, 23, 1107]
def xKp : List Nat := [577, 578, 579, 487, 488, 758, 701, 873, 868, 874, 950, 996, 1422, 1423, 1326, 1327, 1474, 1487, 1488, 1489, 1572, 1604, 1633, 1634, 1639, 1640, 1641, 1665, 1729, 1766, 640, 641, 642]
/-! a word of the tables by its place -/
def atTbl (i : Nat) : Option Jvm.Cond := if i < 100000 then tables_1[i]? else (lw_privs[i - 100000]?).map (fun q => .selects q.1.cls q.1 q.1)
theorem atTbl_mem {i : Nat} {w : Jvm.Cond} (h : atTbl i = some w) : w ∈ lw_tbl := by
  unfold atTbl at h
  split at h
  · exact in_tbl (List.mem_of_getElem? h)
  · cases hq : lw_privs[i - 100000]? with
    | none => rw [hq] at h; cases h
    | some q =>
      rw [hq] at h
      cases h
      exact List.mem_append_left _ (List.mem_map.mpr ⟨q, List.mem_of_getElem? hq, rfl⟩)
def atAll {α : Type} (f : α → Jvm.Cond) : List α → List Nat → Bool
  | [], [] => true
  | a :: as, p :: ps => decide (atTbl p = some (f a)) && atAll f as ps
  | _, _ => false
theorem atAll_mem {α : Type} {f : α → Jvm.Cond} : ∀ {as : List α} {ps : List Nat}, atAll f as ps = true → ∀ a ∈ as, f a ∈ lw_tbl
  | [], _, _, a, ha => by cases ha
  | b :: as, [], h, _, _ => by simp [atAll] at h
  | b :: as, p :: ps, h, a, ha => by
    simp only [atAll, Bool.and_eq_true, decide_eq_true_eq] at h
    rcases List.mem_cons.mp ha with rfl | ha
    · exact atTbl_mem h.1
    · exact atAll_mem h.2 a ha
theorem xlu_mem {β : Type} {t : List (Nat × Nat × β)} {o i : Nat} {v : β} (h : xlu t o i = some v) : (o, i, v) ∈ t := by
  unfold xlu at h
  split at h
  · rename_i e he
    have h1 := List.mem_of_find?_eq_some he
    have h2 := List.find?_some he
    simp only [Bool.and_eq_true, beq_iff_eq] at h2
    obtain ⟨e1, e2, e3⟩ := e
    cases h
    obtain ⟨rfl, rfl⟩ := h2
    exact h1
  · cases h
/-! fields -/
def wF (e : Nat × Nat × Nat × Nat × Nat) : Jvm.Cond := if e.2.2.2.2 = 0 then .fieldLink (rn e.1) e.2.1 (rn e.2.2.1) (Tx e.2.2.1 e.2.2.2.1).2.1 (Tx e.2.2.1 e.2.2.2.1).2.2.1 else .fieldLinkNest (rn e.1) e.2.1 (rn e.2.2.1) (Tx e.2.2.1 e.2.2.2.1).2.1 (Tx e.2.2.1 e.2.2.2.1).2.2.1 "DiceLaw"
set_option maxRecDepth 100000 in
theorem wF_ok : atAll wF xFt xFp = true := by decide +kernel
theorem wF_in {o idx ci k nest : Nat} (h : xlu xFt o idx = some (ci, k, nest)) : wF (o, idx, ci, k, nest) ∈ lw_tbl := atAll_mem wF_ok _ (xlu_mem h)
/-! methods -/
def yObj : MethodName := ⟨"java/lang/Object", "<init>", "()V"⟩
def wM (e : Nat × Nat × Nat × Nat) : Jvm.Cond := if e.2.2.2 = 0 then .methodLink (rn e.1) e.2.1 (if e.2.2.1 = 999 then yObj else eY (mOf e.2.2.1)) else .methodLinkNest (rn e.1) e.2.1 (eY (mOf e.2.2.1)) "DiceLaw"
set_option maxRecDepth 100000 in
theorem wM_ok : atAll wM xMt xMp = true := by decide +kernel
theorem wM_in {o idx k nest : Nat} (h : xlu xMt o idx = some (k, nest)) : wM (o, idx, k, nest) ∈ lw_tbl := atAll_mem wM_ok _ (xlu_mem h)
/-! classes -/
def wC (e : Nat × Nat × Nat) : Jvm.Cond := .classLink (rn e.1) e.2.1 (rn e.2.2)
set_option maxRecDepth 100000 in
theorem wC_ok : atAll wC xCt xCp = true := by decide +kernel
theorem wC_in {o idx ci : Nat} (h : xlu xCt o idx = some ci) : Jvm.Cond.classLink (rn o) idx (rn ci) ∈ lw_tbl := atAll_mem wC_ok _ (xlu_mem h)
/-! constants -/
def wK (e : Nat × Nat × Int × Nat) : Jvm.Cond := if e.2.2.2 = 0 then .constant (rn e.1) e.2.1 (Int32.ofInt e.2.2.1) else .constantLong (rn e.1) e.2.1 (Int64.ofInt e.2.2.1)
set_option maxRecDepth 100000 in
theorem wK_ok : atAll wK xKt xKp = true := by decide +kernel
theorem wK_in {o idx : Nat} {v : Int} {t : Nat} (h : xlu xKt o idx = some (v, t)) : wK (o, idx, v, t) ∈ lw_tbl := atAll_mem wK_ok _ (xlu_mem h)
set_option maxRecDepth 100000 in
theorem wN_ok : ∀ ci, ci < 12 → Jvm.Cond.instantiable (rn ci) (Nx ci) ∈ tables_1 ∧ Jvm.Cond.initialized (rn ci) ∈ tables_1 := by decide +kernel
/-! methods' own words -/
def wE (e : ME) : List Jvm.Cond := if eSt e = 3 then [] else (.code (eY e) (eB e) (eL e) (eRet e)) :: .initialized (eY e).cls :: (if eSt e = 0 then [.static (eY e)] else if eSt e = 1 then [.instanceMethod (eY e), .selects (eY e).cls (eY e) (eY e)] else [.instanceMethod (eY e)])
def wEok (e : ME) (ps : List Nat) : Bool := atAll id (wE e) ps && (wE e).all goodWord && decide (eSt e = 3 ∨ ((eY e).cls = rn (eOwn e) ∧ (eSt e = 2 → (eY e).name = "<init>") ∧ (eSt e ≠ 2 → (eY e).name ≠ "<init>") ∧ (parseMethodDescriptor (eY e).desc).map (fun d => d.parameters.length + (if eSt e = 0 then 0 else 1)) = some (eN e) ∧ eL e ≤ 30 ∧ eOwn e < 15 ∧ (Jvm.plainName (eY e).cls = true ∨ eOwn e = 14) ∧ (eY e).cls ≠ "java/lang/invoke/MethodHandle" ∧ (eY e).cls ≠ "java/lang/invoke/VarHandle"))

def xEp : List (List Nat) := [  [27, 1, 26], [370, 1, 368, 369], [387, 1, 385, 386], [391, 1, 389, 390], [514, 1, 512, 513], [518, 1, 517, 100022], [528, 1, 527, 100024], [], [537, 1, 535, 536], [545, 1, 544, 100027], [549, 1, 547, 548], [557, 1, 555, 556], [564, 1, 562, 563], [568, 1, 566, 567], [621, 1, 619, 620], [629, 1, 627, 628], [646, 1, 644, 645], [662, 1, 660, 661], [667, 1, 665, 666], [697, 1, 695, 696],
  [836, 1, 834, 835], [843, 1, 841, 842], [847, 1, 845, 846], [851, 1, 849, 850], [859, 1, 857, 858], [863, 1, 861, 862], [872, 1, 870, 871], [867, 1, 866, 100067], [878, 1, 876, 877], [890, 1, 888, 889], [894, 1, 892, 893], [898, 1, 896, 897], [902, 1, 900, 901], [855, 1, 854, 100066], [705, 1, 704, 100043], [906, 1, 904, 905], [921, 1, 919, 920], [933, 1, 931, 932], [937, 1, 935, 936], [941, 1, 939, 940],
  [954, 1, 952, 953], [948, 1, 947, 100073], [958, 1, 956, 957], [966, 1, 964, 965], [974, 1, 972, 973], [978, 1, 977, 100076], [983, 1, 981, 982], [991, 1, 990, 100078], [987, 1, 986, 100077], [995, 1, 993, 994], [1000, 1, 998, 999], [1009, 1, 1007, 1008], [1013, 1, 1011, 1012], [1027, 1, 1025, 1026], [1031, 1, 1029, 1030], [670, 1, 669], [839, 1, 838], [909, 1, 908], [700, 1, 699], [944, 1, 943],
  [560, 1, 559], [441, 1, 440], [636, 1, 635], [383, 1, 382], [617, 1, 616], [761, 1, 760], [743, 1, 742], [438, 1, 437], [435, 1, 434], [376, 1, 375], [373, 1, 372], [829, 1, 828], [832, 1, 831], [588, 1, 587], [610, 1, 609], [614, 1, 613], [591, 1, 590], [680, 1, 679], [677, 1, 676], [687, 1, 686],
  [1111, 12, 1110], [1279, 12, 1277, 1278], [1301, 12, 1300], [], [1286, 12, 1285], [1290, 12, 1289, 100083], [1283, 12, 1281, 1282], [1294, 12, 1292, 1293], [1317, 12, 1316, 100087], [1321, 12, 1320, 100088], [1414, 12, 1413, 100098], [1313, 12, 1312, 100086], [1418, 12, 1417, 100099], [1421, 12, 1420], [1410, 12, 1409, 100097], [1406, 12, 1405, 100096], [1402, 12, 1401, 100095], [1428, 12, 1427], [1398, 12, 1397, 100094], [1432, 12, 1431, 100100],
  [1394, 12, 1393, 100093], [1390, 12, 1389, 100092], [1335, 12, 1334, 100091], [1309, 12, 1308, 100085], [1331, 12, 1330, 100090], [1325, 12, 1324, 100089], [1305, 12, 1304, 100084], [1298, 12, 1296, 1297], [1436, 12, 1434, 1435], [1445, 12, 1444, 100101], [1448, 12, 1447], [1540, 12, 1539], [1473, 12, 1472], [1441, 12, 1439, 1440], [1455, 12, 1454], [1458, 12, 1457], [1452, 12, 1450, 1451], [1462, 12, 1460, 1461], [1466, 12, 1464, 1465], [1470, 12, 1468, 1469],
  [1497, 12, 1496, 100104], [1513, 12, 1512, 100108], [1509, 12, 1508, 100107], [1505, 12, 1504, 100106], [1555, 12, 1554], [1552, 12, 1551, 100112], [1548, 12, 1547, 100111], [1563, 12, 1562, 100114], [1493, 12, 1492, 100103], [1478, 12, 1476, 1477], [1486, 12, 1485, 100102], [1501, 12, 1500, 100105], [1482, 12, 1480, 1481], [1517, 12, 1515, 1516], [1521, 12, 1519, 1520], [1529, 12, 1528, 100109], [1525, 12, 1523, 1524], [1533, 12, 1531, 1532], [1544, 12, 1543, 100110], [1559, 12, 1558, 100113],
  [1537, 12, 1535, 1536], [1588, 12, 1587, 100119], [1592, 12, 1591, 100120], [1584, 12, 1583, 100118], [1580, 12, 1579, 100117], [1576, 12, 1575, 100116], [1600, 12, 1599, 100122], [1596, 12, 1595, 100121], [1603, 12, 1602], [1571, 12, 1570, 100115], [1567, 12, 1565, 1566], [1608, 12, 1606, 1607], [1612, 12, 1610, 1611], [1616, 12, 1614, 1615], [1620, 12, 1618, 1619], [1624, 12, 1622, 1623], [1632, 12, 1631, 100123], [1628, 12, 1626, 1627], [1638, 12, 1636, 1637], [1652, 12, 1651, 100124],
  [1648, 12, 1647], [1645, 12, 1643, 1644], [1656, 12, 1654, 1655], [1672, 12, 1671, 100126], [1664, 12, 1663, 100125], [1660, 12, 1658, 1659], [1676, 12, 1674, 1675], [1684, 12, 1683, 100127], [1680, 12, 1678, 1679], [1688, 12, 1686, 1687], [1692, 12, 1690, 1691], [1700, 12, 1699, 100128], [1696, 12, 1694, 1695], [1704, 12, 1702, 1703], [1712, 12, 1711, 100129], [1708, 12, 1706, 1707], [1716, 12, 1714, 1715], [1720, 12, 1718, 1719], [1724, 12, 1722, 1723], [1728, 12, 1726, 1727],
  [1737, 12, 1736, 100130], [1733, 12, 1731, 1732], [1741, 12, 1739, 1740], [1745, 12, 1743, 1744], [1753, 12, 1752, 100131], [1761, 12, 1760, 100132], [1749, 12, 1747, 1748], [1757, 12, 1755, 1756], [1765, 12, 1763, 1764], [113, 6, 112], [522, 6, 521, 100023], [541, 6, 540, 100026], [585, 6, 584, 100031], [553, 6, 552, 100028], [1017, 6, 1016, 100080], [266, 11, 265], [776, 11, 775, 100056], [781, 11, 780, 100057], [792, 11, 791, 100059], [796, 11, 795, 100060],
  [802, 11, 801, 100061], [819, 11, 818, 100064], [807, 11, 806, 100062], [811, 11, 810, 100063], [886, 11, 885, 100069], [882, 11, 881, 100068], [59, 4, 58], [399, 4, 398, 100002], [407, 4, 406, 100004], [469, 4, 468, 100016], [473, 4, 472, 100017], [419, 4, 418, 100007], [403, 4, 402, 100003], [428, 4, 427, 100009], [423, 4, 422, 100008], [411, 4, 410, 100005], [137, 7, 136], [650, 7, 649, 100037], [596, 7, 595, 100032], [633, 7, 632, 100036],
  [654, 7, 653, 100038], [658, 7, 657, 100039], [607, 7, 606, 100034], [603, 7, 602, 100033], [692, 7, 691, 100042], [674, 7, 673, 100040], [684, 7, 683, 100041], [1004, 7, 1003, 100079], [913, 7, 912, 100070], [917, 7, 916, 100071], [925, 7, 924, 100072], [1022, 7, 1021, 100081], [180, 8, 179], [625, 8, 624, 100035], [572, 8, 571, 100029], [576, 8, 575, 100030], [207, 10, 206], [724, 10, 723, 100047], [731, 10, 730, 100048], [736, 10, 735, 100049],
  [740, 10, 739, 100050], [53, 3, 52], [395, 3, 394, 100001], [415, 3, 414, 100006], [85, 5, 84], [432, 5, 431, 100010], [447, 5, 446, 100011], [501, 5, 500, 100019], [505, 5, 504, 100020], [509, 5, 508, 100021], [453, 5, 452, 100012], [457, 5, 456, 100013], [461, 5, 460, 100014], [465, 5, 464, 100015], [477, 5, 476, 100018], [481, 5, 480], [497, 5, 496], [486, 5, 485], [35, 2, 34], [380, 2, 379, 100000],
  [532, 2, 531, 100025], [201, 9, 200], [709, 9, 708, 100044], [962, 9, 961, 100074], [970, 9, 969, 100075], [826, 9, 825, 100065], [787, 9, 786, 100058], [716, 9, 715, 100045], [720, 9, 719, 100046], [748, 9, 747, 100051], [752, 9, 751, 100052], [766, 9, 765, 100054], [771, 9, 770, 100055], [757, 9, 756, 100053], [], [], [639, 22, 638], [494, 13, 493], [1668, 13, 1667], [491, 13, 490]]
set_option maxRecDepth 100000 in
theorem wE0 : (mt0.zip (xEp.drop 0)).all (fun q => decide (eY q.1 = yL_law) || wEok q.1 q.2) = true := by decide +kernel
set_option maxRecDepth 100000 in
theorem wE1 : (mt1.zip (xEp.drop 20)).all (fun q => decide (eY q.1 = yL_law) || wEok q.1 q.2) = true := by decide +kernel
set_option maxRecDepth 100000 in
theorem wE2 : (mt2.zip (xEp.drop 40)).all (fun q => decide (eY q.1 = yL_law) || wEok q.1 q.2) = true := by decide +kernel
set_option maxRecDepth 100000 in
theorem wE3 : (mt3.zip (xEp.drop 60)).all (fun q => decide (eY q.1 = yL_law) || wEok q.1 q.2) = true := by decide +kernel
set_option maxRecDepth 100000 in
theorem wE4 : (mt4.zip (xEp.drop 80)).all (fun q => decide (eY q.1 = yL_law) || wEok q.1 q.2) = true := by decide +kernel
set_option maxRecDepth 100000 in
theorem wE5 : (mt5.zip (xEp.drop 100)).all (fun q => decide (eY q.1 = yL_law) || wEok q.1 q.2) = true := by decide +kernel
set_option maxRecDepth 100000 in
theorem wE6 : (mt6.zip (xEp.drop 120)).all (fun q => decide (eY q.1 = yL_law) || wEok q.1 q.2) = true := by decide +kernel
set_option maxRecDepth 100000 in
theorem wE7 : (mt7.zip (xEp.drop 140)).all (fun q => decide (eY q.1 = yL_law) || wEok q.1 q.2) = true := by decide +kernel
set_option maxRecDepth 100000 in
theorem wE8 : (mt8.zip (xEp.drop 160)).all (fun q => decide (eY q.1 = yL_law) || wEok q.1 q.2) = true := by decide +kernel
set_option maxRecDepth 100000 in
theorem wE9 : (mt9.zip (xEp.drop 180)).all (fun q => decide (eY q.1 = yL_law) || wEok q.1 q.2) = true := by decide +kernel
set_option maxRecDepth 100000 in
theorem wE10 : (mt10.zip (xEp.drop 200)).all (fun q => decide (eY q.1 = yL_law) || wEok q.1 q.2) = true := by decide +kernel
set_option maxRecDepth 100000 in
theorem wE11 : (mt11.zip (xEp.drop 220)).all (fun q => decide (eY q.1 = yL_law) || wEok q.1 q.2) = true := by decide +kernel
set_option maxRecDepth 100000 in
theorem wE12 : (mt12.zip (xEp.drop 240)).all (fun q => decide (eY q.1 = yL_law) || wEok q.1 q.2) = true := by decide +kernel
set_option maxRecDepth 100000 in
theorem wE13 : (mt13.zip (xEp.drop 260)).all (fun q => decide (eY q.1 = yL_law) || wEok q.1 q.2) = true := by decide +kernel
theorem zip_all {α β : Type} {f : α × β → Bool} {g : α → Prop} (hg : ∀ q, f q = true → g q.1) : ∀ {as : List α} {bs : List β}, as.length ≤ bs.length → (as.zip bs).all f = true → ∀ a ∈ as, g a
  | [], _, _, _, a, ha => by cases ha
  | a :: as, [], hl, _, _, _ => by simp at hl
  | a :: as, b :: bs, hl, h, x, hx => by
    simp only [List.zip_cons_cons, List.all_cons, Bool.and_eq_true] at h
    rcases List.mem_cons.mp hx with rfl | hx
    · exact hg (x, b) h.1
    · exact zip_all hg (by simpa using hl) h.2 x hx
def wG (e : ME) : Prop := eY e = yL_law ∨ ((∀ w ∈ wE e, w ∈ lw_tbl ∧ goodWord w = true) ∧ (eSt e = 3 ∨ ((eY e).cls = rn (eOwn e) ∧ (eSt e = 2 → (eY e).name = "<init>") ∧ (eSt e ≠ 2 → (eY e).name ≠ "<init>") ∧ (parseMethodDescriptor (eY e).desc).map (fun d => d.parameters.length + (if eSt e = 0 then 0 else 1)) = some (eN e) ∧ eL e ≤ 30 ∧ eOwn e < 15 ∧ (Jvm.plainName (eY e).cls = true ∨ eOwn e = 14) ∧ (eY e).cls ≠ "java/lang/invoke/MethodHandle" ∧ (eY e).cls ≠ "java/lang/invoke/VarHandle")))
theorem wG_of {q : ME × List Nat} (h : (decide (eY q.1 = yL_law) || wEok q.1 q.2) = true) : wG q.1 := by
  simp only [wEok, Bool.or_eq_true, Bool.and_eq_true, decide_eq_true_eq] at h
  rcases h with h | ⟨⟨h1, h2⟩, h3⟩
  · exact Or.inl h
  · exact Or.inr ⟨fun w hw => ⟨atAll_mem h1 w hw, List.all_eq_true.mp h2 w hw⟩, h3⟩
theorem wE_all : ∀ e ∈ mt, wG e := by
  have L : xEp.length = 280 := by decide +kernel
  have hl : ∀ (c : Nat) (l : List ME), l.length = 20 → c + 20 ≤ 280 → l.length ≤ (xEp.drop c).length := fun c l h1 h2 => by rw [List.length_drop, L]; omega
  unfold mt
  simp only [List.forall_mem_append]
  exact ⟨zip_all (fun _ => wG_of) (hl 0 _ rfl (by omega)) wE0, zip_all (fun _ => wG_of) (hl 20 _ rfl (by omega)) wE1, zip_all (fun _ => wG_of) (hl 40 _ rfl (by omega)) wE2, zip_all (fun _ => wG_of) (hl 60 _ rfl (by omega)) wE3, zip_all (fun _ => wG_of) (hl 80 _ rfl (by omega)) wE4, zip_all (fun _ => wG_of) (hl 100 _ rfl (by omega)) wE5, zip_all (fun _ => wG_of) (hl 120 _ rfl (by omega)) wE6, zip_all (fun _ => wG_of) (hl 140 _ rfl (by omega)) wE7, zip_all (fun _ => wG_of) (hl 160 _ rfl (by omega)) wE8, zip_all (fun _ => wG_of) (hl 180 _ rfl (by omega)) wE9, zip_all (fun _ => wG_of) (hl 200 _ rfl (by omega)) wE10, zip_all (fun _ => wG_of) (hl 220 _ rfl (by omega)) wE11, zip_all (fun _ => wG_of) (hl 240 _ rfl (by omega)) wE12, zip_all (fun _ => wG_of) (hl 260 _ rfl (by omega)) wE13⟩
theorem xchkB_get {o rt : Nat} {ini : Bool} {bytes : ByteArray} {pcs0 : List Nat} : ∀ {ps : List Nat} {bs : List (List XI)}, xchkB o rt ini bytes pcs0 ps bs = true → ∀ (i p : Nat), ps[i]? = some p → xchk o rt ini bytes pcs0 p (bs.getD i []) = true
  | [], [], _, i, p, h => by simp at h
  | [], _ :: _, h, _, _, _ => by simp [xchkB] at h
  | _ :: _, [], h, _, _, _ => by simp [xchkB] at h
  | q :: ps, b :: bs, h, i, p, hp => by
    simp only [xchkB, Bool.and_eq_true] at h
    cases i with
    | zero =>
      cases hp
      exact h.1
    | succ i =>
      have := xchkB_get h.2 i p hp
      simpa using this
theorem xchkB_of {o rt : Nat} {ini : Bool} {bytes : ByteArray} {pcs0 : List Nat} : ∀ {ps : List Nat} {bs : List (List XI)}, ps.length = bs.length → (∀ (i p : Nat) (b : List XI), ps[i]? = some p → bs[i]? = some b → xchk o rt ini bytes pcs0 p b = true) → xchkB o rt ini bytes pcs0 ps bs = true
  | [], [], _, _ => rfl
  | [], _ :: _, h, _ => by simp at h
  | _ :: _, [], h, _ => by simp at h
  | q :: ps, b :: bs, h, hi => by
    simp only [xchkB, Bool.and_eq_true]
    exact ⟨hi 0 q b rfl rfl, xchkB_of (by simpa using h) (fun i p c hp hc => hi (i + 1) p c (by simpa using hp) (by simpa using hc))⟩
theorem law_of {i p : Nat} {b : List XI} (h : lawB i = true) (hp : (ePcs me275)[i]? = some p) (hb : (eBs me275)[i]? = some b) : xchk 12 2 false code (ePcs me275) p b = true := by
  unfold lawB at h
  rw [hp, hb] at h
  exact h
theorem law_chk : chkE me275 = true := by
  refine xchkB_of (by decide) ?_
  intro i p b hp hb
  have hi : i < 50 := (List.getElem?_eq_some_iff.mp hp).1
  have hall : ∀ j, j < 50 → lawB j = true := by
    intro j hj
    match j, hj with
    | 0, _ => exact lawB0
    | 1, _ => exact lawB1
    | 2, _ => exact lawB2
    | 3, _ => exact lawB3
    | 4, _ => exact lawB4
    | 5, _ => exact lawB5
    | 6, _ => exact lawB6
    | 7, _ => exact lawB7
    | 8, _ => exact lawB8
    | 9, _ => exact lawB9
    | 10, _ => exact lawB10
    | 11, _ => exact lawB11
    | 12, _ => exact lawB12
    | 13, _ => exact lawB13
    | 14, _ => exact lawB14
    | 15, _ => exact lawB15
    | 16, _ => exact lawB16
    | 17, _ => exact lawB17
    | 18, _ => exact lawB18
    | 19, _ => exact lawB19
    | 20, _ => exact lawB20
    | 21, _ => exact lawB21
    | 22, _ => exact lawB22
    | 23, _ => exact lawB23
    | 24, _ => exact lawB24
    | 25, _ => exact lawB25
    | 26, _ => exact lawB26
    | 27, _ => exact lawB27
    | 28, _ => exact lawB28
    | 29, _ => exact lawB29
    | 30, _ => exact lawB30
    | 31, _ => exact lawB31
    | 32, _ => exact lawB32
    | 33, _ => exact lawB33
    | 34, _ => exact lawB34
    | 35, _ => exact lawB35
    | 36, _ => exact lawB36
    | 37, _ => exact lawB37
    | 38, _ => exact lawB38
    | 39, _ => exact lawB39
    | 40, _ => exact lawB40
    | 41, _ => exact lawB41
    | 42, _ => exact lawB42
    | 43, _ => exact lawB43
    | 44, _ => exact lawB44
    | 45, _ => exact lawB45
    | 46, _ => exact lawB46
    | 47, _ => exact lawB47
    | 48, _ => exact lawB48
    | 49, _ => exact lawB49
    | j + 50, hj => omega
  exact law_of (hall i hi) hp hb
theorem ck13 : mt13.all chkE = true := by
  have h1 := ck13b
  have h2 := ck13a
  have h3 := law_chk
  have e : mt13 = mt13.take 14 ++ (mt13.drop 14) := (List.take_append_drop 14 mt13).symm
  have e2 : mt13.drop 14 = [me274, me275] ++ [me276, me277, me278, me279] := rfl
  rw [e, e2, List.all_append, List.all_append, h1, h2]
  simp [h3, show chkE me274 = true from rfl]
theorem ck_all : mt.all chkE = true := by
  unfold mt
  simp only [List.all_append, ck0, ck1, ck2, ck3, ck4, ck5, ck6, ck7, ck8, ck9, ck10, ck11, ck12, ck13, Bool.and_self]
theorem mOf_mem (k : Nat) : mOf k ∈ mt := by
  unfold mOf
  rw [List.getD_eq_getElem?_getD]
  cases h : mt[k]? with
  | none => exact List.mem_append_left _ List.mem_cons_self
  | some e => exact List.mem_of_getElem? h
theorem mOf_chk (k : Nat) : chkE (mOf k) = true := List.all_eq_true.mp ck_all _ (mOf_mem k)
theorem mOf_blk (k i p : Nat) (h : (ePcs (mOf k))[i]? = some p) : xchk (eOwn (mOf k)) (eT (mOf k)) (eSt (mOf k) == 2) (eB (mOf k)) (ePcs (mOf k)) p (blk k i) = true := xchkB_get (mOf_chk k) i p h
theorem mOf_words (k : Nat) : wG (mOf k) := wE_all _ (mOf_mem k)

