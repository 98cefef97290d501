/-! The tables' words that the interpreter's tables stand on. -/
def okTag (w : Jvm.Cond) : Bool := goodWord w || (match w with
  | .fieldLinkNest .. => true
  | .methodLinkNest .. => true
  | _ => false)
def Inv (U : State) : Prop := ∀ w ∈ lw_tbl, okTag w = true → va_Nw w U
theorem Inv.warm {s U : State} (hW : s.WarmedH U.vm) (h : Inv s) : Inv U := by
  intro w hw ht
  have h1 := h w hw ht
  unfold okTag at ht
  rw [Bool.or_eq_true] at ht
  rcases ht with hg | hn
  · exact word_at hW (good_of_word hg) h1
  · cases w <;> first | (cases hn; done) | exact va_Nw.warmF hW h1 | exact va_Nw.warmM hW h1
theorem Inv.same {u U : State} (hv : u.vm = U.vm) (h : Inv u) : Inv U := Inv.warm (by rw [← hv]; exact State.WarmedH.refl u) h
theorem Inv.use {s : State} (h : Inv s) {w : Jvm.Cond} (hw : w ∈ lw_tbl) (hg : goodWord w = true) (args : Array Value) : w.before args s = true := word_at (State.WarmedH.refl s) (good_of_word hg) (h w hw (by simp [okTag, hg]))
theorem Inv.nw {s : State} (h : Inv s) {w : Jvm.Cond} (hw : w ∈ lw_tbl) (ht : okTag w = true) : va_Nw w s := h w hw ht
theorem in_tbl {w : Jvm.Cond} (h : w ∈ tables_1) : w ∈ lw_tbl := List.mem_append_right _ h
/-- good words of the tables -/
def G : List Jvm.Cond := lw_tbl.filter goodWord
theorem G_hts {s : State} (h : Inv s) (args : Array Value) : ∀ w ∈ G, w.before args s = true := fun w hw => Inv.use h (List.mem_filter.mp hw).1 (List.mem_filter.mp hw).2 args
theorem G_good : GoodIn G G := fun w hw => ⟨hw, good_of_word (List.mem_filter.mp hw).2⟩
theorem G_in {w : Jvm.Cond} (hw : w ∈ lw_tbl) (hg : goodWord w = true) : w ∈ G := List.mem_filter.mpr ⟨hw, hg⟩

def xFp : List Nat := [120, 123, 116, 276, 278, 279, 280, 281, 282, 283, 284, 285, 286, 287, 288, 289, 290, 292, 228, 231, 239, 244, 241, 216, 236, 61, 62, 63, 38, 41, 146, 147, 148, 150, 152, 153, 142, 117, 141, 139, 144, 182, 184, 187, 185, 118, 215, 218, 219, 73, 74, 64, 89, 90, 91, 93, 65, 94, 95, 37, 39, 229, 230, 232, 234, 235, 237, 238, 240, 242, 243, 245, 115, 227, 121, 124, 233, 217, 325, 326, 328, 329, 330, 331, 332, 333, 334, 336, 337, 338, 339, 277, 340, 40, 119, 143, 75, 327, 125, 122, 140, 183, 186, 149, 246, 293, 291, 145, 151, 92, 335, 1122, 1123, 1124, 1125, 1126, 1136, 1137, 1139, 1140, 1142, 1143, 1144, 1145, 1146, 1147, 1148, 1149, 1150, 1160, 1162, 1163, 1164, 1166, 1167, 1121, 1127, 1131, 1130, 1129, 1132, 1133, 1138, 1134, 1135, 1141, 1151, 1128, 1152, 1165, 1153, 1154, 1155, 1156, 1158, 1157, 1159, 1161, 1171, 1168, 1169, 1170, 1172, 1173]
def xMp : List Nat := [114, 530, 531, 1024, 202, 205, 275, 786, 787, 809, 791, 792, 793, 798, 807, 808, 802, 803, 813, 814, 818, 826, 831, 832, 830, 822, 823, 824, 825, 60, 411, 415, 138, 604, 605, 606, 607, 615, 619, 622, 641, 644, 662, 611, 700, 682, 692, 1011, 936, 937, 938, 939, 1029, 181, 588, 580, 596, 599, 587, 589, 593, 214, 732, 746, 747, 751, 54, 57, 403, 407, 419, 431, 432, 423, 427, 86, 88, 440, 450, 451, 490, 517, 455, 456, 457, 502, 505, 509, 513, 481, 485, 477, 461, 491, 465, 469, 486, 489, 473, 496, 499, 36, 388, 540, 208, 211, 717, 718, 719, 733, 797, 739, 724, 755, 759, 728, 734, 735, 742, 763, 776, 777, 778, 768, 772, 28, 33, 51, 83, 111, 135, 178, 199, 378, 384, 399, 436, 522, 532, 526, 536, 545, 549, 443, 449, 557, 565, 576, 600, 629, 637, 654, 658, 446, 670, 675, 678, 381, 688, 696, 705, 709, 833, 837, 847, 862, 771, 782, 874, 889, 893, 713, 720, 917, 920, 924, 932, 952, 955, 959, 969, 977, 985, 990, 994, 1007, 1020, 1025, 758, 840, 618, 685, 695, 1118, 1290, 1293, 1324, 1320, 1430, 1431, 1342, 1417, 1405, 1316, 1421, 1413, 1425, 1409, 1432, 1435, 1393, 1401, 1397, 1312, 1338, 1305, 1328, 1308, 1334, 1443, 1448, 1452, 1459, 1462, 1477, 1500, 1516, 1512, 1559, 1555, 1551, 1508, 1489, 1496, 1504, 1532, 1566, 1544, 1547, 1562, 1591, 1595, 1587, 1583, 1603, 1607, 1574, 1579, 1599, 1635, 1652, 1655, 1667, 1672, 1673, 1685, 1701, 1713, 1738, 1754, 1762, 25, 1115, 374, 1286, 391, 1297, 395, 1301, 518, 1439, 1038, 1444, 1282, 541, 1455, 553, 1465, 568, 1481, 572, 1485, 625, 1520, 633, 1524, 650, 1528, 666, 1536, 671, 1540, 701, 1570, 843, 1611, 850, 1615, 854, 1619, 858, 1623, 866, 1627, 870, 1631, 879, 1641, 913, 1648, 928, 1659, 944, 1469, 948, 1663, 961, 1677, 561, 1473, 965, 1681, 981, 1689, 986, 1693, 885, 1697, 897, 1705, 901, 1709, 905, 1717, 909, 1721, 973, 1725, 998, 1729, 1003, 1734, 940, 1742, 1012, 1746, 1016, 1750, 1030, 1758, 1034, 1766]
def xCp : List Nat := [203, 274, 55, 87, 209, 31, 49, 81, 109, 133, 176, 197, 23, 1113]
def xKp : List Nat := [584, 585, 586, 494, 495, 767, 708, 883, 878, 884, 960, 1002, 1428, 1429, 1332, 1333, 1480, 1493, 1494, 1495, 1578, 1610, 1639, 1640, 1645, 1646, 1647, 1671, 1733, 1770, 647, 648, 649]
/-! a word of the tables by its place -/
def atTbl (i : Nat) : Option Jvm.Cond := if i < 100000 then tables_1[i]? else (lw_privs[i - 100000]?).map (fun q => .selects q.1.cls q.1 q.1)
theorem atTbl_mem {i : Nat} {w : Jvm.Cond} (h : atTbl i = some w) : w ∈ lw_tbl := by
  unfold atTbl at h
  split at h
  · exact in_tbl (List.mem_of_getElem? h)
  · cases hq : lw_privs[i - 100000]? with
    | none => rw [hq] at h; cases h
    | some q =>
      rw [hq] at h
      cases h
      exact List.mem_append_left _ (List.mem_map.mpr ⟨q, List.mem_of_getElem? hq, rfl⟩)
def atAll {α : Type} (f : α → Jvm.Cond) : List α → List Nat → Bool
  | [], [] => true
  | a :: as, p :: ps => decide (atTbl p = some (f a)) && atAll f as ps
  | _, _ => false
theorem atAll_mem {α : Type} {f : α → Jvm.Cond} : ∀ {as : List α} {ps : List Nat}, atAll f as ps = true → ∀ a ∈ as, f a ∈ lw_tbl
  | [], _, _, a, ha => by cases ha
  | b :: as, [], h, _, _ => by simp [atAll] at h
  | b :: as, p :: ps, h, a, ha => by
    simp only [atAll, Bool.and_eq_true, decide_eq_true_eq] at h
    rcases List.mem_cons.mp ha with rfl | ha
    · exact atTbl_mem h.1
    · exact atAll_mem h.2 a ha
theorem xlu_mem {β : Type} {t : List (Nat × Nat × β)} {o i : Nat} {v : β} (h : xlu t o i = some v) : (o, i, v) ∈ t := by
  unfold xlu at h
  split at h
  · rename_i e he
    have h1 := List.mem_of_find?_eq_some he
    have h2 := List.find?_some he
    simp only [Bool.and_eq_true, beq_iff_eq] at h2
    obtain ⟨e1, e2, e3⟩ := e
    cases h
    obtain ⟨rfl, rfl⟩ := h2
    exact h1
  · cases h
/-! fields -/
def wF (e : Nat × Nat × Nat × Nat × Nat) : Jvm.Cond := if e.2.2.2.2 = 0 then .fieldLink (rn e.1) e.2.1 (rn e.2.2.1) (Tx e.2.2.1 e.2.2.2.1).2.1 (Tx e.2.2.1 e.2.2.2.1).2.2.1 else .fieldLinkNest (rn e.1) e.2.1 (rn e.2.2.1) (Tx e.2.2.1 e.2.2.2.1).2.1 (Tx e.2.2.1 e.2.2.2.1).2.2.1 "DiceLaw"
set_option maxRecDepth 100000 in
theorem wF_ok : atAll wF xFt xFp = true := by decide +kernel
theorem wF_in {o idx ci k nest : Nat} (h : xlu xFt o idx = some (ci, k, nest)) : wF (o, idx, ci, k, nest) ∈ lw_tbl := atAll_mem wF_ok _ (xlu_mem h)
/-! methods -/
def yObj : MethodName := ⟨"java/lang/Object", "<init>", "()V"⟩
def wM (e : Nat × Nat × Nat × Nat) : Jvm.Cond := if e.2.2.2 = 0 then .methodLink (rn e.1) e.2.1 (if e.2.2.1 = 999 then yObj else eY (mOf e.2.2.1)) else .methodLinkNest (rn e.1) e.2.1 (eY (mOf e.2.2.1)) "DiceLaw"
set_option maxRecDepth 100000 in
theorem wM_ok : atAll wM xMt xMp = true := by decide +kernel
theorem wM_in {o idx k nest : Nat} (h : xlu xMt o idx = some (k, nest)) : wM (o, idx, k, nest) ∈ lw_tbl := atAll_mem wM_ok _ (xlu_mem h)
/-! classes -/
def wC (e : Nat × Nat × Nat) : Jvm.Cond := .classLink (rn e.1) e.2.1 (rn e.2.2)
set_option maxRecDepth 100000 in
theorem wC_ok : atAll wC xCt xCp = true := by decide +kernel
theorem wC_in {o idx ci : Nat} (h : xlu xCt o idx = some ci) : Jvm.Cond.classLink (rn o) idx (rn ci) ∈ lw_tbl := atAll_mem wC_ok _ (xlu_mem h)
/-! constants -/
def wK (e : Nat × Nat × Int × Nat) : Jvm.Cond := if e.2.2.2 = 0 then .constant (rn e.1) e.2.1 (Int32.ofInt e.2.2.1) else .constantLong (rn e.1) e.2.1 (Int64.ofInt e.2.2.1)
set_option maxRecDepth 100000 in
theorem wK_ok : atAll wK xKt xKp = true := by decide +kernel
theorem wK_in {o idx : Nat} {v : Int} {t : Nat} (h : xlu xKt o idx = some (v, t)) : wK (o, idx, v, t) ∈ lw_tbl := atAll_mem wK_ok _ (xlu_mem h)
set_option maxRecDepth 100000 in
theorem wN_ok : ∀ ci, ci < 12 → Jvm.Cond.instantiable (rn ci) (Nx ci) ∈ tables_1 ∧ Jvm.Cond.initialized (rn ci) ∈ tables_1 := by decide +kernel
/-! methods' own words -/
def wE (e : ME) : List Jvm.Cond := if eSt e = 3 then [] else (.code (eY e) (eB e) (eL e) (eRet e)) :: .initialized (eY e).cls :: (if eSt e = 0 then [.static (eY e)] else if eSt e = 1 then [.instanceMethod (eY e), .selects (eY e).cls (eY e) (eY e)] else [.instanceMethod (eY e)])
def wEok (e : ME) (ps : List Nat) : Bool := atAll id (wE e) ps && (wE e).all goodWord && decide (eSt e = 3 ∨ ((eY e).cls = rn (eOwn e) ∧ (eSt e = 2 → (eY e).name = "<init>") ∧ (eSt e ≠ 2 → (eY e).name ≠ "<init>") ∧ (parseMethodDescriptor (eY e).desc).map (fun d => d.parameters.length + (if eSt e = 0 then 0 else 1)) = some (eN e) ∧ eL e ≤ 30 ∧ eOwn e < 15 ∧ (Jvm.plainName (eY e).cls = true ∨ eOwn e = 14) ∧ (eY e).cls ≠ "java/lang/invoke/MethodHandle" ∧ (eY e).cls ≠ "java/lang/invoke/VarHandle"))

def xEp : List (List Nat) := [  [27, 1, 26], [377, 1, 375, 376], [394, 1, 392, 393], [398, 1, 396, 397], [521, 1, 519, 520], [525, 1, 524, 100022], [535, 1, 534, 100024], [], [544, 1, 542, 543], [552, 1, 551, 100027], [556, 1, 554, 555], [564, 1, 562, 563], [571, 1, 569, 570], [575, 1, 573, 574], [628, 1, 626, 627], [636, 1, 634, 635], [653, 1, 651, 652], [669, 1, 667, 668], [674, 1, 672, 673], [704, 1, 702, 703],
  [846, 1, 844, 845], [853, 1, 851, 852], [857, 1, 855, 856], [861, 1, 859, 860], [869, 1, 867, 868], [873, 1, 871, 872], [882, 1, 880, 881], [877, 1, 876, 100067], [888, 1, 886, 887], [900, 1, 898, 899], [904, 1, 902, 903], [908, 1, 906, 907], [912, 1, 910, 911], [865, 1, 864, 100066], [712, 1, 711, 100043], [916, 1, 914, 915], [931, 1, 929, 930], [943, 1, 941, 942], [947, 1, 945, 946], [951, 1, 949, 950],
  [964, 1, 962, 963], [958, 1, 957, 100073], [968, 1, 966, 967], [976, 1, 974, 975], [984, 1, 982, 983], [738, 10, 737, 100048], [989, 1, 987, 988], [997, 1, 996, 100077], [993, 1, 992, 100076], [1001, 1, 999, 1000], [1006, 1, 1004, 1005], [1015, 1, 1013, 1014], [1019, 1, 1017, 1018], [1033, 1, 1031, 1032], [1037, 1, 1035, 1036], [677, 1, 676], [849, 1, 848], [919, 1, 918], [707, 1, 706], [954, 1, 953],
  [567, 1, 566], [448, 1, 447], [643, 1, 642], [390, 1, 389], [624, 1, 623], [770, 1, 769], [757, 1, 756], [445, 1, 444], [442, 1, 441], [383, 1, 382], [380, 1, 379], [839, 1, 838], [842, 1, 841], [595, 1, 594], [617, 1, 616], [621, 1, 620], [598, 1, 597], [687, 1, 686], [684, 1, 683], [694, 1, 693],
  [1117, 12, 1116], [1285, 12, 1283, 1284], [1307, 12, 1306], [], [1292, 12, 1291], [1296, 12, 1295, 100082], [1289, 12, 1287, 1288], [1300, 12, 1298, 1299], [1323, 12, 1322, 100086], [1327, 12, 1326, 100087], [1420, 12, 1419, 100097], [1319, 12, 1318, 100085], [1424, 12, 1423, 100098], [1427, 12, 1426], [1416, 12, 1415, 100096], [1412, 12, 1411, 100095], [1408, 12, 1407, 100094], [1434, 12, 1433], [1404, 12, 1403, 100093], [1438, 12, 1437, 100099],
  [1400, 12, 1399, 100092], [1396, 12, 1395, 100091], [1341, 12, 1340, 100090], [1315, 12, 1314, 100084], [1337, 12, 1336, 100089], [1331, 12, 1330, 100088], [1311, 12, 1310, 100083], [1304, 12, 1302, 1303], [1442, 12, 1440, 1441], [1451, 12, 1450, 100100], [1454, 12, 1453], [1546, 12, 1545], [1479, 12, 1478], [1447, 12, 1445, 1446], [1461, 12, 1460], [1464, 12, 1463], [1458, 12, 1456, 1457], [1468, 12, 1466, 1467], [1472, 12, 1470, 1471], [1476, 12, 1474, 1475],
  [1503, 12, 1502, 100103], [1519, 12, 1518, 100107], [1515, 12, 1514, 100106], [1511, 12, 1510, 100105], [1561, 12, 1560], [1558, 12, 1557, 100111], [1554, 12, 1553, 100110], [1569, 12, 1568, 100113], [1499, 12, 1498, 100102], [1484, 12, 1482, 1483], [1492, 12, 1491, 100101], [1507, 12, 1506, 100104], [1488, 12, 1486, 1487], [1523, 12, 1521, 1522], [1527, 12, 1525, 1526], [1535, 12, 1534, 100108], [1531, 12, 1529, 1530], [1539, 12, 1537, 1538], [1550, 12, 1549, 100109], [1565, 12, 1564, 100112],
  [1543, 12, 1541, 1542], [1594, 12, 1593, 100118], [1598, 12, 1597, 100119], [1590, 12, 1589, 100117], [1586, 12, 1585, 100116], [1582, 12, 1581, 100115], [1606, 12, 1605, 100121], [1602, 12, 1601, 100120], [1609, 12, 1608], [1577, 12, 1576, 100114], [1573, 12, 1571, 1572], [1614, 12, 1612, 1613], [1618, 12, 1616, 1617], [1622, 12, 1620, 1621], [1626, 12, 1624, 1625], [1630, 12, 1628, 1629], [1638, 12, 1637, 100122], [1634, 12, 1632, 1633], [1644, 12, 1642, 1643], [1658, 12, 1657, 100123],
  [1654, 12, 1653], [1651, 12, 1649, 1650], [1662, 12, 1660, 1661], [1676, 12, 1675, 100125], [1670, 12, 1669, 100124], [1666, 12, 1664, 1665], [1680, 12, 1678, 1679], [1688, 12, 1687, 100126], [1684, 12, 1682, 1683], [1692, 12, 1690, 1691], [1696, 12, 1694, 1695], [1704, 12, 1703, 100127], [1700, 12, 1698, 1699], [1708, 12, 1706, 1707], [1716, 12, 1715, 100128], [1712, 12, 1710, 1711], [1720, 12, 1718, 1719], [1724, 12, 1722, 1723], [1728, 12, 1726, 1727], [1732, 12, 1730, 1731],
  [1741, 12, 1740, 100129], [1737, 12, 1735, 1736], [1745, 12, 1743, 1744], [1749, 12, 1747, 1748], [1757, 12, 1756, 100130], [1765, 12, 1764, 100131], [1753, 12, 1751, 1752], [1761, 12, 1759, 1760], [1769, 12, 1767, 1768], [113, 6, 112], [529, 6, 528, 100023], [548, 6, 547, 100026], [592, 6, 591, 100031], [560, 6, 559, 100028], [1023, 6, 1022, 100079], [201, 9, 200], [785, 9, 784, 100056], [790, 9, 789, 100057], [801, 9, 800, 100059], [806, 9, 805, 100060],
  [812, 9, 811, 100061], [829, 9, 828, 100064], [817, 9, 816, 100062], [821, 9, 820, 100063], [896, 9, 895, 100069], [892, 9, 891, 100068], [59, 4, 58], [406, 4, 405, 100002], [414, 4, 413, 100004], [476, 4, 475, 100016], [480, 4, 479, 100017], [426, 4, 425, 100007], [410, 4, 409, 100003], [435, 4, 434, 100009], [430, 4, 429, 100008], [418, 4, 417, 100005], [137, 7, 136], [657, 7, 656, 100037], [603, 7, 602, 100032], [640, 7, 639, 100036],
  [661, 7, 660, 100038], [665, 7, 664, 100039], [614, 7, 613, 100034], [610, 7, 609, 100033], [699, 7, 698, 100042], [681, 7, 680, 100040], [691, 7, 690, 100041], [1010, 7, 1009, 100078], [923, 7, 922, 100070], [927, 7, 926, 100071], [935, 7, 934, 100072], [1028, 7, 1027, 100080], [180, 8, 179], [632, 8, 631, 100035], [579, 8, 578, 100029], [583, 8, 582, 100030], [213, 11, 212], [731, 11, 730, 100047], [745, 11, 744, 100049], [750, 11, 749, 100050],
  [754, 11, 753, 100051], [53, 3, 52], [402, 3, 401, 100001], [422, 3, 421, 100006], [85, 5, 84], [439, 5, 438, 100010], [454, 5, 453, 100011], [508, 5, 507, 100019], [512, 5, 511, 100020], [516, 5, 515, 100021], [460, 5, 459, 100012], [464, 5, 463, 100013], [468, 5, 467, 100014], [472, 5, 471, 100015], [484, 5, 483, 100018], [488, 5, 487], [504, 5, 503], [493, 5, 492], [35, 2, 34], [387, 2, 386, 100000],
  [539, 2, 538, 100025], [207, 10, 206], [716, 10, 715, 100044], [972, 10, 971, 100074], [980, 10, 979, 100075], [836, 10, 835, 100065], [796, 10, 795, 100058], [723, 10, 722, 100045], [727, 10, 726, 100046], [762, 10, 761, 100052], [781, 10, 780, 100055], [775, 10, 774, 100054], [738, 10, 737, 100048], [766, 10, 765, 100053], [], [], [646, 22, 645], [501, 13, 500], [741, 13, 740], [498, 13, 497]]
set_option maxRecDepth 100000 in
theorem wE0 : (mt0.zip (xEp.drop 0)).all (fun q => decide (eY q.1 = yL_law) || wEok q.1 q.2) = true := by decide +kernel
set_option maxRecDepth 100000 in
theorem wE1 : (mt1.zip (xEp.drop 20)).all (fun q => decide (eY q.1 = yL_law) || wEok q.1 q.2) = true := by decide +kernel
set_option maxRecDepth 100000 in
theorem wE2 : (mt2.zip (xEp.drop 40)).all (fun q => decide (eY q.1 = yL_law) || wEok q.1 q.2) = true := by decide +kernel
set_option maxRecDepth 100000 in
theorem wE3 : (mt3.zip (xEp.drop 60)).all (fun q => decide (eY q.1 = yL_law) || wEok q.1 q.2) = true := by decide +kernel
set_option maxRecDepth 100000 in
theorem wE4 : (mt4.zip (xEp.drop 80)).all (fun q => decide (eY q.1 = yL_law) || wEok q.1 q.2) = true := by decide +kernel
set_option maxRecDepth 100000 in
theorem wE5 : (mt5.zip (xEp.drop 100)).all (fun q => decide (eY q.1 = yL_law) || wEok q.1 q.2) = true := by decide +kernel
set_option maxRecDepth 100000 in
theorem wE6 : (mt6.zip (xEp.drop 120)).all (fun q => decide (eY q.1 = yL_law) || wEok q.1 q.2) = true := by decide +kernel
set_option maxRecDepth 100000 in
theorem wE7 : (mt7.zip (xEp.drop 140)).all (fun q => decide (eY q.1 = yL_law) || wEok q.1 q.2) = true := by decide +kernel
set_option maxRecDepth 100000 in
theorem wE8 : (mt8.zip (xEp.drop 160)).all (fun q => decide (eY q.1 = yL_law) || wEok q.1 q.2) = true := by decide +kernel
set_option maxRecDepth 100000 in
theorem wE9 : (mt9.zip (xEp.drop 180)).all (fun q => decide (eY q.1 = yL_law) || wEok q.1 q.2) = true := by decide +kernel
set_option maxRecDepth 100000 in
theorem wE10 : (mt10.zip (xEp.drop 200)).all (fun q => decide (eY q.1 = yL_law) || wEok q.1 q.2) = true := by decide +kernel
set_option maxRecDepth 100000 in
theorem wE11 : (mt11.zip (xEp.drop 220)).all (fun q => decide (eY q.1 = yL_law) || wEok q.1 q.2) = true := by decide +kernel
set_option maxRecDepth 100000 in
theorem wE12 : (mt12.zip (xEp.drop 240)).all (fun q => decide (eY q.1 = yL_law) || wEok q.1 q.2) = true := by decide +kernel
set_option maxRecDepth 100000 in
theorem wE13 : (mt13.zip (xEp.drop 260)).all (fun q => decide (eY q.1 = yL_law) || wEok q.1 q.2) = true := by decide +kernel
theorem zip_all {α β : Type} {f : α × β → Bool} {g : α → Prop} (hg : ∀ q, f q = true → g q.1) : ∀ {as : List α} {bs : List β}, as.length ≤ bs.length → (as.zip bs).all f = true → ∀ a ∈ as, g a
  | [], _, _, _, a, ha => by cases ha
  | a :: as, [], hl, _, _, _ => by simp at hl
  | a :: as, b :: bs, hl, h, x, hx => by
    simp only [List.zip_cons_cons, List.all_cons, Bool.and_eq_true] at h
    rcases List.mem_cons.mp hx with rfl | hx
    · exact hg (x, b) h.1
    · exact zip_all hg (by simpa using hl) h.2 x hx
def wG (e : ME) : Prop := eY e = yL_law ∨ ((∀ w ∈ wE e, w ∈ lw_tbl ∧ goodWord w = true) ∧ (eSt e = 3 ∨ ((eY e).cls = rn (eOwn e) ∧ (eSt e = 2 → (eY e).name = "<init>") ∧ (eSt e ≠ 2 → (eY e).name ≠ "<init>") ∧ (parseMethodDescriptor (eY e).desc).map (fun d => d.parameters.length + (if eSt e = 0 then 0 else 1)) = some (eN e) ∧ eL e ≤ 30 ∧ eOwn e < 15 ∧ (Jvm.plainName (eY e).cls = true ∨ eOwn e = 14) ∧ (eY e).cls ≠ "java/lang/invoke/MethodHandle" ∧ (eY e).cls ≠ "java/lang/invoke/VarHandle")))
theorem wG_of {q : ME × List Nat} (h : (decide (eY q.1 = yL_law) || wEok q.1 q.2) = true) : wG q.1 := by
  simp only [wEok, Bool.or_eq_true, Bool.and_eq_true, decide_eq_true_eq] at h
  rcases h with h | ⟨⟨h1, h2⟩, h3⟩
  · exact Or.inl h
  · exact Or.inr ⟨fun w hw => ⟨atAll_mem h1 w hw, List.all_eq_true.mp h2 w hw⟩, h3⟩
theorem wE_all : ∀ e ∈ mt, wG e := by
  have L : xEp.length = 280 := by decide +kernel
  have hl : ∀ (c : Nat) (l : List ME), l.length = 20 → c + 20 ≤ 280 → l.length ≤ (xEp.drop c).length := fun c l h1 h2 => by rw [List.length_drop, L]; omega
  unfold mt
  simp only [List.forall_mem_append]
  exact ⟨zip_all (fun _ => wG_of) (hl 0 _ rfl (by omega)) wE0, zip_all (fun _ => wG_of) (hl 20 _ rfl (by omega)) wE1, zip_all (fun _ => wG_of) (hl 40 _ rfl (by omega)) wE2, zip_all (fun _ => wG_of) (hl 60 _ rfl (by omega)) wE3, zip_all (fun _ => wG_of) (hl 80 _ rfl (by omega)) wE4, zip_all (fun _ => wG_of) (hl 100 _ rfl (by omega)) wE5, zip_all (fun _ => wG_of) (hl 120 _ rfl (by omega)) wE6, zip_all (fun _ => wG_of) (hl 140 _ rfl (by omega)) wE7, zip_all (fun _ => wG_of) (hl 160 _ rfl (by omega)) wE8, zip_all (fun _ => wG_of) (hl 180 _ rfl (by omega)) wE9, zip_all (fun _ => wG_of) (hl 200 _ rfl (by omega)) wE10, zip_all (fun _ => wG_of) (hl 220 _ rfl (by omega)) wE11, zip_all (fun _ => wG_of) (hl 240 _ rfl (by omega)) wE12, zip_all (fun _ => wG_of) (hl 260 _ rfl (by omega)) wE13⟩
theorem xchkB_get {o rt : Nat} {ini : Bool} {bytes : ByteArray} {pcs0 : List Nat} : ∀ {ps : List Nat} {bs : List (List XI)}, xchkB o rt ini bytes pcs0 ps bs = true → ∀ (i p : Nat), ps[i]? = some p → xchk o rt ini bytes pcs0 p (bs.getD i []) = true
  | [], [], _, i, p, h => by simp at h
  | [], _ :: _, h, _, _, _ => by simp [xchkB] at h
  | _ :: _, [], h, _, _, _ => by simp [xchkB] at h
  | q :: ps, b :: bs, h, i, p, hp => by
    simp only [xchkB, Bool.and_eq_true] at h
    cases i with
    | zero =>
      cases hp
      exact h.1
    | succ i =>
      have := xchkB_get h.2 i p hp
      simpa using this
theorem xchkB_of {o rt : Nat} {ini : Bool} {bytes : ByteArray} {pcs0 : List Nat} : ∀ {ps : List Nat} {bs : List (List XI)}, ps.length = bs.length → (∀ (i p : Nat) (b : List XI), ps[i]? = some p → bs[i]? = some b → xchk o rt ini bytes pcs0 p b = true) → xchkB o rt ini bytes pcs0 ps bs = true
  | [], [], _, _ => rfl
  | [], _ :: _, h, _ => by simp at h
  | _ :: _, [], h, _ => by simp at h
  | q :: ps, b :: bs, h, hi => by
    simp only [xchkB, Bool.and_eq_true]
    exact ⟨hi 0 q b rfl rfl, xchkB_of (by simpa using h) (fun i p c hp hc => hi (i + 1) p c (by simpa using hp) (by simpa using hc))⟩
theorem law_of {i p : Nat} {b : List XI} (h : lawB i = true) (hp : (ePcs me275)[i]? = some p) (hb : (eBs me275)[i]? = some b) : xchk 12 2 false code (ePcs me275) p b = true := by
  unfold lawB at h
  rw [hp, hb] at h
  exact h
theorem law_chk : chkE me275 = true := by
  refine xchkB_of (by decide) ?_
  intro i p b hp hb
  have hi : i < 50 := (List.getElem?_eq_some_iff.mp hp).1
  have hall : ∀ j, j < 50 → lawB j = true := by
    intro j hj
    match j, hj with
    | 0, _ => exact lawB0
    | 1, _ => exact lawB1
    | 2, _ => exact lawB2
    | 3, _ => exact lawB3
    | 4, _ => exact lawB4
    | 5, _ => exact lawB5
    | 6, _ => exact lawB6
    | 7, _ => exact lawB7
    | 8, _ => exact lawB8
    | 9, _ => exact lawB9
    | 10, _ => exact lawB10
    | 11, _ => exact lawB11
    | 12, _ => exact lawB12
    | 13, _ => exact lawB13
    | 14, _ => exact lawB14
    | 15, _ => exact lawB15
    | 16, _ => exact lawB16
    | 17, _ => exact lawB17
    | 18, _ => exact lawB18
    | 19, _ => exact lawB19
    | 20, _ => exact lawB20
    | 21, _ => exact lawB21
    | 22, _ => exact lawB22
    | 23, _ => exact lawB23
    | 24, _ => exact lawB24
    | 25, _ => exact lawB25
    | 26, _ => exact lawB26
    | 27, _ => exact lawB27
    | 28, _ => exact lawB28
    | 29, _ => exact lawB29
    | 30, _ => exact lawB30
    | 31, _ => exact lawB31
    | 32, _ => exact lawB32
    | 33, _ => exact lawB33
    | 34, _ => exact lawB34
    | 35, _ => exact lawB35
    | 36, _ => exact lawB36
    | 37, _ => exact lawB37
    | 38, _ => exact lawB38
    | 39, _ => exact lawB39
    | 40, _ => exact lawB40
    | 41, _ => exact lawB41
    | 42, _ => exact lawB42
    | 43, _ => exact lawB43
    | 44, _ => exact lawB44
    | 45, _ => exact lawB45
    | 46, _ => exact lawB46
    | 47, _ => exact lawB47
    | 48, _ => exact lawB48
    | 49, _ => exact lawB49
    | j + 50, hj => omega
  exact law_of (hall i hi) hp hb
theorem ck13 : mt13.all chkE = true := by
  have h1 := ck13b
  have h2 := ck13a
  have h3 := law_chk
  have e : mt13 = mt13.take 14 ++ (mt13.drop 14) := (List.take_append_drop 14 mt13).symm
  have e2 : mt13.drop 14 = [me274, me275] ++ [me276, me277, me278, me279] := rfl
  rw [e, e2, List.all_append, List.all_append, h1, h2]
  simp [h3, show chkE me274 = true from rfl]
theorem ck_all : mt.all chkE = true := by
  unfold mt
  simp only [List.all_append, ck0, ck1, ck2, ck3, ck4, ck5, ck6, ck7, ck8, ck9, ck10, ck11, ck12, ck13, Bool.and_self]
theorem mOf_mem (k : Nat) : mOf k ∈ mt := by
  unfold mOf
  rw [List.getD_eq_getElem?_getD]
  cases h : mt[k]? with
  | none => exact List.mem_append_left _ List.mem_cons_self
  | some e => exact List.mem_of_getElem? h
theorem mOf_chk (k : Nat) : chkE (mOf k) = true := List.all_eq_true.mp ck_all _ (mOf_mem k)
theorem mOf_blk (k i p : Nat) (h : (ePcs (mOf k))[i]? = some p) : xchk (eOwn (mOf k)) (eT (mOf k)) (eSt (mOf k) == 2) (eB (mOf k)) (ePcs (mOf k)) p (blk k i) = true := xchkB_get (mOf_chk k) i p h
theorem mOf_words (k : Nat) : wG (mOf k) := wE_all _ (mOf_mem k)

