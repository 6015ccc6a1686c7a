/-! THE LINKS stand among the tables' words: by their places (printed by program) -/
def am_gT : List Cond := lw_tbl.filter goodWord
theorem am_gT_of {w : Cond} {i : Nat} (h : lw_tbl[i]? = some w) (hg : goodWord w = true) : w ∈ am_gT := List.mem_filter.mpr ⟨List.mem_of_getElem? h, hg⟩
def am_cn (c : Nat) : String := am_ocn c
def am_Ts : Nat → u_T := fun c => match c with
  | 0 => am_T0
  | 1 => am_T1
  | 2 => am_T2
  | 3 => am_T3
  | 4 => am_T4
  | 5 => am_T5
  | 6 => am_T6
  | 7 => am_T7
  | 8 => am_T8
  | _ => fun _ => ("", "", "", false)
def am_fl_p : List Nat := [404, 405, 406, 407, 408, 409, 410, 411, 412, 413, 414, 415, 416, 417, 418, 420, 421, 182, 392, 185, 190, 219, 161, 187, 155, 158, 192, 166, 194, 342, 340, 419, 213, 344, 215, 217, 281, 198, 211, 153, 422, 206, 807, 810, 264, 265, 263, 189, 183, 156, 163, 159, 210, 167, 152, 208, 806, 809, 280, 284, 285, 286, 287, 288, 289, 290, 291, 282, 283, 181, 292, 293, 296, 295, 297, 220, 164, 195, 197, 200, 294, 204, 202, 339, 343, 351, 353, 341, 345, 347, 350, 352, 354, 346, 349, 348, 184, 186, 188, 191, 193, 199, 201, 203, 205, 209, 214, 216, 218, 180, 196, 207, 212, 162, 151, 805, 811, 808, 393, 394, 391, 157, 160, 165, 150, 154, 1187, 1188, 1189, 1190, 1191, 1192, 1194, 1195, 1197, 1203, 1207, 1209, 1210, 1212, 1213, 1216, 1217, 1218, 1220, 1221, 1222, 1226, 1227, 1228, 1229, 1230, 1231, 1232, 1233, 1234, 1235, 1236, 1239, 1242, 1243, 1186, 1193, 1185, 1198, 1196, 1200, 1204, 1199, 1202, 1201, 1208, 1214, 1215, 1211, 1205, 1206, 1223, 1219, 1224, 1225, 1240, 1237, 1238, 1241]
set_option maxRecDepth 100000 in
set_option maxHeartbeats 4000000 in
theorem am_fl_all : ((am_fl).zip am_fl_p).all (fun x => decide (lw_tbl[x.2]? = some (Cond.fieldLink (am_ocn x.1.1) x.1.2.1 (am_ocn x.1.2.2.1) (am_Ts x.1.2.2.1 x.1.2.2.2).2.1 (am_Ts x.1.2.2.1 x.1.2.2.2).2.2.1)) && goodWord (Cond.fieldLink (am_ocn x.1.1) x.1.2.1 (am_ocn x.1.2.2.1) (am_Ts x.1.2.2.1 x.1.2.2.2).2.1 (am_Ts x.1.2.2.1 x.1.2.2.2).2.2.1)) = true ∧ (am_fl).length = am_fl_p.length := by decide +kernel
theorem am_fl_ok {q : Nat × Nat × Nat × Nat} (h : q ∈ am_fl) : (Cond.fieldLink (am_ocn q.1) q.2.1 (am_ocn q.2.2.1) (am_Ts q.2.2.1 q.2.2.2).2.1 (am_Ts q.2.2.1 q.2.2.2).2.2.1) ∈ am_gT := by
  obtain ⟨ha, hl⟩ := am_fl_all
  obtain ⟨k, hk⟩ := List.getElem?_of_mem h
  have hlt : k < am_fl_p.length := by rw [← hl]; exact (List.getElem?_eq_some_iff.mp hk).1
  have hz : (q, am_fl_p[k]) ∈ (am_fl).zip am_fl_p := by
    refine List.mem_of_getElem? (i := k) ?_
    rw [List.getElem?_zip_eq_some]
    exact ⟨hk, List.getElem?_eq_getElem hlt⟩
  have h1 := List.all_eq_true.mp ha _ hz
  simp only [Bool.and_eq_true, decide_eq_true_eq] at h1
  exact am_gT_of h1.1 h1.2
def am_mlA : List (Nat × Nat × Nat) := [(0, 28, 57), (0, 37, 71), (0, 53, 130), (0, 95, 50), (0, 99, 43), (0, 105, 115), (0, 112, 44), (0, 115, 46), (0, 131, 137), (0, 134, 59), (0, 147, 49), (0, 150, 61), (0, 154, 116), (0, 158, 123), (0, 162, 58), (0, 169, 118), (0, 173, 48), (0, 182, 60), (0, 186, 120), (0, 189, 121), (0, 195, 95), (0, 208, 96), (0, 219, 136), (0, 223, 134), (0, 226, 56), (0, 230, 47), (0, 236, 54), (0, 239, 45), (0, 242, 133), (0, 246, 72), (0, 250, 73), (0, 256, 117), (0, 259, 74), (0, 263, 75), (0, 267, 76), (0, 270, 77), (0, 274, 119), (0, 277, 64), (0, 280, 52), (0, 284, 63), (0, 287, 78), (0, 292, 263), (0, 300, 53), (0, 303, 122), (0, 314, 51), (0, 317, 62), (0, 321, 138), (0, 324, 114), (0, 326, 140), (0, 343, 55), (0, 347, 131), (0, 359, 125), (0, 362, 129), (0, 365, 128), (0, 368, 67), (0, 375, 69), (0, 379, 126), (0, 382, 127), (1, 22, 66), (1, 26, 68), (1, 36, 65), (1, 40, 123), (1, 56, 137), (1, 60, 61), (1, 70, 116), (1, 74, 58), (1, 86, 59), (1, 93, 139), (1, 107, 129), (1, 110, 125), (1, 116, 69), (1, 120, 126), (1, 126, 70), (2, 60, 83), (2, 64, 81), (2, 68, 85), (2, 78, 86), (2, 92, 264), (2, 98, 89), (2, 101, 90), (2, 105, 92), (2, 112, 123), (2, 116, 58), (2, 122, 82), (2, 126, 79), (2, 130, 80), (2, 139, 61), (2, 143, 116), (2, 149, 84), (2, 153, 87), (2, 156, 88), (2, 174, 91), (2, 180, 93), (3, 46, 99), (3, 49, 105), (3, 55, 98), (3, 59, 100), (3, 62, 97), (3, 65, 124), (3, 110, 104), (3, 113, 108), (3, 117, 102), (3, 125, 101), (3, 131, 106), (3, 134, 107), (3, 141, 103), (3, 157, 110), (3, 160, 109), (3, 177, 111), (3, 180, 112), (4, 77, 136), (4, 87, 122), (5, 13, 265), (6, 26, 132), (6, 29, 136), (7, 34, 137), (8, 167, 145), (8, 171, 148), (8, 175, 149), (8, 178, 142), (8, 182, 147), (8, 190, 158), (8, 195, 154), (8, 203, 157), (8, 206, 209), (8, 209, 156), (8, 212, 208), (8, 216, 211), (8, 220, 155), (8, 223, 210), (8, 228, 146), (8, 236, 166), (8, 245, 170), (8, 255, 176), (8, 265, 173), (8, 268, 174), (8, 284, 179), (8, 294, 184), (8, 297, 182), (8, 309, 177), (8, 316, 183), (8, 322, 178), (8, 325, 190), (8, 331, 189), (8, 335, 188), (8, 340, 191), (8, 344, 180), (8, 350, 192), (8, 353, 185), (8, 356, 186), (8, 359, 187), (8, 367, 193), (8, 370, 194), (8, 374, 195), (8, 377, 175), (8, 383, 196), (8, 388, 197), (8, 391, 199), (8, 394, 198), (8, 397, 201), (8, 406, 203), (8, 417, 204), (8, 423, 205), (8, 426, 206), (8, 430, 144), (8, 434, 207), (8, 438, 212), (8, 441, 150), (8, 444, 213), (8, 447, 214), (8, 450, 216), (8, 453, 217), (8, 456, 219), (8, 459, 221), (8, 462, 222), (8, 465, 223), (8, 468, 224), (8, 471, 229), (8, 474, 227), (8, 477, 228), (8, 480, 230), (8, 484, 231), (8, 488, 236), (8, 493, 237), (8, 496, 143), (8, 501, 243), (8, 504, 245), (8, 509, 249), (8, 525, 251), (8, 528, 252), (8, 531, 250), (8, 534, 253), (8, 537, 255), (8, 549, 257), (9, 9, 0), (9, 12, 141), (9, 13, 1), (9, 17, 159), (9, 18, 2), (9, 22, 160), (9, 23, 3), (9, 27, 161), (9, 28, 4), (9, 32, 162), (9, 33, 5), (9, 36, 163), (9, 37, 6), (9, 40, 164), (9, 41, 7), (9, 44, 165), (9, 45, 8), (9, 48, 167), (9, 49, 9), (9, 53, 171), (9, 54, 10), (9, 57, 172), (9, 58, 11), (9, 62, 168), (9, 63, 12), (9, 66, 169), (9, 67, 13), (9, 70, 200), (9, 71, 14), (9, 74, 254), (9, 75, 15), (9, 78, 181), (9, 79, 16), (9, 82, 256), (9, 83, 17), (9, 86, 202), (9, 87, 18), (9, 90, 215), (9, 91, 19), (9, 94, 218), (9, 95, 20), (9, 98, 220), (9, 99, 21), (9, 102, 225), (9, 103, 22), (9, 106, 151), (9, 107, 23), (9, 110, 226), (9, 111, 24), (9, 114, 232), (9, 115, 25), (9, 118, 233), (9, 119, 26), (9, 122, 234), (9, 123, 27), (9, 126, 235), (9, 127, 28), (9, 130, 238), (9, 131, 29), (9, 134, 239), (9, 135, 30), (9, 138, 240), (9, 139, 31), (9, 142, 241), (9, 143, 32), (9, 146, 242), (9, 147, 33), (9, 150, 244), (9, 151, 34), (9, 154, 246), (9, 155, 35), (9, 159, 247), (9, 160, 36), (9, 163, 248), (9, 164, 37), (9, 167, 258), (9, 168, 38), (9, 171, 259), (9, 172, 39), (9, 175, 152), (9, 176, 40), (9, 179, 153), (9, 180, 41), (9, 183, 260), (9, 184, 42), (9, 187, 261)]
def am_mlA_p : List Nat := [259, 276, 384, 467, 470, 474, 478, 486, 490, 494, 554, 557, 561, 565, 566, 574, 582, 585, 597, 601, 609, 629, 824, 829, 834, 910, 855, 918, 938, 950, 994, 1006, 1018, 1051, 1055, 1063, 1071, 881, 1083, 875, 1091, 1104, 1108, 1117, 1123, 859, 865, 1137, 1151, 870, 890, 838, 839, 840, 844, 848, 849, 850, 498, 510, 540, 502, 863, 864, 879, 880, 885, 886, 515, 519, 523, 536, 531, 955, 959, 974, 998, 1022, 1025, 1030, 1038, 972, 973, 964, 1095, 969, 963, 968, 978, 982, 986, 1034, 1042, 633, 638, 647, 781, 706, 787, 642, 710, 744, 740, 760, 764, 776, 714, 748, 720, 732, 1142, 506, 791, 894, 833, 869, 1367, 1663, 1371, 1379, 1386, 1394, 1405, 1411, 1415, 1449, 1452, 1460, 1472, 1475, 1484, 1492, 1509, 1533, 1537, 1540, 1555, 1609, 1597, 1551, 1568, 1572, 1576, 1584, 1588, 1593, 1601, 1580, 1612, 1616, 1620, 1563, 1605, 1628, 1529, 1559, 1525, 1547, 1635, 1643, 1432, 1428, 1424, 1419, 1438, 1456, 1655, 1659, 1667, 1651, 1679, 1675, 1687, 1703, 1707, 1699, 1695, 1727, 1735, 1719, 1723, 1731, 1761, 1757, 1773, 1789, 1797, 1818, 1828, 1832, 1814, 1824, 1836, 1848, 130, 1161, 463, 1390, 482, 1401, 546, 1441, 550, 1445, 570, 1464, 578, 1468, 589, 1479, 593, 1488, 605, 1505, 613, 1513, 617, 1497, 621, 1501, 625, 1521, 820, 1810, 898, 1517, 902, 1840, 906, 1639, 914, 1647, 922, 1671, 926, 1683, 930, 1691, 934, 1363, 942, 1711, 946, 1715, 990, 1739, 1002, 1744, 1010, 1748, 1014, 1752, 1047, 1765, 1059, 1769, 1067, 1776, 1075, 1780, 1079, 1785, 1087, 1793, 1099, 1801, 1113, 1806, 1118, 1844, 1129, 1855, 1133, 1375, 1143, 1382, 1147, 1860, 1155, 1866]
set_option maxRecDepth 100000 in
set_option maxHeartbeats 4000000 in
theorem am_mlA_all : ((am_mlA).zip am_mlA_p).all (fun x => decide (lw_tbl[x.2]? = some (Cond.methodLink (am_ocn x.1.1) x.1.2.1 (am_yn x.1.2.2))) && goodWord (Cond.methodLink (am_ocn x.1.1) x.1.2.1 (am_yn x.1.2.2))) = true ∧ (am_mlA).length = am_mlA_p.length := by decide +kernel
theorem am_mlA_ok {q : Nat × Nat × Nat} (h : q ∈ am_mlA) : (Cond.methodLink (am_ocn q.1) q.2.1 (am_yn q.2.2)) ∈ am_gT := by
  obtain ⟨ha, hl⟩ := am_mlA_all
  obtain ⟨k, hk⟩ := List.getElem?_of_mem h
  have hlt : k < am_mlA_p.length := by rw [← hl]; exact (List.getElem?_eq_some_iff.mp hk).1
  have hz : (q, am_mlA_p[k]) ∈ (am_mlA).zip am_mlA_p := by
    refine List.mem_of_getElem? (i := k) ?_
    rw [List.getElem?_zip_eq_some]
    exact ⟨hk, List.getElem?_eq_getElem hlt⟩
  have h1 := List.all_eq_true.mp ha _ hz
  simp only [Bool.and_eq_true, decide_eq_true_eq] at h1
  exact am_gT_of h1.1 h1.2
def am_mlN : List (Nat × Nat × Nat) := [(0, 11, 113), (0, 46, 94), (0, 63, 135), (4, 54, 135), (6, 21, 135)]
-- hosts: ['()V" } : Jvm.MethodName) "NightMirrors")', '()V" } : Jvm.MethodName) "NightMirrors")', '()V" } : Jvm.MethodName) "NightMirrors")', '()V" } : Jvm.MethodName) "NightMirrors")', '()V" } : Jvm.MethodName) "NightMirrors")']
def am_ki_p : List Nat := [1122, 854, 514, 527, 1397, 1743]
set_option maxRecDepth 100000 in
set_option maxHeartbeats 4000000 in
theorem am_ki_all : ((am_ki).zip am_ki_p).all (fun x => decide (lw_tbl[x.2]? = some (Cond.constant (am_ocn x.1.1) x.1.2.1 (Int32.ofInt x.1.2.2))) && goodWord (Cond.constant (am_ocn x.1.1) x.1.2.1 (Int32.ofInt x.1.2.2))) = true ∧ (am_ki).length = am_ki_p.length := by decide +kernel
theorem am_ki_ok {q : Nat × Nat × Int} (h : q ∈ am_ki) : (Cond.constant (am_ocn q.1) q.2.1 (Int32.ofInt q.2.2)) ∈ am_gT := by
  obtain ⟨ha, hl⟩ := am_ki_all
  obtain ⟨k, hk⟩ := List.getElem?_of_mem h
  have hlt : k < am_ki_p.length := by rw [← hl]; exact (List.getElem?_eq_some_iff.mp hk).1
  have hz : (q, am_ki_p[k]) ∈ (am_ki).zip am_ki_p := by
    refine List.mem_of_getElem? (i := k) ?_
    rw [List.getElem?_zip_eq_some]
    exact ⟨hk, List.getElem?_eq_getElem hlt⟩
  have h1 := List.all_eq_true.mp ha _ hz
  simp only [Bool.and_eq_true, decide_eq_true_eq] at h1
  exact am_gT_of h1.1 h1.2
def am_kl_p : List Nat := [1103, 1107, 1126, 1127, 1128, 1112, 534, 535, 1165, 1166, 1167, 1168, 1169, 1170, 1171, 1172, 1173, 1174, 1175, 1176, 1177, 1178, 1179, 1180, 1181, 1182, 1183, 1184, 1399, 1398, 1400, 1409, 1410, 1483, 1495, 1496, 1543, 1544, 1423, 1545, 1546, 1624, 1625, 1626, 1627, 1592, 1567, 1632, 1633, 1634, 1436, 1437, 1756, 1784, 1805, 1822, 1823, 1852, 1853, 1854, 1859, 1864, 1865]
set_option maxRecDepth 100000 in
set_option maxHeartbeats 4000000 in
theorem am_kl_all : ((am_kl).zip am_kl_p).all (fun x => decide (lw_tbl[x.2]? = some (Cond.constantLong (am_ocn x.1.1) x.1.2.1 (Int64.ofInt x.1.2.2))) && goodWord (Cond.constantLong (am_ocn x.1.1) x.1.2.1 (Int64.ofInt x.1.2.2))) = true ∧ (am_kl).length = am_kl_p.length := by decide +kernel
theorem am_kl_ok {q : Nat × Nat × Int} (h : q ∈ am_kl) : (Cond.constantLong (am_ocn q.1) q.2.1 (Int64.ofInt q.2.2)) ∈ am_gT := by
  obtain ⟨ha, hl⟩ := am_kl_all
  obtain ⟨k, hk⟩ := List.getElem?_of_mem h
  have hlt : k < am_kl_p.length := by rw [← hl]; exact (List.getElem?_eq_some_iff.mp hk).1
  have hz : (q, am_kl_p[k]) ∈ (am_kl).zip am_kl_p := by
    refine List.mem_of_getElem? (i := k) ?_
    rw [List.getElem?_zip_eq_some]
    exact ⟨hk, List.getElem?_eq_getElem hlt⟩
  have h1 := List.all_eq_true.mp ha _ hz
  simp only [Bool.and_eq_true, decide_eq_true_eq] at h1
  exact am_gT_of h1.1 h1.2
def am_kc_p : List Nat := [136, 257, 274, 333, 382, 402, 785, 142, 144, 388, 128, 1159]
set_option maxRecDepth 100000 in
set_option maxHeartbeats 4000000 in
theorem am_kc_all : ((am_kc).zip am_kc_p).all (fun x => decide (lw_tbl[x.2]? = some (Cond.classLink (am_ocn x.1.1) x.1.2.1 (am_ocn x.1.2.2))) && goodWord (Cond.classLink (am_ocn x.1.1) x.1.2.1 (am_ocn x.1.2.2))) = true ∧ (am_kc).length = am_kc_p.length := by decide +kernel
theorem am_kc_ok {q : Nat × Nat × Nat} (h : q ∈ am_kc) : (Cond.classLink (am_ocn q.1) q.2.1 (am_ocn q.2.2)) ∈ am_gT := by
  obtain ⟨ha, hl⟩ := am_kc_all
  obtain ⟨k, hk⟩ := List.getElem?_of_mem h
  have hlt : k < am_kc_p.length := by rw [← hl]; exact (List.getElem?_eq_some_iff.mp hk).1
  have hz : (q, am_kc_p[k]) ∈ (am_kc).zip am_kc_p := by
    refine List.mem_of_getElem? (i := k) ?_
    rw [List.getElem?_zip_eq_some]
    exact ⟨hk, List.getElem?_eq_getElem hlt⟩
  have h1 := List.all_eq_true.mp ha _ hz
  simp only [Bool.and_eq_true, decide_eq_true_eq] at h1
  exact am_gT_of h1.1 h1.2
def am_sm : List Nat := [48, 49, 50, 51, 65, 70, 80, 142, 143, 144, 155, 156, 158, 166, 173, 174, 184, 263, 264, 265]
def am_sm_p : List Nat := [583, 555, 468, 1124, 541, 532, 970, 1380, 1774, 1439, 1473, 1450, 1395, 1493, 1538, 1541, 1610, 1105, 1023, 792]
set_option maxRecDepth 100000 in
set_option maxHeartbeats 4000000 in
theorem am_sm_all : ((am_sm).zip am_sm_p).all (fun x => decide (lw_tbl[x.2]? = some (Cond.static (am_yn x.1))) && goodWord (Cond.static (am_yn x.1))) = true ∧ (am_sm).length = am_sm_p.length := by decide +kernel
theorem am_sm_ok {q : Nat} (h : q ∈ am_sm) : (Cond.static (am_yn q)) ∈ am_gT := by
  obtain ⟨ha, hl⟩ := am_sm_all
  obtain ⟨k, hk⟩ := List.getElem?_of_mem h
  have hlt : k < am_sm_p.length := by rw [← hl]; exact (List.getElem?_eq_some_iff.mp hk).1
  have hz : (q, am_sm_p[k]) ∈ (am_sm).zip am_sm_p := by
    refine List.mem_of_getElem? (i := k) ?_
    rw [List.getElem?_zip_eq_some]
    exact ⟨hk, List.getElem?_eq_getElem hlt⟩
  have h1 := List.all_eq_true.mp ha _ hz
  simp only [Bool.and_eq_true, decide_eq_true_eq] at h1
  exact am_gT_of h1.1 h1.2
def am_im : List Nat := [0, 1, 2, 3, 4, 5, 6, 7, 8, 9, 10, 11, 12, 13, 14, 15, 16, 17, 18, 19, 20, 21, 22, 23, 24, 25, 26, 27, 28, 29, 30, 31, 32, 33, 34, 35, 36, 37, 38, 39, 40, 41, 42, 43, 44, 45, 46, 47, 52, 53, 54, 55, 56, 57, 58, 59, 60, 61, 62, 63, 64, 66, 67, 68, 69, 71, 72, 73, 74, 75, 76, 77, 78, 79, 81, 82, 83, 84, 85, 86, 87, 88, 89, 90, 91, 92, 93, 94, 95, 96, 97, 98, 99, 100, 101, 102, 103, 104, 105, 106, 107, 108, 109, 110, 111, 112, 113, 114, 115, 116, 117, 118, 119, 120, 121, 122, 123, 124, 125, 126, 127, 128, 129, 130, 131, 132, 133, 134, 135, 136, 137, 138, 139, 140, 141, 145, 146, 147, 148, 149, 150, 151, 152, 153, 154, 157, 159, 160, 161, 162, 163, 164, 165, 167, 168, 169, 170, 171, 172, 175, 176, 177, 178, 179, 180, 181, 182, 183, 185, 186, 187, 188, 189, 190, 191, 192, 193, 194, 195, 196, 197, 198, 199, 200, 201, 202, 203, 204, 205, 206, 207, 208, 209, 210, 211, 212, 213, 214, 215, 216, 217, 218, 219, 220, 221, 222, 223, 224, 225, 226, 227, 228, 229, 230, 231, 232, 233, 234, 235, 236, 237, 238, 239, 240, 241, 242, 243, 244, 245, 246, 247, 248, 249, 250, 251, 252, 253, 254, 255, 256, 257, 258, 259, 260, 261]
def am_im_p : List Nat := [131, 464, 483, 547, 551, 571, 579, 590, 594, 606, 614, 618, 622, 626, 821, 899, 903, 907, 915, 923, 927, 931, 935, 943, 947, 991, 1003, 1011, 1015, 1048, 1060, 1068, 1076, 1080, 1088, 1100, 1114, 1119, 1130, 1134, 1144, 1148, 1156, 472, 480, 920, 488, 912, 1085, 1110, 857, 872, 836, 260, 567, 495, 586, 558, 860, 876, 882, 500, 845, 512, 524, 277, 951, 995, 1019, 1052, 1056, 1064, 1092, 1097, 961, 966, 957, 980, 976, 1000, 984, 988, 1027, 1032, 1036, 1040, 1044, 336, 610, 630, 708, 649, 635, 783, 742, 746, 778, 644, 640, 762, 766, 712, 750, 716, 722, 734, 139, 1138, 475, 562, 1007, 575, 1072, 598, 602, 507, 503, 788, 520, 537, 851, 841, 516, 385, 891, 896, 939, 830, 147, 825, 491, 866, 887, 1152, 1162, 1369, 1486, 1388, 1665, 1373, 1661, 1364, 1376, 1383, 1407, 1413, 1391, 1402, 1442, 1446, 1465, 1469, 1480, 1489, 1498, 1502, 1511, 1506, 1514, 1531, 1535, 1553, 1574, 1557, 1603, 1518, 1599, 1570, 1614, 1618, 1622, 1590, 1586, 1578, 1595, 1582, 1565, 1607, 1630, 1561, 1527, 1637, 1549, 1522, 1645, 1640, 1434, 1430, 1426, 1421, 1458, 1454, 1417, 1477, 1462, 1657, 1669, 1653, 1648, 1681, 1677, 1672, 1689, 1684, 1705, 1709, 1701, 1697, 1692, 1712, 1737, 1721, 1729, 1725, 1733, 1716, 1740, 1745, 1749, 1763, 1759, 1753, 1766, 1770, 1777, 1781, 1791, 1786, 1799, 1794, 1802, 1807, 1820, 1816, 1830, 1834, 1826, 1811, 1838, 1841, 1850, 1845, 1856, 1861, 1867]
set_option maxRecDepth 100000 in
set_option maxHeartbeats 4000000 in
theorem am_im_all : ((am_im).zip am_im_p).all (fun x => decide (lw_tbl[x.2]? = some (Cond.instanceMethod (am_yn x.1))) && goodWord (Cond.instanceMethod (am_yn x.1))) = true ∧ (am_im).length = am_im_p.length := by decide +kernel
theorem am_im_ok {q : Nat} (h : q ∈ am_im) : (Cond.instanceMethod (am_yn q)) ∈ am_gT := by
  obtain ⟨ha, hl⟩ := am_im_all
  obtain ⟨k, hk⟩ := List.getElem?_of_mem h
  have hlt : k < am_im_p.length := by rw [← hl]; exact (List.getElem?_eq_some_iff.mp hk).1
  have hz : (q, am_im_p[k]) ∈ (am_im).zip am_im_p := by
    refine List.mem_of_getElem? (i := k) ?_
    rw [List.getElem?_zip_eq_some]
    exact ⟨hk, List.getElem?_eq_getElem hlt⟩
  have h1 := List.all_eq_true.mp ha _ hz
  simp only [Bool.and_eq_true, decide_eq_true_eq] at h1
  exact am_gT_of h1.1 h1.2
def am_vm : List Nat := [1, 2, 3, 4, 5, 6, 7, 8, 9, 10, 11, 12, 13, 14, 15, 16, 17, 18, 19, 20, 21, 22, 23, 24, 25, 26, 27, 28, 29, 30, 31, 32, 33, 34, 35, 36, 37, 38, 39, 40, 41, 42, 43, 44, 45, 46, 47, 52, 53, 54, 55, 56, 58, 59, 60, 61, 62, 63, 64, 66, 67, 68, 69, 72, 73, 74, 75, 76, 77, 78, 79, 81, 82, 83, 84, 85, 86, 87, 88, 89, 90, 91, 92, 93, 95, 96, 97, 98, 99, 100, 101, 102, 103, 104, 105, 106, 107, 108, 109, 110, 111, 112, 114, 115, 116, 117, 118, 119, 120, 121, 122, 123, 125, 126, 127, 128, 129, 131, 132, 133, 134, 136, 137, 138, 139, 140, 145, 146, 147, 148, 149, 150, 151, 152, 153, 154, 157, 159, 160, 161, 162, 163, 164, 165, 167, 168, 169, 170, 171, 172, 175, 176, 177, 178, 179, 180, 181, 182, 183, 185, 186, 187, 188, 189, 190, 191, 192, 193, 194, 195, 196, 197, 198, 199, 200, 201, 202, 203, 204, 205, 206, 207, 208, 209, 210, 211, 212, 213, 214, 215, 216, 217, 218, 219, 220, 221, 222, 223, 224, 225, 226, 227, 228, 229, 230, 231, 232, 233, 234, 235, 236, 237, 238, 239, 240, 241, 242, 243, 244, 245, 246, 247, 248, 249, 250, 251, 252, 253, 254, 255, 256, 257, 258, 259, 260, 261]
def am_vm_p : List Nat := [465, 484, 548, 552, 572, 580, 591, 595, 607, 615, 619, 623, 627, 822, 900, 904, 908, 916, 924, 928, 932, 936, 944, 948, 992, 1004, 1012, 1016, 1049, 1061, 1069, 1077, 1081, 1089, 1101, 1115, 1120, 1131, 1135, 1145, 1149, 1157, 0, 1, 26, 2, 25, 40, 42, 22, 23, 21, 568, 496, 587, 559, 861, 877, 883, 3, 846, 4, 525, 952, 996, 1020, 1053, 1057, 1065, 1093, 41, 28, 29, 27, 31, 30, 34, 32, 33, 35, 36, 37, 38, 39, 611, 631, 9, 8, 5, 20, 14, 15, 19, 7, 6, 17, 18, 10, 16, 11, 12, 13, 1139, 476, 563, 1008, 576, 1073, 599, 603, 508, 504, 521, 538, 852, 842, 517, 892, 24, 940, 831, 826, 492, 867, 888, 1153, 43, 57, 45, 86, 44, 85, 1365, 1377, 1384, 46, 47, 1392, 1403, 1443, 1447, 1466, 1470, 1481, 1490, 1499, 1503, 58, 1507, 1515, 60, 61, 63, 68, 64, 75, 1519, 74, 67, 77, 78, 79, 72, 71, 69, 73, 70, 66, 76, 80, 65, 59, 81, 62, 1523, 82, 1641, 52, 51, 50, 49, 54, 53, 48, 56, 55, 84, 87, 83, 1649, 89, 88, 1673, 90, 1685, 93, 94, 92, 91, 1693, 1713, 99, 95, 97, 96, 98, 1717, 1741, 1746, 1750, 101, 100, 1754, 1767, 1771, 1778, 1782, 102, 1787, 103, 1795, 1803, 1808, 105, 104, 107, 108, 106, 1812, 109, 1842, 110, 1846, 1857, 1862, 1868]
set_option maxRecDepth 100000 in
set_option maxHeartbeats 4000000 in
theorem am_vm_all : ((am_vm).zip am_vm_p).all (fun x => decide (lw_tbl[x.2]? = some (Cond.selects (am_on x.1) (am_yn x.1) (am_yn x.1))) && goodWord (Cond.selects (am_on x.1) (am_yn x.1) (am_yn x.1))) = true ∧ (am_vm).length = am_vm_p.length := by decide +kernel
theorem am_vm_ok {q : Nat} (h : q ∈ am_vm) : (Cond.selects (am_on q) (am_yn q) (am_yn q)) ∈ am_gT := by
  obtain ⟨ha, hl⟩ := am_vm_all
  obtain ⟨k, hk⟩ := List.getElem?_of_mem h
  have hlt : k < am_vm_p.length := by rw [← hl]; exact (List.getElem?_eq_some_iff.mp hk).1
  have hz : (q, am_vm_p[k]) ∈ (am_vm).zip am_vm_p := by
    refine List.mem_of_getElem? (i := k) ?_
    rw [List.getElem?_zip_eq_some]
    exact ⟨hk, List.getElem?_eq_getElem hlt⟩
  have h1 := List.all_eq_true.mp ha _ hz
  simp only [Bool.and_eq_true, decide_eq_true_eq] at h1
  exact am_gT_of h1.1 h1.2
def am_ic : List Nat := [0, 1, 2, 3, 4, 5, 6, 7, 8, 9, 10]
def am_ic_p : List Nat := [112, 115, 116, 117, 113, 125, 118, 114, 119, 111, 126]
set_option maxRecDepth 100000 in
set_option maxHeartbeats 4000000 in
theorem am_ic_all : ((am_ic).zip am_ic_p).all (fun x => decide (lw_tbl[x.2]? = some (Cond.initialized (am_ocn x.1))) && goodWord (Cond.initialized (am_ocn x.1))) = true ∧ (am_ic).length = am_ic_p.length := by decide +kernel
theorem am_ic_ok {q : Nat} (h : q ∈ am_ic) : (Cond.initialized (am_ocn q)) ∈ am_gT := by
  obtain ⟨ha, hl⟩ := am_ic_all
  obtain ⟨k, hk⟩ := List.getElem?_of_mem h
  have hlt : k < am_ic_p.length := by rw [← hl]; exact (List.getElem?_eq_some_iff.mp hk).1
  have hz : (q, am_ic_p[k]) ∈ (am_ic).zip am_ic_p := by
    refine List.mem_of_getElem? (i := k) ?_
    rw [List.getElem?_zip_eq_some]
    exact ⟨hk, List.getElem?_eq_getElem hlt⟩
  have h1 := List.all_eq_true.mp ha _ hz
  simp only [Bool.and_eq_true, decide_eq_true_eq] at h1
  exact am_gT_of h1.1 h1.2
-- not initialised: []
def am_nc : List (Nat × Nat) := [(0, 19), (1, 3), (2, 17), (3, 13), (4, 17), (5, 3), (6, 3), (7, 5), (8, 59)]
def am_nc_p : List Nat := [129, 258, 275, 334, 137, 786, 383, 145, 1160]
set_option maxRecDepth 100000 in
set_option maxHeartbeats 4000000 in
theorem am_nc_all : ((am_nc).zip am_nc_p).all (fun x => decide (lw_tbl[x.2]? = some (Cond.instantiable (am_ocn x.1.1) x.1.2)) && goodWord (Cond.instantiable (am_ocn x.1.1) x.1.2)) = true ∧ (am_nc).length = am_nc_p.length := by decide +kernel
theorem am_nc_ok {q : Nat × Nat} (h : q ∈ am_nc) : (Cond.instantiable (am_ocn q.1) q.2) ∈ am_gT := by
  obtain ⟨ha, hl⟩ := am_nc_all
  obtain ⟨k, hk⟩ := List.getElem?_of_mem h
  have hlt : k < am_nc_p.length := by rw [← hl]; exact (List.getElem?_eq_some_iff.mp hk).1
  have hz : (q, am_nc_p[k]) ∈ (am_nc).zip am_nc_p := by
    refine List.mem_of_getElem? (i := k) ?_
    rw [List.getElem?_zip_eq_some]
    exact ⟨hk, List.getElem?_eq_getElem hlt⟩
  have h1 := List.all_eq_true.mp ha _ hz
  simp only [Bool.and_eq_true, decide_eq_true_eq] at h1
  exact am_gT_of h1.1 h1.2
def am_u0_p : List Nat := [423, 425, 427, 429, 431, 433, 435, 437, 439, 441, 443, 445, 447, 449, 451, 453, 455, 457, 459]
set_option maxRecDepth 100000 in
theorem am_u0_all : ((u_ws am_R0 am_T0 19).zip am_u0_p).all (fun x => decide (lw_tbl[x.2]? = some x.1) && goodWord x.1) = true ∧ (u_ws am_R0 am_T0 19).length = am_u0_p.length := by decide +kernel
theorem am_u0 : ∀ w ∈ u_ws am_R0 am_T0 19, w ∈ am_gT := by
  intro q h
  obtain ⟨ha, hl⟩ := am_u0_all
  obtain ⟨k, hk⟩ := List.getElem?_of_mem h
  have hlt : k < am_u0_p.length := by rw [← hl]; exact (List.getElem?_eq_some_iff.mp hk).1
  have hz : (q, am_u0_p[k]) ∈ (u_ws am_R0 am_T0 19).zip am_u0_p := by
    refine List.mem_of_getElem? (i := k) ?_
    rw [List.getElem?_zip_eq_some]
    exact ⟨hk, List.getElem?_eq_getElem hlt⟩
  have h1 := List.all_eq_true.mp ha _ hz
  simp only [Bool.and_eq_true, decide_eq_true_eq] at h1
  exact am_gT_of h1.1 h1.2
def am_u1_p : List Nat := [266, 268, 270]
set_option maxRecDepth 100000 in
theorem am_u1_all : ((u_ws am_R1 am_T1 3).zip am_u1_p).all (fun x => decide (lw_tbl[x.2]? = some x.1) && goodWord x.1) = true ∧ (u_ws am_R1 am_T1 3).length = am_u1_p.length := by decide +kernel
theorem am_u1 : ∀ w ∈ u_ws am_R1 am_T1 3, w ∈ am_gT := by
  intro q h
  obtain ⟨ha, hl⟩ := am_u1_all
  obtain ⟨k, hk⟩ := List.getElem?_of_mem h
  have hlt : k < am_u1_p.length := by rw [← hl]; exact (List.getElem?_eq_some_iff.mp hk).1
  have hz : (q, am_u1_p[k]) ∈ (u_ws am_R1 am_T1 3).zip am_u1_p := by
    refine List.mem_of_getElem? (i := k) ?_
    rw [List.getElem?_zip_eq_some]
    exact ⟨hk, List.getElem?_eq_getElem hlt⟩
  have h1 := List.all_eq_true.mp ha _ hz
  simp only [Bool.and_eq_true, decide_eq_true_eq] at h1
  exact am_gT_of h1.1 h1.2
def am_u2_p : List Nat := [298, 300, 302, 304, 306, 308, 310, 312, 314, 316, 318, 320, 322, 324, 326, 328, 330]
set_option maxRecDepth 100000 in
theorem am_u2_all : ((u_ws am_R2 am_T2 17).zip am_u2_p).all (fun x => decide (lw_tbl[x.2]? = some x.1) && goodWord x.1) = true ∧ (u_ws am_R2 am_T2 17).length = am_u2_p.length := by decide +kernel
theorem am_u2 : ∀ w ∈ u_ws am_R2 am_T2 17, w ∈ am_gT := by
  intro q h
  obtain ⟨ha, hl⟩ := am_u2_all
  obtain ⟨k, hk⟩ := List.getElem?_of_mem h
  have hlt : k < am_u2_p.length := by rw [← hl]; exact (List.getElem?_eq_some_iff.mp hk).1
  have hz : (q, am_u2_p[k]) ∈ (u_ws am_R2 am_T2 17).zip am_u2_p := by
    refine List.mem_of_getElem? (i := k) ?_
    rw [List.getElem?_zip_eq_some]
    exact ⟨hk, List.getElem?_eq_getElem hlt⟩
  have h1 := List.all_eq_true.mp ha _ hz
  simp only [Bool.and_eq_true, decide_eq_true_eq] at h1
  exact am_gT_of h1.1 h1.2
def am_u3_p : List Nat := [355, 357, 359, 361, 363, 365, 367, 369, 371, 373, 375, 377, 379]
set_option maxRecDepth 100000 in
theorem am_u3_all : ((u_ws am_R3 am_T3 13).zip am_u3_p).all (fun x => decide (lw_tbl[x.2]? = some x.1) && goodWord x.1) = true ∧ (u_ws am_R3 am_T3 13).length = am_u3_p.length := by decide +kernel
theorem am_u3 : ∀ w ∈ u_ws am_R3 am_T3 13, w ∈ am_gT := by
  intro q h
  obtain ⟨ha, hl⟩ := am_u3_all
  obtain ⟨k, hk⟩ := List.getElem?_of_mem h
  have hlt : k < am_u3_p.length := by rw [← hl]; exact (List.getElem?_eq_some_iff.mp hk).1
  have hz : (q, am_u3_p[k]) ∈ (u_ws am_R3 am_T3 13).zip am_u3_p := by
    refine List.mem_of_getElem? (i := k) ?_
    rw [List.getElem?_zip_eq_some]
    exact ⟨hk, List.getElem?_eq_getElem hlt⟩
  have h1 := List.all_eq_true.mp ha _ hz
  simp only [Bool.and_eq_true, decide_eq_true_eq] at h1
  exact am_gT_of h1.1 h1.2
def am_u4_p : List Nat := [221, 223, 225, 227, 229, 231, 233, 235, 237, 239, 241, 243, 245, 247, 249, 251, 253]
set_option maxRecDepth 100000 in
theorem am_u4_all : ((u_ws am_R4 am_T4 17).zip am_u4_p).all (fun x => decide (lw_tbl[x.2]? = some x.1) && goodWord x.1) = true ∧ (u_ws am_R4 am_T4 17).length = am_u4_p.length := by decide +kernel
theorem am_u4 : ∀ w ∈ u_ws am_R4 am_T4 17, w ∈ am_gT := by
  intro q h
  obtain ⟨ha, hl⟩ := am_u4_all
  obtain ⟨k, hk⟩ := List.getElem?_of_mem h
  have hlt : k < am_u4_p.length := by rw [← hl]; exact (List.getElem?_eq_some_iff.mp hk).1
  have hz : (q, am_u4_p[k]) ∈ (u_ws am_R4 am_T4 17).zip am_u4_p := by
    refine List.mem_of_getElem? (i := k) ?_
    rw [List.getElem?_zip_eq_some]
    exact ⟨hk, List.getElem?_eq_getElem hlt⟩
  have h1 := List.all_eq_true.mp ha _ hz
  simp only [Bool.and_eq_true, decide_eq_true_eq] at h1
  exact am_gT_of h1.1 h1.2
def am_u5_p : List Nat := [812, 814, 816]
set_option maxRecDepth 100000 in
theorem am_u5_all : ((u_ws am_R5 am_T5 3).zip am_u5_p).all (fun x => decide (lw_tbl[x.2]? = some x.1) && goodWord x.1) = true ∧ (u_ws am_R5 am_T5 3).length = am_u5_p.length := by decide +kernel
theorem am_u5 : ∀ w ∈ u_ws am_R5 am_T5 3, w ∈ am_gT := by
  intro q h
  obtain ⟨ha, hl⟩ := am_u5_all
  obtain ⟨k, hk⟩ := List.getElem?_of_mem h
  have hlt : k < am_u5_p.length := by rw [← hl]; exact (List.getElem?_eq_some_iff.mp hk).1
  have hz : (q, am_u5_p[k]) ∈ (u_ws am_R5 am_T5 3).zip am_u5_p := by
    refine List.mem_of_getElem? (i := k) ?_
    rw [List.getElem?_zip_eq_some]
    exact ⟨hk, List.getElem?_eq_getElem hlt⟩
  have h1 := List.all_eq_true.mp ha _ hz
  simp only [Bool.and_eq_true, decide_eq_true_eq] at h1
  exact am_gT_of h1.1 h1.2
def am_u6_p : List Nat := [395, 397, 399]
set_option maxRecDepth 100000 in
theorem am_u6_all : ((u_ws am_R6 am_T6 3).zip am_u6_p).all (fun x => decide (lw_tbl[x.2]? = some x.1) && goodWord x.1) = true ∧ (u_ws am_R6 am_T6 3).length = am_u6_p.length := by decide +kernel
theorem am_u6 : ∀ w ∈ u_ws am_R6 am_T6 3, w ∈ am_gT := by
  intro q h
  obtain ⟨ha, hl⟩ := am_u6_all
  obtain ⟨k, hk⟩ := List.getElem?_of_mem h
  have hlt : k < am_u6_p.length := by rw [← hl]; exact (List.getElem?_eq_some_iff.mp hk).1
  have hz : (q, am_u6_p[k]) ∈ (u_ws am_R6 am_T6 3).zip am_u6_p := by
    refine List.mem_of_getElem? (i := k) ?_
    rw [List.getElem?_zip_eq_some]
    exact ⟨hk, List.getElem?_eq_getElem hlt⟩
  have h1 := List.all_eq_true.mp ha _ hz
  simp only [Bool.and_eq_true, decide_eq_true_eq] at h1
  exact am_gT_of h1.1 h1.2
def am_u7_p : List Nat := [168, 170, 172, 174, 176]
set_option maxRecDepth 100000 in
theorem am_u7_all : ((u_ws am_R7 am_T7 5).zip am_u7_p).all (fun x => decide (lw_tbl[x.2]? = some x.1) && goodWord x.1) = true ∧ (u_ws am_R7 am_T7 5).length = am_u7_p.length := by decide +kernel
theorem am_u7 : ∀ w ∈ u_ws am_R7 am_T7 5, w ∈ am_gT := by
  intro q h
  obtain ⟨ha, hl⟩ := am_u7_all
  obtain ⟨k, hk⟩ := List.getElem?_of_mem h
  have hlt : k < am_u7_p.length := by rw [← hl]; exact (List.getElem?_eq_some_iff.mp hk).1
  have hz : (q, am_u7_p[k]) ∈ (u_ws am_R7 am_T7 5).zip am_u7_p := by
    refine List.mem_of_getElem? (i := k) ?_
    rw [List.getElem?_zip_eq_some]
    exact ⟨hk, List.getElem?_eq_getElem hlt⟩
  have h1 := List.all_eq_true.mp ha _ hz
  simp only [Bool.and_eq_true, decide_eq_true_eq] at h1
  exact am_gT_of h1.1 h1.2
def am_u8_p : List Nat := [1244, 1246, 1248, 1250, 1252, 1254, 1256, 1258, 1260, 1262, 1264, 1266, 1268, 1270, 1272, 1274, 1276, 1278, 1280, 1282, 1284, 1286, 1288, 1290, 1292, 1294, 1296, 1298, 1300, 1302, 1304, 1306, 1308, 1310, 1312, 1314, 1316, 1318, 1320, 1322, 1324, 1326, 1328, 1330, 1332, 1334, 1336, 1338, 1340, 1342, 1344, 1346, 1348, 1350, 1352, 1354, 1356, 1358, 1360]
set_option maxRecDepth 100000 in
theorem am_u8_all : ((u_ws am_R8 am_T8 59).zip am_u8_p).all (fun x => decide (lw_tbl[x.2]? = some x.1) && goodWord x.1) = true ∧ (u_ws am_R8 am_T8 59).length = am_u8_p.length := by decide +kernel
theorem am_u8 : ∀ w ∈ u_ws am_R8 am_T8 59, w ∈ am_gT := by
  intro q h
  obtain ⟨ha, hl⟩ := am_u8_all
  obtain ⟨k, hk⟩ := List.getElem?_of_mem h
  have hlt : k < am_u8_p.length := by rw [← hl]; exact (List.getElem?_eq_some_iff.mp hk).1
  have hz : (q, am_u8_p[k]) ∈ (u_ws am_R8 am_T8 59).zip am_u8_p := by
    refine List.mem_of_getElem? (i := k) ?_
    rw [List.getElem?_zip_eq_some]
    exact ⟨hk, List.getElem?_eq_getElem hlt⟩
  have h1 := List.all_eq_true.mp ha _ hz
  simp only [Bool.and_eq_true, decide_eq_true_eq] at h1
  exact am_gT_of h1.1 h1.2
set_option maxRecDepth 100000 in
set_option maxHeartbeats 4000000 in
theorem am_cd0 : ([132, 466, 485, 549, 553, 573, 581, 592, 596, 608, 616, 620, 624, 628, 823, 901, 905, 909, 917, 925, 929, 933, 937, 945, 949, 993, 1005, 1013, 1017, 1050, 1062, 1070, 1078, 1082, 1090, 1102, 1116, 1121, 1132, 1136] : List Nat).map (fun i => lw_tbl[i]?) = ([0, 1, 2, 3, 4, 5, 6, 7, 8, 9, 10, 11, 12, 13, 14, 15, 16, 17, 18, 19, 20, 21, 22, 23, 24, 25, 26, 27, 28, 29, 30, 31, 32, 33, 34, 35, 36, 37, 38, 39] : List Nat).map (fun mi => some (Cond.code (am_yn mi) (am_by mi) (am_mx mi) (am_rt mi))) := rfl
set_option maxRecDepth 100000 in
set_option maxHeartbeats 4000000 in
theorem am_cd1 : ([1146, 1150, 1158, 473, 481, 921, 489, 913, 584, 556, 469, 1125, 1086, 1111, 858, 873, 837, 261, 569, 497, 588, 560, 862, 878, 884, 542, 501, 847, 513, 526, 533, 278, 953, 997, 1021, 1054, 1058, 1066, 1094, 1098] : List Nat).map (fun i => lw_tbl[i]?) = ([40, 41, 42, 43, 44, 45, 46, 47, 48, 49, 50, 51, 52, 53, 54, 55, 56, 57, 58, 59, 60, 61, 62, 63, 64, 65, 66, 67, 68, 69, 70, 71, 72, 73, 74, 75, 76, 77, 78, 79] : List Nat).map (fun mi => some (Cond.code (am_yn mi) (am_by mi) (am_mx mi) (am_rt mi))) := rfl
set_option maxRecDepth 100000 in
set_option maxHeartbeats 4000000 in
theorem am_cd2 : ([971, 962, 967, 958, 981, 977, 1001, 985, 989, 1028, 1033, 1037, 1041, 1045, 337, 612, 632, 709, 650, 636, 784, 743, 747, 779, 645, 641, 763, 767, 713, 751, 717, 723, 735, 140, 1140, 477, 564, 1009, 577, 1074] : List Nat).map (fun i => lw_tbl[i]?) = ([80, 81, 82, 83, 84, 85, 86, 87, 88, 89, 90, 91, 92, 93, 94, 95, 96, 97, 98, 99, 100, 101, 102, 103, 104, 105, 106, 107, 108, 109, 110, 111, 112, 113, 114, 115, 116, 117, 118, 119] : List Nat).map (fun mi => some (Cond.code (am_yn mi) (am_by mi) (am_mx mi) (am_rt mi))) := rfl
set_option maxRecDepth 100000 in
set_option maxHeartbeats 4000000 in
theorem am_cd3 : ([600, 604, 509, 505, 789, 522, 539, 853, 843, 518, 386, 893, 897, 941, 832, 148, 827, 493, 868, 889, 1154, 1163, 1381, 1775, 1440, 1370, 1487, 1389, 1666, 1374, 1662, 1366, 1378, 1385, 1408, 1474, 1451, 1414, 1396, 1393] : List Nat).map (fun i => lw_tbl[i]?) = ([120, 121, 122, 123, 124, 125, 126, 127, 128, 129, 130, 131, 132, 133, 134, 135, 136, 137, 138, 139, 140, 141, 142, 143, 144, 145, 146, 147, 148, 149, 150, 151, 152, 153, 154, 155, 156, 157, 158, 159] : List Nat).map (fun mi => some (Cond.code (am_yn mi) (am_by mi) (am_mx mi) (am_rt mi))) := rfl
set_option maxRecDepth 100000 in
set_option maxHeartbeats 4000000 in
theorem am_cd4 : ([1404, 1444, 1448, 1467, 1471, 1482, 1494, 1491, 1500, 1504, 1512, 1508, 1516, 1539, 1542, 1532, 1536, 1554, 1575, 1558, 1604, 1520, 1600, 1571, 1611, 1615, 1619, 1623, 1591, 1587, 1579, 1596, 1583, 1566, 1608, 1631, 1562, 1528, 1638, 1550] : List Nat).map (fun i => lw_tbl[i]?) = ([160, 161, 162, 163, 164, 165, 166, 167, 168, 169, 170, 171, 172, 173, 174, 175, 176, 177, 178, 179, 180, 181, 182, 183, 184, 185, 186, 187, 188, 189, 190, 191, 192, 193, 194, 195, 196, 197, 198, 199] : List Nat).map (fun mi => some (Cond.code (am_yn mi) (am_by mi) (am_mx mi) (am_rt mi))) := rfl
set_option maxRecDepth 100000 in
set_option maxHeartbeats 4000000 in
theorem am_cd5 : ([1524, 1646, 1642, 1435, 1431, 1427, 1422, 1459, 1455, 1418, 1478, 1463, 1658, 1670, 1654, 1650, 1682, 1678, 1674, 1690, 1686, 1706, 1710, 1702, 1698, 1694, 1714, 1738, 1722, 1730, 1726, 1734, 1718, 1742, 1747, 1751, 1764, 1760, 1755, 1768] : List Nat).map (fun i => lw_tbl[i]?) = ([200, 201, 202, 203, 204, 205, 206, 207, 208, 209, 210, 211, 212, 213, 214, 215, 216, 217, 218, 219, 220, 221, 222, 223, 224, 225, 226, 227, 228, 229, 230, 231, 232, 233, 234, 235, 236, 237, 238, 239] : List Nat).map (fun mi => some (Cond.code (am_yn mi) (am_by mi) (am_mx mi) (am_rt mi))) := rfl
set_option maxRecDepth 100000 in
set_option maxHeartbeats 4000000 in
theorem am_cd6 : ([1772, 1779, 1783, 1792, 1788, 1800, 1796, 1804, 1809, 1821, 1817, 1831, 1835, 1827, 1813, 1839, 1843, 1851, 1847, 1858, 1863, 1869, 1106, 1024, 793] : List Nat).map (fun i => lw_tbl[i]?) = ([240, 241, 242, 243, 244, 245, 246, 247, 248, 249, 250, 251, 252, 253, 254, 255, 256, 257, 258, 259, 260, 261, 263, 264, 265] : List Nat).map (fun mi => some (Cond.code (am_yn mi) (am_by mi) (am_mx mi) (am_rt mi))) := rfl
