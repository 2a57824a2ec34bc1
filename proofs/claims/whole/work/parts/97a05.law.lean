theorem br_chkL_app {own : String} {init : Bool} {rt : Option FieldType} {bytes : ByteArray} : ∀ (h1 : List (List Nat)) (l : List (Nat × Instr × Nat × List Nat)) (h2 : List (List Nat)), br_chkL own init rt bytes (l.take h1.length) h1 = true → br_chkL own init rt bytes (l.drop h1.length) h2 = true → br_chkL own init rt bytes l (h1 ++ h2) = true
  | [], l, h2, _, hb => hb
  | a :: t, [], h2, _, _ => rfl
  | a :: t, e :: l, h2, ha, hb => by
    simp only [List.length_cons, List.take_succ_cons, List.drop_succ_cons, br_chkL, Bool.and_eq_true, List.cons_append] at ha hb ⊢
    exact ⟨ha.1, br_chkL_app t l h2 ha.2 hb⟩
def br_lh0 : List (List Nat) := [[108, 109, 87], [], [0, 110, 87, 111], [], [1251, 1252, 100], [], [0, 1253, 100, 1254], [], [], [], [], [], [], [], [], [], [], [], [], [], [], [], [], []]
set_option maxRecDepth 100000 in
theorem br_lw0 : br_chkL "BloomRoomsLaw" false (some .boolean) code ((br_c300.drop 0).take 24) br_lh0 = true := by decide +kernel
def br_lh1 : List (List Nat) := [[], [], [], [], [], [], [], [], [], [], [], [], [], [0, 506, 87, 507, 508], [], [], [], [], [], [], [], [], [], []]
set_option maxRecDepth 100000 in
theorem br_lw1 : br_chkL "BloomRoomsLaw" false (some .boolean) code ((br_c300.drop 24).take 24) br_lh1 = true := by decide +kernel
def br_lh2 : List (List Nat) := [[], [], [], [], [], [0, 1364, 100, 1365, 1366], [], [], [], [], [], [], [], [], [], [], [], [], [], [], [], [], [], []]
set_option maxRecDepth 100000 in
theorem br_lw2 : br_chkL "BloomRoomsLaw" false (some .boolean) code ((br_c300.drop 48).take 24) br_lh2 = true := by decide +kernel
def br_lh3 : List (List Nat) := [[], [0, 521, 87, 522, 523], [], [], [], [], [], [], [], [], [], [], [], [], [], [], [], [], [0, 1376, 100, 1377, 1378], [], [], [], [], []]
set_option maxRecDepth 100000 in
theorem br_lw3 : br_chkL "BloomRoomsLaw" false (some .boolean) code ((br_c300.drop 72).take 24) br_lh3 = true := by decide +kernel
def br_lh4 : List (List Nat) := [[], [], [], [], [], [], [], [], [], [0, 529, 87, 530, 531], [], [], [], [], [], [], [], [], [], [], [], [0, 1382, 100, 1383, 1384], [], []]
set_option maxRecDepth 100000 in
theorem br_lw4 : br_chkL "BloomRoomsLaw" false (some .boolean) code ((br_c300.drop 96).take 24) br_lh4 = true := by decide +kernel
def br_lh5 : List (List Nat) := [[], [], [], [], [], [], [], [0, 537, 87, 538, 539], [], [], [], [], [], [], [0, 1391, 100, 1392, 1393], [], [], [], [], [], [], [], [], []]
set_option maxRecDepth 100000 in
theorem br_lw5 : br_chkL "BloomRoomsLaw" false (some .boolean) code ((br_c300.drop 120).take 24) br_lh5 = true := by decide +kernel
def br_lh6 : List (List Nat) := [[], [], [], [], [], [0, 541, 87, 542, 543], [], [], [], [], [], [], [], [], [], [], [], [0, 1395, 100, 1396, 1397], [], [], [], [], [], []]
set_option maxRecDepth 100000 in
theorem br_lw6 : br_chkL "BloomRoomsLaw" false (some .boolean) code ((br_c300.drop 144).take 24) br_lh6 = true := by decide +kernel
def br_lh7 : List (List Nat) := [[], [], [], [], [], [], [], [], [0, 585, 87, 586, 587], [], [], [], [], [], [], [], [], [], [], [], [0, 1407, 100, 1408, 1409], [], [], []]
set_option maxRecDepth 100000 in
theorem br_lw7 : br_chkL "BloomRoomsLaw" false (some .boolean) code ((br_c300.drop 168).take 24) br_lh7 = true := by decide +kernel
def br_lh8 : List (List Nat) := [[], [], [], [], [], [], [], [], [], [], [], [], [], [], [], [], [], [], [], [], [], [], [], []]
set_option maxRecDepth 100000 in
theorem br_lw8 : br_chkL "BloomRoomsLaw" false (some .boolean) code ((br_c300.drop 192).take 24) br_lh8 = true := by decide +kernel
def br_lh9 : List (List Nat) := [[], [], [0, 590, 87, 591, 592], [], [], [], [], [], [], [], [], [], [], [], [], [], [], [], [], [], [], [], [], []]
set_option maxRecDepth 100000 in
theorem br_lw9 : br_chkL "BloomRoomsLaw" false (some .boolean) code ((br_c300.drop 216).take 24) br_lh9 = true := by decide +kernel
def br_lh10 : List (List Nat) := [[], [], [], [], [], [0, 1412, 100, 1413, 1414], [], [], [], [], [], [], [], [], [], [], [], [], [], [], [0, 598, 87, 599, 600], [], [], []]
set_option maxRecDepth 100000 in
theorem br_lw10 : br_chkL "BloomRoomsLaw" false (some .boolean) code ((br_c300.drop 240).take 24) br_lh10 = true := by decide +kernel
def br_lh11 : List (List Nat) := [[], [], [], [], [], [], [], [], [0, 1416, 100, 1417, 1418], [], [], [], [], [], [], [], [], [], [0, 770, 87, 771, 772], [], [], [], [], []]
set_option maxRecDepth 100000 in
theorem br_lw11 : br_chkL "BloomRoomsLaw" false (some .boolean) code ((br_c300.drop 264).take 24) br_lh11 = true := by decide +kernel
def br_lh12 : List (List Nat) := [[], [0, 1495, 100, 1496, 1497], [], [], [], [], [0, 774, 87, 775, 776], [], [0, 1499, 100, 1500, 1501], [], [], [], [], [], [], [], [], [], [], [], [], [], [], []]
set_option maxRecDepth 100000 in
theorem br_lw12 : br_chkL "BloomRoomsLaw" false (some .boolean) code ((br_c300.drop 288).take 24) br_lh12 = true := by decide +kernel
def br_lh13 : List (List Nat) := [[], [], [], [], [], [], [], [], [0, 785, 87, 786, 787], [], [], [], [], [], [], [], [], [], [], [], [], [], [], []]
set_option maxRecDepth 100000 in
theorem br_lw13 : br_chkL "BloomRoomsLaw" false (some .boolean) code ((br_c300.drop 312).take 24) br_lh13 = true := by decide +kernel
def br_lh14 : List (List Nat) := [[], [], [], [], [], [0, 1506, 100, 1507, 1508], [], [], [], [], [], [], [], [], [], [], [], [], [], [], [0, 809, 87, 810, 811], [], [], []]
set_option maxRecDepth 100000 in
theorem br_lw14 : br_chkL "BloomRoomsLaw" false (some .boolean) code ((br_c300.drop 336).take 24) br_lh14 = true := by decide +kernel
def br_lh15 : List (List Nat) := [[], [], [], [], [], [], [], [], [0, 1518, 100, 1519, 1520], [], [], [], [], [], [], [], [], [], [], [], [], [], [], []]
set_option maxRecDepth 100000 in
theorem br_lw15 : br_chkL "BloomRoomsLaw" false (some .boolean) code ((br_c300.drop 360).take 24) br_lh15 = true := by decide +kernel
def br_lh16 : List (List Nat) := [[], [], [], [], [0, 813, 87, 814, 815], [], [], [], [], [], [], [], [], [], [], [], [], [], [], [], [], [0, 1526, 100, 1527, 1528], [], []]
set_option maxRecDepth 100000 in
theorem br_lw16 : br_chkL "BloomRoomsLaw" false (some .boolean) code ((br_c300.drop 384).take 24) br_lh16 = true := by decide +kernel
def br_lh17 : List (List Nat) := [[], [], [], [], [], [], [], [], [], [], [], [], [], [], [], [], [], [], [], [], [], [0, 817, 87, 818, 819], [], []]
set_option maxRecDepth 100000 in
theorem br_lw17 : br_chkL "BloomRoomsLaw" false (some .boolean) code ((br_c300.drop 408).take 24) br_lh17 = true := by decide +kernel
def br_lh18 : List (List Nat) := [[], [], [], [], [], [], [], [], [], [], [], [], [], [], [], [], [], [], [0, 1531, 100, 1532, 1533], [], [], [], [], []]
set_option maxRecDepth 100000 in
theorem br_lw18 : br_chkL "BloomRoomsLaw" false (some .boolean) code ((br_c300.drop 432).take 24) br_lh18 = true := by decide +kernel
def br_lh19 : List (List Nat) := [[], [], [], [], [], [], [], [], [], [], [], [], [], [], [0, 841, 87, 842, 843], [], [], [], [], [], [], [], [], []]
set_option maxRecDepth 100000 in
theorem br_lw19 : br_chkL "BloomRoomsLaw" false (some .boolean) code ((br_c300.drop 456).take 24) br_lh19 = true := by decide +kernel
def br_lh20 : List (List Nat) := [[], [], [], [], [], [], [], [0, 1565, 100, 1566, 1567], [], [], [], [], [], [], [], [], [], [], [], [], [], [], [], []]
set_option maxRecDepth 100000 in
theorem br_lw20 : br_chkL "BloomRoomsLaw" false (some .boolean) code ((br_c300.drop 480).take 24) br_lh20 = true := by decide +kernel
def br_lh21 : List (List Nat) := [[], [], [], [0, 876, 87, 877, 878], [], [], [], [], [], [], [], [], [], [], [], [], [], [], [], [], [0, 1589, 100, 1590, 1591], [], [], []]
set_option maxRecDepth 100000 in
theorem br_lw21 : br_chkL "BloomRoomsLaw" false (some .boolean) code ((br_c300.drop 504).take 24) br_lh21 = true := by decide +kernel
def br_lh22 : List (List Nat) := [[], [], [], [], [], [], [], [], [], [], [], [], [], [], [], [], [0, 881, 87, 882, 883], [], [], [], [], [], [], []]
set_option maxRecDepth 100000 in
theorem br_lw22 : br_chkL "BloomRoomsLaw" false (some .boolean) code ((br_c300.drop 528).take 24) br_lh22 = true := by decide +kernel
def br_lh23 : List (List Nat) := [[], [], [], [], [], [], [], [], [], [0, 1597, 100, 1598, 1599], [], [], [], [], [0, 999, 87, 1000, 1001], [], [0, 1552, 100, 1553, 1554], [], [], [], [], [0, 1008, 87, 1009, 1010], [], [0, 1557, 100, 1558, 1559]]
set_option maxRecDepth 100000 in
theorem br_lw23 : br_chkL "BloomRoomsLaw" false (some .boolean) code ((br_c300.drop 552).take 24) br_lh23 = true := by decide +kernel
def br_lh24 : List (List Nat) := [[], [], [], [], [], [0, 1012, 87, 1013, 1014], [], [0, 1561, 100, 1562, 1563], [], [], [], [], [], [], [], [], [], [], [0, 1016, 87, 1017, 1018], [], [], [], [], []]
set_option maxRecDepth 100000 in
theorem br_lw24 : br_chkL "BloomRoomsLaw" false (some .boolean) code ((br_c300.drop 576).take 24) br_lh24 = true := by decide +kernel
def br_lh25 : List (List Nat) := [[], [0, 1652, 100, 1653, 1654], [], [], [], [], [0, 1044, 87, 1045, 1046], [], [0, 1666, 100, 1667, 1668], [], [], [], [], [], [], [], [], [], [], [], [], [], [], []]
set_option maxRecDepth 100000 in
theorem br_lw25 : br_chkL "BloomRoomsLaw" false (some .boolean) code ((br_c300.drop 600).take 24) br_lh25 = true := by decide +kernel
def br_lh26 : List (List Nat) := [[], [], [], [], [0, 1056, 87, 1057, 1058], [], [], [], [], [], [], [], [], [], [], [], [], [], [], [], [], [0, 1674, 100, 1675, 1676], [], []]
set_option maxRecDepth 100000 in
theorem br_lw26 : br_chkL "BloomRoomsLaw" false (some .boolean) code ((br_c300.drop 624).take 24) br_lh26 = true := by decide +kernel
def br_lh27 : List (List Nat) := [[], [], [], [], [], [], [], [], [], [], [], [], [], [], [], [], [], [], [], [], [], [0, 1063, 87, 1064, 1065], [], []]
set_option maxRecDepth 100000 in
theorem br_lw27 : br_chkL "BloomRoomsLaw" false (some .boolean) code ((br_c300.drop 648).take 24) br_lh27 = true := by decide +kernel
def br_lh28 : List (List Nat) := [[], [], [], [], [], [], [], [], [], [], [], [], [], [], [], [], [], [], [0, 1679, 100, 1680, 1681], [], [], [], [], []]
set_option maxRecDepth 100000 in
theorem br_lw28 : br_chkL "BloomRoomsLaw" false (some .boolean) code ((br_c300.drop 672).take 24) br_lh28 = true := by decide +kernel
def br_lh29 : List (List Nat) := [[], [], [], [], [], [], [], [], [], [0, 1071, 87, 1072, 1073], [], [], [], [], [], [], [], [], [], [], [], [0, 1684, 100, 1685, 1686], [], []]
set_option maxRecDepth 100000 in
theorem br_lw29 : br_chkL "BloomRoomsLaw" false (some .boolean) code ((br_c300.drop 696).take 24) br_lh29 = true := by decide +kernel
def br_lh30 : List (List Nat) := [[], [], [0, 1081, 87, 1082, 1083], [], [0, 1700, 100, 1701, 1702], [], [], [], [], [], [], [], [], [], [], [], [], [], [], [0, 1096, 87, 1097, 1098], [], [], [], []]
set_option maxRecDepth 100000 in
theorem br_lw30 : br_chkL "BloomRoomsLaw" false (some .boolean) code ((br_c300.drop 720).take 24) br_lh30 = true := by decide +kernel
def br_lh31 : List (List Nat) := [[], [], [], [], [], [], [], [0, 1709, 100, 1710, 1711], [], [], [], [], [], [], [], [], [], [], [], [], [], [], [], []]
set_option maxRecDepth 100000 in
theorem br_lw31 : br_chkL "BloomRoomsLaw" false (some .boolean) code ((br_c300.drop 744).take 24) br_lh31 = true := by decide +kernel
def br_lh32 : List (List Nat) := [[], [], [], [0, 1100, 87, 1101, 1102], [], [], [], [], [], [], [], [], [], [], [], [], [], [], [], [], [0, 1713, 100, 1714, 1715], [], [], []]
set_option maxRecDepth 100000 in
theorem br_lw32 : br_chkL "BloomRoomsLaw" false (some .boolean) code ((br_c300.drop 768).take 24) br_lh32 = true := by decide +kernel
def br_lh33 : List (List Nat) := [[], [], [], [], [], [], [0, 1108, 87, 1109, 1110], [], [], [], [], [], [], [0, 1717, 100, 1718, 1719], [], [], [], [], [], [], [], [], [], []]
set_option maxRecDepth 100000 in
theorem br_lw33 : br_chkL "BloomRoomsLaw" false (some .boolean) code ((br_c300.drop 792).take 24) br_lh33 = true := by decide +kernel
def br_lh34 : List (List Nat) := [[], [], [], [], [], [], [], [], [], [], [], [], [], [], [], [], [], [], [0, 1120, 87, 1121, 1122], [], [], [], [], []]
set_option maxRecDepth 100000 in
theorem br_lw34 : br_chkL "BloomRoomsLaw" false (some .boolean) code ((br_c300.drop 816).take 24) br_lh34 = true := by decide +kernel
def br_lh35 : List (List Nat) := [[], [], [], [], [], [], [], [], [], [], [], [], [], [], [], [], [], [], [], [], [0, 1725, 100, 1726, 1727], [], [], []]
set_option maxRecDepth 100000 in
theorem br_lw35 : br_chkL "BloomRoomsLaw" false (some .boolean) code ((br_c300.drop 840).take 24) br_lh35 = true := by decide +kernel
def br_lh36 : List (List Nat) := [[], [], [], [], [], [], [], [], [], [], [0, 1128, 87, 1129, 1130], [], [], [], [], [], [], [], [], [], [], [0, 1731, 100, 1732, 1733], [], []]
set_option maxRecDepth 100000 in
theorem br_lw36 : br_chkL "BloomRoomsLaw" false (some .boolean) code ((br_c300.drop 864).take 24) br_lh36 = true := by decide +kernel
def br_lh37 : List (List Nat) := [[], [], [], [], [], [], [], [], [], [], [], [], [], [], [], [], [], [], [], [], [0, 1137, 87, 1138, 1139], [], [], []]
set_option maxRecDepth 100000 in
theorem br_lw37 : br_chkL "BloomRoomsLaw" false (some .boolean) code ((br_c300.drop 888).take 24) br_lh37 = true := by decide +kernel
def br_lh38 : List (List Nat) := [[], [], [], [], [], [], [], [], [], [], [], [], [], [], [], [], [0, 1739, 100, 1740, 1741], [], [], [], [], [], [], []]
set_option maxRecDepth 100000 in
theorem br_lw38 : br_chkL "BloomRoomsLaw" false (some .boolean) code ((br_c300.drop 912).take 24) br_lh38 = true := by decide +kernel
def br_lh39 : List (List Nat) := [[], [], [0, 1150, 87, 1151, 1152], [], [], [], [], [], [], [0, 1743, 100, 1744, 1745], [], [], [], [], [], [], [], [], [], [], [], [], [], []]
set_option maxRecDepth 100000 in
theorem br_lw39 : br_chkL "BloomRoomsLaw" false (some .boolean) code ((br_c300.drop 936).take 24) br_lh39 = true := by decide +kernel
def br_lh40 : List (List Nat) := [[], [], [], [], [], [0, 1154, 87, 1155, 1156], [], [], [], [], [], [], [], [], [], [], [], [], [], [], [], [], [0, 1748, 100, 1749, 1750], []]
set_option maxRecDepth 100000 in
theorem br_lw40 : br_chkL "BloomRoomsLaw" false (some .boolean) code ((br_c300.drop 960).take 24) br_lh40 = true := by decide +kernel
def br_lh41 : List (List Nat) := [[], [], [], [], [], [], [], [], [], [], [], [], [], [0, 1170, 87, 1171, 1172], [], [], [], [], [], [], [], [], [], []]
set_option maxRecDepth 100000 in
theorem br_lw41 : br_chkL "BloomRoomsLaw" false (some .boolean) code ((br_c300.drop 984).take 24) br_lh41 = true := by decide +kernel
def br_lh42 : List (List Nat) := [[], [0, 1756, 100, 1757, 1758], [], [], [], [], [], [], [], [], [], [0, 1174, 87, 1175, 1176], [], [], [], [], [], [], [0, 1760, 100, 1761, 1762], [], [], [], [], []]
set_option maxRecDepth 100000 in
theorem br_lw42 : br_chkL "BloomRoomsLaw" false (some .boolean) code ((br_c300.drop 1008).take 24) br_lh42 = true := by decide +kernel
def br_lh43 : List (List Nat) := [[], [], [], [], [], [], [], [], [], [0, 1180, 87, 1181, 1182], [], [], [], [], [], [], [], [], [], [], [], [0, 1765, 100, 1766, 1767], [], []]
set_option maxRecDepth 100000 in
theorem br_lw43 : br_chkL "BloomRoomsLaw" false (some .boolean) code ((br_c300.drop 1032).take 24) br_lh43 = true := by decide +kernel
def br_lh44 : List (List Nat) := [[], [], [], [], [], [], [], [], [], [], [], [], [], [], [], [], [], [0, 1189, 87, 1190, 1191], [], [], [], [], [], []]
set_option maxRecDepth 100000 in
theorem br_lw44 : br_chkL "BloomRoomsLaw" false (some .boolean) code ((br_c300.drop 1056).take 24) br_lh44 = true := by decide +kernel
def br_lh45 : List (List Nat) := [[], [], [], [], [], [], [], [], [], [], [0, 1777, 100, 1778, 1779], [], [], [], [], [], [], [], [], [], [], [], [], []]
set_option maxRecDepth 100000 in
theorem br_lw45 : br_chkL "BloomRoomsLaw" false (some .boolean) code ((br_c300.drop 1080).take 24) br_lh45 = true := by decide +kernel
def br_lh46 : List (List Nat) := [[], [], [], [], [], [], [], [], [], [], [], [], [], [], [], [1814], [], [], [0, 1196, 87, 1197, 1198], [], [], [], [], []]
set_option maxRecDepth 100000 in
theorem br_lw46 : br_chkL "BloomRoomsLaw" false (some .boolean) code ((br_c300.drop 1104).take 24) br_lh46 = true := by decide +kernel
def br_lh47 : List (List Nat) := [[], [], [], [], [], [], [], [], [], [], [], [], [], [], [], [], [], [], [], [], [1814], [], [], [0, 1781, 100, 1782, 1783]]
set_option maxRecDepth 100000 in
theorem br_lw47 : br_chkL "BloomRoomsLaw" false (some .boolean) code ((br_c300.drop 1128).take 24) br_lh47 = true := by decide +kernel
def br_lh48 : List (List Nat) := [[], [], [], [], [], [], [], [], [], [], [], [], [], [], [], [0, 1203, 87, 1204, 1205], [], [], [], [], [], [], [], []]
set_option maxRecDepth 100000 in
theorem br_lw48 : br_chkL "BloomRoomsLaw" false (some .boolean) code ((br_c300.drop 1152).take 24) br_lh48 = true := by decide +kernel
def br_lh49 : List (List Nat) := [[], [], [], [0, 1788, 100, 1789, 1790], [], [], [], [], [], [], [], [], [], [0, 1209, 87, 1210, 1211], [], [], [], [], [], [], [0, 1792, 100, 1793, 1794], [], [], []]
set_option maxRecDepth 100000 in
theorem br_lw49 : br_chkL "BloomRoomsLaw" false (some .boolean) code ((br_c300.drop 1176).take 24) br_lh49 = true := by decide +kernel
def br_lh50 : List (List Nat) := [[], [], [], [], [], [], [0, 1235, 87, 1236, 1237], [], [], [], [], [], [], [0, 1796, 100, 1797, 1798], [], [], [], [], [], [], [], [], [], [0, 1239, 87, 1240, 1241]]
set_option maxRecDepth 100000 in
theorem br_lw50 : br_chkL "BloomRoomsLaw" false (some .boolean) code ((br_c300.drop 1200).take 24) br_lh50 = true := by decide +kernel
def br_lh51 : List (List Nat) := [[], [], [], [], [], [], [0, 1800, 100, 1801, 1802], [], [], [], [], [], [], [], [], [], [0, 1243, 87, 1244, 1245], [], [], [], [], [], [], [0, 1805, 100, 1806, 1807]]
set_option maxRecDepth 100000 in
theorem br_lw51 : br_chkL "BloomRoomsLaw" false (some .boolean) code ((br_c300.drop 1224).take 24) br_lh51 = true := by decide +kernel
def br_lh52 : List (List Nat) := [[], [], [], [], [], [], []]
set_option maxRecDepth 100000 in
theorem br_lw52 : br_chkL "BloomRoomsLaw" false (some .boolean) code ((br_c300.drop 1248).take 7) br_lh52 = true := by decide +kernel
def br_lg53 : List (List Nat) := []
def br_lg52 : List (List Nat) := br_lh52 ++ br_lg53
def br_lg51 : List (List Nat) := br_lh51 ++ br_lg52
def br_lg50 : List (List Nat) := br_lh50 ++ br_lg51
def br_lg49 : List (List Nat) := br_lh49 ++ br_lg50
def br_lg48 : List (List Nat) := br_lh48 ++ br_lg49
def br_lg47 : List (List Nat) := br_lh47 ++ br_lg48
def br_lg46 : List (List Nat) := br_lh46 ++ br_lg47
def br_lg45 : List (List Nat) := br_lh45 ++ br_lg46
def br_lg44 : List (List Nat) := br_lh44 ++ br_lg45
def br_lg43 : List (List Nat) := br_lh43 ++ br_lg44
def br_lg42 : List (List Nat) := br_lh42 ++ br_lg43
def br_lg41 : List (List Nat) := br_lh41 ++ br_lg42
def br_lg40 : List (List Nat) := br_lh40 ++ br_lg41
def br_lg39 : List (List Nat) := br_lh39 ++ br_lg40
def br_lg38 : List (List Nat) := br_lh38 ++ br_lg39
def br_lg37 : List (List Nat) := br_lh37 ++ br_lg38
def br_lg36 : List (List Nat) := br_lh36 ++ br_lg37
def br_lg35 : List (List Nat) := br_lh35 ++ br_lg36
def br_lg34 : List (List Nat) := br_lh34 ++ br_lg35
def br_lg33 : List (List Nat) := br_lh33 ++ br_lg34
def br_lg32 : List (List Nat) := br_lh32 ++ br_lg33
def br_lg31 : List (List Nat) := br_lh31 ++ br_lg32
def br_lg30 : List (List Nat) := br_lh30 ++ br_lg31
def br_lg29 : List (List Nat) := br_lh29 ++ br_lg30
def br_lg28 : List (List Nat) := br_lh28 ++ br_lg29
def br_lg27 : List (List Nat) := br_lh27 ++ br_lg28
def br_lg26 : List (List Nat) := br_lh26 ++ br_lg27
def br_lg25 : List (List Nat) := br_lh25 ++ br_lg26
def br_lg24 : List (List Nat) := br_lh24 ++ br_lg25
def br_lg23 : List (List Nat) := br_lh23 ++ br_lg24
def br_lg22 : List (List Nat) := br_lh22 ++ br_lg23
def br_lg21 : List (List Nat) := br_lh21 ++ br_lg22
def br_lg20 : List (List Nat) := br_lh20 ++ br_lg21
def br_lg19 : List (List Nat) := br_lh19 ++ br_lg20
def br_lg18 : List (List Nat) := br_lh18 ++ br_lg19
def br_lg17 : List (List Nat) := br_lh17 ++ br_lg18
def br_lg16 : List (List Nat) := br_lh16 ++ br_lg17
def br_lg15 : List (List Nat) := br_lh15 ++ br_lg16
def br_lg14 : List (List Nat) := br_lh14 ++ br_lg15
def br_lg13 : List (List Nat) := br_lh13 ++ br_lg14
def br_lg12 : List (List Nat) := br_lh12 ++ br_lg13
def br_lg11 : List (List Nat) := br_lh11 ++ br_lg12
def br_lg10 : List (List Nat) := br_lh10 ++ br_lg11
def br_lg9 : List (List Nat) := br_lh9 ++ br_lg10
def br_lg8 : List (List Nat) := br_lh8 ++ br_lg9
def br_lg7 : List (List Nat) := br_lh7 ++ br_lg8
def br_lg6 : List (List Nat) := br_lh6 ++ br_lg7
def br_lg5 : List (List Nat) := br_lh5 ++ br_lg6
def br_lg4 : List (List Nat) := br_lh4 ++ br_lg5
def br_lg3 : List (List Nat) := br_lh3 ++ br_lg4
def br_lg2 : List (List Nat) := br_lh2 ++ br_lg3
def br_lg1 : List (List Nat) := br_lh1 ++ br_lg2
def br_lg0 : List (List Nat) := br_lh0 ++ br_lg1
theorem br_ly53 : br_chkL "BloomRoomsLaw" false (some .boolean) code (br_c300.drop 1255) br_lg53 = true := by decide +kernel
theorem br_ly52 : br_chkL "BloomRoomsLaw" false (some .boolean) code (br_c300.drop 1248) br_lg52 = true := br_chkL_app br_lh52 (br_c300.drop 1248) br_lg53 br_lw52 (by
  have e : (br_c300.drop 1248).drop br_lh52.length = br_c300.drop 1255 := by rw [List.drop_drop]; rfl
  rw [e]; exact br_ly53)
theorem br_ly51 : br_chkL "BloomRoomsLaw" false (some .boolean) code (br_c300.drop 1224) br_lg51 = true := br_chkL_app br_lh51 (br_c300.drop 1224) br_lg52 br_lw51 (by
  have e : (br_c300.drop 1224).drop br_lh51.length = br_c300.drop 1248 := by rw [List.drop_drop]; rfl
  rw [e]; exact br_ly52)
theorem br_ly50 : br_chkL "BloomRoomsLaw" false (some .boolean) code (br_c300.drop 1200) br_lg50 = true := br_chkL_app br_lh50 (br_c300.drop 1200) br_lg51 br_lw50 (by
  have e : (br_c300.drop 1200).drop br_lh50.length = br_c300.drop 1224 := by rw [List.drop_drop]; rfl
  rw [e]; exact br_ly51)
theorem br_ly49 : br_chkL "BloomRoomsLaw" false (some .boolean) code (br_c300.drop 1176) br_lg49 = true := br_chkL_app br_lh49 (br_c300.drop 1176) br_lg50 br_lw49 (by
  have e : (br_c300.drop 1176).drop br_lh49.length = br_c300.drop 1200 := by rw [List.drop_drop]; rfl
  rw [e]; exact br_ly50)
theorem br_ly48 : br_chkL "BloomRoomsLaw" false (some .boolean) code (br_c300.drop 1152) br_lg48 = true := br_chkL_app br_lh48 (br_c300.drop 1152) br_lg49 br_lw48 (by
  have e : (br_c300.drop 1152).drop br_lh48.length = br_c300.drop 1176 := by rw [List.drop_drop]; rfl
  rw [e]; exact br_ly49)
theorem br_ly47 : br_chkL "BloomRoomsLaw" false (some .boolean) code (br_c300.drop 1128) br_lg47 = true := br_chkL_app br_lh47 (br_c300.drop 1128) br_lg48 br_lw47 (by
  have e : (br_c300.drop 1128).drop br_lh47.length = br_c300.drop 1152 := by rw [List.drop_drop]; rfl
  rw [e]; exact br_ly48)
theorem br_ly46 : br_chkL "BloomRoomsLaw" false (some .boolean) code (br_c300.drop 1104) br_lg46 = true := br_chkL_app br_lh46 (br_c300.drop 1104) br_lg47 br_lw46 (by
  have e : (br_c300.drop 1104).drop br_lh46.length = br_c300.drop 1128 := by rw [List.drop_drop]; rfl
  rw [e]; exact br_ly47)
theorem br_ly45 : br_chkL "BloomRoomsLaw" false (some .boolean) code (br_c300.drop 1080) br_lg45 = true := br_chkL_app br_lh45 (br_c300.drop 1080) br_lg46 br_lw45 (by
  have e : (br_c300.drop 1080).drop br_lh45.length = br_c300.drop 1104 := by rw [List.drop_drop]; rfl
  rw [e]; exact br_ly46)
theorem br_ly44 : br_chkL "BloomRoomsLaw" false (some .boolean) code (br_c300.drop 1056) br_lg44 = true := br_chkL_app br_lh44 (br_c300.drop 1056) br_lg45 br_lw44 (by
  have e : (br_c300.drop 1056).drop br_lh44.length = br_c300.drop 1080 := by rw [List.drop_drop]; rfl
  rw [e]; exact br_ly45)
theorem br_ly43 : br_chkL "BloomRoomsLaw" false (some .boolean) code (br_c300.drop 1032) br_lg43 = true := br_chkL_app br_lh43 (br_c300.drop 1032) br_lg44 br_lw43 (by
  have e : (br_c300.drop 1032).drop br_lh43.length = br_c300.drop 1056 := by rw [List.drop_drop]; rfl
  rw [e]; exact br_ly44)
theorem br_ly42 : br_chkL "BloomRoomsLaw" false (some .boolean) code (br_c300.drop 1008) br_lg42 = true := br_chkL_app br_lh42 (br_c300.drop 1008) br_lg43 br_lw42 (by
  have e : (br_c300.drop 1008).drop br_lh42.length = br_c300.drop 1032 := by rw [List.drop_drop]; rfl
  rw [e]; exact br_ly43)
theorem br_ly41 : br_chkL "BloomRoomsLaw" false (some .boolean) code (br_c300.drop 984) br_lg41 = true := br_chkL_app br_lh41 (br_c300.drop 984) br_lg42 br_lw41 (by
  have e : (br_c300.drop 984).drop br_lh41.length = br_c300.drop 1008 := by rw [List.drop_drop]; rfl
  rw [e]; exact br_ly42)
theorem br_ly40 : br_chkL "BloomRoomsLaw" false (some .boolean) code (br_c300.drop 960) br_lg40 = true := br_chkL_app br_lh40 (br_c300.drop 960) br_lg41 br_lw40 (by
  have e : (br_c300.drop 960).drop br_lh40.length = br_c300.drop 984 := by rw [List.drop_drop]; rfl
  rw [e]; exact br_ly41)
theorem br_ly39 : br_chkL "BloomRoomsLaw" false (some .boolean) code (br_c300.drop 936) br_lg39 = true := br_chkL_app br_lh39 (br_c300.drop 936) br_lg40 br_lw39 (by
  have e : (br_c300.drop 936).drop br_lh39.length = br_c300.drop 960 := by rw [List.drop_drop]; rfl
  rw [e]; exact br_ly40)
theorem br_ly38 : br_chkL "BloomRoomsLaw" false (some .boolean) code (br_c300.drop 912) br_lg38 = true := br_chkL_app br_lh38 (br_c300.drop 912) br_lg39 br_lw38 (by
  have e : (br_c300.drop 912).drop br_lh38.length = br_c300.drop 936 := by rw [List.drop_drop]; rfl
  rw [e]; exact br_ly39)
theorem br_ly37 : br_chkL "BloomRoomsLaw" false (some .boolean) code (br_c300.drop 888) br_lg37 = true := br_chkL_app br_lh37 (br_c300.drop 888) br_lg38 br_lw37 (by
  have e : (br_c300.drop 888).drop br_lh37.length = br_c300.drop 912 := by rw [List.drop_drop]; rfl
  rw [e]; exact br_ly38)
theorem br_ly36 : br_chkL "BloomRoomsLaw" false (some .boolean) code (br_c300.drop 864) br_lg36 = true := br_chkL_app br_lh36 (br_c300.drop 864) br_lg37 br_lw36 (by
  have e : (br_c300.drop 864).drop br_lh36.length = br_c300.drop 888 := by rw [List.drop_drop]; rfl
  rw [e]; exact br_ly37)
theorem br_ly35 : br_chkL "BloomRoomsLaw" false (some .boolean) code (br_c300.drop 840) br_lg35 = true := br_chkL_app br_lh35 (br_c300.drop 840) br_lg36 br_lw35 (by
  have e : (br_c300.drop 840).drop br_lh35.length = br_c300.drop 864 := by rw [List.drop_drop]; rfl
  rw [e]; exact br_ly36)
theorem br_ly34 : br_chkL "BloomRoomsLaw" false (some .boolean) code (br_c300.drop 816) br_lg34 = true := br_chkL_app br_lh34 (br_c300.drop 816) br_lg35 br_lw34 (by
  have e : (br_c300.drop 816).drop br_lh34.length = br_c300.drop 840 := by rw [List.drop_drop]; rfl
  rw [e]; exact br_ly35)
theorem br_ly33 : br_chkL "BloomRoomsLaw" false (some .boolean) code (br_c300.drop 792) br_lg33 = true := br_chkL_app br_lh33 (br_c300.drop 792) br_lg34 br_lw33 (by
  have e : (br_c300.drop 792).drop br_lh33.length = br_c300.drop 816 := by rw [List.drop_drop]; rfl
  rw [e]; exact br_ly34)
theorem br_ly32 : br_chkL "BloomRoomsLaw" false (some .boolean) code (br_c300.drop 768) br_lg32 = true := br_chkL_app br_lh32 (br_c300.drop 768) br_lg33 br_lw32 (by
  have e : (br_c300.drop 768).drop br_lh32.length = br_c300.drop 792 := by rw [List.drop_drop]; rfl
  rw [e]; exact br_ly33)
theorem br_ly31 : br_chkL "BloomRoomsLaw" false (some .boolean) code (br_c300.drop 744) br_lg31 = true := br_chkL_app br_lh31 (br_c300.drop 744) br_lg32 br_lw31 (by
  have e : (br_c300.drop 744).drop br_lh31.length = br_c300.drop 768 := by rw [List.drop_drop]; rfl
  rw [e]; exact br_ly32)
theorem br_ly30 : br_chkL "BloomRoomsLaw" false (some .boolean) code (br_c300.drop 720) br_lg30 = true := br_chkL_app br_lh30 (br_c300.drop 720) br_lg31 br_lw30 (by
  have e : (br_c300.drop 720).drop br_lh30.length = br_c300.drop 744 := by rw [List.drop_drop]; rfl
  rw [e]; exact br_ly31)
theorem br_ly29 : br_chkL "BloomRoomsLaw" false (some .boolean) code (br_c300.drop 696) br_lg29 = true := br_chkL_app br_lh29 (br_c300.drop 696) br_lg30 br_lw29 (by
  have e : (br_c300.drop 696).drop br_lh29.length = br_c300.drop 720 := by rw [List.drop_drop]; rfl
  rw [e]; exact br_ly30)
theorem br_ly28 : br_chkL "BloomRoomsLaw" false (some .boolean) code (br_c300.drop 672) br_lg28 = true := br_chkL_app br_lh28 (br_c300.drop 672) br_lg29 br_lw28 (by
  have e : (br_c300.drop 672).drop br_lh28.length = br_c300.drop 696 := by rw [List.drop_drop]; rfl
  rw [e]; exact br_ly29)
theorem br_ly27 : br_chkL "BloomRoomsLaw" false (some .boolean) code (br_c300.drop 648) br_lg27 = true := br_chkL_app br_lh27 (br_c300.drop 648) br_lg28 br_lw27 (by
  have e : (br_c300.drop 648).drop br_lh27.length = br_c300.drop 672 := by rw [List.drop_drop]; rfl
  rw [e]; exact br_ly28)
theorem br_ly26 : br_chkL "BloomRoomsLaw" false (some .boolean) code (br_c300.drop 624) br_lg26 = true := br_chkL_app br_lh26 (br_c300.drop 624) br_lg27 br_lw26 (by
  have e : (br_c300.drop 624).drop br_lh26.length = br_c300.drop 648 := by rw [List.drop_drop]; rfl
  rw [e]; exact br_ly27)
theorem br_ly25 : br_chkL "BloomRoomsLaw" false (some .boolean) code (br_c300.drop 600) br_lg25 = true := br_chkL_app br_lh25 (br_c300.drop 600) br_lg26 br_lw25 (by
  have e : (br_c300.drop 600).drop br_lh25.length = br_c300.drop 624 := by rw [List.drop_drop]; rfl
  rw [e]; exact br_ly26)
theorem br_ly24 : br_chkL "BloomRoomsLaw" false (some .boolean) code (br_c300.drop 576) br_lg24 = true := br_chkL_app br_lh24 (br_c300.drop 576) br_lg25 br_lw24 (by
  have e : (br_c300.drop 576).drop br_lh24.length = br_c300.drop 600 := by rw [List.drop_drop]; rfl
  rw [e]; exact br_ly25)
theorem br_ly23 : br_chkL "BloomRoomsLaw" false (some .boolean) code (br_c300.drop 552) br_lg23 = true := br_chkL_app br_lh23 (br_c300.drop 552) br_lg24 br_lw23 (by
  have e : (br_c300.drop 552).drop br_lh23.length = br_c300.drop 576 := by rw [List.drop_drop]; rfl
  rw [e]; exact br_ly24)
theorem br_ly22 : br_chkL "BloomRoomsLaw" false (some .boolean) code (br_c300.drop 528) br_lg22 = true := br_chkL_app br_lh22 (br_c300.drop 528) br_lg23 br_lw22 (by
  have e : (br_c300.drop 528).drop br_lh22.length = br_c300.drop 552 := by rw [List.drop_drop]; rfl
  rw [e]; exact br_ly23)
theorem br_ly21 : br_chkL "BloomRoomsLaw" false (some .boolean) code (br_c300.drop 504) br_lg21 = true := br_chkL_app br_lh21 (br_c300.drop 504) br_lg22 br_lw21 (by
  have e : (br_c300.drop 504).drop br_lh21.length = br_c300.drop 528 := by rw [List.drop_drop]; rfl
  rw [e]; exact br_ly22)
theorem br_ly20 : br_chkL "BloomRoomsLaw" false (some .boolean) code (br_c300.drop 480) br_lg20 = true := br_chkL_app br_lh20 (br_c300.drop 480) br_lg21 br_lw20 (by
  have e : (br_c300.drop 480).drop br_lh20.length = br_c300.drop 504 := by rw [List.drop_drop]; rfl
  rw [e]; exact br_ly21)
theorem br_ly19 : br_chkL "BloomRoomsLaw" false (some .boolean) code (br_c300.drop 456) br_lg19 = true := br_chkL_app br_lh19 (br_c300.drop 456) br_lg20 br_lw19 (by
  have e : (br_c300.drop 456).drop br_lh19.length = br_c300.drop 480 := by rw [List.drop_drop]; rfl
  rw [e]; exact br_ly20)
theorem br_ly18 : br_chkL "BloomRoomsLaw" false (some .boolean) code (br_c300.drop 432) br_lg18 = true := br_chkL_app br_lh18 (br_c300.drop 432) br_lg19 br_lw18 (by
  have e : (br_c300.drop 432).drop br_lh18.length = br_c300.drop 456 := by rw [List.drop_drop]; rfl
  rw [e]; exact br_ly19)
theorem br_ly17 : br_chkL "BloomRoomsLaw" false (some .boolean) code (br_c300.drop 408) br_lg17 = true := br_chkL_app br_lh17 (br_c300.drop 408) br_lg18 br_lw17 (by
  have e : (br_c300.drop 408).drop br_lh17.length = br_c300.drop 432 := by rw [List.drop_drop]; rfl
  rw [e]; exact br_ly18)
theorem br_ly16 : br_chkL "BloomRoomsLaw" false (some .boolean) code (br_c300.drop 384) br_lg16 = true := br_chkL_app br_lh16 (br_c300.drop 384) br_lg17 br_lw16 (by
  have e : (br_c300.drop 384).drop br_lh16.length = br_c300.drop 408 := by rw [List.drop_drop]; rfl
  rw [e]; exact br_ly17)
theorem br_ly15 : br_chkL "BloomRoomsLaw" false (some .boolean) code (br_c300.drop 360) br_lg15 = true := br_chkL_app br_lh15 (br_c300.drop 360) br_lg16 br_lw15 (by
  have e : (br_c300.drop 360).drop br_lh15.length = br_c300.drop 384 := by rw [List.drop_drop]; rfl
  rw [e]; exact br_ly16)
theorem br_ly14 : br_chkL "BloomRoomsLaw" false (some .boolean) code (br_c300.drop 336) br_lg14 = true := br_chkL_app br_lh14 (br_c300.drop 336) br_lg15 br_lw14 (by
  have e : (br_c300.drop 336).drop br_lh14.length = br_c300.drop 360 := by rw [List.drop_drop]; rfl
  rw [e]; exact br_ly15)
theorem br_ly13 : br_chkL "BloomRoomsLaw" false (some .boolean) code (br_c300.drop 312) br_lg13 = true := br_chkL_app br_lh13 (br_c300.drop 312) br_lg14 br_lw13 (by
  have e : (br_c300.drop 312).drop br_lh13.length = br_c300.drop 336 := by rw [List.drop_drop]; rfl
  rw [e]; exact br_ly14)
theorem br_ly12 : br_chkL "BloomRoomsLaw" false (some .boolean) code (br_c300.drop 288) br_lg12 = true := br_chkL_app br_lh12 (br_c300.drop 288) br_lg13 br_lw12 (by
  have e : (br_c300.drop 288).drop br_lh12.length = br_c300.drop 312 := by rw [List.drop_drop]; rfl
  rw [e]; exact br_ly13)
theorem br_ly11 : br_chkL "BloomRoomsLaw" false (some .boolean) code (br_c300.drop 264) br_lg11 = true := br_chkL_app br_lh11 (br_c300.drop 264) br_lg12 br_lw11 (by
  have e : (br_c300.drop 264).drop br_lh11.length = br_c300.drop 288 := by rw [List.drop_drop]; rfl
  rw [e]; exact br_ly12)
theorem br_ly10 : br_chkL "BloomRoomsLaw" false (some .boolean) code (br_c300.drop 240) br_lg10 = true := br_chkL_app br_lh10 (br_c300.drop 240) br_lg11 br_lw10 (by
  have e : (br_c300.drop 240).drop br_lh10.length = br_c300.drop 264 := by rw [List.drop_drop]; rfl
  rw [e]; exact br_ly11)
theorem br_ly9 : br_chkL "BloomRoomsLaw" false (some .boolean) code (br_c300.drop 216) br_lg9 = true := br_chkL_app br_lh9 (br_c300.drop 216) br_lg10 br_lw9 (by
  have e : (br_c300.drop 216).drop br_lh9.length = br_c300.drop 240 := by rw [List.drop_drop]; rfl
  rw [e]; exact br_ly10)
theorem br_ly8 : br_chkL "BloomRoomsLaw" false (some .boolean) code (br_c300.drop 192) br_lg8 = true := br_chkL_app br_lh8 (br_c300.drop 192) br_lg9 br_lw8 (by
  have e : (br_c300.drop 192).drop br_lh8.length = br_c300.drop 216 := by rw [List.drop_drop]; rfl
  rw [e]; exact br_ly9)
theorem br_ly7 : br_chkL "BloomRoomsLaw" false (some .boolean) code (br_c300.drop 168) br_lg7 = true := br_chkL_app br_lh7 (br_c300.drop 168) br_lg8 br_lw7 (by
  have e : (br_c300.drop 168).drop br_lh7.length = br_c300.drop 192 := by rw [List.drop_drop]; rfl
  rw [e]; exact br_ly8)
theorem br_ly6 : br_chkL "BloomRoomsLaw" false (some .boolean) code (br_c300.drop 144) br_lg6 = true := br_chkL_app br_lh6 (br_c300.drop 144) br_lg7 br_lw6 (by
  have e : (br_c300.drop 144).drop br_lh6.length = br_c300.drop 168 := by rw [List.drop_drop]; rfl
  rw [e]; exact br_ly7)
theorem br_ly5 : br_chkL "BloomRoomsLaw" false (some .boolean) code (br_c300.drop 120) br_lg5 = true := br_chkL_app br_lh5 (br_c300.drop 120) br_lg6 br_lw5 (by
  have e : (br_c300.drop 120).drop br_lh5.length = br_c300.drop 144 := by rw [List.drop_drop]; rfl
  rw [e]; exact br_ly6)
theorem br_ly4 : br_chkL "BloomRoomsLaw" false (some .boolean) code (br_c300.drop 96) br_lg4 = true := br_chkL_app br_lh4 (br_c300.drop 96) br_lg5 br_lw4 (by
  have e : (br_c300.drop 96).drop br_lh4.length = br_c300.drop 120 := by rw [List.drop_drop]; rfl
  rw [e]; exact br_ly5)
theorem br_ly3 : br_chkL "BloomRoomsLaw" false (some .boolean) code (br_c300.drop 72) br_lg3 = true := br_chkL_app br_lh3 (br_c300.drop 72) br_lg4 br_lw3 (by
  have e : (br_c300.drop 72).drop br_lh3.length = br_c300.drop 96 := by rw [List.drop_drop]; rfl
  rw [e]; exact br_ly4)
theorem br_ly2 : br_chkL "BloomRoomsLaw" false (some .boolean) code (br_c300.drop 48) br_lg2 = true := br_chkL_app br_lh2 (br_c300.drop 48) br_lg3 br_lw2 (by
  have e : (br_c300.drop 48).drop br_lh2.length = br_c300.drop 72 := by rw [List.drop_drop]; rfl
  rw [e]; exact br_ly3)
theorem br_ly1 : br_chkL "BloomRoomsLaw" false (some .boolean) code (br_c300.drop 24) br_lg1 = true := br_chkL_app br_lh1 (br_c300.drop 24) br_lg2 br_lw1 (by
  have e : (br_c300.drop 24).drop br_lh1.length = br_c300.drop 48 := by rw [List.drop_drop]; rfl
  rw [e]; exact br_ly2)
theorem br_ly0 : br_chkL "BloomRoomsLaw" false (some .boolean) code (br_c300.drop 0) br_lg0 = true := br_chkL_app br_lh0 (br_c300.drop 0) br_lg1 br_lw0 (by
  have e : (br_c300.drop 0).drop br_lh0.length = br_c300.drop 24 := by rw [List.drop_drop]; rfl
  rw [e]; exact br_ly1)
theorem br_ok300 : br_okm 300 := ⟨0, br_lg0, by
  have h : br_chkL (br_md 300).1.cls ((br_md 300).1.name == "<init>") (br_md 300).2.2.2.1 (br_md 300).2.1 (br_code 300) br_lg0 = true := br_ly0
  unfold br_chkM
  simp only [h, Bool.and_true]
  decide +kernel⟩
