theorem br_chkL_app {own : String} {init : Bool} {rt : Option FieldType} {bytes : ByteArray} : ∀ (h1 : List (List Nat)) (l : List (Nat × Instr × Nat × List Nat)) (h2 : List (List Nat)), br_chkL own init rt bytes (l.take h1.length) h1 = true → br_chkL own init rt bytes (l.drop h1.length) h2 = true → br_chkL own init rt bytes l (h1 ++ h2) = true
  | [], l, h2, _, hb => hb
  | a :: t, [], h2, _, _ => rfl
  | a :: t, e :: l, h2, ha, hb => by
    simp only [List.length_cons, List.take_succ_cons, List.drop_succ_cons, br_chkL, Bool.and_eq_true, List.cons_append] at ha hb ⊢
    exact ⟨ha.1, br_chkL_app t l h2 ha.2 hb⟩
def br_lh0 : List (List Nat) := [[108, 109, 87], [], [0, 110, 87, 111], [], [1248, 1249, 100], [], [0, 1250, 100, 1251], [], [], [], [], [], [], [], [], [], [], [], [], [], [], [], [], []]
set_option maxRecDepth 100000 in
theorem br_lw0 : br_chkL "BloomRoomsLaw" false (some .boolean) code ((br_c300.drop 0).take 24) br_lh0 = true := by decide +kernel
def br_lh1 : List (List Nat) := [[], [], [], [], [], [], [], [], [], [], [], [], [], [0, 506, 87, 507, 508], [], [], [], [], [], [], [], [], [], []]
set_option maxRecDepth 100000 in
theorem br_lw1 : br_chkL "BloomRoomsLaw" false (some .boolean) code ((br_c300.drop 24).take 24) br_lh1 = true := by decide +kernel
def br_lh2 : List (List Nat) := [[], [], [], [], [], [0, 1361, 100, 1362, 1363], [], [], [], [], [], [], [], [], [], [], [], [], [], [], [], [], [], []]
set_option maxRecDepth 100000 in
theorem br_lw2 : br_chkL "BloomRoomsLaw" false (some .boolean) code ((br_c300.drop 48).take 24) br_lh2 = true := by decide +kernel
def br_lh3 : List (List Nat) := [[], [0, 521, 87, 522, 523], [], [], [], [], [], [], [], [], [], [], [], [], [], [], [], [], [0, 1373, 100, 1374, 1375], [], [], [], [], []]
set_option maxRecDepth 100000 in
theorem br_lw3 : br_chkL "BloomRoomsLaw" false (some .boolean) code ((br_c300.drop 72).take 24) br_lh3 = true := by decide +kernel
def br_lh4 : List (List Nat) := [[], [], [], [], [], [], [], [], [], [0, 529, 87, 530, 531], [], [], [], [], [], [], [], [], [], [], [], [0, 1379, 100, 1380, 1381], [], []]
set_option maxRecDepth 100000 in
theorem br_lw4 : br_chkL "BloomRoomsLaw" false (some .boolean) code ((br_c300.drop 96).take 24) br_lh4 = true := by decide +kernel
def br_lh5 : List (List Nat) := [[], [], [], [], [], [], [], [0, 537, 87, 538, 539], [], [], [], [], [], [], [0, 1388, 100, 1389, 1390], [], [], [], [], [], [], [], [], []]
set_option maxRecDepth 100000 in
theorem br_lw5 : br_chkL "BloomRoomsLaw" false (some .boolean) code ((br_c300.drop 120).take 24) br_lh5 = true := by decide +kernel
def br_lh6 : List (List Nat) := [[], [], [], [], [], [0, 541, 87, 542, 543], [], [], [], [], [], [], [], [], [], [], [], [0, 1392, 100, 1393, 1394], [], [], [], [], [], []]
set_option maxRecDepth 100000 in
theorem br_lw6 : br_chkL "BloomRoomsLaw" false (some .boolean) code ((br_c300.drop 144).take 24) br_lh6 = true := by decide +kernel
def br_lh7 : List (List Nat) := [[], [], [], [], [], [], [], [], [0, 585, 87, 586, 587], [], [], [], [], [], [], [], [], [], [], [], [0, 1404, 100, 1405, 1406], [], [], []]
set_option maxRecDepth 100000 in
theorem br_lw7 : br_chkL "BloomRoomsLaw" false (some .boolean) code ((br_c300.drop 168).take 24) br_lh7 = true := by decide +kernel
def br_lh8 : List (List Nat) := [[], [], [], [], [], [], [], [], [], [], [], [], [], [], [], [], [], [], [], [], [], [], [], []]
set_option maxRecDepth 100000 in
theorem br_lw8 : br_chkL "BloomRoomsLaw" false (some .boolean) code ((br_c300.drop 192).take 24) br_lh8 = true := by decide +kernel
def br_lh9 : List (List Nat) := [[], [], [0, 590, 87, 591, 592], [], [], [], [], [], [], [], [], [], [], [], [], [], [], [], [], [], [], [], [], []]
set_option maxRecDepth 100000 in
theorem br_lw9 : br_chkL "BloomRoomsLaw" false (some .boolean) code ((br_c300.drop 216).take 24) br_lh9 = true := by decide +kernel
def br_lh10 : List (List Nat) := [[], [], [], [], [], [0, 1409, 100, 1410, 1411], [], [], [], [], [], [], [], [], [], [], [], [], [], [], [0, 598, 87, 599, 600], [], [], []]
set_option maxRecDepth 100000 in
theorem br_lw10 : br_chkL "BloomRoomsLaw" false (some .boolean) code ((br_c300.drop 240).take 24) br_lh10 = true := by decide +kernel
def br_lh11 : List (List Nat) := [[], [], [], [], [], [], [], [], [0, 1413, 100, 1414, 1415], [], [], [], [], [], [], [], [], [], [0, 770, 87, 771, 772], [], [], [], [], []]
set_option maxRecDepth 100000 in
theorem br_lw11 : br_chkL "BloomRoomsLaw" false (some .boolean) code ((br_c300.drop 264).take 24) br_lh11 = true := by decide +kernel
def br_lh12 : List (List Nat) := [[], [0, 1492, 100, 1493, 1494], [], [], [], [], [0, 774, 87, 775, 776], [], [0, 1496, 100, 1497, 1498], [], [], [], [], [], [], [], [], [], [], [], [], [], [], []]
set_option maxRecDepth 100000 in
theorem br_lw12 : br_chkL "BloomRoomsLaw" false (some .boolean) code ((br_c300.drop 288).take 24) br_lh12 = true := by decide +kernel
def br_lh13 : List (List Nat) := [[], [], [], [], [], [], [], [], [0, 785, 87, 786, 787], [], [], [], [], [], [], [], [], [], [], [], [], [], [], []]
set_option maxRecDepth 100000 in
theorem br_lw13 : br_chkL "BloomRoomsLaw" false (some .boolean) code ((br_c300.drop 312).take 24) br_lh13 = true := by decide +kernel
def br_lh14 : List (List Nat) := [[], [], [], [], [], [0, 1503, 100, 1504, 1505], [], [], [], [], [], [], [], [], [], [], [], [], [], [], [0, 809, 87, 810, 811], [], [], []]
set_option maxRecDepth 100000 in
theorem br_lw14 : br_chkL "BloomRoomsLaw" false (some .boolean) code ((br_c300.drop 336).take 24) br_lh14 = true := by decide +kernel
def br_lh15 : List (List Nat) := [[], [], [], [], [], [], [], [], [0, 1515, 100, 1516, 1517], [], [], [], [], [], [], [], [], [], [], [], [], [], [], []]
set_option maxRecDepth 100000 in
theorem br_lw15 : br_chkL "BloomRoomsLaw" false (some .boolean) code ((br_c300.drop 360).take 24) br_lh15 = true := by decide +kernel
def br_lh16 : List (List Nat) := [[], [], [], [], [0, 813, 87, 814, 815], [], [], [], [], [], [], [], [], [], [], [], [], [], [], [], [], [0, 1523, 100, 1524, 1525], [], []]
set_option maxRecDepth 100000 in
theorem br_lw16 : br_chkL "BloomRoomsLaw" false (some .boolean) code ((br_c300.drop 384).take 24) br_lh16 = true := by decide +kernel
def br_lh17 : List (List Nat) := [[], [], [], [], [], [], [], [], [], [], [], [], [], [], [], [], [], [], [], [], [], [0, 817, 87, 818, 819], [], []]
set_option maxRecDepth 100000 in
theorem br_lw17 : br_chkL "BloomRoomsLaw" false (some .boolean) code ((br_c300.drop 408).take 24) br_lh17 = true := by decide +kernel
def br_lh18 : List (List Nat) := [[], [], [], [], [], [], [], [], [], [], [], [], [], [], [], [], [], [], [0, 1528, 100, 1529, 1530], [], [], [], [], []]
set_option maxRecDepth 100000 in
theorem br_lw18 : br_chkL "BloomRoomsLaw" false (some .boolean) code ((br_c300.drop 432).take 24) br_lh18 = true := by decide +kernel
def br_lh19 : List (List Nat) := [[], [], [], [], [], [], [], [], [], [], [], [], [], [], [0, 841, 87, 842, 843], [], [], [], [], [], [], [], [], []]
set_option maxRecDepth 100000 in
theorem br_lw19 : br_chkL "BloomRoomsLaw" false (some .boolean) code ((br_c300.drop 456).take 24) br_lh19 = true := by decide +kernel
def br_lh20 : List (List Nat) := [[], [], [], [], [], [], [], [0, 1562, 100, 1563, 1564], [], [], [], [], [], [], [], [], [], [], [], [], [], [], [], []]
set_option maxRecDepth 100000 in
theorem br_lw20 : br_chkL "BloomRoomsLaw" false (some .boolean) code ((br_c300.drop 480).take 24) br_lh20 = true := by decide +kernel
def br_lh21 : List (List Nat) := [[], [], [], [0, 876, 87, 877, 878], [], [], [], [], [], [], [], [], [], [], [], [], [], [], [], [], [0, 1586, 100, 1587, 1588], [], [], []]
set_option maxRecDepth 100000 in
theorem br_lw21 : br_chkL "BloomRoomsLaw" false (some .boolean) code ((br_c300.drop 504).take 24) br_lh21 = true := by decide +kernel
def br_lh22 : List (List Nat) := [[], [], [], [], [], [], [], [], [], [], [], [], [], [], [], [], [0, 881, 87, 882, 883], [], [], [], [], [], [], []]
set_option maxRecDepth 100000 in
theorem br_lw22 : br_chkL "BloomRoomsLaw" false (some .boolean) code ((br_c300.drop 528).take 24) br_lh22 = true := by decide +kernel
def br_lh23 : List (List Nat) := [[], [], [], [], [], [], [], [], [], [0, 1594, 100, 1595, 1596], [], [], [], [], [0, 996, 87, 997, 998], [], [0, 1549, 100, 1550, 1551], [], [], [], [], [0, 1005, 87, 1006, 1007], [], [0, 1554, 100, 1555, 1556]]
set_option maxRecDepth 100000 in
theorem br_lw23 : br_chkL "BloomRoomsLaw" false (some .boolean) code ((br_c300.drop 552).take 24) br_lh23 = true := by decide +kernel
def br_lh24 : List (List Nat) := [[], [], [], [], [], [0, 1009, 87, 1010, 1011], [], [0, 1558, 100, 1559, 1560], [], [], [], [], [], [], [], [], [], [], [0, 1013, 87, 1014, 1015], [], [], [], [], []]
set_option maxRecDepth 100000 in
theorem br_lw24 : br_chkL "BloomRoomsLaw" false (some .boolean) code ((br_c300.drop 576).take 24) br_lh24 = true := by decide +kernel
def br_lh25 : List (List Nat) := [[], [0, 1649, 100, 1650, 1651], [], [], [], [], [0, 1041, 87, 1042, 1043], [], [0, 1663, 100, 1664, 1665], [], [], [], [], [], [], [], [], [], [], [], [], [], [], []]
set_option maxRecDepth 100000 in
theorem br_lw25 : br_chkL "BloomRoomsLaw" false (some .boolean) code ((br_c300.drop 600).take 24) br_lh25 = true := by decide +kernel
def br_lh26 : List (List Nat) := [[], [], [], [], [0, 1053, 87, 1054, 1055], [], [], [], [], [], [], [], [], [], [], [], [], [], [], [], [], [0, 1671, 100, 1672, 1673], [], []]
set_option maxRecDepth 100000 in
theorem br_lw26 : br_chkL "BloomRoomsLaw" false (some .boolean) code ((br_c300.drop 624).take 24) br_lh26 = true := by decide +kernel
def br_lh27 : List (List Nat) := [[], [], [], [], [], [], [], [], [], [], [], [], [], [], [], [], [], [], [], [], [], [0, 1060, 87, 1061, 1062], [], []]
set_option maxRecDepth 100000 in
theorem br_lw27 : br_chkL "BloomRoomsLaw" false (some .boolean) code ((br_c300.drop 648).take 24) br_lh27 = true := by decide +kernel
def br_lh28 : List (List Nat) := [[], [], [], [], [], [], [], [], [], [], [], [], [], [], [], [], [], [], [0, 1676, 100, 1677, 1678], [], [], [], [], []]
set_option maxRecDepth 100000 in
theorem br_lw28 : br_chkL "BloomRoomsLaw" false (some .boolean) code ((br_c300.drop 672).take 24) br_lh28 = true := by decide +kernel
def br_lh29 : List (List Nat) := [[], [], [], [], [], [], [], [], [], [0, 1068, 87, 1069, 1070], [], [], [], [], [], [], [], [], [], [], [], [0, 1681, 100, 1682, 1683], [], []]
set_option maxRecDepth 100000 in
theorem br_lw29 : br_chkL "BloomRoomsLaw" false (some .boolean) code ((br_c300.drop 696).take 24) br_lh29 = true := by decide +kernel
def br_lh30 : List (List Nat) := [[], [], [0, 1078, 87, 1079, 1080], [], [0, 1697, 100, 1698, 1699], [], [], [], [], [], [], [], [], [], [], [], [], [], [], [0, 1093, 87, 1094, 1095], [], [], [], []]
set_option maxRecDepth 100000 in
theorem br_lw30 : br_chkL "BloomRoomsLaw" false (some .boolean) code ((br_c300.drop 720).take 24) br_lh30 = true := by decide +kernel
def br_lh31 : List (List Nat) := [[], [], [], [], [], [], [], [0, 1706, 100, 1707, 1708], [], [], [], [], [], [], [], [], [], [], [], [], [], [], [], []]
set_option maxRecDepth 100000 in
theorem br_lw31 : br_chkL "BloomRoomsLaw" false (some .boolean) code ((br_c300.drop 744).take 24) br_lh31 = true := by decide +kernel
def br_lh32 : List (List Nat) := [[], [], [], [0, 1097, 87, 1098, 1099], [], [], [], [], [], [], [], [], [], [], [], [], [], [], [], [], [0, 1710, 100, 1711, 1712], [], [], []]
set_option maxRecDepth 100000 in
theorem br_lw32 : br_chkL "BloomRoomsLaw" false (some .boolean) code ((br_c300.drop 768).take 24) br_lh32 = true := by decide +kernel
def br_lh33 : List (List Nat) := [[], [], [], [], [], [], [0, 1105, 87, 1106, 1107], [], [], [], [], [], [], [0, 1714, 100, 1715, 1716], [], [], [], [], [], [], [], [], [], []]
set_option maxRecDepth 100000 in
theorem br_lw33 : br_chkL "BloomRoomsLaw" false (some .boolean) code ((br_c300.drop 792).take 24) br_lh33 = true := by decide +kernel
def br_lh34 : List (List Nat) := [[], [], [], [], [], [], [], [], [], [], [], [], [], [], [], [], [], [], [0, 1117, 87, 1118, 1119], [], [], [], [], []]
set_option maxRecDepth 100000 in
theorem br_lw34 : br_chkL "BloomRoomsLaw" false (some .boolean) code ((br_c300.drop 816).take 24) br_lh34 = true := by decide +kernel
def br_lh35 : List (List Nat) := [[], [], [], [], [], [], [], [], [], [], [], [], [], [], [], [], [], [], [], [], [0, 1722, 100, 1723, 1724], [], [], []]
set_option maxRecDepth 100000 in
theorem br_lw35 : br_chkL "BloomRoomsLaw" false (some .boolean) code ((br_c300.drop 840).take 24) br_lh35 = true := by decide +kernel
def br_lh36 : List (List Nat) := [[], [], [], [], [], [], [], [], [], [], [0, 1125, 87, 1126, 1127], [], [], [], [], [], [], [], [], [], [], [0, 1728, 100, 1729, 1730], [], []]
set_option maxRecDepth 100000 in
theorem br_lw36 : br_chkL "BloomRoomsLaw" false (some .boolean) code ((br_c300.drop 864).take 24) br_lh36 = true := by decide +kernel
def br_lh37 : List (List Nat) := [[], [], [], [], [], [], [], [], [], [], [], [], [], [], [], [], [], [], [], [], [0, 1134, 87, 1135, 1136], [], [], []]
set_option maxRecDepth 100000 in
theorem br_lw37 : br_chkL "BloomRoomsLaw" false (some .boolean) code ((br_c300.drop 888).take 24) br_lh37 = true := by decide +kernel
def br_lh38 : List (List Nat) := [[], [], [], [], [], [], [], [], [], [], [], [], [], [], [], [], [0, 1736, 100, 1737, 1738], [], [], [], [], [], [], []]
set_option maxRecDepth 100000 in
theorem br_lw38 : br_chkL "BloomRoomsLaw" false (some .boolean) code ((br_c300.drop 912).take 24) br_lh38 = true := by decide +kernel
def br_lh39 : List (List Nat) := [[], [], [0, 1147, 87, 1148, 1149], [], [], [], [], [], [], [0, 1740, 100, 1741, 1742], [], [], [], [], [], [], [], [], [], [], [], [], [], []]
set_option maxRecDepth 100000 in
theorem br_lw39 : br_chkL "BloomRoomsLaw" false (some .boolean) code ((br_c300.drop 936).take 24) br_lh39 = true := by decide +kernel
def br_lh40 : List (List Nat) := [[], [], [], [], [], [0, 1151, 87, 1152, 1153], [], [], [], [], [], [], [], [], [], [], [], [], [], [], [], [], [0, 1745, 100, 1746, 1747], []]
set_option maxRecDepth 100000 in
theorem br_lw40 : br_chkL "BloomRoomsLaw" false (some .boolean) code ((br_c300.drop 960).take 24) br_lh40 = true := by decide +kernel
def br_lh41 : List (List Nat) := [[], [], [], [], [], [], [], [], [], [], [], [], [], [0, 1167, 87, 1168, 1169], [], [], [], [], [], [], [], [], [], []]
set_option maxRecDepth 100000 in
theorem br_lw41 : br_chkL "BloomRoomsLaw" false (some .boolean) code ((br_c300.drop 984).take 24) br_lh41 = true := by decide +kernel
def br_lh42 : List (List Nat) := [[], [0, 1753, 100, 1754, 1755], [], [], [], [], [], [], [], [], [], [0, 1171, 87, 1172, 1173], [], [], [], [], [], [], [0, 1757, 100, 1758, 1759], [], [], [], [], []]
set_option maxRecDepth 100000 in
theorem br_lw42 : br_chkL "BloomRoomsLaw" false (some .boolean) code ((br_c300.drop 1008).take 24) br_lh42 = true := by decide +kernel
def br_lh43 : List (List Nat) := [[], [], [], [], [], [], [], [], [], [0, 1177, 87, 1178, 1179], [], [], [], [], [], [], [], [], [], [], [], [0, 1762, 100, 1763, 1764], [], []]
set_option maxRecDepth 100000 in
theorem br_lw43 : br_chkL "BloomRoomsLaw" false (some .boolean) code ((br_c300.drop 1032).take 24) br_lh43 = true := by decide +kernel
def br_lh44 : List (List Nat) := [[], [], [], [], [], [], [], [], [], [], [], [], [], [], [], [], [], [0, 1186, 87, 1187, 1188], [], [], [], [], [], []]
set_option maxRecDepth 100000 in
theorem br_lw44 : br_chkL "BloomRoomsLaw" false (some .boolean) code ((br_c300.drop 1056).take 24) br_lh44 = true := by decide +kernel
def br_lh45 : List (List Nat) := [[], [], [], [], [], [], [], [], [], [], [0, 1774, 100, 1775, 1776], [], [], [], [], [], [], [], [], [], [], [], [], []]
set_option maxRecDepth 100000 in
theorem br_lw45 : br_chkL "BloomRoomsLaw" false (some .boolean) code ((br_c300.drop 1080).take 24) br_lh45 = true := by decide +kernel
def br_lh46 : List (List Nat) := [[], [], [], [], [], [], [], [], [], [], [], [], [], [], [], [1811], [], [], [0, 1193, 87, 1194, 1195], [], [], [], [], []]
set_option maxRecDepth 100000 in
theorem br_lw46 : br_chkL "BloomRoomsLaw" false (some .boolean) code ((br_c300.drop 1104).take 24) br_lh46 = true := by decide +kernel
def br_lh47 : List (List Nat) := [[], [], [], [], [], [], [], [], [], [], [], [], [], [], [], [], [], [], [], [], [1811], [], [], [0, 1778, 100, 1779, 1780]]
set_option maxRecDepth 100000 in
theorem br_lw47 : br_chkL "BloomRoomsLaw" false (some .boolean) code ((br_c300.drop 1128).take 24) br_lh47 = true := by decide +kernel
def br_lh48 : List (List Nat) := [[], [], [], [], [], [], [], [], [], [], [], [], [], [], [], [0, 1200, 87, 1201, 1202], [], [], [], [], [], [], [], []]
set_option maxRecDepth 100000 in
theorem br_lw48 : br_chkL "BloomRoomsLaw" false (some .boolean) code ((br_c300.drop 1152).take 24) br_lh48 = true := by decide +kernel
def br_lh49 : List (List Nat) := [[], [], [], [0, 1785, 100, 1786, 1787], [], [], [], [], [], [], [], [], [], [0, 1206, 87, 1207, 1208], [], [], [], [], [], [], [0, 1789, 100, 1790, 1791], [], [], []]
set_option maxRecDepth 100000 in
theorem br_lw49 : br_chkL "BloomRoomsLaw" false (some .boolean) code ((br_c300.drop 1176).take 24) br_lh49 = true := by decide +kernel
def br_lh50 : List (List Nat) := [[], [], [], [], [], [], [0, 1232, 87, 1233, 1234], [], [], [], [], [], [], [0, 1793, 100, 1794, 1795], [], [], [], [], [], [], [], [], [], [0, 1236, 87, 1237, 1238]]
set_option maxRecDepth 100000 in
theorem br_lw50 : br_chkL "BloomRoomsLaw" false (some .boolean) code ((br_c300.drop 1200).take 24) br_lh50 = true := by decide +kernel
def br_lh51 : List (List Nat) := [[], [], [], [], [], [], [0, 1797, 100, 1798, 1799], [], [], [], [], [], [], [], [], [], [0, 1240, 87, 1241, 1242], [], [], [], [], [], [], [0, 1802, 100, 1803, 1804]]
set_option maxRecDepth 100000 in
theorem br_lw51 : br_chkL "BloomRoomsLaw" false (some .boolean) code ((br_c300.drop 1224).take 24) br_lh51 = true := by decide +kernel
def br_lh52 : List (List Nat) := [[], [], [], [], [], [], []]
set_option maxRecDepth 100000 in
theorem br_lw52 : br_chkL "BloomRoomsLaw" false (some .boolean) code ((br_c300.drop 1248).take 7) br_lh52 = true := by decide +kernel
def br_lg53 : List (List Nat) := []
def br_lg52 : List (List Nat) := br_lh52 ++ br_lg53
def br_lg51 : List (List Nat) := br_lh51 ++ br_lg52
def br_lg50 : List (List Nat) := br_lh50 ++ br_lg51
def br_lg49 : List (List Nat) := br_lh49 ++ br_lg50
def br_lg48 : List (List Nat) := br_lh48 ++ br_lg49
def br_lg47 : List (List Nat) := br_lh47 ++ br_lg48
def br_lg46 : List (List Nat) := br_lh46 ++ br_lg47
def br_lg45 : List (List Nat) := br_lh45 ++ br_lg46
def br_lg44 : List (List Nat) := br_lh44 ++ br_lg45
def br_lg43 : List (List Nat) := br_lh43 ++ br_lg44
def br_lg42 : List (List Nat) := br_lh42 ++ br_lg43
def br_lg41 : List (List Nat) := br_lh41 ++ br_lg42
def br_lg40 : List (List Nat) := br_lh40 ++ br_lg41
def br_lg39 : List (List Nat) := br_lh39 ++ br_lg40
def br_lg38 : List (List Nat) := br_lh38 ++ br_lg39
def br_lg37 : List (List Nat) := br_lh37 ++ br_lg38
def br_lg36 : List (List Nat) := br_lh36 ++ br_lg37
def br_lg35 : List (List Nat) := br_lh35 ++ br_lg36
def br_lg34 : List (List Nat) := br_lh34 ++ br_lg35
def br_lg33 : List (List Nat) := br_lh33 ++ br_lg34
def br_lg32 : List (List Nat) := br_lh32 ++ br_lg33
def br_lg31 : List (List Nat) := br_lh31 ++ br_lg32
def br_lg30 : List (List Nat) := br_lh30 ++ br_lg31
def br_lg29 : List (List Nat) := br_lh29 ++ br_lg30
def br_lg28 : List (List Nat) := br_lh28 ++ br_lg29
def br_lg27 : List (List Nat) := br_lh27 ++ br_lg28
def br_lg26 : List (List Nat) := br_lh26 ++ br_lg27
def br_lg25 : List (List Nat) := br_lh25 ++ br_lg26
def br_lg24 : List (List Nat) := br_lh24 ++ br_lg25
def br_lg23 : List (List Nat) := br_lh23 ++ br_lg24
def br_lg22 : List (List Nat) := br_lh22 ++ br_lg23
def br_lg21 : List (List Nat) := br_lh21 ++ br_lg22
def br_lg20 : List (List Nat) := br_lh20 ++ br_lg21
def br_lg19 : List (List Nat) := br_lh19 ++ br_lg20
def br_lg18 : List (List Nat) := br_lh18 ++ br_lg19
def br_lg17 : List (List Nat) := br_lh17 ++ br_lg18
def br_lg16 : List (List Nat) := br_lh16 ++ br_lg17
def br_lg15 : List (List Nat) := br_lh15 ++ br_lg16
def br_lg14 : List (List Nat) := br_lh14 ++ br_lg15
def br_lg13 : List (List Nat) := br_lh13 ++ br_lg14
def br_lg12 : List (List Nat) := br_lh12 ++ br_lg13
def br_lg11 : List (List Nat) := br_lh11 ++ br_lg12
def br_lg10 : List (List Nat) := br_lh10 ++ br_lg11
def br_lg9 : List (List Nat) := br_lh9 ++ br_lg10
def br_lg8 : List (List Nat) := br_lh8 ++ br_lg9
def br_lg7 : List (List Nat) := br_lh7 ++ br_lg8
def br_lg6 : List (List Nat) := br_lh6 ++ br_lg7
def br_lg5 : List (List Nat) := br_lh5 ++ br_lg6
def br_lg4 : List (List Nat) := br_lh4 ++ br_lg5
def br_lg3 : List (List Nat) := br_lh3 ++ br_lg4
def br_lg2 : List (List Nat) := br_lh2 ++ br_lg3
def br_lg1 : List (List Nat) := br_lh1 ++ br_lg2
def br_lg0 : List (List Nat) := br_lh0 ++ br_lg1
theorem br_ly53 : br_chkL "BloomRoomsLaw" false (some .boolean) code (br_c300.drop 1255) br_lg53 = true := by decide +kernel
theorem br_ly52 : br_chkL "BloomRoomsLaw" false (some .boolean) code (br_c300.drop 1248) br_lg52 = true := br_chkL_app br_lh52 (br_c300.drop 1248) br_lg53 br_lw52 (by
  have e : (br_c300.drop 1248).drop br_lh52.length = br_c300.drop 1255 := by rw [List.drop_drop]; rfl
  rw [e]; exact br_ly53)
theorem br_ly51 : br_chkL "BloomRoomsLaw" false (some .boolean) code (br_c300.drop 1224) br_lg51 = true := br_chkL_app br_lh51 (br_c300.drop 1224) br_lg52 br_lw51 (by
  have e : (br_c300.drop 1224).drop br_lh51.length = br_c300.drop 1248 := by rw [List.drop_drop]; rfl
  rw [e]; exact br_ly52)
theorem br_ly50 : br_chkL "BloomRoomsLaw" false (some .boolean) code (br_c300.drop 1200) br_lg50 = true := br_chkL_app br_lh50 (br_c300.drop 1200) br_lg51 br_lw50 (by
  have e : (br_c300.drop 1200).drop br_lh50.length = br_c300.drop 1224 := by rw [List.drop_drop]; rfl
  rw [e]; exact br_ly51)
theorem br_ly49 : br_chkL "BloomRoomsLaw" false (some .boolean) code (br_c300.drop 1176) br_lg49 = true := br_chkL_app br_lh49 (br_c300.drop 1176) br_lg50 br_lw49 (by
  have e : (br_c300.drop 1176).drop br_lh49.length = br_c300.drop 1200 := by rw [List.drop_drop]; rfl
  rw [e]; exact br_ly50)
theorem br_ly48 : br_chkL "BloomRoomsLaw" false (some .boolean) code (br_c300.drop 1152) br_lg48 = true := br_chkL_app br_lh48 (br_c300.drop 1152) br_lg49 br_lw48 (by
  have e : (br_c300.drop 1152).drop br_lh48.length = br_c300.drop 1176 := by rw [List.drop_drop]; rfl
  rw [e]; exact br_ly49)
theorem br_ly47 : br_chkL "BloomRoomsLaw" false (some .boolean) code (br_c300.drop 1128) br_lg47 = true := br_chkL_app br_lh47 (br_c300.drop 1128) br_lg48 br_lw47 (by
  have e : (br_c300.drop 1128).drop br_lh47.length = br_c300.drop 1152 := by rw [List.drop_drop]; rfl
  rw [e]; exact br_ly48)
theorem br_ly46 : br_chkL "BloomRoomsLaw" false (some .boolean) code (br_c300.drop 1104) br_lg46 = true := br_chkL_app br_lh46 (br_c300.drop 1104) br_lg47 br_lw46 (by
  have e : (br_c300.drop 1104).drop br_lh46.length = br_c300.drop 1128 := by rw [List.drop_drop]; rfl
  rw [e]; exact br_ly47)
theorem br_ly45 : br_chkL "BloomRoomsLaw" false (some .boolean) code (br_c300.drop 1080) br_lg45 = true := br_chkL_app br_lh45 (br_c300.drop 1080) br_lg46 br_lw45 (by
  have e : (br_c300.drop 1080).drop br_lh45.length = br_c300.drop 1104 := by rw [List.drop_drop]; rfl
  rw [e]; exact br_ly46)
theorem br_ly44 : br_chkL "BloomRoomsLaw" false (some .boolean) code (br_c300.drop 1056) br_lg44 = true := br_chkL_app br_lh44 (br_c300.drop 1056) br_lg45 br_lw44 (by
  have e : (br_c300.drop 1056).drop br_lh44.length = br_c300.drop 1080 := by rw [List.drop_drop]; rfl
  rw [e]; exact br_ly45)
theorem br_ly43 : br_chkL "BloomRoomsLaw" false (some .boolean) code (br_c300.drop 1032) br_lg43 = true := br_chkL_app br_lh43 (br_c300.drop 1032) br_lg44 br_lw43 (by
  have e : (br_c300.drop 1032).drop br_lh43.length = br_c300.drop 1056 := by rw [List.drop_drop]; rfl
  rw [e]; exact br_ly44)
theorem br_ly42 : br_chkL "BloomRoomsLaw" false (some .boolean) code (br_c300.drop 1008) br_lg42 = true := br_chkL_app br_lh42 (br_c300.drop 1008) br_lg43 br_lw42 (by
  have e : (br_c300.drop 1008).drop br_lh42.length = br_c300.drop 1032 := by rw [List.drop_drop]; rfl
  rw [e]; exact br_ly43)
theorem br_ly41 : br_chkL "BloomRoomsLaw" false (some .boolean) code (br_c300.drop 984) br_lg41 = true := br_chkL_app br_lh41 (br_c300.drop 984) br_lg42 br_lw41 (by
  have e : (br_c300.drop 984).drop br_lh41.length = br_c300.drop 1008 := by rw [List.drop_drop]; rfl
  rw [e]; exact br_ly42)
theorem br_ly40 : br_chkL "BloomRoomsLaw" false (some .boolean) code (br_c300.drop 960) br_lg40 = true := br_chkL_app br_lh40 (br_c300.drop 960) br_lg41 br_lw40 (by
  have e : (br_c300.drop 960).drop br_lh40.length = br_c300.drop 984 := by rw [List.drop_drop]; rfl
  rw [e]; exact br_ly41)
theorem br_ly39 : br_chkL "BloomRoomsLaw" false (some .boolean) code (br_c300.drop 936) br_lg39 = true := br_chkL_app br_lh39 (br_c300.drop 936) br_lg40 br_lw39 (by
  have e : (br_c300.drop 936).drop br_lh39.length = br_c300.drop 960 := by rw [List.drop_drop]; rfl
  rw [e]; exact br_ly40)
theorem br_ly38 : br_chkL "BloomRoomsLaw" false (some .boolean) code (br_c300.drop 912) br_lg38 = true := br_chkL_app br_lh38 (br_c300.drop 912) br_lg39 br_lw38 (by
  have e : (br_c300.drop 912).drop br_lh38.length = br_c300.drop 936 := by rw [List.drop_drop]; rfl
  rw [e]; exact br_ly39)
theorem br_ly37 : br_chkL "BloomRoomsLaw" false (some .boolean) code (br_c300.drop 888) br_lg37 = true := br_chkL_app br_lh37 (br_c300.drop 888) br_lg38 br_lw37 (by
  have e : (br_c300.drop 888).drop br_lh37.length = br_c300.drop 912 := by rw [List.drop_drop]; rfl
  rw [e]; exact br_ly38)
theorem br_ly36 : br_chkL "BloomRoomsLaw" false (some .boolean) code (br_c300.drop 864) br_lg36 = true := br_chkL_app br_lh36 (br_c300.drop 864) br_lg37 br_lw36 (by
  have e : (br_c300.drop 864).drop br_lh36.length = br_c300.drop 888 := by rw [List.drop_drop]; rfl
  rw [e]; exact br_ly37)
theorem br_ly35 : br_chkL "BloomRoomsLaw" false (some .boolean) code (br_c300.drop 840) br_lg35 = true := br_chkL_app br_lh35 (br_c300.drop 840) br_lg36 br_lw35 (by
  have e : (br_c300.drop 840).drop br_lh35.length = br_c300.drop 864 := by rw [List.drop_drop]; rfl
  rw [e]; exact br_ly36)
theorem br_ly34 : br_chkL "BloomRoomsLaw" false (some .boolean) code (br_c300.drop 816) br_lg34 = true := br_chkL_app br_lh34 (br_c300.drop 816) br_lg35 br_lw34 (by
  have e : (br_c300.drop 816).drop br_lh34.length = br_c300.drop 840 := by rw [List.drop_drop]; rfl
  rw [e]; exact br_ly35)
theorem br_ly33 : br_chkL "BloomRoomsLaw" false (some .boolean) code (br_c300.drop 792) br_lg33 = true := br_chkL_app br_lh33 (br_c300.drop 792) br_lg34 br_lw33 (by
  have e : (br_c300.drop 792).drop br_lh33.length = br_c300.drop 816 := by rw [List.drop_drop]; rfl
  rw [e]; exact br_ly34)
theorem br_ly32 : br_chkL "BloomRoomsLaw" false (some .boolean) code (br_c300.drop 768) br_lg32 = true := br_chkL_app br_lh32 (br_c300.drop 768) br_lg33 br_lw32 (by
  have e : (br_c300.drop 768).drop br_lh32.length = br_c300.drop 792 := by rw [List.drop_drop]; rfl
  rw [e]; exact br_ly33)
theorem br_ly31 : br_chkL "BloomRoomsLaw" false (some .boolean) code (br_c300.drop 744) br_lg31 = true := br_chkL_app br_lh31 (br_c300.drop 744) br_lg32 br_lw31 (by
  have e : (br_c300.drop 744).drop br_lh31.length = br_c300.drop 768 := by rw [List.drop_drop]; rfl
  rw [e]; exact br_ly32)
theorem br_ly30 : br_chkL "BloomRoomsLaw" false (some .boolean) code (br_c300.drop 720) br_lg30 = true := br_chkL_app br_lh30 (br_c300.drop 720) br_lg31 br_lw30 (by
  have e : (br_c300.drop 720).drop br_lh30.length = br_c300.drop 744 := by rw [List.drop_drop]; rfl
  rw [e]; exact br_ly31)
theorem br_ly29 : br_chkL "BloomRoomsLaw" false (some .boolean) code (br_c300.drop 696) br_lg29 = true := br_chkL_app br_lh29 (br_c300.drop 696) br_lg30 br_lw29 (by
  have e : (br_c300.drop 696).drop br_lh29.length = br_c300.drop 720 := by rw [List.drop_drop]; rfl
  rw [e]; exact br_ly30)
theorem br_ly28 : br_chkL "BloomRoomsLaw" false (some .boolean) code (br_c300.drop 672) br_lg28 = true := br_chkL_app br_lh28 (br_c300.drop 672) br_lg29 br_lw28 (by
  have e : (br_c300.drop 672).drop br_lh28.length = br_c300.drop 696 := by rw [List.drop_drop]; rfl
  rw [e]; exact br_ly29)
theorem br_ly27 : br_chkL "BloomRoomsLaw" false (some .boolean) code (br_c300.drop 648) br_lg27 = true := br_chkL_app br_lh27 (br_c300.drop 648) br_lg28 br_lw27 (by
  have e : (br_c300.drop 648).drop br_lh27.length = br_c300.drop 672 := by rw [List.drop_drop]; rfl
  rw [e]; exact br_ly28)
theorem br_ly26 : br_chkL "BloomRoomsLaw" false (some .boolean) code (br_c300.drop 624) br_lg26 = true := br_chkL_app br_lh26 (br_c300.drop 624) br_lg27 br_lw26 (by
  have e : (br_c300.drop 624).drop br_lh26.length = br_c300.drop 648 := by rw [List.drop_drop]; rfl
  rw [e]; exact br_ly27)
theorem br_ly25 : br_chkL "BloomRoomsLaw" false (some .boolean) code (br_c300.drop 600) br_lg25 = true := br_chkL_app br_lh25 (br_c300.drop 600) br_lg26 br_lw25 (by
  have e : (br_c300.drop 600).drop br_lh25.length = br_c300.drop 624 := by rw [List.drop_drop]; rfl
  rw [e]; exact br_ly26)
theorem br_ly24 : br_chkL "BloomRoomsLaw" false (some .boolean) code (br_c300.drop 576) br_lg24 = true := br_chkL_app br_lh24 (br_c300.drop 576) br_lg25 br_lw24 (by
  have e : (br_c300.drop 576).drop br_lh24.length = br_c300.drop 600 := by rw [List.drop_drop]; rfl
  rw [e]; exact br_ly25)
theorem br_ly23 : br_chkL "BloomRoomsLaw" false (some .boolean) code (br_c300.drop 552) br_lg23 = true := br_chkL_app br_lh23 (br_c300.drop 552) br_lg24 br_lw23 (by
  have e : (br_c300.drop 552).drop br_lh23.length = br_c300.drop 576 := by rw [List.drop_drop]; rfl
  rw [e]; exact br_ly24)
theorem br_ly22 : br_chkL "BloomRoomsLaw" false (some .boolean) code (br_c300.drop 528) br_lg22 = true := br_chkL_app br_lh22 (br_c300.drop 528) br_lg23 br_lw22 (by
  have e : (br_c300.drop 528).drop br_lh22.length = br_c300.drop 552 := by rw [List.drop_drop]; rfl
  rw [e]; exact br_ly23)
theorem br_ly21 : br_chkL "BloomRoomsLaw" false (some .boolean) code (br_c300.drop 504) br_lg21 = true := br_chkL_app br_lh21 (br_c300.drop 504) br_lg22 br_lw21 (by
  have e : (br_c300.drop 504).drop br_lh21.length = br_c300.drop 528 := by rw [List.drop_drop]; rfl
  rw [e]; exact br_ly22)
theorem br_ly20 : br_chkL "BloomRoomsLaw" false (some .boolean) code (br_c300.drop 480) br_lg20 = true := br_chkL_app br_lh20 (br_c300.drop 480) br_lg21 br_lw20 (by
  have e : (br_c300.drop 480).drop br_lh20.length = br_c300.drop 504 := by rw [List.drop_drop]; rfl
  rw [e]; exact br_ly21)
theorem br_ly19 : br_chkL "BloomRoomsLaw" false (some .boolean) code (br_c300.drop 456) br_lg19 = true := br_chkL_app br_lh19 (br_c300.drop 456) br_lg20 br_lw19 (by
  have e : (br_c300.drop 456).drop br_lh19.length = br_c300.drop 480 := by rw [List.drop_drop]; rfl
  rw [e]; exact br_ly20)
theorem br_ly18 : br_chkL "BloomRoomsLaw" false (some .boolean) code (br_c300.drop 432) br_lg18 = true := br_chkL_app br_lh18 (br_c300.drop 432) br_lg19 br_lw18 (by
  have e : (br_c300.drop 432).drop br_lh18.length = br_c300.drop 456 := by rw [List.drop_drop]; rfl
  rw [e]; exact br_ly19)
theorem br_ly17 : br_chkL "BloomRoomsLaw" false (some .boolean) code (br_c300.drop 408) br_lg17 = true := br_chkL_app br_lh17 (br_c300.drop 408) br_lg18 br_lw17 (by
  have e : (br_c300.drop 408).drop br_lh17.length = br_c300.drop 432 := by rw [List.drop_drop]; rfl
  rw [e]; exact br_ly18)
theorem br_ly16 : br_chkL "BloomRoomsLaw" false (some .boolean) code (br_c300.drop 384) br_lg16 = true := br_chkL_app br_lh16 (br_c300.drop 384) br_lg17 br_lw16 (by
  have e : (br_c300.drop 384).drop br_lh16.length = br_c300.drop 408 := by rw [List.drop_drop]; rfl
  rw [e]; exact br_ly17)
theorem br_ly15 : br_chkL "BloomRoomsLaw" false (some .boolean) code (br_c300.drop 360) br_lg15 = true := br_chkL_app br_lh15 (br_c300.drop 360) br_lg16 br_lw15 (by
  have e : (br_c300.drop 360).drop br_lh15.length = br_c300.drop 384 := by rw [List.drop_drop]; rfl
  rw [e]; exact br_ly16)
theorem br_ly14 : br_chkL "BloomRoomsLaw" false (some .boolean) code (br_c300.drop 336) br_lg14 = true := br_chkL_app br_lh14 (br_c300.drop 336) br_lg15 br_lw14 (by
  have e : (br_c300.drop 336).drop br_lh14.length = br_c300.drop 360 := by rw [List.drop_drop]; rfl
  rw [e]; exact br_ly15)
theorem br_ly13 : br_chkL "BloomRoomsLaw" false (some .boolean) code (br_c300.drop 312) br_lg13 = true := br_chkL_app br_lh13 (br_c300.drop 312) br_lg14 br_lw13 (by
  have e : (br_c300.drop 312).drop br_lh13.length = br_c300.drop 336 := by rw [List.drop_drop]; rfl
  rw [e]; exact br_ly14)
theorem br_ly12 : br_chkL "BloomRoomsLaw" false (some .boolean) code (br_c300.drop 288) br_lg12 = true := br_chkL_app br_lh12 (br_c300.drop 288) br_lg13 br_lw12 (by
  have e : (br_c300.drop 288).drop br_lh12.length = br_c300.drop 312 := by rw [List.drop_drop]; rfl
  rw [e]; exact br_ly13)
theorem br_ly11 : br_chkL "BloomRoomsLaw" false (some .boolean) code (br_c300.drop 264) br_lg11 = true := br_chkL_app br_lh11 (br_c300.drop 264) br_lg12 br_lw11 (by
  have e : (br_c300.drop 264).drop br_lh11.length = br_c300.drop 288 := by rw [List.drop_drop]; rfl
  rw [e]; exact br_ly12)
theorem br_ly10 : br_chkL "BloomRoomsLaw" false (some .boolean) code (br_c300.drop 240) br_lg10 = true := br_chkL_app br_lh10 (br_c300.drop 240) br_lg11 br_lw10 (by
  have e : (br_c300.drop 240).drop br_lh10.length = br_c300.drop 264 := by rw [List.drop_drop]; rfl
  rw [e]; exact br_ly11)
theorem br_ly9 : br_chkL "BloomRoomsLaw" false (some .boolean) code (br_c300.drop 216) br_lg9 = true := br_chkL_app br_lh9 (br_c300.drop 216) br_lg10 br_lw9 (by
  have e : (br_c300.drop 216).drop br_lh9.length = br_c300.drop 240 := by rw [List.drop_drop]; rfl
  rw [e]; exact br_ly10)
theorem br_ly8 : br_chkL "BloomRoomsLaw" false (some .boolean) code (br_c300.drop 192) br_lg8 = true := br_chkL_app br_lh8 (br_c300.drop 192) br_lg9 br_lw8 (by
  have e : (br_c300.drop 192).drop br_lh8.length = br_c300.drop 216 := by rw [List.drop_drop]; rfl
  rw [e]; exact br_ly9)
theorem br_ly7 : br_chkL "BloomRoomsLaw" false (some .boolean) code (br_c300.drop 168) br_lg7 = true := br_chkL_app br_lh7 (br_c300.drop 168) br_lg8 br_lw7 (by
  have e : (br_c300.drop 168).drop br_lh7.length = br_c300.drop 192 := by rw [List.drop_drop]; rfl
  rw [e]; exact br_ly8)
theorem br_ly6 : br_chkL "BloomRoomsLaw" false (some .boolean) code (br_c300.drop 144) br_lg6 = true := br_chkL_app br_lh6 (br_c300.drop 144) br_lg7 br_lw6 (by
  have e : (br_c300.drop 144).drop br_lh6.length = br_c300.drop 168 := by rw [List.drop_drop]; rfl
  rw [e]; exact br_ly7)
theorem br_ly5 : br_chkL "BloomRoomsLaw" false (some .boolean) code (br_c300.drop 120) br_lg5 = true := br_chkL_app br_lh5 (br_c300.drop 120) br_lg6 br_lw5 (by
  have e : (br_c300.drop 120).drop br_lh5.length = br_c300.drop 144 := by rw [List.drop_drop]; rfl
  rw [e]; exact br_ly6)
theorem br_ly4 : br_chkL "BloomRoomsLaw" false (some .boolean) code (br_c300.drop 96) br_lg4 = true := br_chkL_app br_lh4 (br_c300.drop 96) br_lg5 br_lw4 (by
  have e : (br_c300.drop 96).drop br_lh4.length = br_c300.drop 120 := by rw [List.drop_drop]; rfl
  rw [e]; exact br_ly5)
theorem br_ly3 : br_chkL "BloomRoomsLaw" false (some .boolean) code (br_c300.drop 72) br_lg3 = true := br_chkL_app br_lh3 (br_c300.drop 72) br_lg4 br_lw3 (by
  have e : (br_c300.drop 72).drop br_lh3.length = br_c300.drop 96 := by rw [List.drop_drop]; rfl
  rw [e]; exact br_ly4)
theorem br_ly2 : br_chkL "BloomRoomsLaw" false (some .boolean) code (br_c300.drop 48) br_lg2 = true := br_chkL_app br_lh2 (br_c300.drop 48) br_lg3 br_lw2 (by
  have e : (br_c300.drop 48).drop br_lh2.length = br_c300.drop 72 := by rw [List.drop_drop]; rfl
  rw [e]; exact br_ly3)
theorem br_ly1 : br_chkL "BloomRoomsLaw" false (some .boolean) code (br_c300.drop 24) br_lg1 = true := br_chkL_app br_lh1 (br_c300.drop 24) br_lg2 br_lw1 (by
  have e : (br_c300.drop 24).drop br_lh1.length = br_c300.drop 48 := by rw [List.drop_drop]; rfl
  rw [e]; exact br_ly2)
theorem br_ly0 : br_chkL "BloomRoomsLaw" false (some .boolean) code (br_c300.drop 0) br_lg0 = true := br_chkL_app br_lh0 (br_c300.drop 0) br_lg1 br_lw0 (by
  have e : (br_c300.drop 0).drop br_lh0.length = br_c300.drop 24 := by rw [List.drop_drop]; rfl
  rw [e]; exact br_ly1)
theorem br_ok300 : br_okm 300 := ⟨0, br_lg0, by
  have h : br_chkL (br_md 300).1.cls ((br_md 300).1.name == "<init>") (br_md 300).2.2.2.1 (br_md 300).2.1 (br_code 300) br_lg0 = true := br_ly0
  unfold br_chkM
  simp only [h, Bool.and_true]
  decide +kernel⟩
