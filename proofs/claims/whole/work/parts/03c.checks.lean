/-! CHECKS of the tables, by the kernel -/
def am_mx : List (Nat × Nat × Nat × Nat × Nat) := [(120, 2, 398, 0, 1), (124, 2, 544, 0, 1), (120, 0, 1033, 1034, 1), (113, 1, 808, 0, 2), (120, 0, 920, 921, 0), (120, 0, 928, 929, 0), (120, 0, 889, 890, 1), (130, 1, 899, 0, 1), (120, 0, 894, 895, 1), (120, 0, 1279, 1280, 1), (120, 0, 1040, 1041, 2), (120, 0, 1274, 1275, 1), (124, 0, 1270, 40, 1), (124, 0, 1286, 41, 2), (120, 0, 876, 877, 2), (120, 0, 951, 952, 4), (120, 0, 947, 948, 1), (120, 0, 960, 961, 1), (124, 0, 1263, 1264, 3), (118, 2, 232, 0, 0), (118, 0, 633, 634, 0), (118, 0, 724, 725, 0), (118, 0, 844, 845, 3), (118, 0, 1188, 37, 1), (118, 0, 1193, 38, 1), (118, 0, 1183, 1184, 1), (118, 0, 1200, 1201, 2), (118, 0, 1220, 1221, 1), (118, 0, 1216, 1217, 1), (117, 2, 166, 0, 0), (116, 2, 160, 0, 0), (116, 0, 629, 630, 0), (116, 0, 717, 718, 0), (116, 0, 832, 833, 2), (116, 0, 823, 824, 1), (116, 0, 828, 829, 1), (117, 1, 1010, 0, 2), (117, 0, 1006, 1007, 2), (117, 0, 1125, 1126, 2), (116, 0, 1121, 1122, 2), (116, 0, 1116, 1117, 0), (116, 0, 1135, 32, 0), (116, 0, 1139, 33, 0), (116, 0, 1130, 1131, 1), (116, 0, 1157, 35, 1), (117, 0, 1161, 1162, 1), (116, 0, 1151, 1152, 2), (121, 2, 443, 0, 1), (121, 0, 856, 857, 0), (121, 0, 1305, 1306, 1), (121, 0, 1330, 1331, 1), (121, 0, 1338, 1339, 1), (121, 0, 1346, 1347, 2), (115, 2, 154, 0, 0), (115, 0, 625, 626, 0), (115, 0, 792, 793, 3), (122, 2, 470, 0, 1), (113, 1, 941, 0, 2), (122, 0, 1025, 1026, 3), (122, 0, 1072, 29, 2), (122, 0, 1068, 28, 4), (122, 0, 1068, 28, 4), (122, 0, 1068, 28, 4), (122, 0, 1068, 28, 4), (122, 0, 1063, 1064, 2), (120, 0, 852, 853, 1), (120, 0, 1103, 1104, 0), (117, 0, 1013, 1014, 1), (119, 2, 348, 0, 1), (114, 2, 148, 0, 1), (114, 0, 848, 849, 1), (119, 0, 646, 2, 2), (119, 0, 641, 642, 0), (119, 0, 637, 638, 1), (119, 0, 654, 655, 1), (119, 0, 649, 650, 0), (114, 1, 721, 0, 2), (114, 0, 714, 3, 1), (114, 0, 729, 4, 1), (114, 0, 743, 7, 1), (119, 0, 751, 752, 0), (114, 0, 748, 8, 2), (114, 0, 739, 6, 3), (114, 0, 734, 5, 0), (119, 0, 766, 767, 0), (114, 1, 771, 0, 3), (114, 0, 763, 10, 0), (114, 0, 759, 9, 0), (114, 0, 779, 12, 0), (114, 0, 788, 13, 2), (114, 0, 775, 11, 0), (114, 0, 801, 15, 0), (114, 0, 805, 16, 1), (114, 0, 797, 14, 0), (114, 0, 812, 17, 0), (114, 0, 820, 18, 0), (114, 0, 837, 19, 0), (114, 0, 841, 20, 0), (114, 0, 621, 622, 1), (123, 2, 520, 0, 0), (123, 0, 1090, 30, 3), (123, 0, 1090, 30, 3), (123, 0, 1090, 30, 3), (123, 0, 1090, 30, 3), (123, 0, 1090, 30, 3), (123, 0, 1090, 30, 3), (123, 0, 1090, 30, 3), (123, 0, 1090, 30, 3), (123, 0, 1090, 30, 3), (123, 0, 1084, 1085, 1), (113, 2, 140, 0, 0), (113, 0, 610, 0, 1), (113, 0, 605, 606, 5), (113, 0, 618, 1, 1), (113, 0, 613, 614, 1), (113, 0, 860, 861, 0), (113, 0, 864, 865, 0), (113, 0, 873, 21, 1), (113, 0, 868, 869, 2), (113, 0, 886, 22, 1), (113, 0, 881, 882, 2), (113, 0, 913, 23, 0), (113, 0, 908, 909, 0), (113, 0, 916, 917, 0), (113, 0, 924, 925, 0), (113, 1, 944, 0, 2), (113, 0, 938, 24, 1), (113, 0, 933, 934, 1), (113, 0, 956, 957, 1), (113, 0, 964, 965, 0), (113, 0, 969, 970, 0), (113, 0, 973, 974, 1), (113, 0, 978, 979, 1), (113, 0, 982, 983, 1), (113, 0, 991, 25, 1), (113, 1, 994, 0, 2), (113, 0, 986, 987, 1), (113, 0, 1002, 26, 1), (113, 0, 997, 998, 2), (113, 0, 1022, 27, 2), (113, 0, 1017, 1018, 3), (113, 0, 1047, 1048, 2), (113, 0, 1051, 1052, 3), (113, 0, 1055, 1056, 2), (113, 0, 1059, 1060, 1), (113, 0, 1076, 1077, 2), (113, 0, 1080, 1081, 0), (113, 0, 1095, 1096, 1), (113, 0, 1099, 1100, 0), (113, 0, 1112, 31, 0), (113, 0, 1107, 1108, 1), (113, 0, 1147, 34, 1), (113, 0, 1142, 1143, 2), (113, 0, 1165, 1166, 3), (113, 0, 1170, 1171, 1), (113, 0, 1179, 36, 0), (113, 0, 1174, 1175, 0), (113, 0, 1196, 1197, 1), (113, 0, 1204, 1205, 1), (113, 0, 1208, 1209, 0), (113, 0, 1212, 1213, 0), (113, 0, 1225, 1226, 0), (113, 0, 1235, 39, 1), (113, 1, 1238, 0, 3), (113, 0, 1230, 1231, 4), (113, 1, 1245, 0, 2), (113, 0, 1241, 1242, 1), (113, 0, 1248, 1249, 1), (113, 1, 1259, 0, 1), (113, 1, 1256, 0, 2), (113, 0, 1252, 1253, 2), (113, 0, 1293, 1294, 2), (113, 0, 1297, 1298, 3), (113, 0, 1301, 1302, 1), (113, 0, 1314, 1315, 2), (113, 0, 1318, 1319, 2), (113, 0, 1322, 1323, 1), (113, 0, 1326, 1327, 0), (113, 0, 1334, 1335, 0), (113, 0, 1342, 1343, 1), (113, 0, 1350, 1351, 1), (113, 0, 1354, 1355, 0), (125, 2, 1433, 0, 0), (125, 0, 1600, 1601, 0), (125, 0, 1613, 43, 0), (125, 0, 1620, 44, 1), (125, 0, 2115, 111, 1), (125, 1, 1616, 0, 3), (125, 1, 1729, 0, 2), (125, 1, 1808, 0, 1), (125, 1, 1757, 0, 5), (125, 1, 1903, 0, 3), (125, 0, 1604, 1605, 5), (125, 0, 1628, 46, 1), (125, 1, 1631, 0, 1), (125, 1, 1634, 0, 1), (125, 0, 1624, 45, 0), (125, 0, 1653, 50, 2), (125, 0, 1643, 48, 1), (125, 0, 1666, 53, 1), (125, 0, 1662, 52, 1), (125, 0, 1690, 58, 0), (125, 0, 1700, 59, 0), (125, 0, 1686, 57, 1), (125, 0, 1713, 61, 2), (125, 0, 1726, 64, 0), (125, 0, 1722, 63, 0), (125, 0, 1670, 54, 2), (125, 0, 1658, 51, 3), (125, 0, 1649, 49, 0), (125, 0, 1678, 55, 2), (125, 0, 1682, 56, 0), (125, 0, 1704, 60, 0), (125, 0, 1718, 62, 0), (125, 0, 1733, 65, 0), (125, 0, 1745, 67, 2), (125, 0, 1741, 66, 0), (125, 0, 1750, 68, 0), (125, 0, 1754, 69, 0), (125, 0, 1638, 47, 0), (125, 0, 1761, 70, 0), (125, 0, 1608, 1609, 1), (125, 0, 1764, 1765, 0), (125, 0, 1768, 1769, 0), (125, 0, 1777, 71, 1), (125, 0, 1797, 75, 1), (125, 0, 1785, 73, 1), (125, 0, 1781, 72, 0), (125, 0, 1789, 74, 3), (125, 0, 1844, 82, 1), (125, 0, 1840, 81, 3), (125, 0, 1852, 83, 3), (125, 0, 1801, 76, 3), (125, 0, 1805, 77, 3), (125, 0, 1820, 78, 2), (125, 0, 1828, 79, 2), (125, 0, 1892, 87, 4), (125, 0, 1772, 1773, 2), (125, 0, 1792, 1793, 2), (125, 0, 1811, 1812, 0), (125, 0, 1815, 1816, 0), (125, 0, 1823, 1824, 0), (125, 0, 1836, 80, 1), (125, 0, 1831, 1832, 1), (125, 0, 1847, 1848, 1), (125, 0, 1855, 1856, 0), (125, 0, 1859, 1860, 0), (125, 0, 1863, 1864, 1), (125, 0, 1867, 1868, 1), (125, 0, 1871, 1872, 1), (125, 0, 1888, 86, 1), (125, 0, 1896, 88, 2), (125, 0, 1935, 91, 3), (125, 0, 1935, 91, 3), (125, 0, 1935, 91, 3), (125, 0, 1935, 91, 3), (125, 0, 1884, 85, 2), (125, 0, 1880, 84, 1), (125, 0, 1911, 89, 2), (125, 0, 1875, 1876, 1), (125, 0, 1899, 1900, 2), (125, 0, 1906, 1907, 3), (125, 0, 1914, 1915, 2), (125, 0, 1918, 1919, 3), (125, 0, 1922, 1923, 2), (125, 0, 1931, 90, 1), (125, 0, 1926, 1927, 1), (125, 0, 1938, 1939, 2), (125, 0, 1952, 93, 2), (125, 0, 1952, 93, 2), (125, 0, 1952, 93, 2), (125, 0, 1952, 93, 2), (125, 0, 1952, 93, 2), (125, 0, 1952, 93, 2), (125, 0, 1952, 93, 2), (125, 0, 1952, 93, 2), (125, 0, 1952, 93, 2), (125, 0, 1947, 92, 0), (125, 0, 1942, 1943, 0), (125, 0, 1955, 1956, 1), (125, 0, 1959, 1960, 0), (125, 0, 1976, 96, 2), (125, 0, 1972, 95, 2), (125, 0, 1984, 98, 0), (125, 0, 1988, 99, 0), (125, 0, 1980, 97, 1), (125, 0, 1968, 94, 2), (125, 0, 1963, 1964, 1), (125, 0, 1991, 1992, 2), (125, 0, 1995, 1996, 3), (125, 0, 1999, 2000, 1), (125, 0, 2016, 102, 1), (125, 0, 2012, 101, 1), (125, 0, 2008, 100, 0), (125, 0, 2003, 2004, 0), (125, 0, 2019, 2020, 1), (125, 0, 2023, 2024, 1), (125, 0, 2027, 2028, 0), (125, 0, 2040, 104, 1), (125, 0, 2036, 103, 0), (125, 0, 2031, 2032, 0), (125, 0, 2043, 2044, 0), (125, 1, 2055, 0, 3), (125, 0, 2052, 105, 1), (125, 0, 2047, 2048, 4), (125, 1, 2066, 0, 3), (125, 0, 2063, 106, 1), (125, 0, 2058, 2059, 1), (125, 0, 2069, 2070, 1), (125, 0, 2087, 109, 1), (125, 1, 2091, 0, 2), (125, 0, 2083, 108, 2), (125, 0, 2078, 107, 3), (125, 0, 2073, 2074, 2), (125, 0, 2094, 2095, 2), (125, 0, 2098, 2099, 3), (125, 0, 2107, 110, 0), (125, 0, 2102, 2103, 1), (125, 0, 2110, 2111, 2), (125, 0, 2118, 2119, 2), (125, 0, 2122, 2123, 1), (125, 0, 2126, 2127, 0), (125, 0, 2130, 2131, 0), (125, 0, 2134, 2135, 1), (125, 0, 2138, 2139, 1), (125, 0, 2142, 2143, 1), (125, 0, 2146, 2147, 0), (0, 0, 0, 0, 1)]
def am_fty (ci k : Nat) : FieldType := match ci with
  | 0 => tyX0 k
  | 1 => tyX1 k
  | 2 => tyX2 k
  | 3 => tyX3 k
  | 4 => tyX4 k
  | 5 => tyX5 k
  | 6 => tyX6 k
  | 7 => tyX7 k
  | 8 => tyX8 k
  | 9 => tyX9 k
  | 10 => tyX10 k
  | 11 => tyX11 k
  | _ => tyX12 k
def am_at (i : Nat) (w : Cond) : Bool := decide (lw_tbl[i]? = some w) && goodWord w
theorem am_at_in {i : Nat} {w : Cond} (h : am_at i w = true) : w ∈ am_gw := by
  unfold am_at at h
  rw [Bool.and_eq_true, decide_eq_true_eq] at h
  exact List.mem_filter.mpr ⟨List.mem_of_getElem? h.1, h.2⟩
def am_TT (ci : Nat) : u_T := match ci with
  | 0 => TX0
  | 1 => TX1
  | 2 => TX2
  | 3 => TX3
  | 4 => TX4
  | 5 => TX5
  | 6 => TX6
  | 7 => TX7
  | 8 => TX8
  | 9 => TX9
  | 10 => TX10
  | 11 => TX11
  | _ => TX12
def am_RR (ci : Nat) : String := match ci with
  | 0 => RX0
  | 1 => RX1
  | 2 => RX2
  | 3 => RX3
  | 4 => RX4
  | 5 => RX5
  | 6 => RX6
  | 7 => RX7
  | 8 => RX8
  | 9 => RX9
  | 10 => RX10
  | 11 => RX11
  | _ => RX12
theorem am_clv : ∀ ci, ci < 13 → vwCl[ci]? = some (am_RR ci, am_TT ci, am_N ci)
  | 0, _ => rfl
  | 1, _ => rfl
  | 2, _ => rfl
  | 3, _ => rfl
  | 4, _ => rfl
  | 5, _ => rfl
  | 6, _ => rfl
  | 7, _ => rfl
  | 8, _ => rfl
  | 9, _ => rfl
  | 10, _ => rfl
  | 11, _ => rfl
  | 12, _ => rfl
  | n + 13, h => absurd h (by omega)
theorem am_inG0 : ∀ w ∈ u_ws RX0 TX0 3, w ∈ am_gw := by decide +kernel
theorem am_inG1 : ∀ w ∈ u_ws RX1 TX1 7, w ∈ am_gw := by decide +kernel
theorem am_inG2 : ∀ w ∈ u_ws RX2 TX2 13, w ∈ am_gw := by decide +kernel
theorem am_inG3 : ∀ w ∈ u_ws RX3 TX3 5, w ∈ am_gw := by decide +kernel
theorem am_inG4 : ∀ w ∈ u_ws RX4 TX4 15, w ∈ am_gw := by decide +kernel
theorem am_inG5 : ∀ w ∈ u_ws RX5 TX5 11, w ∈ am_gw := by decide +kernel
theorem am_inG6 : ∀ w ∈ u_ws RX6 TX6 8, w ∈ am_gw := by decide +kernel
theorem am_inG7 : ∀ w ∈ u_ws RX7 TX7 2, w ∈ am_gw := by decide +kernel
theorem am_inG8 : ∀ w ∈ u_ws RX8 TX8 7, w ∈ am_gw := by decide +kernel
theorem am_inG9 : ∀ w ∈ u_ws RX9 TX9 5, w ∈ am_gw := by decide +kernel
theorem am_inG10 : ∀ w ∈ u_ws RX10 TX10 5, w ∈ am_gw := by decide +kernel
theorem am_inG11 : ∀ w ∈ u_ws RX11 TX11 13, w ∈ am_gw := by decide +kernel
theorem am_inG12 : ∀ w ∈ u_ws RX12 TX12 54, w ∈ am_gw := by decide +kernel
theorem am_inG : ∀ ci, ci < 13 → ∀ w ∈ u_ws (am_RR ci) (am_TT ci) (am_N ci), w ∈ am_gw
  | 0, _ => am_inG0
  | 1, _ => am_inG1
  | 2, _ => am_inG2
  | 3, _ => am_inG3
  | 4, _ => am_inG4
  | 5, _ => am_inG5
  | 6, _ => am_inG6
  | 7, _ => am_inG7
  | 8, _ => am_inG8
  | 9, _ => am_inG9
  | 10, _ => am_inG10
  | 11, _ => am_inG11
  | 12, _ => am_inG12
  | n + 13, h => absurd h (by omega)
theorem am_tyok : ∀ ci, ci < 13 → ∀ k, k < am_N ci → parseFieldDescriptor (am_TT ci k).2.2.1 = some (am_fty ci k)
  | 0, _ => tyX0_ok
  | 1, _ => tyX1_ok
  | 2, _ => tyX2_ok
  | 3, _ => tyX3_ok
  | 4, _ => tyX4_ok
  | 5, _ => tyX5_ok
  | 6, _ => tyX6_ok
  | 7, _ => tyX7_ok
  | 8, _ => tyX8_ok
  | 9, _ => tyX9_ok
  | 10, _ => tyX10_ok
  | 11, _ => tyX11_ok
  | 12, _ => tyX12_ok
  | n + 13, h => absurd h (by omega)
theorem am_nmok : ∀ ci, ci < 13 → ∀ a, a < am_N ci → ∀ b, b < am_N ci → a ≠ b → (am_TT ci a).2.1 ≠ (am_TT ci b).2.1
  | 0, _ => nmX0
  | 1, _ => nmX1
  | 2, _ => nmX2
  | 3, _ => nmX3
  | 4, _ => nmX4
  | 5, _ => nmX5
  | 6, _ => nmX6
  | 7, _ => nmX7
  | 8, _ => nmX8
  | 9, _ => nmX9
  | 10, _ => nmX10
  | 11, _ => nmX11
  | 12, _ => nmX12
  | n + 13, h => absurd h (by omega)
def am_tyB (t : Nat) (f : FieldType) : Bool := match f with
  | .int => t == 0
  | .long => t == 1
  | .boolean => t == 3
  | .object _ => t == 2
  | .array _ => t == 2
  | _ => false
theorem am_ttok : ∀ ci, ci < 13 → ∀ k, k < am_N ci → am_tyB (am_tt ci k) (am_fty ci k) = true := by decide +kernel
def am_cx : List (Nat × Nat) := [(542, 124), (230, 118), (158, 116), (441, 121), (152, 115), (468, 122), (396, 120), (164, 117), (146, 114), (518, 123), (346, 119), (138, 113), (1431, 125)]
theorem am_cxok : ∀ ci, ci < 13 → am_at (am_cx.getD ci (0, 0)).1 (.instantiable (am_RR ci) (am_N ci)) = true ∧ am_at (am_cx.getD ci (0, 0)).2 (.initialized (am_RR ci)) = true := by decide +kernel
def am_okF (x : Nat × Nat × Nat × Nat × Nat) : Bool := am_at x.2.2.2.2 (.fieldLink (am_own x.1) x.2.1 (am_TT x.2.2.1 x.2.2.2.1).1 (am_TT x.2.2.1 x.2.2.2.1).2.1 (am_TT x.2.2.1 x.2.2.2.1).2.2.1)
theorem am_F_ok : am_lkF.all am_okF = true := by decide +kernel
def am_okC (x : Nat × Nat × Nat × Nat) : Bool := am_at x.2.2.2 (.classLink (am_own x.1) x.2.1 (am_RR x.2.2.1))
theorem am_C_ok : am_lkC.all am_okC = true := by decide +kernel
def am_okI (x : Nat × Nat × Nat × Nat) : Bool := am_at x.2.2.2 (.constant (am_own x.1) x.2.1 (nI x.2.2.1))
theorem am_I_ok : am_lkI.all am_okI = true := by decide +kernel
def am_okJ (x : Nat × Nat × Nat × Nat × Nat) : Bool := am_at x.2.2.2.2 (.constantLong (am_own x.1) x.2.1 (if x.2.2.2.1 = 1 then -(lN x.2.2.1) else lN x.2.2.1))
theorem am_J_ok : am_lkJ.all am_okJ = true := by decide +kernel
def am_okS (x : Nat × Nat × Nat × Nat) : Bool := match am_strT[x.2.2.1]? with
  | some t => decide (t.1 = x.1 ∧ t.2.1 = x.2.1 ∧ x.2.2.1 < 47 ∧ t.1 < 99)
  | none => false
theorem am_S_ok : am_lkS.all am_okS = true := by decide +kernel
def am_okQ (c : Nat) : Bool := match am_mx[c]?, am_ms c with
  | some (i2, t, i3, i4, np), (y, _, ml, _, o) => am_at i2 (.initialized y.cls) && decide ((parseMethodDescriptor y.desc).map (fun d => d.parameters.length) = some np) && decide (y.cls = am_own o ∧ y.cls ≠ "java/lang/invoke/MethodHandle" ∧ y.cls ≠ "java/lang/invoke/VarHandle" ∧ ml ≤ 40) && plainName y.cls &&
    (match t with
      | 1 => am_at i3 (.static y)
      | 2 => am_at i3 (.instanceMethod y) && decide (y.name = "<init>")
      | _ => am_at i3 (.instanceMethod y) && am_at i4 (.selects y.cls y y) && decide (o < 13 ∧ y.cls = am_RR o))
  | _, _ => false
theorem am_Q_ok0 : ∀ j, j < 8 → am_okQ (0 + j) = true := by decide +kernel
theorem am_Q_ok1 : ∀ j, j < 8 → am_okQ (8 + j) = true := by decide +kernel
theorem am_Q_ok2 : ∀ j, j < 8 → am_okQ (16 + j) = true := by decide +kernel
theorem am_Q_ok3 : ∀ j, j < 8 → am_okQ (24 + j) = true := by decide +kernel
theorem am_Q_ok4 : ∀ j, j < 8 → am_okQ (32 + j) = true := by decide +kernel
theorem am_Q_ok5 : ∀ j, j < 8 → am_okQ (40 + j) = true := by decide +kernel
theorem am_Q_ok6 : ∀ j, j < 8 → am_okQ (48 + j) = true := by decide +kernel
theorem am_Q_ok7 : ∀ j, j < 8 → am_okQ (56 + j) = true := by decide +kernel
theorem am_Q_ok8 : ∀ j, j < 8 → am_okQ (64 + j) = true := by decide +kernel
theorem am_Q_ok9 : ∀ j, j < 8 → am_okQ (72 + j) = true := by decide +kernel
theorem am_Q_ok10 : ∀ j, j < 8 → am_okQ (80 + j) = true := by decide +kernel
theorem am_Q_ok11 : ∀ j, j < 8 → am_okQ (88 + j) = true := by decide +kernel
theorem am_Q_ok12 : ∀ j, j < 8 → am_okQ (96 + j) = true := by decide +kernel
theorem am_Q_ok13 : ∀ j, j < 8 → am_okQ (104 + j) = true := by decide +kernel
theorem am_Q_ok14 : ∀ j, j < 8 → am_okQ (112 + j) = true := by decide +kernel
theorem am_Q_ok15 : ∀ j, j < 8 → am_okQ (120 + j) = true := by decide +kernel
theorem am_Q_ok16 : ∀ j, j < 8 → am_okQ (128 + j) = true := by decide +kernel
theorem am_Q_ok17 : ∀ j, j < 8 → am_okQ (136 + j) = true := by decide +kernel
theorem am_Q_ok18 : ∀ j, j < 8 → am_okQ (144 + j) = true := by decide +kernel
theorem am_Q_ok19 : ∀ j, j < 8 → am_okQ (152 + j) = true := by decide +kernel
theorem am_Q_ok20 : ∀ j, j < 8 → am_okQ (160 + j) = true := by decide +kernel
theorem am_Q_ok21 : ∀ j, j < 8 → am_okQ (168 + j) = true := by decide +kernel
theorem am_Q_ok22 : ∀ j, j < 8 → am_okQ (176 + j) = true := by decide +kernel
theorem am_Q_ok23 : ∀ j, j < 8 → am_okQ (184 + j) = true := by decide +kernel
theorem am_Q_ok24 : ∀ j, j < 8 → am_okQ (192 + j) = true := by decide +kernel
theorem am_Q_ok25 : ∀ j, j < 8 → am_okQ (200 + j) = true := by decide +kernel
theorem am_Q_ok26 : ∀ j, j < 8 → am_okQ (208 + j) = true := by decide +kernel
theorem am_Q_ok27 : ∀ j, j < 8 → am_okQ (216 + j) = true := by decide +kernel
theorem am_Q_ok28 : ∀ j, j < 8 → am_okQ (224 + j) = true := by decide +kernel
theorem am_Q_ok29 : ∀ j, j < 8 → am_okQ (232 + j) = true := by decide +kernel
theorem am_Q_ok30 : ∀ j, j < 8 → am_okQ (240 + j) = true := by decide +kernel
theorem am_Q_ok31 : ∀ j, j < 8 → am_okQ (248 + j) = true := by decide +kernel
theorem am_Q_ok32 : ∀ j, j < 8 → am_okQ (256 + j) = true := by decide +kernel
theorem am_Q_ok33 : ∀ j, j < 8 → am_okQ (264 + j) = true := by decide +kernel
theorem am_Q_ok34 : ∀ j, j < 8 → am_okQ (272 + j) = true := by decide +kernel
theorem am_Q_ok35 : ∀ j, j < 8 → am_okQ (280 + j) = true := by decide +kernel
theorem am_Q_ok36 : ∀ j, j < 8 → am_okQ (288 + j) = true := by decide +kernel
theorem am_Q_ok37 : ∀ j, j < 8 → am_okQ (296 + j) = true := by decide +kernel
theorem am_Q_ok38 : ∀ j, j < 8 → am_okQ (304 + j) = true := by decide +kernel
theorem am_Q_ok39 : ∀ j, j < 8 → am_okQ (312 + j) = true := by decide +kernel
theorem am_Q_ok40 : ∀ j, j < 7 → am_okQ (320 + j) = true := by decide +kernel
theorem am_Q_ok (c : Nat) (h : c < 327) : am_okQ c = true := by
  by_cases h0 : c < 8
  · have := am_Q_ok0 (c - 0) (by omega)
    rw [show 0 + (c - 0) = c by omega] at this
    exact this
  by_cases h1 : c < 16
  · have := am_Q_ok1 (c - 8) (by omega)
    rw [show 8 + (c - 8) = c by omega] at this
    exact this
  by_cases h2 : c < 24
  · have := am_Q_ok2 (c - 16) (by omega)
    rw [show 16 + (c - 16) = c by omega] at this
    exact this
  by_cases h3 : c < 32
  · have := am_Q_ok3 (c - 24) (by omega)
    rw [show 24 + (c - 24) = c by omega] at this
    exact this
  by_cases h4 : c < 40
  · have := am_Q_ok4 (c - 32) (by omega)
    rw [show 32 + (c - 32) = c by omega] at this
    exact this
  by_cases h5 : c < 48
  · have := am_Q_ok5 (c - 40) (by omega)
    rw [show 40 + (c - 40) = c by omega] at this
    exact this
  by_cases h6 : c < 56
  · have := am_Q_ok6 (c - 48) (by omega)
    rw [show 48 + (c - 48) = c by omega] at this
    exact this
  by_cases h7 : c < 64
  · have := am_Q_ok7 (c - 56) (by omega)
    rw [show 56 + (c - 56) = c by omega] at this
    exact this
  by_cases h8 : c < 72
  · have := am_Q_ok8 (c - 64) (by omega)
    rw [show 64 + (c - 64) = c by omega] at this
    exact this
  by_cases h9 : c < 80
  · have := am_Q_ok9 (c - 72) (by omega)
    rw [show 72 + (c - 72) = c by omega] at this
    exact this
  by_cases h10 : c < 88
  · have := am_Q_ok10 (c - 80) (by omega)
    rw [show 80 + (c - 80) = c by omega] at this
    exact this
  by_cases h11 : c < 96
  · have := am_Q_ok11 (c - 88) (by omega)
    rw [show 88 + (c - 88) = c by omega] at this
    exact this
  by_cases h12 : c < 104
  · have := am_Q_ok12 (c - 96) (by omega)
    rw [show 96 + (c - 96) = c by omega] at this
    exact this
  by_cases h13 : c < 112
  · have := am_Q_ok13 (c - 104) (by omega)
    rw [show 104 + (c - 104) = c by omega] at this
    exact this
  by_cases h14 : c < 120
  · have := am_Q_ok14 (c - 112) (by omega)
    rw [show 112 + (c - 112) = c by omega] at this
    exact this
  by_cases h15 : c < 128
  · have := am_Q_ok15 (c - 120) (by omega)
    rw [show 120 + (c - 120) = c by omega] at this
    exact this
  by_cases h16 : c < 136
  · have := am_Q_ok16 (c - 128) (by omega)
    rw [show 128 + (c - 128) = c by omega] at this
    exact this
  by_cases h17 : c < 144
  · have := am_Q_ok17 (c - 136) (by omega)
    rw [show 136 + (c - 136) = c by omega] at this
    exact this
  by_cases h18 : c < 152
  · have := am_Q_ok18 (c - 144) (by omega)
    rw [show 144 + (c - 144) = c by omega] at this
    exact this
  by_cases h19 : c < 160
  · have := am_Q_ok19 (c - 152) (by omega)
    rw [show 152 + (c - 152) = c by omega] at this
    exact this
  by_cases h20 : c < 168
  · have := am_Q_ok20 (c - 160) (by omega)
    rw [show 160 + (c - 160) = c by omega] at this
    exact this
  by_cases h21 : c < 176
  · have := am_Q_ok21 (c - 168) (by omega)
    rw [show 168 + (c - 168) = c by omega] at this
    exact this
  by_cases h22 : c < 184
  · have := am_Q_ok22 (c - 176) (by omega)
    rw [show 176 + (c - 176) = c by omega] at this
    exact this
  by_cases h23 : c < 192
  · have := am_Q_ok23 (c - 184) (by omega)
    rw [show 184 + (c - 184) = c by omega] at this
    exact this
  by_cases h24 : c < 200
  · have := am_Q_ok24 (c - 192) (by omega)
    rw [show 192 + (c - 192) = c by omega] at this
    exact this
  by_cases h25 : c < 208
  · have := am_Q_ok25 (c - 200) (by omega)
    rw [show 200 + (c - 200) = c by omega] at this
    exact this
  by_cases h26 : c < 216
  · have := am_Q_ok26 (c - 208) (by omega)
    rw [show 208 + (c - 208) = c by omega] at this
    exact this
  by_cases h27 : c < 224
  · have := am_Q_ok27 (c - 216) (by omega)
    rw [show 216 + (c - 216) = c by omega] at this
    exact this
  by_cases h28 : c < 232
  · have := am_Q_ok28 (c - 224) (by omega)
    rw [show 224 + (c - 224) = c by omega] at this
    exact this
  by_cases h29 : c < 240
  · have := am_Q_ok29 (c - 232) (by omega)
    rw [show 232 + (c - 232) = c by omega] at this
    exact this
  by_cases h30 : c < 248
  · have := am_Q_ok30 (c - 240) (by omega)
    rw [show 240 + (c - 240) = c by omega] at this
    exact this
  by_cases h31 : c < 256
  · have := am_Q_ok31 (c - 248) (by omega)
    rw [show 248 + (c - 248) = c by omega] at this
    exact this
  by_cases h32 : c < 264
  · have := am_Q_ok32 (c - 256) (by omega)
    rw [show 256 + (c - 256) = c by omega] at this
    exact this
  by_cases h33 : c < 272
  · have := am_Q_ok33 (c - 264) (by omega)
    rw [show 264 + (c - 264) = c by omega] at this
    exact this
  by_cases h34 : c < 280
  · have := am_Q_ok34 (c - 272) (by omega)
    rw [show 272 + (c - 272) = c by omega] at this
    exact this
  by_cases h35 : c < 288
  · have := am_Q_ok35 (c - 280) (by omega)
    rw [show 280 + (c - 280) = c by omega] at this
    exact this
  by_cases h36 : c < 296
  · have := am_Q_ok36 (c - 288) (by omega)
    rw [show 288 + (c - 288) = c by omega] at this
    exact this
  by_cases h37 : c < 304
  · have := am_Q_ok37 (c - 296) (by omega)
    rw [show 296 + (c - 296) = c by omega] at this
    exact this
  by_cases h38 : c < 312
  · have := am_Q_ok38 (c - 304) (by omega)
    rw [show 304 + (c - 304) = c by omega] at this
    exact this
  by_cases h39 : c < 320
  · have := am_Q_ok39 (c - 312) (by omega)
    rw [show 312 + (c - 312) = c by omega] at this
    exact this
  by_cases h40 : c < 327
  · have := am_Q_ok40 (c - 320) (by omega)
    rw [show 320 + (c - 320) = c by omega] at this
    exact this
  omega
def am_okM (x : Nat × Nat × Nat × Nat × Nat × Nat × Nat) : Bool := match x with
  | (o, idx, c, n, kind, ci, i) => decide (c < 327 ∧ (am_mx.getD c (0, 9, 0, 0, 0)).2.2.2.2 = n ∧ (am_mx.getD c (0, 9, 0, 0, 0)).2.1 = (if kind < 3 then kind else kind - 3) ∧ ((kind = 0 ∨ kind = 3) → ci = (am_ms c).2.2.2.2)) &&
    (if kind < 3 then am_at i (.methodLink (am_own o) idx (am_ms c).1) else decide (lw_tbl[i]? = some (.methodLinkNest (am_own o) idx (am_ms c).1 "TenthBean")))
theorem am_M_ok0 : ((am_lkM.drop 0).take 25).all am_okM = true := by decide +kernel
theorem am_M_ok1 : ((am_lkM.drop 25).take 25).all am_okM = true := by decide +kernel
theorem am_M_ok2 : ((am_lkM.drop 50).take 25).all am_okM = true := by decide +kernel
theorem am_M_ok3 : ((am_lkM.drop 75).take 25).all am_okM = true := by decide +kernel
theorem am_M_ok4 : ((am_lkM.drop 100).take 25).all am_okM = true := by decide +kernel
theorem am_M_ok5 : ((am_lkM.drop 125).take 25).all am_okM = true := by decide +kernel
theorem am_M_ok6 : ((am_lkM.drop 150).take 25).all am_okM = true := by decide +kernel
theorem am_M_ok7 : ((am_lkM.drop 175).take 25).all am_okM = true := by decide +kernel
theorem am_M_ok8 : ((am_lkM.drop 200).take 25).all am_okM = true := by decide +kernel
theorem am_M_ok9 : ((am_lkM.drop 225).take 25).all am_okM = true := by decide +kernel
theorem am_M_ok10 : ((am_lkM.drop 250).take 25).all am_okM = true := by decide +kernel
theorem am_M_ok11 : ((am_lkM.drop 275).take 25).all am_okM = true := by decide +kernel
theorem am_M_ok12 : ((am_lkM.drop 300).take 25).all am_okM = true := by decide +kernel
theorem am_M_ok13 : ((am_lkM.drop 325).take 25).all am_okM = true := by decide +kernel
theorem am_M_ok14 : ((am_lkM.drop 350).take 25).all am_okM = true := by decide +kernel
theorem am_M_ok : ∀ x ∈ am_lkM, am_okM x = true := by
  intro x hx
  obtain ⟨i, hi⟩ := List.getElem?_of_mem hx
  have key : ∀ a b : Nat, ((am_lkM.drop a).take b).all am_okM = true → a ≤ i → i < a + b → am_okM x = true := by
    intro a b h h1 h2
    refine List.all_eq_true.mp h x (List.mem_of_getElem? (i := i - a) ?_)
    rw [List.getElem?_take, if_pos (by omega), List.getElem?_drop, show a + (i - a) = i by omega]
    exact hi
  have hl : i < 371 := by
    have := (List.getElem?_eq_some_iff.mp hi).1
    have e : am_lkM.length = 371 := by decide +kernel
    omega
  by_cases h0 : i < 25
  · exact key 0 25 am_M_ok0 (by omega) (by omega)
  by_cases h1 : i < 50
  · exact key 25 25 am_M_ok1 (by omega) (by omega)
  by_cases h2 : i < 75
  · exact key 50 25 am_M_ok2 (by omega) (by omega)
  by_cases h3 : i < 100
  · exact key 75 25 am_M_ok3 (by omega) (by omega)
  by_cases h4 : i < 125
  · exact key 100 25 am_M_ok4 (by omega) (by omega)
  by_cases h5 : i < 150
  · exact key 125 25 am_M_ok5 (by omega) (by omega)
  by_cases h6 : i < 175
  · exact key 150 25 am_M_ok6 (by omega) (by omega)
  by_cases h7 : i < 200
  · exact key 175 25 am_M_ok7 (by omega) (by omega)
  by_cases h8 : i < 225
  · exact key 200 25 am_M_ok8 (by omega) (by omega)
  by_cases h9 : i < 250
  · exact key 225 25 am_M_ok9 (by omega) (by omega)
  by_cases h10 : i < 275
  · exact key 250 25 am_M_ok10 (by omega) (by omega)
  by_cases h11 : i < 300
  · exact key 275 25 am_M_ok11 (by omega) (by omega)
  by_cases h12 : i < 325
  · exact key 300 25 am_M_ok12 (by omega) (by omega)
  by_cases h13 : i < 350
  · exact key 325 25 am_M_ok13 (by omega) (by omega)
  by_cases h14 : i < 375
  · exact key 350 25 am_M_ok14 (by omega) (by omega)
  omega
theorem am_gt1 {w : Cond} (h : w ∈ tables_1_1) (hg : goodWord w = true) : w ∈ am_gw := List.mem_filter.mpr ⟨List.mem_append_right _ (show w ∈ tables_1 from List.mem_append_left _ h), hg⟩
theorem am_gt2 {w : Cond} (h : w ∈ tables_1_2) (hg : goodWord w = true) : w ∈ am_gw := List.mem_filter.mpr ⟨List.mem_append_right _ (show w ∈ tables_1 from List.mem_append_right _ (List.mem_append_left _ h)), hg⟩
theorem am_gt3 {w : Cond} (h : w ∈ tables_1_3) (hg : goodWord w = true) : w ∈ am_gw := List.mem_filter.mpr ⟨List.mem_append_right _ (show w ∈ tables_1 from List.mem_append_right _ (List.mem_append_right _ (List.mem_append_left _ h))), hg⟩
theorem am_gt4 {w : Cond} (h : w ∈ tables_1_4) (hg : goodWord w = true) : w ∈ am_gw := List.mem_filter.mpr ⟨List.mem_append_right _ (show w ∈ tables_1 from List.mem_append_right _ (List.mem_append_right _ (List.mem_append_right _ (List.mem_append_left _ h)))), hg⟩
theorem am_gt5 {w : Cond} (h : w ∈ tables_1_5) (hg : goodWord w = true) : w ∈ am_gw := List.mem_filter.mpr ⟨List.mem_append_right _ (show w ∈ tables_1 from List.mem_append_right _ (List.mem_append_right _ (List.mem_append_right _ (List.mem_append_right _ (List.mem_append_left _ h))))), hg⟩
theorem am_gt6 {w : Cond} (h : w ∈ tables_1_6) (hg : goodWord w = true) : w ∈ am_gw := List.mem_filter.mpr ⟨List.mem_append_right _ (show w ∈ tables_1 from List.mem_append_right _ (List.mem_append_right _ (List.mem_append_right _ (List.mem_append_right _ (List.mem_append_right _ (List.mem_append_left _ h)))))), hg⟩
theorem am_gt7 {w : Cond} (h : w ∈ tables_1_7) (hg : goodWord w = true) : w ∈ am_gw := List.mem_filter.mpr ⟨List.mem_append_right _ (show w ∈ tables_1 from List.mem_append_right _ (List.mem_append_right _ (List.mem_append_right _ (List.mem_append_right _ (List.mem_append_right _ (List.mem_append_right _ (List.mem_append_left _ h))))))), hg⟩
theorem am_gt8 {w : Cond} (h : w ∈ tables_1_8) (hg : goodWord w = true) : w ∈ am_gw := List.mem_filter.mpr ⟨List.mem_append_right _ (show w ∈ tables_1 from List.mem_append_right _ (List.mem_append_right _ (List.mem_append_right _ (List.mem_append_right _ (List.mem_append_right _ (List.mem_append_right _ (List.mem_append_right _ (List.mem_append_left _ h)))))))), hg⟩
theorem am_gt9 {w : Cond} (h : w ∈ tables_1_9) (hg : goodWord w = true) : w ∈ am_gw := List.mem_filter.mpr ⟨List.mem_append_right _ (show w ∈ tables_1 from List.mem_append_right _ (List.mem_append_right _ (List.mem_append_right _ (List.mem_append_right _ (List.mem_append_right _ (List.mem_append_right _ (List.mem_append_right _ (List.mem_append_right _ (h))))))))), hg⟩
theorem am_qc_X6_init : Cond.code yX6_init cX6_init 2 (none) ∈ am_gw := am_gt2 (List.mem_of_getElem? (i := 47) rfl) rfl
theorem am_qc_X0_init : Cond.code yX0_init cX0_init 2 (none) ∈ am_gw := am_gt2 (List.mem_of_getElem? (i := 193) rfl) rfl
theorem am_qc_X6_copyFrom : Cond.code yX6_copyFrom cX6_copyFrom 2 (none) ∈ am_gw := am_gt4 (List.mem_of_getElem? (i := 203) rfl) rfl
theorem am_qc_X11_has : Cond.code yX11_has cX11_has 2 (some .boolean) ∈ am_gw := am_gt3 (List.mem_of_getElem? (i := 217) rfl) rfl
theorem am_qc_X6_angerOfAll : Cond.code yX6_angerOfAll cX6_angerOfAll 3 (some .int) ∈ am_gw := am_gt4 (List.mem_of_getElem? (i := 90) rfl) rfl
theorem am_qc_X6_isMutinous : Cond.code yX6_isMutinous cX6_isMutinous 1 (some .boolean) ∈ am_gw := am_gt4 (List.mem_of_getElem? (i := 98) rfl) rfl
theorem am_qc_X6_menOf : Cond.code yX6_menOf cX6_menOf 4 (some .int) ∈ am_gw := am_gt4 (List.mem_of_getElem? (i := 59) rfl) rfl
theorem am_qc_J6_bitCount_0f7a4 : Cond.code yJ6_bitCount_0f7a4 cJ6_bitCount_0f7a4 1 (some .int) ∈ am_gw := am_gt4 (List.mem_of_getElem? (i := 68) rfl) rfl
theorem am_qc_X6_beansOf : Cond.code yX6_beansOf cX6_beansOf 3 (some .int) ∈ am_gw := am_gt4 (List.mem_of_getElem? (i := 64) rfl) rfl
theorem am_qc_X6_drawOne : Cond.code yX6_drawOne cX6_drawOne 5 (some .int) ∈ am_gw := am_gt5 (List.mem_of_getElem? (i := 209) rfl) rfl
theorem am_qc_X6_takeAway : Cond.code yX6_takeAway cX6_takeAway 4 (none) ∈ am_gw := am_gt4 (List.mem_of_getElem? (i := 210) rfl) rfl
theorem am_qc_X6_drawLot : Cond.code yX6_drawLot cX6_drawLot 6 (some .int) ∈ am_gw := am_gt5 (List.mem_of_getElem? (i := 204) rfl) rfl
theorem am_qc_X0_drawWar : Cond.code yX0_drawWar cX0_drawWar 2 (some .int) ∈ am_gw := am_gt5 (List.mem_of_getElem? (i := 199) rfl) rfl
theorem am_qc_X0_note : Cond.code yX0_note cX0_note 4 (none) ∈ am_gw := am_gt5 (List.mem_of_getElem? (i := 215) rfl) rfl
theorem am_qc_X6_nerveOf : Cond.code yX6_nerveOf cX6_nerveOf 3 (some .int) ∈ am_gw := am_gt4 (List.mem_of_getElem? (i := 46) rfl) rfl
theorem am_qc_X6_runWith : Cond.code yX6_runWith cX6_runWith 10 (some .int) ∈ am_gw := am_gt4 (List.mem_of_getElem? (i := 121) rfl) rfl
theorem am_qc_X6_runFrom : Cond.code yX6_runFrom cX6_runFrom 2 (some .int) ∈ am_gw := am_gt4 (List.mem_of_getElem? (i := 117) rfl) rfl
theorem am_qc_X6_holdsFast : Cond.code yX6_holdsFast cX6_holdsFast 2 (some .boolean) ∈ am_gw := am_gt4 (List.mem_of_getElem? (i := 130) rfl) rfl
theorem am_qc_X0_fight : Cond.code yX0_fight cX0_fight 7 (none) ∈ am_gw := am_gt5 (List.mem_of_getElem? (i := 193) rfl) rfl
theorem am_qc_X1_init : Cond.code yX1_init cX1_init 1 (none) ∈ am_gw := am_gt1 (List.mem_of_getElem? (i := 121) rfl) rfl
theorem am_qc_X1_clear : Cond.code yX1_clear cX1_clear 1 (none) ∈ am_gw := am_gt3 (List.mem_of_getElem? (i := 43) rfl) rfl
theorem am_qc_X1_isTold : Cond.code yX1_isTold cX1_isTold 1 (some .boolean) ∈ am_gw := am_gt3 (List.mem_of_getElem? (i := 134) rfl) rfl
theorem am_qc_X1_addAmong : Cond.code yX1_addAmong cX1_addAmong 4 (none) ∈ am_gw := am_gt4 (List.mem_of_getElem? (i := 14) rfl) rfl
theorem am_qc_X1_fits : Cond.code yX1_fits cX1_fits 3 (some .boolean) ∈ am_gw := am_gt5 (List.mem_of_getElem? (i := 117) rfl) rfl
theorem am_qc_X1_countMen : Cond.code yX1_countMen cX1_countMen 3 (none) ∈ am_gw := am_gt5 (List.mem_of_getElem? (i := 122) rfl) rfl
theorem am_qc_X1_count : Cond.code yX1_count cX1_count 3 (none) ∈ am_gw := am_gt5 (List.mem_of_getElem? (i := 113) rfl) rfl
theorem am_qc_X1_fittingAt : Cond.code yX1_fittingAt cX1_fittingAt 5 (some .int) ∈ am_gw := am_gt5 (List.mem_of_getElem? (i := 130) rfl) rfl
theorem am_qc_X1_leftBy : Cond.code yX1_leftBy cX1_leftBy 2 (some .int) ∈ am_gw := am_gt5 (List.mem_of_getElem? (i := 150) rfl) rfl
theorem am_qc_X1_bestToAsk : Cond.code yX1_bestToAsk cX1_bestToAsk 4 (some .int) ∈ am_gw := am_gt5 (List.mem_of_getElem? (i := 146) rfl) rfl
theorem am_qc_X7_init : Cond.code yX7_init cX7_init 1 (none) ∈ am_gw := am_gt1 (List.mem_of_getElem? (i := 55) rfl) rfl
theorem am_qc_X2_init : Cond.code yX2_init cX2_init 1 (none) ∈ am_gw := am_gt1 (List.mem_of_getElem? (i := 49) rfl) rfl
theorem am_qc_X2_clear : Cond.code yX2_clear cX2_clear 1 (none) ∈ am_gw := am_gt3 (List.mem_of_getElem? (i := 39) rfl) rfl
theorem am_qc_X2_isTold : Cond.code yX2_isTold cX2_isTold 1 (some .boolean) ∈ am_gw := am_gt3 (List.mem_of_getElem? (i := 127) rfl) rfl
theorem am_qc_X2_addDraw : Cond.code yX2_addDraw cX2_addDraw 3 (none) ∈ am_gw := am_gt4 (List.mem_of_getElem? (i := 2) rfl) rfl
theorem am_qc_X2_hasDrawn : Cond.code yX2_hasDrawn cX2_hasDrawn 3 (some .boolean) ∈ am_gw := am_gt3 (List.mem_of_getElem? (i := 233) rfl) rfl
theorem am_qc_X2_leftOf : Cond.code yX2_leftOf cX2_leftOf 4 (some .int) ∈ am_gw := am_gt3 (List.mem_of_getElem? (i := 238) rfl) rfl
theorem am_qc_X7_common : Cond.code yX7_common cX7_common 11 (some .long) ∈ am_gw := am_gt4 (List.mem_of_getElem? (i := 179) rfl) rfl
theorem am_qc_X7_put : Cond.code yX7_put cX7_put 7 (none) ∈ am_gw := am_gt4 (List.mem_of_getElem? (i := 176) rfl) rfl
theorem am_qc_X7_times : Cond.code yX7_times cX7_times 5 (none) ∈ am_gw := am_gt5 (List.mem_of_getElem? (i := 55) rfl) rfl
theorem am_qc_X2_weighDraw : Cond.code yX2_weighDraw cX2_weighDraw 4 (none) ∈ am_gw := am_gt5 (List.mem_of_getElem? (i := 51) rfl) rfl
theorem am_qc_X2_drawAll : Cond.code yX2_drawAll cX2_drawAll 2 (none) ∈ am_gw := am_gt5 (List.mem_of_getElem? (i := 46) rfl) rfl
theorem am_qc_X2_weightShaken : Cond.code yX2_weightShaken cX2_weightShaken 1 (some .long) ∈ am_gw := am_gt5 (List.mem_of_getElem? (i := 64) rfl) rfl
theorem am_qc_X2_weightHonest : Cond.code yX2_weightHonest cX2_weightHonest 1 (some .long) ∈ am_gw := am_gt5 (List.mem_of_getElem? (i := 68) rfl) rfl
theorem am_qc_X2_doubtTo : Cond.code yX2_doubtTo cX2_doubtTo 4 (none) ∈ am_gw := am_gt5 (List.mem_of_getElem? (i := 60) rfl) rfl
theorem am_qc_X2_eitherTo : Cond.code yX2_eitherTo cX2_eitherTo 2 (none) ∈ am_gw := am_gt5 (List.mem_of_getElem? (i := 86) rfl) rfl
theorem am_qc_X7_divideBy : Cond.code yX7_divideBy cX7_divideBy 6 (none) ∈ am_gw := am_gt5 (List.mem_of_getElem? (i := 91) rfl) rfl
theorem am_qc_X2_nextBlackTo : Cond.code yX2_nextBlackTo cX2_nextBlackTo 3 (none) ∈ am_gw := am_gt5 (List.mem_of_getElem? (i := 81) rfl) rfl
theorem am_qc_X3_init : Cond.code yX3_init cX3_init 3 (none) ∈ am_gw := am_gt2 (List.mem_of_getElem? (i := 92) rfl) rfl
theorem am_qc_X3_clear : Cond.code yX3_clear cX3_clear 1 (none) ∈ am_gw := am_gt4 (List.mem_of_getElem? (i := 26) rfl) rfl
theorem am_qc_X3_keep : Cond.code yX3_keep cX3_keep 2 (none) ∈ am_gw := am_gt5 (List.mem_of_getElem? (i := 235) rfl) rfl
theorem am_qc_X3_takeBack : Cond.code yX3_takeBack cX3_takeBack 2 (some .boolean) ∈ am_gw := am_gt6 (List.mem_of_getElem? (i := 20) rfl) rfl
theorem am_qc_X3_addImage : Cond.code yX3_addImage cX3_addImage 2 (some .int) ∈ am_gw := am_gt6 (List.mem_of_getElem? (i := 28) rfl) rfl
theorem am_qc_X3_goBack : Cond.code yX3_goBack cX3_goBack 3 (some .boolean) ∈ am_gw := am_gt6 (List.mem_of_getElem? (i := 36) rfl) rfl
theorem am_qc_X4_init : Cond.code yX4_init cX4_init 1 (none) ∈ am_gw := am_gt1 (List.mem_of_getElem? (i := 43) rfl) rfl
theorem am_qc_X4_clear : Cond.code yX4_clear cX4_clear 1 (none) ∈ am_gw := am_gt3 (List.mem_of_getElem? (i := 35) rfl) rfl
theorem am_qc_X4_addMan : Cond.code yX4_addMan cX4_addMan 4 (none) ∈ am_gw := am_gt3 (List.mem_of_getElem? (i := 202) rfl) rfl
theorem am_qc_X5_init : Cond.code yX5_init cX5_init 3 (none) ∈ am_gw := am_gt2 (List.mem_of_getElem? (i := 119) rfl) rfl
theorem am_qc_X11_isPart : Cond.code yX11_isPart cX11_isPart 2 (some .boolean) ∈ am_gw := am_gt4 (List.mem_of_getElem? (i := 110) rfl) rfl
theorem am_qc_X5_survey : Cond.code yX5_survey cX5_survey 11 (none) ∈ am_gw := am_gt4 (List.mem_of_getElem? (i := 195) rfl) rfl
theorem am_qc_X5_countWay : Cond.code yX5_countWay cX5_countWay 3 (none) ∈ am_gw := am_gt5 (List.mem_of_getElem? (i := 1) rfl) rfl
theorem am_qc_X5_drawFrom : Cond.code yX5_drawFrom cX5_drawFrom 9 (none) ∈ am_gw := am_gt4 (List.mem_of_getElem? (i := 237) rfl) rfl
theorem am_qc_X5_chooseTens : Cond.code yX5_chooseTens cX5_chooseTens 6 (none) ∈ am_gw := am_gt4 (List.mem_of_getElem? (i := 233) rfl) rfl
theorem am_qc_X6_begin : Cond.code yX6_begin cX6_begin 3 (none) ∈ am_gw := am_gt4 (List.mem_of_getElem? (i := 22) rfl) rfl
theorem am_qc_X6_friendsTogether : Cond.code yX6_friendsTogether cX6_friendsTogether 4 (some .int) ∈ am_gw := am_gt5 (List.mem_of_getElem? (i := 33) rfl) rfl
theorem am_qc_X7_part : Cond.code yX7_part cX7_part 2 (some .long) ∈ am_gw := am_gt4 (List.mem_of_getElem? (i := 183) rfl) rfl
theorem am_qc_X10_init : Cond.code yX10_init cX10_init 2 (none) ∈ am_gw := am_gt1 (List.mem_of_getElem? (i := 237) rfl) rfl
theorem am_qc_X8_init : Cond.code yX8_init cX8_init 2 (none) ∈ am_gw := am_gt1 (List.mem_of_getElem? (i := 37) rfl) rfl
theorem am_qc_X8_handOver : Cond.code yX8_handOver cX8_handOver 3 (some (.object "TenthBean$Legion")) ∈ am_gw := am_gt4 (List.mem_of_getElem? (i := 18) rfl) rfl
theorem am_qc_X10_standTogether : Cond.code yX10_standTogether cX10_standTogether 4 (some .int) ∈ am_gw := am_gt3 (List.mem_of_getElem? (i := 55) rfl) rfl
theorem am_qc_X10_step : Cond.code yX10_step cX10_step 1 (none) ∈ am_gw := am_gt3 (List.mem_of_getElem? (i := 51) rfl) rfl
theorem am_qc_X10_begin : Cond.code yX10_begin cX10_begin 2 (none) ∈ am_gw := am_gt3 (List.mem_of_getElem? (i := 47) rfl) rfl
theorem am_qc_X10_isWord : Cond.code yX10_isWord cX10_isWord 3 (some .boolean) ∈ am_gw := am_gt3 (List.mem_of_getElem? (i := 64) rfl) rfl
theorem am_qc_X10_wordSort : Cond.code yX10_wordSort cX10_wordSort 1 (some .int) ∈ am_gw := am_gt3 (List.mem_of_getElem? (i := 59) rfl) rfl
theorem am_qc_X8_behind : Cond.code yX8_behind cX8_behind 2 (some .int) ∈ am_gw := am_gt3 (List.mem_of_getElem? (i := 130) rfl) rfl
theorem am_qc_X8_faultOfLine : Cond.code yX8_faultOfLine cX8_faultOfLine 2 (some .int) ∈ am_gw := am_gt3 (List.mem_of_getElem? (i := 123) rfl) rfl
theorem am_qc_X8_fail : Cond.code yX8_fail cX8_fail 2 (some .boolean) ∈ am_gw := am_gt3 (List.mem_of_getElem? (i := 138) rfl) rfl
theorem am_qc_X8_readWord : Cond.code yX8_readWord cX8_readWord 2 (some .boolean) ∈ am_gw := am_gt3 (List.mem_of_getElem? (i := 152) rfl) rfl
theorem am_qc_X10_value : Cond.code yX10_value cX10_value 3 (some .int) ∈ am_gw := am_gt3 (List.mem_of_getElem? (i := 161) rfl) rfl
theorem am_qc_X8_readWhole : Cond.code yX8_readWhole cX8_readWhole 4 (some .int) ∈ am_gw := am_gt3 (List.mem_of_getElem? (i := 157) rfl) rfl
theorem am_qc_X8_readNamed : Cond.code yX8_readNamed cX8_readNamed 4 (some .int) ∈ am_gw := am_gt3 (List.mem_of_getElem? (i := 148) rfl) rfl
theorem am_qc_X8_readLegion : Cond.code yX8_readLegion cX8_readLegion 1 (some .boolean) ∈ am_gw := am_gt3 (List.mem_of_getElem? (i := 143) rfl) rfl
theorem am_qc_X10_letters : Cond.code yX10_letters cX10_letters 4 (some .long) ∈ am_gw := am_gt3 (List.mem_of_getElem? (i := 176) rfl) rfl
theorem am_qc_X8_indexOf : Cond.code yX8_indexOf cX8_indexOf 5 (some .int) ∈ am_gw := am_gt3 (List.mem_of_getElem? (i := 180) rfl) rfl
theorem am_qc_X8_isFreshName : Cond.code yX8_isFreshName cX8_isFreshName 3 (some .boolean) ∈ am_gw := am_gt3 (List.mem_of_getElem? (i := 172) rfl) rfl
theorem am_qc_X8_readTen : Cond.code yX8_readTen cX8_readTen 1 (some .boolean) ∈ am_gw := am_gt3 (List.mem_of_getElem? (i := 168) rfl) rfl
theorem am_qc_X8_readKind : Cond.code yX8_readKind cX8_readKind 2 (some .int) ∈ am_gw := am_gt3 (List.mem_of_getElem? (i := 188) rfl) rfl
theorem am_qc_X8_findTold : Cond.code yX8_findTold cX8_findTold 4 (some .int) ∈ am_gw := am_gt3 (List.mem_of_getElem? (i := 197) rfl) rfl
theorem am_qc_X8_readMan : Cond.code yX8_readMan cX8_readMan 6 (some .boolean) ∈ am_gw := am_gt3 (List.mem_of_getElem? (i := 184) rfl) rfl
theorem am_qc_X8_readMember : Cond.code yX8_readMember cX8_readMember 2 (some .int) ∈ am_gw := am_gt3 (List.mem_of_getElem? (i := 210) rfl) rfl
theorem am_qc_X8_findOther : Cond.code yX8_findOther cX8_findOther 3 (some .int) ∈ am_gw := am_gt3 (List.mem_of_getElem? (i := 214) rfl) rfl
theorem am_qc_X8_readFriend : Cond.code yX8_readFriend cX8_readFriend 3 (some .boolean) ∈ am_gw := am_gt3 (List.mem_of_getElem? (i := 206) rfl) rfl
theorem am_qc_X8_readHelmet : Cond.code yX8_readHelmet cX8_readHelmet 5 (some .boolean) ∈ am_gw := am_gt3 (List.mem_of_getElem? (i := 221) rfl) rfl
theorem am_qc_X8_readDrew : Cond.code yX8_readDrew cX8_readDrew 3 (some .boolean) ∈ am_gw := am_gt3 (List.mem_of_getElem? (i := 229) rfl) rfl
theorem am_qc_X8_readGone : Cond.code yX8_readGone cX8_readGone 1 (some .boolean) ∈ am_gw := am_gt4 (List.mem_of_getElem? (i := 6) rfl) rfl
theorem am_qc_X8_readAmong : Cond.code yX8_readAmong cX8_readAmong 4 (some .boolean) ∈ am_gw := am_gt4 (List.mem_of_getElem? (i := 10) rfl) rfl
theorem am_qc_X8_readText : Cond.code yX8_readText cX8_readText 6 (some .boolean) ∈ am_gw := am_gt3 (List.mem_of_getElem? (i := 31) rfl) rfl
theorem am_qc_X9_init : Cond.code yX9_init cX9_init 1 (none) ∈ am_gw := am_gt2 (List.mem_of_getElem? (i := 169) rfl) rfl
theorem am_qc_X9_assignFrom : Cond.code yX9_assignFrom cX9_assignFrom 6 (none) ∈ am_gw := am_gt5 (List.mem_of_getElem? (i := 19) rfl) rfl
theorem am_qc_X9_solve : Cond.code yX9_solve cX9_solve 4 (none) ∈ am_gw := am_gt5 (List.mem_of_getElem? (i := 14) rfl) rfl
theorem am_qc_X11_init : Cond.code yX11_init cX11_init 1 (none) ∈ am_gw := am_gt1 (List.mem_of_getElem? (i := 29) rfl) rfl
theorem am_qc_X11_putBytes : Cond.code yX11_putBytes cX11_putBytes 3 (none) ∈ am_gw := am_gt3 (List.mem_of_getElem? (i := 19) rfl) rfl
theorem am_qc_X11_feed : Cond.code yX11_feed cX11_feed 6 (some .int) ∈ am_gw := am_gt3 (List.mem_of_getElem? (i := 15) rfl) rfl
theorem am_qc_X11_refused : Cond.code yX11_refused cX11_refused 2 (some .boolean) ∈ am_gw := am_gt3 (List.mem_of_getElem? (i := 27) rfl) rfl
theorem am_qc_X11_legion : Cond.code yX11_legion cX11_legion 3 (some .int) ∈ am_gw := am_gt3 (List.mem_of_getElem? (i := 23) rfl) rfl
theorem am_qc_X11_fault : Cond.code yX11_fault cX11_fault 1 (some .int) ∈ am_gw := am_gt4 (List.mem_of_getElem? (i := 30) rfl) rfl
theorem am_qc_X11_where : Cond.code yX11_where cX11_where 1 (some .int) ∈ am_gw := am_gt4 (List.mem_of_getElem? (i := 34) rfl) rfl
theorem am_qc_X11_troubleOfMan : Cond.code yX11_troubleOfMan cX11_troubleOfMan 2 (some .int) ∈ am_gw := am_gt4 (List.mem_of_getElem? (i := 42) rfl) rfl
theorem am_qc_X11_man : Cond.code yX11_man cX11_man 3 (some .int) ∈ am_gw := am_gt4 (List.mem_of_getElem? (i := 38) rfl) rfl
theorem am_qc_X11_troubleOfTen : Cond.code yX11_troubleOfTen cX11_troubleOfTen 2 (some .int) ∈ am_gw := am_gt4 (List.mem_of_getElem? (i := 55) rfl) rfl
theorem am_qc_X11_ten : Cond.code yX11_ten cX11_ten 3 (some .int) ∈ am_gw := am_gt4 (List.mem_of_getElem? (i := 51) rfl) rfl
theorem am_qc_X11_troubleOfLegion : Cond.code yX11_troubleOfLegion cX11_troubleOfLegion 1 (some .int) ∈ am_gw := am_gt4 (List.mem_of_getElem? (i := 82) rfl) rfl
theorem am_qc_X11_there : Cond.code yX11_there cX11_there 1 (some .int) ∈ am_gw := am_gt4 (List.mem_of_getElem? (i := 78) rfl) rfl
theorem am_qc_X11_anger : Cond.code yX11_anger cX11_anger 1 (some .int) ∈ am_gw := am_gt4 (List.mem_of_getElem? (i := 86) rfl) rfl
theorem am_qc_X11_mutiny : Cond.code yX11_mutiny cX11_mutiny 1 (some .int) ∈ am_gw := am_gt4 (List.mem_of_getElem? (i := 94) rfl) rfl
theorem am_qc_X11_firstOf : Cond.code yX11_firstOf cX11_firstOf 2 (some .int) ∈ am_gw := am_gt4 (List.mem_of_getElem? (i := 113) rfl) rfl
theorem am_qc_X11_troubleOfStart : Cond.code yX11_troubleOfStart cX11_troubleOfStart 2 (some .int) ∈ am_gw := am_gt4 (List.mem_of_getElem? (i := 107) rfl) rfl
theorem am_qc_X11_runs : Cond.code yX11_runs cX11_runs 2 (some .int) ∈ am_gw := am_gt4 (List.mem_of_getElem? (i := 103) rfl) rfl
theorem am_qc_X11_holds : Cond.code yX11_holds cX11_holds 2 (some .int) ∈ am_gw := am_gt4 (List.mem_of_getElem? (i := 126) rfl) rfl
theorem am_qc_X11_worst : Cond.code yX11_worst cX11_worst 5 (some .int) ∈ am_gw := am_gt4 (List.mem_of_getElem? (i := 134) rfl) rfl
theorem am_qc_X11_breaks : Cond.code yX11_breaks cX11_breaks 5 (some .int) ∈ am_gw := am_gt4 (List.mem_of_getElem? (i := 139) rfl) rfl
theorem am_qc_X11_brace : Cond.code yX11_brace cX11_brace 7 (some .int) ∈ am_gw := am_gt4 (List.mem_of_getElem? (i := 143) rfl) rfl
theorem am_qc_X11_toHearten : Cond.code yX11_toHearten cX11_toHearten 6 (some .int) ∈ am_gw := am_gt4 (List.mem_of_getElem? (i := 148) rfl) rfl
theorem am_qc_X11_fearFor : Cond.code yX11_fearFor cX11_fearFor 3 (some .int) ∈ am_gw := am_gt4 (List.mem_of_getElem? (i := 152) rfl) rfl
theorem am_qc_X11_troubleOfLot : Cond.code yX11_troubleOfLot cX11_troubleOfLot 3 (some .int) ∈ am_gw := am_gt4 (List.mem_of_getElem? (i := 160) rfl) rfl
theorem am_qc_X11_choices : Cond.code yX11_choices cX11_choices 4 (some .int) ∈ am_gw := am_gt4 (List.mem_of_getElem? (i := 163) rfl) rfl
theorem am_qc_X11_sets : Cond.code yX11_sets cX11_sets 2 (some .int) ∈ am_gw := am_gt4 (List.mem_of_getElem? (i := 156) rfl) rfl
theorem am_qc_X11_troubleOfPresent : Cond.code yX11_troubleOfPresent cX11_troubleOfPresent 2 (some .int) ∈ am_gw := am_gt4 (List.mem_of_getElem? (i := 171) rfl) rfl
theorem am_qc_X11_drawn : Cond.code yX11_drawn cX11_drawn 4 (some .long) ∈ am_gw := am_gt4 (List.mem_of_getElem? (i := 167) rfl) rfl
theorem am_qc_X11_troubleOfLotFrom : Cond.code yX11_troubleOfLotFrom cX11_troubleOfLotFrom 3 (some .int) ∈ am_gw := am_gt4 (List.mem_of_getElem? (i := 191) rfl) rfl
theorem am_qc_X11_holdsAfter : Cond.code yX11_holdsAfter cX11_holdsAfter 4 (some .long) ∈ am_gw := am_gt4 (List.mem_of_getElem? (i := 187) rfl) rfl
theorem am_qc_X11_mutinyAfter : Cond.code yX11_mutinyAfter cX11_mutinyAfter 3 (some .long) ∈ am_gw := am_gt4 (List.mem_of_getElem? (i := 217) rfl) rfl
theorem am_qc_X11_runsAfter : Cond.code yX11_runsAfter cX11_runsAfter 4 (some .long) ∈ am_gw := am_gt4 (List.mem_of_getElem? (i := 221) rfl) rfl
theorem am_qc_X11_worstSet : Cond.code yX11_worstSet cX11_worstSet 3 (some .int) ∈ am_gw := am_gt4 (List.mem_of_getElem? (i := 225) rfl) rfl
theorem am_qc_X11_order : Cond.code yX11_order cX11_order 2 (some .int) ∈ am_gw := am_gt4 (List.mem_of_getElem? (i := 229) rfl) rfl
theorem am_qc_X11_orderOdds : Cond.code yX11_orderOdds cX11_orderOdds 3 (some .long) ∈ am_gw := am_gt5 (List.mem_of_getElem? (i := 6) rfl) rfl
theorem am_qc_X11_friends : Cond.code yX11_friends cX11_friends 1 (some .int) ∈ am_gw := am_gt5 (List.mem_of_getElem? (i := 10) rfl) rfl
theorem am_qc_X11_newTen : Cond.code yX11_newTen cX11_newTen 2 (some .int) ∈ am_gw := am_gt5 (List.mem_of_getElem? (i := 25) rfl) rfl
theorem am_qc_X11_friendsNow : Cond.code yX11_friendsNow cX11_friendsNow 1 (some .int) ∈ am_gw := am_gt5 (List.mem_of_getElem? (i := 29) rfl) rfl
theorem am_qc_X11_troubleOfHelmet : Cond.code yX11_troubleOfHelmet cX11_troubleOfHelmet 1 (some .int) ∈ am_gw := am_gt5 (List.mem_of_getElem? (i := 41) rfl) rfl
theorem am_qc_X11_doubt : Cond.code yX11_doubt cX11_doubt 2 (some .long) ∈ am_gw := am_gt5 (List.mem_of_getElem? (i := 37) rfl) rfl
theorem am_qc_X11_troubleOfDrawer : Cond.code yX11_troubleOfDrawer cX11_troubleOfDrawer 3 (some .int) ∈ am_gw := am_gt5 (List.mem_of_getElem? (i := 76) rfl) rfl
theorem am_qc_X11_next : Cond.code yX11_next cX11_next 3 (some .long) ∈ am_gw := am_gt5 (List.mem_of_getElem? (i := 72) rfl) rfl
theorem am_qc_X11_doubtIf : Cond.code yX11_doubtIf cX11_doubtIf 4 (some .long) ∈ am_gw := am_gt5 (List.mem_of_getElem? (i := 95) rfl) rfl
theorem am_qc_X11_honest : Cond.code yX11_honest cX11_honest 2 (some .long) ∈ am_gw := am_gt5 (List.mem_of_getElem? (i := 100) rfl) rfl
theorem am_qc_X11_troubleOfGone : Cond.code yX11_troubleOfGone cX11_troubleOfGone 1 (some .int) ∈ am_gw := am_gt5 (List.mem_of_getElem? (i := 108) rfl) rfl
theorem am_qc_X11_gone : Cond.code yX11_gone cX11_gone 1 (some .int) ∈ am_gw := am_gt5 (List.mem_of_getElem? (i := 104) rfl) rfl
theorem am_qc_X11_goneAt : Cond.code yX11_goneAt cX11_goneAt 3 (some .int) ∈ am_gw := am_gt5 (List.mem_of_getElem? (i := 126) rfl) rfl
theorem am_qc_X11_goneOf : Cond.code yX11_goneOf cX11_goneOf 2 (some .int) ∈ am_gw := am_gt5 (List.mem_of_getElem? (i := 134) rfl) rfl
theorem am_qc_X11_surelyGone : Cond.code yX11_surelyGone cX11_surelyGone 1 (some .int) ∈ am_gw := am_gt5 (List.mem_of_getElem? (i := 138) rfl) rfl
theorem am_qc_X11_ask : Cond.code yX11_ask cX11_ask 1 (some .int) ∈ am_gw := am_gt5 (List.mem_of_getElem? (i := 142) rfl) rfl
theorem am_qc_X11_askLeaves : Cond.code yX11_askLeaves cX11_askLeaves 2 (some .int) ∈ am_gw := am_gt5 (List.mem_of_getElem? (i := 155) rfl) rfl
theorem am_qc_X11_troubleOfDread : Cond.code yX11_troubleOfDread cX11_troubleOfDread 2 (some .int) ∈ am_gw := am_gt5 (List.mem_of_getElem? (i := 164) rfl) rfl
theorem am_qc_X11_gain : Cond.code yX11_gain cX11_gain 3 (some .int) ∈ am_gw := am_gt5 (List.mem_of_getElem? (i := 167) rfl) rfl
theorem am_qc_X11_line : Cond.code yX11_line cX11_line 5 (some .int) ∈ am_gw := am_gt5 (List.mem_of_getElem? (i := 160) rfl) rfl
theorem am_qc_X11_isRest : Cond.code yX11_isRest cX11_isRest 4 (some .boolean) ∈ am_gw := am_gt5 (List.mem_of_getElem? (i := 174) rfl) rfl
theorem am_qc_X11_rests : Cond.code yX11_rests cX11_rests 4 (some .int) ∈ am_gw := am_gt5 (List.mem_of_getElem? (i := 171) rfl) rfl
theorem am_qc_X11_rest : Cond.code yX11_rest cX11_rest 3 (some .int) ∈ am_gw := am_gt5 (List.mem_of_getElem? (i := 178) rfl) rfl
theorem am_qc_X11_troubleOfSeed : Cond.code yX11_troubleOfSeed cX11_troubleOfSeed 1 (some .int) ∈ am_gw := am_gt5 (List.mem_of_getElem? (i := 188) rfl) rfl
theorem am_qc_X11_troubleOfWars : Cond.code yX11_troubleOfWars cX11_troubleOfWars 2 (some .int) ∈ am_gw := am_gt5 (List.mem_of_getElem? (i := 185) rfl) rfl
theorem am_qc_X11_wars : Cond.code yX11_wars cX11_wars 3 (some .int) ∈ am_gw := am_gt5 (List.mem_of_getElem? (i := 182) rfl) rfl
theorem am_qc_X11_warsLeft : Cond.code yX11_warsLeft cX11_warsLeft 3 (some .int) ∈ am_gw := am_gt5 (List.mem_of_getElem? (i := 223) rfl) rfl
theorem am_qc_X11_warsOf : Cond.code yX11_warsOf cX11_warsOf 4 (some .int) ∈ am_gw := am_gt5 (List.mem_of_getElem? (i := 227) rfl) rfl
theorem am_qc_X11_lot : Cond.code yX11_lot cX11_lot 4 (some .int) ∈ am_gw := am_gt5 (List.mem_of_getElem? (i := 231) rfl) rfl
theorem am_qc_X11_braces : Cond.code yX11_braces cX11_braces 4 (some .boolean) ∈ am_gw := am_gt6 (List.mem_of_getElem? (i := 4) rfl) rfl
theorem am_qc_X11_move : Cond.code yX11_move cX11_move 4 (some .boolean) ∈ am_gw := am_gt6 (List.mem_of_getElem? (i := 8) rfl) rfl
theorem am_qc_X11_seed : Cond.code yX11_seed cX11_seed 2 (some .boolean) ∈ am_gw := am_gt6 (List.mem_of_getElem? (i := 12) rfl) rfl
theorem am_qc_X11_undo : Cond.code yX11_undo cX11_undo 1 (some .boolean) ∈ am_gw := am_gt6 (List.mem_of_getElem? (i := 16) rfl) rfl
theorem am_qc_X11_image : Cond.code yX11_image cX11_image 2 (some .int) ∈ am_gw := am_gt6 (List.mem_of_getElem? (i := 24) rfl) rfl
theorem am_qc_X11_back : Cond.code yX11_back cX11_back 2 (some .boolean) ∈ am_gw := am_gt6 (List.mem_of_getElem? (i := 32) rfl) rfl
theorem am_qc_X11_size : Cond.code yX11_size cX11_size 2 (some .int) ∈ am_gw := am_gt6 (List.mem_of_getElem? (i := 40) rfl) rfl
theorem am_qc_X11_trouble : Cond.code yX11_trouble cX11_trouble 1 (some .int) ∈ am_gw := am_gt6 (List.mem_of_getElem? (i := 44) rfl) rfl
theorem am_qc_X12_init : Cond.code yX12_init cX12_init 1 (none) ∈ am_gw := am_gt6 (List.mem_of_getElem? (i := 122) rfl) rfl
theorem am_qc_X12_thrown : Cond.code yX12_thrown cX12_thrown 1 (some .int) ∈ am_gw := am_gt7 (List.mem_of_getElem? (i := 50) rfl) rfl
theorem am_qc_X12_good : Cond.code yX12_good cX12_good 1 (none) ∈ am_gw := am_gt7 (List.mem_of_getElem? (i := 62) rfl) rfl
theorem am_qc_X12_no : Cond.code yX12_no cX12_no 2 (some .int) ∈ am_gw := am_gt7 (List.mem_of_getElem? (i := 69) rfl) rfl
theorem am_qc_X12_isNot : Cond.code yX12_isNot cX12_isNot 2 (some .boolean) ∈ am_gw := am_gt9 (List.mem_of_getElem? (i := 84) rfl) rfl
theorem am_qc_X12_in : Cond.code yX12_in cX12_in 3 (some .boolean) ∈ am_gw := am_gt7 (List.mem_of_getElem? (i := 65) rfl) rfl
theorem am_qc_X12_hasBit : Cond.code yX12_hasBit cX12_hasBit 2 (some .boolean) ∈ am_gw := am_gt7 (List.mem_of_getElem? (i := 178) rfl) rfl
theorem am_qc_X12_ones : Cond.code yX12_ones cX12_ones 3 (some .int) ∈ am_gw := am_gt8 (List.mem_of_getElem? (i := 17) rfl) rfl
theorem am_qc_X12_copy : Cond.code yX12_copy cX12_copy 6 (none) ∈ am_gw := am_gt7 (List.mem_of_getElem? (i := 206) rfl) rfl
theorem am_qc_X12_lowest : Cond.code yX12_lowest cX12_lowest 11 (some .long) ∈ am_gw := am_gt8 (List.mem_of_getElem? (i := 112) rfl) rfl
theorem am_qc_X12_feed : Cond.code yX12_feed cX12_feed 8 (some .int) ∈ am_gw := am_gt7 (List.mem_of_getElem? (i := 54) rfl) rfl
theorem am_qc_X12_look : Cond.code yX12_look cX12_look 2 (some .int) ∈ am_gw := am_gt7 (List.mem_of_getElem? (i := 77) rfl) rfl
theorem am_qc_X12_isSmall : Cond.code yX12_isSmall cX12_isSmall 1 (some .boolean) ∈ am_gw := am_gt7 (List.mem_of_getElem? (i := 80) rfl) rfl
theorem am_qc_X12_isDigit : Cond.code yX12_isDigit cX12_isDigit 1 (some .boolean) ∈ am_gw := am_gt7 (List.mem_of_getElem? (i := 83) rfl) rfl
theorem am_qc_X12_goOn : Cond.code yX12_goOn cX12_goOn 4 (none) ∈ am_gw := am_gt7 (List.mem_of_getElem? (i := 73) rfl) rfl
theorem am_qc_X12_bad : Cond.code yX12_bad cX12_bad 3 (none) ∈ am_gw := am_gt7 (List.mem_of_getElem? (i := 102) rfl) rfl
theorem am_qc_X12_isWord : Cond.code yX12_isWord cX12_isWord 4 (some .boolean) ∈ am_gw := am_gt7 (List.mem_of_getElem? (i := 92) rfl) rfl
theorem am_qc_X12_takesWord : Cond.code yX12_takesWord cX12_takesWord 2 (some .boolean) ∈ am_gw := am_gt7 (List.mem_of_getElem? (i := 115) rfl) rfl
theorem am_qc_X12_must : Cond.code yX12_must cX12_must 2 (none) ∈ am_gw := am_gt7 (List.mem_of_getElem? (i := 111) rfl) rfl
theorem am_qc_X12_mustName : Cond.code yX12_mustName cX12_mustName 1 (none) ∈ am_gw := am_gt7 (List.mem_of_getElem? (i := 139) rfl) rfl
theorem am_qc_X12_find : Cond.code yX12_find cX12_find 4 (some .int) ∈ am_gw := am_gt7 (List.mem_of_getElem? (i := 149) rfl) rfl
theorem am_qc_X12_newName : Cond.code yX12_newName cX12_newName 3 (none) ∈ am_gw := am_gt7 (List.mem_of_getElem? (i := 135) rfl) rfl
theorem am_qc_X12_named : Cond.code yX12_named cX12_named 4 (some .int) ∈ am_gw := am_gt7 (List.mem_of_getElem? (i := 162) rfl) rfl
theorem am_qc_X12_manHere : Cond.code yX12_manHere cX12_manHere 1 (some .int) ∈ am_gw := am_gt7 (List.mem_of_getElem? (i := 175) rfl) rfl
theorem am_qc_X12_manPassed : Cond.code yX12_manPassed cX12_manPassed 2 (some .int) ∈ am_gw := am_gt7 (List.mem_of_getElem? (i := 171) rfl) rfl
theorem am_qc_X12_number : Cond.code yX12_number cX12_number 4 (some .int) ∈ am_gw := am_gt7 (List.mem_of_getElem? (i := 119) rfl) rfl
theorem am_qc_X12_after : Cond.code yX12_after cX12_after 4 (some .int) ∈ am_gw := am_gt7 (List.mem_of_getElem? (i := 107) rfl) rfl
theorem am_qc_X12_legionLine : Cond.code yX12_legionLine cX12_legionLine 2 (none) ∈ am_gw := am_gt7 (List.mem_of_getElem? (i := 98) rfl) rfl
theorem am_qc_X12_begins : Cond.code yX12_begins cX12_begins 3 (some .boolean) ∈ am_gw := am_gt7 (List.mem_of_getElem? (i := 127) rfl) rfl
theorem am_qc_X12_tenLine : Cond.code yX12_tenLine cX12_tenLine 1 (none) ∈ am_gw := am_gt7 (List.mem_of_getElem? (i := 131) rfl) rfl
theorem am_qc_X12_manLine : Cond.code yX12_manLine cX12_manLine 3 (none) ∈ am_gw := am_gt7 (List.mem_of_getElem? (i := 153) rfl) rfl
theorem am_qc_X12_friendLine : Cond.code yX12_friendLine cX12_friendLine 3 (none) ∈ am_gw := am_gt7 (List.mem_of_getElem? (i := 167) rfl) rfl
theorem am_qc_X12_helmetLine : Cond.code yX12_helmetLine cX12_helmetLine 2 (none) ∈ am_gw := am_gt7 (List.mem_of_getElem? (i := 182) rfl) rfl
theorem am_qc_X12_drewBy : Cond.code yX12_drewBy cX12_drewBy 4 (some .int) ∈ am_gw := am_gt7 (List.mem_of_getElem? (i := 194) rfl) rfl
theorem am_qc_X12_drewLine : Cond.code yX12_drewLine cX12_drewLine 5 (none) ∈ am_gw := am_gt7 (List.mem_of_getElem? (i := 190) rfl) rfl
theorem am_qc_X12_goneLine : Cond.code yX12_goneLine cX12_goneLine 2 (none) ∈ am_gw := am_gt7 (List.mem_of_getElem? (i := 199) rfl) rfl
theorem am_qc_X12_amongLine : Cond.code yX12_amongLine cX12_amongLine 4 (none) ∈ am_gw := am_gt7 (List.mem_of_getElem? (i := 203) rfl) rfl
theorem am_qc_X12_readLine : Cond.code yX12_readLine cX12_readLine 1 (none) ∈ am_gw := am_gt7 (List.mem_of_getElem? (i := 87) rfl) rfl
theorem am_qc_X12_allMen : Cond.code yX12_allMen cX12_allMen 1 (some .int) ∈ am_gw := am_gt7 (List.mem_of_getElem? (i := 210) rfl) rfl
theorem am_qc_X12_legion : Cond.code yX12_legion cX12_legion 3 (some .int) ∈ am_gw := am_gt7 (List.mem_of_getElem? (i := 58) rfl) rfl
theorem am_qc_X12_fault : Cond.code yX12_fault cX12_fault 1 (some .int) ∈ am_gw := am_gt7 (List.mem_of_getElem? (i := 214) rfl) rfl
theorem am_qc_X12_where : Cond.code yX12_where cX12_where 1 (some .int) ∈ am_gw := am_gt7 (List.mem_of_getElem? (i := 218) rfl) rfl
theorem am_qc_X12_isMan : Cond.code yX12_isMan cX12_isMan 2 (some .boolean) ∈ am_gw := am_gt7 (List.mem_of_getElem? (i := 226) rfl) rfl
theorem am_qc_X12_isTen : Cond.code yX12_isTen cX12_isTen 2 (some .boolean) ∈ am_gw := am_gt8 (List.mem_of_getElem? (i := 6) rfl) rfl
theorem am_qc_X12_kindOf : Cond.code yX12_kindOf cX12_kindOf 2 (some .int) ∈ am_gw := am_gt7 (List.mem_of_getElem? (i := 234) rfl) rfl
theorem am_qc_X12_asItIs : Cond.code yX12_asItIs cX12_asItIs 1 (none) ∈ am_gw := am_gt7 (List.mem_of_getElem? (i := 230) rfl) rfl
theorem am_qc_X12_nerveOf : Cond.code yX12_nerveOf cX12_nerveOf 5 (some .int) ∈ am_gw := am_gt7 (List.mem_of_getElem? (i := 238) rfl) rfl
theorem am_qc_X12_weightOf : Cond.code yX12_weightOf cX12_weightOf 4 (some .int) ∈ am_gw := am_gt8 (List.mem_of_getElem? (i := 53) rfl) rfl
theorem am_qc_X12_runOf : Cond.code yX12_runOf cX12_runOf 7 (some .int) ∈ am_gw := am_gt8 (List.mem_of_getElem? (i := 49) rfl) rfl
theorem am_qc_X12_doesHold : Cond.code yX12_doesHold cX12_doesHold 4 (some .boolean) ∈ am_gw := am_gt8 (List.mem_of_getElem? (i := 61) rfl) rfl
theorem am_qc_X12_inTen : Cond.code yX12_inTen cX12_inTen 6 (some .int) ∈ am_gw := am_gt8 (List.mem_of_getElem? (i := 10) rfl) rfl
theorem am_qc_X12_beansOf : Cond.code yX12_beansOf cX12_beansOf 5 (some .int) ∈ am_gw := am_gt8 (List.mem_of_getElem? (i := 14) rfl) rfl
theorem am_qc_X12_angerOf : Cond.code yX12_angerOf cX12_angerOf 5 (some .int) ∈ am_gw := am_gt8 (List.mem_of_getElem? (i := 29) rfl) rfl
theorem am_qc_X12_isMutiny : Cond.code yX12_isMutiny cX12_isMutiny 3 (some .boolean) ∈ am_gw := am_gt8 (List.mem_of_getElem? (i := 37) rfl) rfl
theorem am_qc_X12_draws : Cond.code yX12_draws cX12_draws 6 (none) ∈ am_gw := am_gt8 (List.mem_of_getElem? (i := 101) rfl) rfl
theorem am_qc_X12_man : Cond.code yX12_man cX12_man 3 (some .int) ∈ am_gw := am_gt7 (List.mem_of_getElem? (i := 222) rfl) rfl
theorem am_qc_X12_ten : Cond.code yX12_ten cX12_ten 3 (some .int) ∈ am_gw := am_gt8 (List.mem_of_getElem? (i := 2) rfl) rfl
theorem am_qc_X12_there : Cond.code yX12_there cX12_there 1 (some .int) ∈ am_gw := am_gt8 (List.mem_of_getElem? (i := 21) rfl) rfl
theorem am_qc_X12_anger : Cond.code yX12_anger cX12_anger 1 (some .int) ∈ am_gw := am_gt8 (List.mem_of_getElem? (i := 25) rfl) rfl
theorem am_qc_X12_mutiny : Cond.code yX12_mutiny cX12_mutiny 1 (some .int) ∈ am_gw := am_gt8 (List.mem_of_getElem? (i := 33) rfl) rfl
theorem am_qc_X12_startWhy : Cond.code yX12_startWhy cX12_startWhy 2 (some .int) ∈ am_gw := am_gt8 (List.mem_of_getElem? (i := 45) rfl) rfl
theorem am_qc_X12_runs : Cond.code yX12_runs cX12_runs 3 (some .int) ∈ am_gw := am_gt8 (List.mem_of_getElem? (i := 41) rfl) rfl
theorem am_qc_X12_holds : Cond.code yX12_holds cX12_holds 3 (some .int) ∈ am_gw := am_gt8 (List.mem_of_getElem? (i := 57) rfl) rfl
theorem am_qc_X12_worst : Cond.code yX12_worst cX12_worst 5 (some .int) ∈ am_gw := am_gt8 (List.mem_of_getElem? (i := 65) rfl) rfl
theorem am_qc_X12_breaks : Cond.code yX12_breaks cX12_breaks 3 (some .int) ∈ am_gw := am_gt8 (List.mem_of_getElem? (i := 69) rfl) rfl
theorem am_qc_X12_brace : Cond.code yX12_brace cX12_brace 5 (some .int) ∈ am_gw := am_gt8 (List.mem_of_getElem? (i := 73) rfl) rfl
theorem am_qc_X12_toHearten : Cond.code yX12_toHearten cX12_toHearten 7 (some .int) ∈ am_gw := am_gt8 (List.mem_of_getElem? (i := 77) rfl) rfl
theorem am_qc_X12_fearFor : Cond.code yX12_fearFor cX12_fearFor 4 (some .int) ∈ am_gw := am_gt8 (List.mem_of_getElem? (i := 81) rfl) rfl
theorem am_qc_X12_begin : Cond.code yX12_begin cX12_begin 2 (none) ∈ am_gw := am_gt8 (List.mem_of_getElem? (i := 97) rfl) rfl
theorem am_qc_X12_countsAt : Cond.code yX12_countsAt cX12_countsAt 7 (none) ∈ am_gw := am_gt8 (List.mem_of_getElem? (i := 105) rfl) rfl
theorem am_qc_X12_tryLots : Cond.code yX12_tryLots cX12_tryLots 8 (none) ∈ am_gw := am_gt8 (List.mem_of_getElem? (i := 144) rfl) rfl
theorem am_qc_X12_tryOne : Cond.code yX12_tryOne cX12_tryOne 6 (none) ∈ am_gw := am_gt8 (List.mem_of_getElem? (i := 93) rfl) rfl
theorem am_qc_X12_tenWhy : Cond.code yX12_tenWhy cX12_tenWhy 2 (some .int) ∈ am_gw := am_gt8 (List.mem_of_getElem? (i := 89) rfl) rfl
theorem am_qc_X12_lotWhy : Cond.code yX12_lotWhy cX12_lotWhy 3 (some .int) ∈ am_gw := am_gt8 (List.mem_of_getElem? (i := 120) rfl) rfl
theorem am_qc_X12_sets : Cond.code yX12_sets cX12_sets 2 (some .int) ∈ am_gw := am_gt8 (List.mem_of_getElem? (i := 85) rfl) rfl
theorem am_qc_X12_drawn : Cond.code yX12_drawn cX12_drawn 3 (some .long) ∈ am_gw := am_gt8 (List.mem_of_getElem? (i := 109) rfl) rfl
theorem am_qc_X12_holdsAfter : Cond.code yX12_holdsAfter cX12_holdsAfter 5 (some .long) ∈ am_gw := am_gt8 (List.mem_of_getElem? (i := 116) rfl) rfl
theorem am_qc_X12_mutinyAfter : Cond.code yX12_mutinyAfter cX12_mutinyAfter 4 (some .long) ∈ am_gw := am_gt8 (List.mem_of_getElem? (i := 124) rfl) rfl
theorem am_qc_X12_runsAfter : Cond.code yX12_runsAfter cX12_runsAfter 5 (some .long) ∈ am_gw := am_gt8 (List.mem_of_getElem? (i := 128) rfl) rfl
theorem am_qc_X12_worstSet : Cond.code yX12_worstSet cX12_worstSet 4 (some .int) ∈ am_gw := am_gt8 (List.mem_of_getElem? (i := 132) rfl) rfl
theorem am_qc_X12_orderOf : Cond.code yX12_orderOf cX12_orderOf 6 (some .int) ∈ am_gw := am_gt8 (List.mem_of_getElem? (i := 140) rfl) rfl
theorem am_qc_X12_order : Cond.code yX12_order cX12_order 3 (some .int) ∈ am_gw := am_gt8 (List.mem_of_getElem? (i := 136) rfl) rfl
theorem am_qc_X12_orderOdds : Cond.code yX12_orderOdds cX12_orderOdds 4 (some .long) ∈ am_gw := am_gt8 (List.mem_of_getElem? (i := 148) rfl) rfl
theorem am_qc_X12_tryTens : Cond.code yX12_tryTens cX12_tryTens 6 (none) ∈ am_gw := am_gt8 (List.mem_of_getElem? (i := 161) rfl) rfl
theorem am_qc_X12_seekTens : Cond.code yX12_seekTens cX12_seekTens 3 (some .int) ∈ am_gw := am_gt8 (List.mem_of_getElem? (i := 156) rfl) rfl
theorem am_qc_X12_friends : Cond.code yX12_friends cX12_friends 1 (some .int) ∈ am_gw := am_gt8 (List.mem_of_getElem? (i := 152) rfl) rfl
theorem am_qc_X12_newTen : Cond.code yX12_newTen cX12_newTen 2 (some .int) ∈ am_gw := am_gt8 (List.mem_of_getElem? (i := 165) rfl) rfl
theorem am_qc_X12_friendsNow : Cond.code yX12_friendsNow cX12_friendsNow 4 (some .int) ∈ am_gw := am_gt8 (List.mem_of_getElem? (i := 169) rfl) rfl
theorem am_qc_X12_drawsBean : Cond.code yX12_drawsBean cX12_drawsBean 4 (none) ∈ am_gw := am_gt8 (List.mem_of_getElem? (i := 185) rfl) rfl
theorem am_qc_X12_layHelmet : Cond.code yX12_layHelmet cX12_layHelmet 4 (none) ∈ am_gw := am_gt8 (List.mem_of_getElem? (i := 181) rfl) rfl
theorem am_qc_X12_shakenPart : Cond.code yX12_shakenPart cX12_shakenPart 1 (some .long) ∈ am_gw := am_gt8 (List.mem_of_getElem? (i := 193) rfl) rfl
theorem am_qc_X12_honestPart : Cond.code yX12_honestPart cX12_honestPart 1 (some .long) ∈ am_gw := am_gt8 (List.mem_of_getElem? (i := 197) rfl) rfl
theorem am_qc_X12_doubtOf : Cond.code yX12_doubtOf cX12_doubtOf 4 (some .long) ∈ am_gw := am_gt8 (List.mem_of_getElem? (i := 189) rfl) rfl
theorem am_qc_X12_helmetWhy : Cond.code yX12_helmetWhy cX12_helmetWhy 3 (some .int) ∈ am_gw := am_gt8 (List.mem_of_getElem? (i := 177) rfl) rfl
theorem am_qc_X12_doubt : Cond.code yX12_doubt cX12_doubt 3 (some .long) ∈ am_gw := am_gt8 (List.mem_of_getElem? (i := 173) rfl) rfl
theorem am_qc_X12_next : Cond.code yX12_next cX12_next 11 (some .long) ∈ am_gw := am_gt8 (List.mem_of_getElem? (i := 201) rfl) rfl
theorem am_qc_X12_doubtIf : Cond.code yX12_doubtIf cX12_doubtIf 5 (some .long) ∈ am_gw := am_gt8 (List.mem_of_getElem? (i := 205) rfl) rfl
theorem am_qc_X12_honest : Cond.code yX12_honest cX12_honest 3 (some .long) ∈ am_gw := am_gt8 (List.mem_of_getElem? (i := 209) rfl) rfl
theorem am_qc_X12_doesFit : Cond.code yX12_doesFit cX12_doesFit 4 (some .boolean) ∈ am_gw := am_gt8 (List.mem_of_getElem? (i := 225) rfl) rfl
theorem am_qc_X12_fitting : Cond.code yX12_fitting cX12_fitting 4 (some .int) ∈ am_gw := am_gt8 (List.mem_of_getElem? (i := 221) rfl) rfl
theorem am_qc_X12_goneWhy : Cond.code yX12_goneWhy cX12_goneWhy 1 (some .int) ∈ am_gw := am_gt8 (List.mem_of_getElem? (i := 217) rfl) rfl
theorem am_qc_X12_gone : Cond.code yX12_gone cX12_gone 1 (some .int) ∈ am_gw := am_gt8 (List.mem_of_getElem? (i := 213) rfl) rfl
theorem am_qc_X12_goneAt : Cond.code yX12_goneAt cX12_goneAt 4 (some .int) ∈ am_gw := am_gt8 (List.mem_of_getElem? (i := 229) rfl) rfl
theorem am_qc_X12_goneOf : Cond.code yX12_goneOf cX12_goneOf 2 (some .int) ∈ am_gw := am_gt8 (List.mem_of_getElem? (i := 233) rfl) rfl
theorem am_qc_X12_surelyGone : Cond.code yX12_surelyGone cX12_surelyGone 3 (some .int) ∈ am_gw := am_gt8 (List.mem_of_getElem? (i := 237) rfl) rfl
theorem am_qc_X12_leavesOf : Cond.code yX12_leavesOf cX12_leavesOf 4 (some .int) ∈ am_gw := am_gt9 (List.mem_of_getElem? (i := 9) rfl) rfl
theorem am_qc_X12_askOf : Cond.code yX12_askOf cX12_askOf 3 (some .int) ∈ am_gw := am_gt9 (List.mem_of_getElem? (i := 5) rfl) rfl
theorem am_qc_X12_ask : Cond.code yX12_ask cX12_ask 1 (some .int) ∈ am_gw := am_gt9 (List.mem_of_getElem? (i := 1) rfl) rfl
theorem am_qc_X12_askLeaves : Cond.code yX12_askLeaves cX12_askLeaves 2 (some .int) ∈ am_gw := am_gt9 (List.mem_of_getElem? (i := 13) rfl) rfl
theorem am_qc_X12_lineOf : Cond.code yX12_lineOf cX12_lineOf 3 (some .int) ∈ am_gw := am_gt9 (List.mem_of_getElem? (i := 24) rfl) rfl
theorem am_qc_X12_dreadWhy : Cond.code yX12_dreadWhy cX12_dreadWhy 2 (some .int) ∈ am_gw := am_gt9 (List.mem_of_getElem? (i := 21) rfl) rfl
theorem am_qc_X12_line : Cond.code yX12_line cX12_line 5 (some .int) ∈ am_gw := am_gt9 (List.mem_of_getElem? (i := 17) rfl) rfl
theorem am_qc_X12_isRest : Cond.code yX12_isRest cX12_isRest 3 (some .boolean) ∈ am_gw := am_gt9 (List.mem_of_getElem? (i := 35) rfl) rfl
theorem am_qc_X12_seekRests : Cond.code yX12_seekRests cX12_seekRests 4 (some .int) ∈ am_gw := am_gt9 (List.mem_of_getElem? (i := 32) rfl) rfl
theorem am_qc_X12_rests : Cond.code yX12_rests cX12_rests 2 (some .int) ∈ am_gw := am_gt9 (List.mem_of_getElem? (i := 28) rfl) rfl
theorem am_qc_X12_rest : Cond.code yX12_rest cX12_rest 2 (some .int) ∈ am_gw := am_gt9 (List.mem_of_getElem? (i := 39) rfl) rfl
theorem am_qc_X12_nextDraw : Cond.code yX12_nextDraw cX12_nextDraw 2 (some .int) ∈ am_gw := am_gt9 (List.mem_of_getElem? (i := 56) rfl) rfl
theorem am_qc_X12_kth : Cond.code yX12_kth cX12_kth 4 (some .int) ∈ am_gw := am_gt9 (List.mem_of_getElem? (i := 60) rfl) rfl
theorem am_qc_X12_lotOf : Cond.code yX12_lotOf cX12_lotOf 7 (some .int) ∈ am_gw := am_gt9 (List.mem_of_getElem? (i := 52) rfl) rfl
theorem am_qc_X12_warsWhy : Cond.code yX12_warsWhy cX12_warsWhy 8 (some .int) ∈ am_gw := am_gt9 (List.mem_of_getElem? (i := 47) rfl) rfl
theorem am_qc_X12_wars : Cond.code yX12_wars cX12_wars 4 (some .int) ∈ am_gw := am_gt9 (List.mem_of_getElem? (i := 43) rfl) rfl
theorem am_qc_X12_warsLeft : Cond.code yX12_warsLeft cX12_warsLeft 4 (some .int) ∈ am_gw := am_gt9 (List.mem_of_getElem? (i := 64) rfl) rfl
theorem am_qc_X12_warsOf : Cond.code yX12_warsOf cX12_warsOf 5 (some .int) ∈ am_gw := am_gt9 (List.mem_of_getElem? (i := 68) rfl) rfl
theorem am_qc_X12_note : Cond.code yX12_note cX12_note 2 (none) ∈ am_gw := am_gt9 (List.mem_of_getElem? (i := 76) rfl) rfl
theorem am_qc_X12_lot : Cond.code yX12_lot cX12_lot 3 (some .int) ∈ am_gw := am_gt9 (List.mem_of_getElem? (i := 72) rfl) rfl
theorem am_qc_X12_braces : Cond.code yX12_braces cX12_braces 3 (some .boolean) ∈ am_gw := am_gt9 (List.mem_of_getElem? (i := 80) rfl) rfl
theorem am_qc_X12_move : Cond.code yX12_move cX12_move 3 (some .boolean) ∈ am_gw := am_gt9 (List.mem_of_getElem? (i := 88) rfl) rfl
theorem am_qc_X12_seed : Cond.code yX12_seed cX12_seed 2 (some .boolean) ∈ am_gw := am_gt9 (List.mem_of_getElem? (i := 92) rfl) rfl
theorem am_qc_X12_undo : Cond.code yX12_undo cX12_undo 1 (some .boolean) ∈ am_gw := am_gt9 (List.mem_of_getElem? (i := 96) rfl) rfl
theorem am_qc_X12_image : Cond.code yX12_image cX12_image 1 (some .int) ∈ am_gw := am_gt9 (List.mem_of_getElem? (i := 100) rfl) rfl
theorem am_qc_X12_back : Cond.code yX12_back cX12_back 2 (some .boolean) ∈ am_gw := am_gt9 (List.mem_of_getElem? (i := 104) rfl) rfl
theorem am_qc_X12_led : Cond.code yX12_led cX12_led 4 (some .int) ∈ am_gw := am_gt9 (List.mem_of_getElem? (i := 108) rfl) rfl
theorem am_qc_X12_size : Cond.code yX12_size cX12_size 2 (some .int) ∈ am_gw := am_gt9 (List.mem_of_getElem? (i := 112) rfl) rfl
theorem am_qc_X12_trouble : Cond.code yX12_trouble cX12_trouble 1 (some .int) ∈ am_gw := am_gt9 (List.mem_of_getElem? (i := 116) rfl) rfl
theorem am_qc : ∀ c, c < 327 → Cond.code (am_ms c).1 (am_ms c).2.1 (am_ms c).2.2.1 (am_ms c).2.2.2.1 ∈ am_gw
  | 0, _ => am_qc_X6_init
  | 1, _ => am_qc_X0_init
  | 2, _ => am_qc_X6_copyFrom
  | 3, _ => am_qc_X11_has
  | 4, _ => am_qc_X6_angerOfAll
  | 5, _ => am_qc_X6_isMutinous
  | 6, _ => am_qc_X6_menOf
  | 7, _ => am_qc_J6_bitCount_0f7a4
  | 8, _ => am_qc_X6_beansOf
  | 9, _ => am_qc_X6_drawOne
  | 10, _ => am_qc_X6_takeAway
  | 11, _ => am_qc_X6_drawLot
  | 12, _ => am_qc_X0_drawWar
  | 13, _ => am_qc_X0_note
  | 14, _ => am_qc_X6_nerveOf
  | 15, _ => am_qc_X6_runWith
  | 16, _ => am_qc_X6_runFrom
  | 17, _ => am_qc_X6_holdsFast
  | 18, _ => am_qc_X0_fight
  | 19, _ => am_qc_X1_init
  | 20, _ => am_qc_X1_clear
  | 21, _ => am_qc_X1_isTold
  | 22, _ => am_qc_X1_addAmong
  | 23, _ => am_qc_X1_fits
  | 24, _ => am_qc_X1_countMen
  | 25, _ => am_qc_X1_count
  | 26, _ => am_qc_X1_fittingAt
  | 27, _ => am_qc_X1_leftBy
  | 28, _ => am_qc_X1_bestToAsk
  | 29, _ => am_qc_X7_init
  | 30, _ => am_qc_X2_init
  | 31, _ => am_qc_X2_clear
  | 32, _ => am_qc_X2_isTold
  | 33, _ => am_qc_X2_addDraw
  | 34, _ => am_qc_X2_hasDrawn
  | 35, _ => am_qc_X2_leftOf
  | 36, _ => am_qc_X7_common
  | 37, _ => am_qc_X7_put
  | 38, _ => am_qc_X7_times
  | 39, _ => am_qc_X2_weighDraw
  | 40, _ => am_qc_X2_drawAll
  | 41, _ => am_qc_X2_weightShaken
  | 42, _ => am_qc_X2_weightHonest
  | 43, _ => am_qc_X2_doubtTo
  | 44, _ => am_qc_X2_eitherTo
  | 45, _ => am_qc_X7_divideBy
  | 46, _ => am_qc_X2_nextBlackTo
  | 47, _ => am_qc_X3_init
  | 48, _ => am_qc_X3_clear
  | 49, _ => am_qc_X3_keep
  | 50, _ => am_qc_X3_takeBack
  | 51, _ => am_qc_X3_addImage
  | 52, _ => am_qc_X3_goBack
  | 53, _ => am_qc_X4_init
  | 54, _ => am_qc_X4_clear
  | 55, _ => am_qc_X4_addMan
  | 56, _ => am_qc_X5_init
  | 57, _ => am_qc_X11_isPart
  | 58, _ => am_qc_X5_survey
  | 59, _ => am_qc_X5_countWay
  | 60, _ => am_qc_X5_drawFrom
  | 61, _ => am_qc_X5_drawFrom
  | 62, _ => am_qc_X5_drawFrom
  | 63, _ => am_qc_X5_drawFrom
  | 64, _ => am_qc_X5_chooseTens
  | 65, _ => am_qc_X6_begin
  | 66, _ => am_qc_X6_friendsTogether
  | 67, _ => am_qc_X7_part
  | 68, _ => am_qc_X10_init
  | 69, _ => am_qc_X8_init
  | 70, _ => am_qc_X8_handOver
  | 71, _ => am_qc_X10_standTogether
  | 72, _ => am_qc_X10_step
  | 73, _ => am_qc_X10_begin
  | 74, _ => am_qc_X10_isWord
  | 75, _ => am_qc_X10_wordSort
  | 76, _ => am_qc_X8_behind
  | 77, _ => am_qc_X8_faultOfLine
  | 78, _ => am_qc_X8_fail
  | 79, _ => am_qc_X8_readWord
  | 80, _ => am_qc_X10_value
  | 81, _ => am_qc_X8_readWhole
  | 82, _ => am_qc_X8_readNamed
  | 83, _ => am_qc_X8_readLegion
  | 84, _ => am_qc_X10_letters
  | 85, _ => am_qc_X8_indexOf
  | 86, _ => am_qc_X8_isFreshName
  | 87, _ => am_qc_X8_readTen
  | 88, _ => am_qc_X8_readKind
  | 89, _ => am_qc_X8_findTold
  | 90, _ => am_qc_X8_readMan
  | 91, _ => am_qc_X8_readMember
  | 92, _ => am_qc_X8_findOther
  | 93, _ => am_qc_X8_readFriend
  | 94, _ => am_qc_X8_readHelmet
  | 95, _ => am_qc_X8_readDrew
  | 96, _ => am_qc_X8_readGone
  | 97, _ => am_qc_X8_readAmong
  | 98, _ => am_qc_X8_readText
  | 99, _ => am_qc_X9_init
  | 100, _ => am_qc_X9_assignFrom
  | 101, _ => am_qc_X9_assignFrom
  | 102, _ => am_qc_X9_assignFrom
  | 103, _ => am_qc_X9_assignFrom
  | 104, _ => am_qc_X9_assignFrom
  | 105, _ => am_qc_X9_assignFrom
  | 106, _ => am_qc_X9_assignFrom
  | 107, _ => am_qc_X9_assignFrom
  | 108, _ => am_qc_X9_assignFrom
  | 109, _ => am_qc_X9_solve
  | 110, _ => am_qc_X11_init
  | 111, _ => am_qc_X11_putBytes
  | 112, _ => am_qc_X11_feed
  | 113, _ => am_qc_X11_refused
  | 114, _ => am_qc_X11_legion
  | 115, _ => am_qc_X11_fault
  | 116, _ => am_qc_X11_where
  | 117, _ => am_qc_X11_troubleOfMan
  | 118, _ => am_qc_X11_man
  | 119, _ => am_qc_X11_troubleOfTen
  | 120, _ => am_qc_X11_ten
  | 121, _ => am_qc_X11_troubleOfLegion
  | 122, _ => am_qc_X11_there
  | 123, _ => am_qc_X11_anger
  | 124, _ => am_qc_X11_mutiny
  | 125, _ => am_qc_X11_firstOf
  | 126, _ => am_qc_X11_troubleOfStart
  | 127, _ => am_qc_X11_runs
  | 128, _ => am_qc_X11_holds
  | 129, _ => am_qc_X11_worst
  | 130, _ => am_qc_X11_breaks
  | 131, _ => am_qc_X11_brace
  | 132, _ => am_qc_X11_toHearten
  | 133, _ => am_qc_X11_fearFor
  | 134, _ => am_qc_X11_troubleOfLot
  | 135, _ => am_qc_X11_choices
  | 136, _ => am_qc_X11_sets
  | 137, _ => am_qc_X11_troubleOfPresent
  | 138, _ => am_qc_X11_drawn
  | 139, _ => am_qc_X11_troubleOfLotFrom
  | 140, _ => am_qc_X11_holdsAfter
  | 141, _ => am_qc_X11_mutinyAfter
  | 142, _ => am_qc_X11_runsAfter
  | 143, _ => am_qc_X11_worstSet
  | 144, _ => am_qc_X11_order
  | 145, _ => am_qc_X11_orderOdds
  | 146, _ => am_qc_X11_friends
  | 147, _ => am_qc_X11_newTen
  | 148, _ => am_qc_X11_friendsNow
  | 149, _ => am_qc_X11_troubleOfHelmet
  | 150, _ => am_qc_X11_doubt
  | 151, _ => am_qc_X11_troubleOfDrawer
  | 152, _ => am_qc_X11_next
  | 153, _ => am_qc_X11_doubtIf
  | 154, _ => am_qc_X11_honest
  | 155, _ => am_qc_X11_troubleOfGone
  | 156, _ => am_qc_X11_gone
  | 157, _ => am_qc_X11_goneAt
  | 158, _ => am_qc_X11_goneOf
  | 159, _ => am_qc_X11_surelyGone
  | 160, _ => am_qc_X11_ask
  | 161, _ => am_qc_X11_askLeaves
  | 162, _ => am_qc_X11_troubleOfDread
  | 163, _ => am_qc_X11_gain
  | 164, _ => am_qc_X11_line
  | 165, _ => am_qc_X11_isRest
  | 166, _ => am_qc_X11_rests
  | 167, _ => am_qc_X11_rest
  | 168, _ => am_qc_X11_troubleOfSeed
  | 169, _ => am_qc_X11_troubleOfWars
  | 170, _ => am_qc_X11_wars
  | 171, _ => am_qc_X11_warsLeft
  | 172, _ => am_qc_X11_warsOf
  | 173, _ => am_qc_X11_lot
  | 174, _ => am_qc_X11_braces
  | 175, _ => am_qc_X11_move
  | 176, _ => am_qc_X11_seed
  | 177, _ => am_qc_X11_undo
  | 178, _ => am_qc_X11_image
  | 179, _ => am_qc_X11_back
  | 180, _ => am_qc_X11_size
  | 181, _ => am_qc_X11_trouble
  | 182, _ => am_qc_X12_init
  | 183, _ => am_qc_X12_thrown
  | 184, _ => am_qc_X12_good
  | 185, _ => am_qc_X12_no
  | 186, _ => am_qc_X12_isNot
  | 187, _ => am_qc_X12_in
  | 188, _ => am_qc_X12_hasBit
  | 189, _ => am_qc_X12_ones
  | 190, _ => am_qc_X12_copy
  | 191, _ => am_qc_X12_lowest
  | 192, _ => am_qc_X12_feed
  | 193, _ => am_qc_X12_look
  | 194, _ => am_qc_X12_isSmall
  | 195, _ => am_qc_X12_isDigit
  | 196, _ => am_qc_X12_goOn
  | 197, _ => am_qc_X12_bad
  | 198, _ => am_qc_X12_isWord
  | 199, _ => am_qc_X12_takesWord
  | 200, _ => am_qc_X12_must
  | 201, _ => am_qc_X12_mustName
  | 202, _ => am_qc_X12_find
  | 203, _ => am_qc_X12_newName
  | 204, _ => am_qc_X12_named
  | 205, _ => am_qc_X12_manHere
  | 206, _ => am_qc_X12_manPassed
  | 207, _ => am_qc_X12_number
  | 208, _ => am_qc_X12_after
  | 209, _ => am_qc_X12_legionLine
  | 210, _ => am_qc_X12_begins
  | 211, _ => am_qc_X12_tenLine
  | 212, _ => am_qc_X12_manLine
  | 213, _ => am_qc_X12_friendLine
  | 214, _ => am_qc_X12_helmetLine
  | 215, _ => am_qc_X12_drewBy
  | 216, _ => am_qc_X12_drewLine
  | 217, _ => am_qc_X12_goneLine
  | 218, _ => am_qc_X12_amongLine
  | 219, _ => am_qc_X12_readLine
  | 220, _ => am_qc_X12_allMen
  | 221, _ => am_qc_X12_legion
  | 222, _ => am_qc_X12_fault
  | 223, _ => am_qc_X12_where
  | 224, _ => am_qc_X12_isMan
  | 225, _ => am_qc_X12_isTen
  | 226, _ => am_qc_X12_kindOf
  | 227, _ => am_qc_X12_asItIs
  | 228, _ => am_qc_X12_nerveOf
  | 229, _ => am_qc_X12_weightOf
  | 230, _ => am_qc_X12_runOf
  | 231, _ => am_qc_X12_doesHold
  | 232, _ => am_qc_X12_inTen
  | 233, _ => am_qc_X12_beansOf
  | 234, _ => am_qc_X12_angerOf
  | 235, _ => am_qc_X12_isMutiny
  | 236, _ => am_qc_X12_draws
  | 237, _ => am_qc_X12_man
  | 238, _ => am_qc_X12_ten
  | 239, _ => am_qc_X12_there
  | 240, _ => am_qc_X12_anger
  | 241, _ => am_qc_X12_mutiny
  | 242, _ => am_qc_X12_startWhy
  | 243, _ => am_qc_X12_runs
  | 244, _ => am_qc_X12_holds
  | 245, _ => am_qc_X12_worst
  | 246, _ => am_qc_X12_breaks
  | 247, _ => am_qc_X12_brace
  | 248, _ => am_qc_X12_toHearten
  | 249, _ => am_qc_X12_fearFor
  | 250, _ => am_qc_X12_begin
  | 251, _ => am_qc_X12_countsAt
  | 252, _ => am_qc_X12_tryLots
  | 253, _ => am_qc_X12_tryLots
  | 254, _ => am_qc_X12_tryLots
  | 255, _ => am_qc_X12_tryLots
  | 256, _ => am_qc_X12_tryOne
  | 257, _ => am_qc_X12_tenWhy
  | 258, _ => am_qc_X12_lotWhy
  | 259, _ => am_qc_X12_sets
  | 260, _ => am_qc_X12_drawn
  | 261, _ => am_qc_X12_holdsAfter
  | 262, _ => am_qc_X12_mutinyAfter
  | 263, _ => am_qc_X12_runsAfter
  | 264, _ => am_qc_X12_worstSet
  | 265, _ => am_qc_X12_orderOf
  | 266, _ => am_qc_X12_order
  | 267, _ => am_qc_X12_orderOdds
  | 268, _ => am_qc_X12_tryTens
  | 269, _ => am_qc_X12_tryTens
  | 270, _ => am_qc_X12_tryTens
  | 271, _ => am_qc_X12_tryTens
  | 272, _ => am_qc_X12_tryTens
  | 273, _ => am_qc_X12_tryTens
  | 274, _ => am_qc_X12_tryTens
  | 275, _ => am_qc_X12_tryTens
  | 276, _ => am_qc_X12_tryTens
  | 277, _ => am_qc_X12_seekTens
  | 278, _ => am_qc_X12_friends
  | 279, _ => am_qc_X12_newTen
  | 280, _ => am_qc_X12_friendsNow
  | 281, _ => am_qc_X12_drawsBean
  | 282, _ => am_qc_X12_layHelmet
  | 283, _ => am_qc_X12_shakenPart
  | 284, _ => am_qc_X12_honestPart
  | 285, _ => am_qc_X12_doubtOf
  | 286, _ => am_qc_X12_helmetWhy
  | 287, _ => am_qc_X12_doubt
  | 288, _ => am_qc_X12_next
  | 289, _ => am_qc_X12_doubtIf
  | 290, _ => am_qc_X12_honest
  | 291, _ => am_qc_X12_doesFit
  | 292, _ => am_qc_X12_fitting
  | 293, _ => am_qc_X12_goneWhy
  | 294, _ => am_qc_X12_gone
  | 295, _ => am_qc_X12_goneAt
  | 296, _ => am_qc_X12_goneOf
  | 297, _ => am_qc_X12_surelyGone
  | 298, _ => am_qc_X12_leavesOf
  | 299, _ => am_qc_X12_askOf
  | 300, _ => am_qc_X12_ask
  | 301, _ => am_qc_X12_askLeaves
  | 302, _ => am_qc_X12_lineOf
  | 303, _ => am_qc_X12_dreadWhy
  | 304, _ => am_qc_X12_line
  | 305, _ => am_qc_X12_isRest
  | 306, _ => am_qc_X12_seekRests
  | 307, _ => am_qc_X12_rests
  | 308, _ => am_qc_X12_rest
  | 309, _ => am_qc_X12_nextDraw
  | 310, _ => am_qc_X12_kth
  | 311, _ => am_qc_X12_lotOf
  | 312, _ => am_qc_X12_warsWhy
  | 313, _ => am_qc_X12_wars
  | 314, _ => am_qc_X12_warsLeft
  | 315, _ => am_qc_X12_warsOf
  | 316, _ => am_qc_X12_note
  | 317, _ => am_qc_X12_lot
  | 318, _ => am_qc_X12_braces
  | 319, _ => am_qc_X12_move
  | 320, _ => am_qc_X12_seed
  | 321, _ => am_qc_X12_undo
  | 322, _ => am_qc_X12_image
  | 323, _ => am_qc_X12_back
  | 324, _ => am_qc_X12_led
  | 325, _ => am_qc_X12_size
  | 326, _ => am_qc_X12_trouble
  | n + 327, h => absurd h (by omega)
