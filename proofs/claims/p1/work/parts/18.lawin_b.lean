/-! the rest of them -/
set_option maxRecDepth 100000 in
set_option maxHeartbeats 4000000 in
theorem wgi_4 : ∀ w ∈ wsGe_4, w ∈ lw_tbl := in_ix [437, 436, 682, 683, 684, 681, 689, 690, 691, 688, 703, 704, 705, 702, 710, 711, 712, 709, 845, 846, 847, 844, 981, 982, 983, 980, 1104, 1105, 1106, 1103, 1131, 1132, 1133, 1130, 719, 720, 721, 718, 717, 838, 839, 840, 837, 900, 901, 902, 899, 907, 908, 909, 906, 918, 919, 920, 917, 926, 927, 928, 925, 933, 934, 935, 932, 948, 949, 950, 947, 959, 960, 961, 958, 966, 967, 968, 965, 974, 975, 976, 973, 998, 999, 1000, 997, 1006, 1007, 1008, 1005, 1014, 1015, 1016, 1013, 1090, 1091, 1092, 1089, 1057, 1058, 1059, 1056, 1069] rfl
set_option maxRecDepth 100000 in
set_option maxHeartbeats 4000000 in
theorem wgi_5 : ∀ w ∈ wsGe_5, w ∈ lw_tbl := in_ix [1070, 1071, 1068, 1076, 1077, 1078, 1075, 1083, 1084, 1085, 1082, 434, 435, 51, 1213, 1214, 1215, 1209, 1210, 1211, 679, 680, 1260, 1261, 1262, 686, 687, 1264, 1265, 1266, 700, 701, 1277, 1278, 1279, 707, 708, 1281, 1282, 1283, 842, 843, 1643, 1644, 1645, 978, 979, 1858, 1859, 1860, 1101, 1102, 1955, 1956, 1957, 1128, 1129, 1990, 1991, 1992, 715, 716, 1286, 1287, 1288, 835, 836, 1639, 1640, 1641, 897, 898, 1753, 1754, 1755, 904, 905, 1757, 1758, 1759, 915, 916, 1769, 1770, 1771, 923, 924, 1773, 1774, 1775, 930, 931, 1816, 1817, 1818, 945, 946, 1825, 1826, 1827] rfl
set_option maxRecDepth 100000 in
set_option maxHeartbeats 4000000 in
theorem wgi_6 : ∀ w ∈ wsGe_6, w ∈ lw_tbl := in_ix [956, 957, 1832, 1833, 1834, 963, 964, 1840, 1841, 1842, 971, 972, 1849, 1850, 1851, 995, 996, 1867, 1868, 1869, 1003, 1004, 1875, 1876, 1877, 1011, 1012, 1880, 1881, 1882, 1087, 1088, 1950, 1951, 1952, 1054, 1055, 1924, 1925, 1926, 1066, 1067, 1932, 1933, 1934, 1073, 1074, 1936, 1937, 1938, 1080, 1081, 1945, 1946, 1947, 255, 256, 257, 1737, 1738, 1739, 259, 260, 261, 1745, 1746, 1747, 267, 268, 269, 1749, 1750, 1751, 340, 341, 342, 1941, 1942, 1943, 344, 345, 346, 1996, 1997, 1998, 271, 272, 273, 1845, 1846, 1847, 91, 92, 93, 94, 1136, 1137, 1138, 1139, 2008] rfl
set_option maxRecDepth 100000 in
set_option maxHeartbeats 4000000 in
theorem wgp_0 : ∀ w ∈ u_ws RJx4a65c TJx4a65c 3, w ∈ lw_tbl := in_ix [160, 156, 158] rfl
set_option maxRecDepth 100000 in
set_option maxHeartbeats 4000000 in
theorem wgp_1 : ∀ w ∈ u_ws RX9 TX9 9, w ∈ lw_tbl := in_ix [236, 238, 240, 242, 244, 246, 248, 250, 252] rfl
set_option maxRecDepth 100000 in
set_option maxHeartbeats 4000000 in
theorem wgp_2 : ∀ w ∈ u_ws RX8 TX8 5, w ∈ lw_tbl := in_ix [191, 193, 195, 197, 199] rfl
set_option maxRecDepth 100000 in
set_option maxHeartbeats 4000000 in
theorem wgp_3 : ∀ w ∈ u_ws RX1 TX1 3, w ∈ lw_tbl := in_ix [174, 176, 178] rfl
set_option maxRecDepth 100000 in
set_option maxHeartbeats 4000000 in
theorem wgp_4 : ∀ w ∈ u_ws RX7 TX7 5, w ∈ lw_tbl := in_ix [120, 122, 124, 126, 128] rfl
set_option maxRecDepth 100000 in
set_option maxHeartbeats 4000000 in
theorem wgp_5 : ∀ w ∈ u_ws RX15 TX15 7, w ∈ lw_tbl := in_ix [1194, 1196, 1198, 1200, 1202, 1204, 1206] rfl
set_option maxRecDepth 100000 in
set_option maxHeartbeats 4000000 in
theorem wgp_6 : ∀ w ∈ u_ws RX14 TX14 9, w ∈ lw_tbl := in_ix [1168, 1170, 1172, 1174, 1176, 1178, 1180, 1182, 1184] rfl
set_option maxRecDepth 100000 in
set_option maxHeartbeats 4000000 in
theorem wgp_7 : ∀ w ∈ u_ws RX0 TX0 2, w ∈ lw_tbl := in_ix [591, 589] rfl
set_option maxRecDepth 100000 in
set_option maxHeartbeats 4000000 in
theorem wgp_8 : ∀ w ∈ u_ws RX4 TX4 7, w ∈ lw_tbl := in_ix [579, 567, 569, 571, 573, 575, 577] rfl
set_option maxRecDepth 100000 in
set_option maxHeartbeats 4000000 in
theorem wgp_9 : ∀ w ∈ u_ws RX3 TX3 6, w ∈ lw_tbl := in_ix [214, 216, 218, 220, 222, 224] rfl
set_option maxRecDepth 100000 in
set_option maxHeartbeats 4000000 in
theorem wgp_10 : ∀ w ∈ u_ws RX6 TX6 5, w ∈ lw_tbl := in_ix [603, 605, 607, 609, 611] rfl
set_option maxRecDepth 100000 in
set_option maxHeartbeats 4000000 in
theorem wgp_11 : ∀ w ∈ u_ws RX13 TX13 5, w ∈ lw_tbl := in_ix [1248, 1250, 1252, 1254, 1256] rfl
set_option maxRecDepth 100000 in
set_option maxHeartbeats 4000000 in
theorem wgp_12 : ∀ w ∈ u_ws RJ0 TJ0 4, w ∈ lw_tbl := in_ix [1608, 1610, 1612, 1614] rfl
set_option maxRecDepth 100000 in
set_option maxHeartbeats 4000000 in
theorem wgp_13 : ∀ w ∈ u_ws RJ4 TJ4 4, w ∈ lw_tbl := in_ix [1408, 1410, 1412, 1414] rfl
set_option maxRecDepth 100000 in
set_option maxHeartbeats 4000000 in
theorem wgp_14 : ∀ w ∈ u_ws RX5 TX5 9, w ∈ lw_tbl := in_ix [1035, 1037, 1039, 1041, 1043, 1045, 1047, 1049, 1051] rfl
set_option maxRecDepth 100000 in
set_option maxHeartbeats 4000000 in
theorem wgp_15 : ∀ w ∈ u_ws RX10 TX10 1, w ∈ lw_tbl := in_ix [1794] rfl
set_option maxRecDepth 100000 in
set_option maxHeartbeats 4000000 in
theorem wgp_16 : ∀ w ∈ u_ws RX11 TX11 7, w ∈ lw_tbl := in_ix [1358, 1360, 1362, 1364, 1366, 1368, 1370] rfl
set_option maxRecDepth 100000 in
set_option maxHeartbeats 4000000 in
theorem wgp_17 : ∀ w ∈ u_ws RX12 TX12 9, w ∈ lw_tbl := in_ix [1905, 1907, 1909, 1911, 1913, 1915, 1917, 1919, 1921] rfl
set_option maxRecDepth 100000 in
set_option maxHeartbeats 4000000 in
theorem wgp_18 : ∀ w ∈ (vx_atS RX9 284 "java/lang/IllegalArgumentException" ["java/lang/RuntimeException", "java/lang/Exception"]).filter goodWord, w ∈ lw_tbl := in_ix [62, 469, 478, 482, 485, 487, 470, 471, 97, 98, 472, 477, 483, 503, 459, 504, 461, 505, 463, 473, 475, 465, 499, 500, 502, 465, 490, 491, 492, 493, 493, 494, 495, 496, 496, 497, 498, 499, 489, 448, 456, 457, 458, 460, 462, 464, 468, 467, 466] rfl
set_option maxRecDepth 100000 in
set_option maxHeartbeats 4000000 in
theorem wgp_19 : ∀ w ∈ (vx_atS RX9 291 "java/lang/IndexOutOfBoundsException" ["java/lang/RuntimeException", "java/lang/Exception"]).filter goodWord, w ∈ lw_tbl := in_ix [62, 469, 478, 482, 485, 487, 470, 471, 97, 98, 472, 477, 483, 503, 459, 504, 461, 505, 463, 473, 475, 465, 499, 500, 502, 465, 738, 739, 740, 493, 493, 494, 495, 496, 496, 497, 498, 499, 737, 728, 730, 481, 731, 732, 733, 734, 468, 467, 735] rfl
theorem wsG_in : ∀ w ∈ wsG, w ∈ lw_tbl := by
  have h1 : ∀ w ∈ wsGe, w ∈ lw_tbl := fun w h => (List.mem_append.mp h).elim (wgi_0 w) ((fun w h => (List.mem_append.mp h).elim (wgi_1 w) ((fun w h => (List.mem_append.mp h).elim (wgi_2 w) ((fun w h => (List.mem_append.mp h).elim (wgi_3 w) ((fun w h => (List.mem_append.mp h).elim (wgi_4 w) ((fun w h => (List.mem_append.mp h).elim (wgi_5 w) ((fun w h => (List.mem_append.mp h).elim (wgi_6 w) ((fun w h => absurd h List.not_mem_nil) w)) w)) w)) w)) w)) w)) w)
  have h2 : ∀ w ∈ wsGc, w ∈ lw_tbl := fun w h => (List.mem_append.mp h).elim (wgp_0 w) ((fun w h => (List.mem_append.mp h).elim (wgp_1 w) ((fun w h => (List.mem_append.mp h).elim (wgp_2 w) ((fun w h => (List.mem_append.mp h).elim (wgp_3 w) ((fun w h => (List.mem_append.mp h).elim (wgp_4 w) ((fun w h => (List.mem_append.mp h).elim (wgp_5 w) ((fun w h => (List.mem_append.mp h).elim (wgp_6 w) ((fun w h => (List.mem_append.mp h).elim (wgp_7 w) ((fun w h => (List.mem_append.mp h).elim (wgp_8 w) ((fun w h => (List.mem_append.mp h).elim (wgp_9 w) ((fun w h => (List.mem_append.mp h).elim (wgp_10 w) ((fun w h => (List.mem_append.mp h).elim (wgp_11 w) ((fun w h => (List.mem_append.mp h).elim (wgp_12 w) ((fun w h => (List.mem_append.mp h).elim (wgp_13 w) ((fun w h => (List.mem_append.mp h).elim (wgp_14 w) ((fun w h => (List.mem_append.mp h).elim (wgp_15 w) ((fun w h => (List.mem_append.mp h).elim (wgp_16 w) ((fun w h => (List.mem_append.mp h).elim (wgp_17 w) ((fun w h => (List.mem_append.mp h).elim (wgp_18 w) ((fun w h => (List.mem_append.mp h).elim (wgp_19 w) ((fun w h => absurd h List.not_mem_nil) w)) w)) w)) w)) w)) w)) w)) w)) w)) w)) w)) w)) w)) w)) w)) w)) w)) w)) w)) w)
  exact fun w h => (List.mem_append.mp h).elim (h1 w) (h2 w)
