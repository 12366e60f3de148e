/-! THE TABLES ARE AS THE WORDS HAVE THEM: calls, handlers, throws; printed by gen12.py -/
def sh_mP : List (Nat × Nat × Nat × Nat) := [(0, 198, 0, 0), (229, 199, 228, 0), (237, 200, 236, 0), (282, 201, 281, 0), (305, 202, 304, 0), (337, 203, 336, 0), (400, 204, 399, 0), (422, 205, 421, 0), (428, 206, 427, 0), (450, 207, 449, 0), (473, 208, 472, 0), (558, 209, 557, 0), (602, 210, 601, 0), (673, 199, 671, 672), (677, 199, 676, 0), (681, 199, 679, 680), (685, 199, 683, 684), (690, 199, 689, 1), (694, 201, 692, 693), (698, 201, 697, 2), (702, 212, 701, 0), (712, 213, 711, 0), (718, 212, 717, 0), (727, 202, 725, 726), (731, 200, 729, 730), (736, 200, 735, 3), (740, 200, 739, 4), (744, 200, 743, 5), (747, 199, 746, 0), (751, 200, 750, 6), (754, 200, 753, 0), (757, 199, 756, 0), (761, 200, 760, 7), (827, 200, 826, 9), (831, 200, 830, 10), (884, 200, 883, 11), (888, 200, 887, 12), (892, 200, 891, 13), (896, 200, 895, 14), (900, 200, 899, 15), (906, 200, 905, 16), (909, 200, 908, 0), (928, 213, 927, 0), (971, 204, 969, 970), (975, 203, 973, 974), (979, 204, 978, 17), (983, 200, 981, 982), (987, 204, 986, 18), (991, 204, 990, 19), (995, 204, 994, 20), (999, 200, 997, 998), (1003, 204, 1002, 21), (1007, 204, 1006, 22), (1011, 204, 1010, 23), (1014, 204, 1013, 0), (1018, 204, 1017, 24), (1022, 203, 1020, 1021), (1026, 204, 1025, 25), (1030, 204, 1029, 26), (1034, 204, 1033, 27), (1037, 204, 1036, 0), (1041, 204, 1040, 28), (1045, 204, 1044, 29), (1049, 203, 1047, 1048), (1053, 203, 1051, 1052), (1057, 204, 1056, 30), (1061, 200, 1059, 1060), (1065, 204, 1064, 31), (1069, 204, 1068, 32), (1072, 204, 1071, 0), (1076, 204, 1075, 33), (1080, 204, 1079, 34), (1084, 204, 1083, 35), (1088, 204, 1087, 36), (1092, 204, 1091, 37), (1096, 204, 1095, 38), (1099, 204, 1098, 0), (1103, 204, 1102, 39), (1107, 205, 1105, 1106), (1111, 205, 1110, 40), (1115, 206, 1113, 1114), (1119, 208, 1117, 1118), (1123, 205, 1122, 41), (1127, 200, 1125, 1126), (1132, 205, 1131, 42), (1137, 205, 1136, 43), (1141, 205, 1140, 44), (1150, 203, 1148, 1149), (1154, 203, 1152, 1153), (1158, 203, 1156, 1157), (1162, 205, 1161, 45), (1166, 205, 1165, 46), (1170, 208, 1168, 1169), (1173, 207, 1172, 0), (1177, 207, 1176, 0), (1181, 202, 1179, 1180), (1184, 207, 1183, 0), (1191, 206, 1189, 1190), (1195, 206, 1193, 1194), (1199, 201, 1197, 1198), (1203, 206, 1201, 1202), (1207, 205, 1206, 47), (1211, 202, 1209, 1210), (1215, 206, 1213, 1214), (1219, 202, 1217, 1218), (1223, 208, 1221, 1222), (1227, 205, 1226, 48), (1231, 205, 1230, 49), (1235, 207, 1233, 1234), (1239, 207, 1237, 1238), (1243, 207, 1241, 1242), (1247, 207, 1245, 1246), (1250, 207, 1249, 0), (1253, 207, 1252, 0), (1256, 207, 1255, 0), (1260, 206, 1258, 1259), (1265, 207, 1263, 1264), (1269, 207, 1267, 1268), (1273, 207, 1271, 1272), (1277, 205, 1276, 50), (1281, 208, 1279, 1280), (1285, 208, 1283, 1284), (1289, 205, 1288, 51), (1292, 207, 1291, 0), (1296, 205, 1295, 52), (1300, 205, 1299, 53), (1304, 205, 1303, 54), (1308, 208, 1306, 1307), (1312, 206, 1310, 1311), (1317, 201, 1315, 1316), (1321, 201, 1319, 1320), (1325, 201, 1324, 55), (1329, 201, 1327, 1328), (1333, 208, 1331, 1332), (1337, 205, 1336, 56), (1340, 207, 1339, 0), (1344, 205, 1343, 57), (1349, 206, 1347, 1348), (1352, 205, 1351, 0), (1356, 206, 1354, 1355), (1363, 206, 1362, 58), (1368, 201, 1366, 1367), (1373, 205, 1372, 59), (1377, 205, 1376, 60), (1382, 205, 1381, 61), (1386, 205, 1385, 62), (1390, 208, 1388, 1389), (1397, 205, 1396, 63), (1401, 205, 1400, 64), (1405, 205, 1404, 65), (1410, 205, 1409, 66), (1414, 205, 1413, 67), (1418, 208, 1416, 1417), (1422, 205, 1421, 68), (1426, 205, 1425, 69), (1430, 205, 1429, 70), (1434, 203, 1432, 1433), (1438, 205, 1437, 71), (1442, 205, 1441, 72), (1446, 205, 1445, 73), (1450, 205, 1449, 74), (1454, 205, 1453, 75), (1458, 207, 1456, 1457), (1462, 207, 1460, 1461), (1467, 205, 1466, 76), (1471, 205, 1470, 77), (1476, 206, 1474, 1475), (1481, 205, 1480, 78), (1485, 205, 1484, 79), (1489, 206, 1487, 1488), (1493, 205, 1492, 80), (1497, 205, 1496, 81), (1501, 205, 1500, 82), (1506, 206, 1504, 1505), (1509, 213, 1508, 0), (1513, 206, 1511, 1512), (1517, 205, 1516, 0), (1520, 205, 1519, 0), (1524, 206, 1522, 1523), (1529, 206, 1528, 83), (1533, 206, 1532, 84), (1537, 206, 1536, 85), (1541, 206, 1540, 86), (1545, 206, 1544, 87), (1548, 212, 1547, 0), (1553, 201, 1551, 1552), (1558, 206, 1556, 1557), (1562, 206, 1561, 88), (1566, 206, 1565, 89), (1570, 206, 1569, 90), (1574, 206, 1573, 91), (1577, 205, 1576, 0), (1581, 205, 1580, 92), (1585, 206, 1583, 1584), (1589, 205, 1588, 93), (1593, 205, 1592, 94), (1597, 205, 1596, 95), (1601, 205, 1600, 96), (1605, 206, 1603, 1604), (1610, 199, 1608, 1609), (1614, 209, 1612, 1613), (1620, 209, 1619, 97), (1624, 209, 1623, 98), (1629, 209, 1628, 99), (1635, 209, 1634, 100), (1639, 209, 1638, 101), (1643, 209, 1642, 102), (1647, 209, 1646, 103), (1654, 209, 1653, 104), (1658, 209, 1657, 105), (1662, 209, 1661, 106), (1667, 209, 1666, 107), (1679, 209, 1678, 108), (1684, 199, 1682, 1683), (1688, 199, 1686, 1687), (1692, 209, 1690, 1691), (1696, 199, 1695, 109), (1700, 199, 1698, 1699), (1705, 210, 1703, 1704), (1709, 199, 1707, 1708), (1713, 210, 1711, 1712), (1717, 210, 1716, 110), (1721, 210, 1720, 111), (1725, 210, 1724, 0), (1731, 210, 1730, 112), (1735, 210, 1734, 113), (1739, 210, 1738, 114), (1743, 202, 1741, 1742), (1747, 202, 1745, 1746), (1751, 210, 1750, 115), (1755, 210, 1754, 116), (1759, 210, 1758, 117), (1762, 210, 1761, 0), (1766, 210, 1765, 118), (1770, 210, 1769, 119), (1774, 202, 1772, 1773), (1777, 198, 1776, 0), (1782, 199, 1780, 1781), (1801, 198, 1800, 0), (1805, 199, 1803, 1804), (1809, 198, 1808, 0), (1813, 199, 1811, 1812), (1818, 211, 1817, 0), (2108, 211, 2106, 2107), (2112, 211, 2110, 2111), (2116, 211, 2114, 2115), (2120, 211, 2118, 2119), (2124, 211, 2123, 120), (2128, 211, 2127, 121), (2132, 211, 2131, 122), (2135, 211, 2134, 0), (2138, 211, 2137, 0), (2142, 211, 2141, 123), (2146, 211, 2145, 124), (2149, 211, 2148, 0), (2155, 211, 2154, 125), (2160, 211, 2159, 126), (2166, 211, 2165, 127), (2170, 211, 2169, 128), (2174, 211, 2173, 129), (2178, 211, 2177, 130), (2194, 211, 2193, 131), (2198, 211, 2197, 132), (2202, 211, 2201, 133), (2206, 211, 2205, 134), (2210, 211, 2209, 135), (2214, 211, 2213, 136), (2218, 211, 2217, 137), (2222, 211, 2221, 138), (2226, 211, 2225, 139), (2230, 211, 2229, 140), (2234, 211, 2233, 141), (2238, 211, 2237, 142), (2242, 211, 2241, 143), (2245, 211, 2244, 0), (2249, 211, 2248, 144), (2253, 211, 2252, 145), (2257, 211, 2256, 146), (2261, 211, 2260, 147), (2265, 211, 2264, 148), (2269, 211, 2268, 149), (2273, 211, 2272, 150), (2280, 211, 2279, 151), (2284, 211, 2283, 152), (2288, 211, 2287, 153), (2292, 211, 2291, 154), (2296, 211, 2295, 155), (2300, 211, 2299, 156), (2303, 211, 2302, 0), (2307, 211, 2306, 157), (2311, 211, 2310, 158), (2315, 211, 2314, 159), (2319, 211, 2318, 160), (2323, 211, 2322, 161), (2327, 211, 2326, 162), (2331, 211, 2330, 163), (2335, 211, 2334, 164), (2339, 211, 2338, 165), (2343, 211, 2342, 166), (2347, 211, 2346, 167), (2350, 211, 2349, 0), (2354, 211, 2353, 168), (2359, 211, 2358, 169), (2363, 211, 2362, 170), (2367, 211, 2366, 171), (2371, 211, 2370, 172), (2375, 211, 2374, 173), (2378, 211, 2377, 0), (2382, 211, 2381, 0), (2386, 211, 2385, 174), (2390, 211, 2389, 175), (2394, 211, 2393, 176), (2398, 211, 2397, 177), (2402, 211, 2401, 178), (2406, 211, 2405, 179), (2410, 211, 2409, 180), (2414, 211, 2413, 181), (2418, 211, 2417, 182), (2422, 211, 2421, 183), (2426, 211, 2425, 184), (2430, 211, 2429, 185), (2434, 211, 2433, 186), (2439, 211, 2438, 187), (2443, 211, 2441, 2442), (2447, 211, 2446, 188), (2451, 211, 2450, 189), (2455, 211, 2454, 190), (2459, 211, 2458, 191), (2464, 211, 2463, 192), (2468, 211, 2467, 193), (2472, 211, 2471, 194), (2477, 211, 2476, 195), (2486, 211, 2484, 2485), (2490, 211, 2488, 2489), (2494, 211, 2492, 2493), (2498, 211, 2497, 196), (2502, 211, 2500, 2501), (2507, 211, 2505, 2506), (2511, 211, 2509, 2510), (2515, 211, 2514, 197), (2519, 211, 2517, 2518), (836, 219, 834, 835), (840, 219, 838, 839), (850, 219, 848, 849), (846, 219, 844, 845), (856, 219, 855, 0), (914, 219, 912, 913), (918, 219, 916, 917), (853, 220, 852, 0), (922, 220, 921, 0), (925, 220, 924, 0), (932, 220, 931, 0), (861, 221, 860, 0)]
theorem sh_in_tables_1_1 {w : Cond} (h : w ∈ tables_1_1) : w ∈ lw_tbl := by simp [lw_tbl, tables_1, h]
theorem sh_in_tables_1_2 {w : Cond} (h : w ∈ tables_1_2) : w ∈ lw_tbl := by simp [lw_tbl, tables_1, h]
theorem sh_in_tables_1_3 {w : Cond} (h : w ∈ tables_1_3) : w ∈ lw_tbl := by simp [lw_tbl, tables_1, h]
theorem sh_in_tables_1_4 {w : Cond} (h : w ∈ tables_1_4) : w ∈ lw_tbl := by simp [lw_tbl, tables_1, h]
theorem sh_in_tables_1_5 {w : Cond} (h : w ∈ tables_1_5) : w ∈ lw_tbl := by simp [lw_tbl, tables_1, h]
theorem sh_in_tables_1_6 {w : Cond} (h : w ∈ tables_1_6) : w ∈ lw_tbl := by simp [lw_tbl, tables_1, h]
theorem sh_in_tables_1_7 {w : Cond} (h : w ∈ tables_1_7) : w ∈ lw_tbl := by simp [lw_tbl, tables_1, h]
theorem sh_in_tables_1_8 {w : Cond} (h : w ∈ tables_1_8) : w ∈ lw_tbl := by simp [lw_tbl, tables_1, h]
theorem sh_in_tables_1_9 {w : Cond} (h : w ∈ tables_1_9) : w ∈ lw_tbl := by simp [lw_tbl, tables_1, h]
theorem sh_in_tables_1_10 {w : Cond} (h : w ∈ tables_1_10) : w ∈ lw_tbl := by simp [lw_tbl, tables_1, h]
set_option maxRecDepth 20000 in
theorem sh_cw1 : sh_code sh_G0 1 ∈ lw_tbl := sh_in_tables_1_1 (List.mem_of_getElem? (i := 31) rfl)
set_option maxRecDepth 20000 in
theorem sh_cw2 : sh_code sh_G0 2 ∈ lw_tbl := sh_in_tables_1_1 (List.mem_of_getElem? (i := 39) rfl)
set_option maxRecDepth 20000 in
theorem sh_cw3 : sh_code sh_G0 3 ∈ lw_tbl := sh_in_tables_1_1 (List.mem_of_getElem? (i := 84) rfl)
set_option maxRecDepth 20000 in
theorem sh_cw4 : sh_code sh_G0 4 ∈ lw_tbl := sh_in_tables_1_1 (List.mem_of_getElem? (i := 107) rfl)
set_option maxRecDepth 20000 in
theorem sh_cw5 : sh_code sh_G0 5 ∈ lw_tbl := sh_in_tables_1_1 (List.mem_of_getElem? (i := 139) rfl)
set_option maxRecDepth 20000 in
theorem sh_cw6 : sh_code sh_G0 6 ∈ lw_tbl := sh_in_tables_1_1 (List.mem_of_getElem? (i := 202) rfl)
set_option maxRecDepth 20000 in
theorem sh_cw7 : sh_code sh_G0 7 ∈ lw_tbl := sh_in_tables_1_1 (List.mem_of_getElem? (i := 224) rfl)
set_option maxRecDepth 20000 in
theorem sh_cw8 : sh_code sh_G0 8 ∈ lw_tbl := sh_in_tables_1_1 (List.mem_of_getElem? (i := 230) rfl)
set_option maxRecDepth 20000 in
theorem sh_cw9 : sh_code sh_G0 9 ∈ lw_tbl := sh_in_tables_1_2 (List.mem_of_getElem? (i := 12) rfl)
set_option maxRecDepth 20000 in
theorem sh_cw10 : sh_code sh_G0 10 ∈ lw_tbl := sh_in_tables_1_2 (List.mem_of_getElem? (i := 35) rfl)
set_option maxRecDepth 20000 in
theorem sh_cw11 : sh_code sh_G0 11 ∈ lw_tbl := sh_in_tables_1_2 (List.mem_of_getElem? (i := 120) rfl)
set_option maxRecDepth 20000 in
theorem sh_cw12 : sh_code sh_G0 12 ∈ lw_tbl := sh_in_tables_1_2 (List.mem_of_getElem? (i := 164) rfl)
set_option maxRecDepth 20000 in
theorem sh_cw13 : sh_code sh_G0 13 ∈ lw_tbl := sh_in_tables_1_2 (List.mem_of_getElem? (i := 235) rfl)
set_option maxRecDepth 20000 in
theorem sh_cw14 : sh_code sh_G0 14 ∈ lw_tbl := sh_in_tables_1_2 (List.mem_of_getElem? (i := 239) rfl)
set_option maxRecDepth 20000 in
theorem sh_cw15 : sh_code sh_G0 15 ∈ lw_tbl := sh_in_tables_1_3 (List.mem_of_getElem? (i := 3) rfl)
set_option maxRecDepth 20000 in
theorem sh_cw16 : sh_code sh_G0 16 ∈ lw_tbl := sh_in_tables_1_3 (List.mem_of_getElem? (i := 7) rfl)
set_option maxRecDepth 20000 in
theorem sh_cw17 : sh_code sh_G0 17 ∈ lw_tbl := sh_in_tables_1_3 (List.mem_of_getElem? (i := 12) rfl)
set_option maxRecDepth 20000 in
theorem sh_cw18 : sh_code sh_G0 18 ∈ lw_tbl := sh_in_tables_1_3 (List.mem_of_getElem? (i := 16) rfl)
set_option maxRecDepth 20000 in
theorem sh_cw19 : sh_code sh_G0 19 ∈ lw_tbl := sh_in_tables_1_3 (List.mem_of_getElem? (i := 20) rfl)
set_option maxRecDepth 20000 in
theorem sh_cw20 : sh_code sh_G0 20 ∈ lw_tbl := sh_in_tables_1_3 (List.mem_of_getElem? (i := 24) rfl)
set_option maxRecDepth 20000 in
theorem sh_cw21 : sh_code sh_G0 21 ∈ lw_tbl := sh_in_tables_1_3 (List.mem_of_getElem? (i := 34) rfl)
set_option maxRecDepth 20000 in
theorem sh_cw22 : sh_code sh_G0 22 ∈ lw_tbl := sh_in_tables_1_3 (List.mem_of_getElem? (i := 40) rfl)
set_option maxRecDepth 20000 in
theorem sh_cw23 : sh_code sh_G0 23 ∈ lw_tbl := sh_in_tables_1_3 (List.mem_of_getElem? (i := 49) rfl)
set_option maxRecDepth 20000 in
theorem sh_cw24 : sh_code sh_G0 24 ∈ lw_tbl := sh_in_tables_1_3 (List.mem_of_getElem? (i := 53) rfl)
set_option maxRecDepth 20000 in
theorem sh_cw25 : sh_code sh_G0 25 ∈ lw_tbl := sh_in_tables_1_3 (List.mem_of_getElem? (i := 58) rfl)
set_option maxRecDepth 20000 in
theorem sh_cw26 : sh_code sh_G0 26 ∈ lw_tbl := sh_in_tables_1_3 (List.mem_of_getElem? (i := 62) rfl)
set_option maxRecDepth 20000 in
theorem sh_cw27 : sh_code sh_G0 27 ∈ lw_tbl := sh_in_tables_1_3 (List.mem_of_getElem? (i := 66) rfl)
set_option maxRecDepth 20000 in
theorem sh_cw28 : sh_code sh_G0 28 ∈ lw_tbl := sh_in_tables_1_3 (List.mem_of_getElem? (i := 69) rfl)
set_option maxRecDepth 20000 in
theorem sh_cw29 : sh_code sh_G0 29 ∈ lw_tbl := sh_in_tables_1_3 (List.mem_of_getElem? (i := 73) rfl)
set_option maxRecDepth 20000 in
theorem sh_cw30 : sh_code sh_G0 30 ∈ lw_tbl := sh_in_tables_1_3 (List.mem_of_getElem? (i := 76) rfl)
set_option maxRecDepth 20000 in
theorem sh_cw31 : sh_code sh_G0 31 ∈ lw_tbl := sh_in_tables_1_3 (List.mem_of_getElem? (i := 79) rfl)
set_option maxRecDepth 20000 in
theorem sh_cw32 : sh_code sh_G0 32 ∈ lw_tbl := sh_in_tables_1_3 (List.mem_of_getElem? (i := 83) rfl)
set_option maxRecDepth 20000 in
theorem sh_cw33 : sh_code sh_G0 33 ∈ lw_tbl := sh_in_tables_1_3 (List.mem_of_getElem? (i := 149) rfl)
set_option maxRecDepth 20000 in
theorem sh_cw34 : sh_code sh_G0 34 ∈ lw_tbl := sh_in_tables_1_3 (List.mem_of_getElem? (i := 153) rfl)
set_option maxRecDepth 20000 in
theorem sh_cw35 : sh_code sh_G0 35 ∈ lw_tbl := sh_in_tables_1_3 (List.mem_of_getElem? (i := 206) rfl)
set_option maxRecDepth 20000 in
theorem sh_cw36 : sh_code sh_G0 36 ∈ lw_tbl := sh_in_tables_1_3 (List.mem_of_getElem? (i := 210) rfl)
set_option maxRecDepth 20000 in
theorem sh_cw37 : sh_code sh_G0 37 ∈ lw_tbl := sh_in_tables_1_3 (List.mem_of_getElem? (i := 214) rfl)
set_option maxRecDepth 20000 in
theorem sh_cw38 : sh_code sh_G0 38 ∈ lw_tbl := sh_in_tables_1_3 (List.mem_of_getElem? (i := 218) rfl)
set_option maxRecDepth 20000 in
theorem sh_cw39 : sh_code sh_G0 39 ∈ lw_tbl := sh_in_tables_1_3 (List.mem_of_getElem? (i := 222) rfl)
set_option maxRecDepth 20000 in
theorem sh_cw40 : sh_code sh_G0 40 ∈ lw_tbl := sh_in_tables_1_3 (List.mem_of_getElem? (i := 228) rfl)
set_option maxRecDepth 20000 in
theorem sh_cw41 : sh_code sh_G0 41 ∈ lw_tbl := sh_in_tables_1_3 (List.mem_of_getElem? (i := 231) rfl)
set_option maxRecDepth 20000 in
theorem sh_cw42 : sh_code sh_G0 42 ∈ lw_tbl := sh_in_tables_1_4 (List.mem_of_getElem? (i := 10) rfl)
set_option maxRecDepth 20000 in
theorem sh_cw43 : sh_code sh_G0 43 ∈ lw_tbl := sh_in_tables_1_4 (List.mem_of_getElem? (i := 53) rfl)
set_option maxRecDepth 20000 in
theorem sh_cw44 : sh_code sh_G0 44 ∈ lw_tbl := sh_in_tables_1_4 (List.mem_of_getElem? (i := 57) rfl)
set_option maxRecDepth 20000 in
theorem sh_cw45 : sh_code sh_G0 45 ∈ lw_tbl := sh_in_tables_1_4 (List.mem_of_getElem? (i := 61) rfl)
set_option maxRecDepth 20000 in
theorem sh_cw46 : sh_code sh_G0 46 ∈ lw_tbl := sh_in_tables_1_4 (List.mem_of_getElem? (i := 65) rfl)
set_option maxRecDepth 20000 in
theorem sh_cw47 : sh_code sh_G0 47 ∈ lw_tbl := sh_in_tables_1_4 (List.mem_of_getElem? (i := 69) rfl)
set_option maxRecDepth 20000 in
theorem sh_cw48 : sh_code sh_G0 48 ∈ lw_tbl := sh_in_tables_1_4 (List.mem_of_getElem? (i := 73) rfl)
set_option maxRecDepth 20000 in
theorem sh_cw49 : sh_code sh_G0 49 ∈ lw_tbl := sh_in_tables_1_4 (List.mem_of_getElem? (i := 77) rfl)
set_option maxRecDepth 20000 in
theorem sh_cw50 : sh_code sh_G0 50 ∈ lw_tbl := sh_in_tables_1_4 (List.mem_of_getElem? (i := 81) rfl)
set_option maxRecDepth 20000 in
theorem sh_cw51 : sh_code sh_G0 51 ∈ lw_tbl := sh_in_tables_1_4 (List.mem_of_getElem? (i := 85) rfl)
set_option maxRecDepth 20000 in
theorem sh_cw52 : sh_code sh_G0 52 ∈ lw_tbl := sh_in_tables_1_4 (List.mem_of_getElem? (i := 89) rfl)
set_option maxRecDepth 20000 in
theorem sh_cw53 : sh_code sh_G0 53 ∈ lw_tbl := sh_in_tables_1_4 (List.mem_of_getElem? (i := 93) rfl)
set_option maxRecDepth 20000 in
theorem sh_cw54 : sh_code sh_G0 54 ∈ lw_tbl := sh_in_tables_1_4 (List.mem_of_getElem? (i := 96) rfl)
set_option maxRecDepth 20000 in
theorem sh_cw55 : sh_code sh_G0 55 ∈ lw_tbl := sh_in_tables_1_4 (List.mem_of_getElem? (i := 100) rfl)
set_option maxRecDepth 20000 in
theorem sh_cw56 : sh_code sh_G0 56 ∈ lw_tbl := sh_in_tables_1_4 (List.mem_of_getElem? (i := 104) rfl)
set_option maxRecDepth 20000 in
theorem sh_cw57 : sh_code sh_G0 57 ∈ lw_tbl := sh_in_tables_1_4 (List.mem_of_getElem? (i := 108) rfl)
set_option maxRecDepth 20000 in
theorem sh_cw58 : sh_code sh_G0 58 ∈ lw_tbl := sh_in_tables_1_4 (List.mem_of_getElem? (i := 112) rfl)
set_option maxRecDepth 20000 in
theorem sh_cw59 : sh_code sh_G0 59 ∈ lw_tbl := sh_in_tables_1_4 (List.mem_of_getElem? (i := 116) rfl)
set_option maxRecDepth 20000 in
theorem sh_cw60 : sh_code sh_G0 60 ∈ lw_tbl := sh_in_tables_1_4 (List.mem_of_getElem? (i := 119) rfl)
set_option maxRecDepth 20000 in
theorem sh_cw61 : sh_code sh_G0 61 ∈ lw_tbl := sh_in_tables_1_4 (List.mem_of_getElem? (i := 123) rfl)
set_option maxRecDepth 20000 in
theorem sh_cw62 : sh_code sh_G0 62 ∈ lw_tbl := sh_in_tables_1_4 (List.mem_of_getElem? (i := 127) rfl)
set_option maxRecDepth 20000 in
theorem sh_cw63 : sh_code sh_G0 63 ∈ lw_tbl := sh_in_tables_1_4 (List.mem_of_getElem? (i := 131) rfl)
set_option maxRecDepth 20000 in
theorem sh_cw64 : sh_code sh_G0 64 ∈ lw_tbl := sh_in_tables_1_4 (List.mem_of_getElem? (i := 135) rfl)
set_option maxRecDepth 20000 in
theorem sh_cw65 : sh_code sh_G0 65 ∈ lw_tbl := sh_in_tables_1_4 (List.mem_of_getElem? (i := 139) rfl)
set_option maxRecDepth 20000 in
theorem sh_cw66 : sh_code sh_G0 66 ∈ lw_tbl := sh_in_tables_1_4 (List.mem_of_getElem? (i := 143) rfl)
set_option maxRecDepth 20000 in
theorem sh_cw67 : sh_code sh_G0 67 ∈ lw_tbl := sh_in_tables_1_4 (List.mem_of_getElem? (i := 147) rfl)
set_option maxRecDepth 20000 in
theorem sh_cw68 : sh_code sh_G0 68 ∈ lw_tbl := sh_in_tables_1_4 (List.mem_of_getElem? (i := 151) rfl)
set_option maxRecDepth 20000 in
theorem sh_cw69 : sh_code sh_G0 69 ∈ lw_tbl := sh_in_tables_1_4 (List.mem_of_getElem? (i := 154) rfl)
set_option maxRecDepth 20000 in
theorem sh_cw70 : sh_code sh_G0 70 ∈ lw_tbl := sh_in_tables_1_4 (List.mem_of_getElem? (i := 158) rfl)
set_option maxRecDepth 20000 in
theorem sh_cw71 : sh_code sh_G0 71 ∈ lw_tbl := sh_in_tables_1_4 (List.mem_of_getElem? (i := 162) rfl)
set_option maxRecDepth 20000 in
theorem sh_cw72 : sh_code sh_G0 72 ∈ lw_tbl := sh_in_tables_1_4 (List.mem_of_getElem? (i := 166) rfl)
set_option maxRecDepth 20000 in
theorem sh_cw73 : sh_code sh_G0 73 ∈ lw_tbl := sh_in_tables_1_4 (List.mem_of_getElem? (i := 170) rfl)
set_option maxRecDepth 20000 in
theorem sh_cw74 : sh_code sh_G0 74 ∈ lw_tbl := sh_in_tables_1_4 (List.mem_of_getElem? (i := 174) rfl)
set_option maxRecDepth 20000 in
theorem sh_cw75 : sh_code sh_G0 75 ∈ lw_tbl := sh_in_tables_1_4 (List.mem_of_getElem? (i := 178) rfl)
set_option maxRecDepth 20000 in
theorem sh_cw76 : sh_code sh_G0 76 ∈ lw_tbl := sh_in_tables_1_4 (List.mem_of_getElem? (i := 181) rfl)
set_option maxRecDepth 20000 in
theorem sh_cw77 : sh_code sh_G0 77 ∈ lw_tbl := sh_in_tables_1_4 (List.mem_of_getElem? (i := 185) rfl)
set_option maxRecDepth 20000 in
theorem sh_cw78 : sh_code sh_G0 78 ∈ lw_tbl := sh_in_tables_1_4 (List.mem_of_getElem? (i := 189) rfl)
set_option maxRecDepth 20000 in
theorem sh_cw79 : sh_code sh_G0 79 ∈ lw_tbl := sh_in_tables_1_4 (List.mem_of_getElem? (i := 193) rfl)
set_option maxRecDepth 20000 in
theorem sh_cw80 : sh_code sh_G0 80 ∈ lw_tbl := sh_in_tables_1_4 (List.mem_of_getElem? (i := 197) rfl)
set_option maxRecDepth 20000 in
theorem sh_cw81 : sh_code sh_G0 81 ∈ lw_tbl := sh_in_tables_1_4 (List.mem_of_getElem? (i := 201) rfl)
set_option maxRecDepth 20000 in
theorem sh_cw82 : sh_code sh_G0 82 ∈ lw_tbl := sh_in_tables_1_4 (List.mem_of_getElem? (i := 205) rfl)
set_option maxRecDepth 20000 in
theorem sh_cw83 : sh_code sh_G0 83 ∈ lw_tbl := sh_in_tables_1_4 (List.mem_of_getElem? (i := 209) rfl)
set_option maxRecDepth 20000 in
theorem sh_cw84 : sh_code sh_G0 84 ∈ lw_tbl := sh_in_tables_1_4 (List.mem_of_getElem? (i := 214) rfl)
set_option maxRecDepth 20000 in
theorem sh_cw85 : sh_code sh_G0 85 ∈ lw_tbl := sh_in_tables_1_4 (List.mem_of_getElem? (i := 219) rfl)
set_option maxRecDepth 20000 in
theorem sh_cw86 : sh_code sh_G0 86 ∈ lw_tbl := sh_in_tables_1_4 (List.mem_of_getElem? (i := 223) rfl)
set_option maxRecDepth 20000 in
theorem sh_cw87 : sh_code sh_G0 87 ∈ lw_tbl := sh_in_tables_1_4 (List.mem_of_getElem? (i := 232) rfl)
set_option maxRecDepth 20000 in
theorem sh_cw88 : sh_code sh_G0 88 ∈ lw_tbl := sh_in_tables_1_4 (List.mem_of_getElem? (i := 236) rfl)
set_option maxRecDepth 20000 in
theorem sh_cw89 : sh_code sh_G0 89 ∈ lw_tbl := sh_in_tables_1_5 (List.mem_of_getElem? (i := 0) rfl)
set_option maxRecDepth 20000 in
theorem sh_cw90 : sh_code sh_G0 90 ∈ lw_tbl := sh_in_tables_1_5 (List.mem_of_getElem? (i := 4) rfl)
set_option maxRecDepth 20000 in
theorem sh_cw91 : sh_code sh_G0 91 ∈ lw_tbl := sh_in_tables_1_5 (List.mem_of_getElem? (i := 8) rfl)
set_option maxRecDepth 20000 in
theorem sh_cw92 : sh_code sh_G0 92 ∈ lw_tbl := sh_in_tables_1_5 (List.mem_of_getElem? (i := 12) rfl)
set_option maxRecDepth 20000 in
theorem sh_cw93 : sh_code sh_G0 93 ∈ lw_tbl := sh_in_tables_1_5 (List.mem_of_getElem? (i := 15) rfl)
set_option maxRecDepth 20000 in
theorem sh_cw94 : sh_code sh_G0 94 ∈ lw_tbl := sh_in_tables_1_5 (List.mem_of_getElem? (i := 19) rfl)
set_option maxRecDepth 20000 in
theorem sh_cw95 : sh_code sh_G0 95 ∈ lw_tbl := sh_in_tables_1_5 (List.mem_of_getElem? (i := 23) rfl)
set_option maxRecDepth 20000 in
theorem sh_cw96 : sh_code sh_G0 96 ∈ lw_tbl := sh_in_tables_1_5 (List.mem_of_getElem? (i := 26) rfl)
set_option maxRecDepth 20000 in
theorem sh_cw97 : sh_code sh_G0 97 ∈ lw_tbl := sh_in_tables_1_5 (List.mem_of_getElem? (i := 33) rfl)
set_option maxRecDepth 20000 in
theorem sh_cw98 : sh_code sh_G0 98 ∈ lw_tbl := sh_in_tables_1_5 (List.mem_of_getElem? (i := 37) rfl)
set_option maxRecDepth 20000 in
theorem sh_cw99 : sh_code sh_G0 99 ∈ lw_tbl := sh_in_tables_1_5 (List.mem_of_getElem? (i := 41) rfl)
set_option maxRecDepth 20000 in
theorem sh_cw100 : sh_code sh_G0 100 ∈ lw_tbl := sh_in_tables_1_5 (List.mem_of_getElem? (i := 45) rfl)
set_option maxRecDepth 20000 in
theorem sh_cw101 : sh_code sh_G0 101 ∈ lw_tbl := sh_in_tables_1_5 (List.mem_of_getElem? (i := 49) rfl)
set_option maxRecDepth 20000 in
theorem sh_cw102 : sh_code sh_G0 102 ∈ lw_tbl := sh_in_tables_1_5 (List.mem_of_getElem? (i := 53) rfl)
set_option maxRecDepth 20000 in
theorem sh_cw103 : sh_code sh_G0 103 ∈ lw_tbl := sh_in_tables_1_5 (List.mem_of_getElem? (i := 57) rfl)
set_option maxRecDepth 20000 in
theorem sh_cw104 : sh_code sh_G0 104 ∈ lw_tbl := sh_in_tables_1_5 (List.mem_of_getElem? (i := 61) rfl)
set_option maxRecDepth 20000 in
theorem sh_cw105 : sh_code sh_G0 105 ∈ lw_tbl := sh_in_tables_1_5 (List.mem_of_getElem? (i := 65) rfl)
set_option maxRecDepth 20000 in
theorem sh_cw106 : sh_code sh_G0 106 ∈ lw_tbl := sh_in_tables_1_5 (List.mem_of_getElem? (i := 69) rfl)
set_option maxRecDepth 20000 in
theorem sh_cw107 : sh_code sh_G0 107 ∈ lw_tbl := sh_in_tables_1_5 (List.mem_of_getElem? (i := 73) rfl)
set_option maxRecDepth 20000 in
theorem sh_cw108 : sh_code sh_G0 108 ∈ lw_tbl := sh_in_tables_1_5 (List.mem_of_getElem? (i := 77) rfl)
set_option maxRecDepth 20000 in
theorem sh_cw109 : sh_code sh_G0 109 ∈ lw_tbl := sh_in_tables_1_5 (List.mem_of_getElem? (i := 81) rfl)
set_option maxRecDepth 20000 in
theorem sh_cw110 : sh_code sh_G0 110 ∈ lw_tbl := sh_in_tables_1_5 (List.mem_of_getElem? (i := 85) rfl)
set_option maxRecDepth 20000 in
theorem sh_cw111 : sh_code sh_G0 111 ∈ lw_tbl := sh_in_tables_1_5 (List.mem_of_getElem? (i := 89) rfl)
set_option maxRecDepth 20000 in
theorem sh_cw112 : sh_code sh_G0 112 ∈ lw_tbl := sh_in_tables_1_5 (List.mem_of_getElem? (i := 92) rfl)
set_option maxRecDepth 20000 in
theorem sh_cw113 : sh_code sh_G0 113 ∈ lw_tbl := sh_in_tables_1_5 (List.mem_of_getElem? (i := 95) rfl)
set_option maxRecDepth 20000 in
theorem sh_cw114 : sh_code sh_G0 114 ∈ lw_tbl := sh_in_tables_1_5 (List.mem_of_getElem? (i := 98) rfl)
set_option maxRecDepth 20000 in
theorem sh_cw115 : sh_code sh_G0 115 ∈ lw_tbl := sh_in_tables_1_5 (List.mem_of_getElem? (i := 102) rfl)
set_option maxRecDepth 20000 in
theorem sh_cw116 : sh_code sh_G0 116 ∈ lw_tbl := sh_in_tables_1_5 (List.mem_of_getElem? (i := 107) rfl)
set_option maxRecDepth 20000 in
theorem sh_cw117 : sh_code sh_G0 117 ∈ lw_tbl := sh_in_tables_1_5 (List.mem_of_getElem? (i := 111) rfl)
set_option maxRecDepth 20000 in
theorem sh_cw118 : sh_code sh_G0 118 ∈ lw_tbl := sh_in_tables_1_5 (List.mem_of_getElem? (i := 115) rfl)
set_option maxRecDepth 20000 in
theorem sh_cw119 : sh_code sh_G0 119 ∈ lw_tbl := sh_in_tables_1_5 (List.mem_of_getElem? (i := 119) rfl)
set_option maxRecDepth 20000 in
theorem sh_cw120 : sh_code sh_G0 120 ∈ lw_tbl := sh_in_tables_1_5 (List.mem_of_getElem? (i := 123) rfl)
set_option maxRecDepth 20000 in
theorem sh_cw121 : sh_code sh_G0 121 ∈ lw_tbl := sh_in_tables_1_5 (List.mem_of_getElem? (i := 127) rfl)
set_option maxRecDepth 20000 in
theorem sh_cw122 : sh_code sh_G0 122 ∈ lw_tbl := sh_in_tables_1_5 (List.mem_of_getElem? (i := 131) rfl)
set_option maxRecDepth 20000 in
theorem sh_cw123 : sh_code sh_G0 123 ∈ lw_tbl := sh_in_tables_1_5 (List.mem_of_getElem? (i := 134) rfl)
set_option maxRecDepth 20000 in
theorem sh_cw124 : sh_code sh_G0 124 ∈ lw_tbl := sh_in_tables_1_5 (List.mem_of_getElem? (i := 138) rfl)
set_option maxRecDepth 20000 in
theorem sh_cw125 : sh_code sh_G0 125 ∈ lw_tbl := sh_in_tables_1_5 (List.mem_of_getElem? (i := 142) rfl)
set_option maxRecDepth 20000 in
theorem sh_cw126 : sh_code sh_G0 126 ∈ lw_tbl := sh_in_tables_1_5 (List.mem_of_getElem? (i := 146) rfl)
set_option maxRecDepth 20000 in
theorem sh_cw127 : sh_code sh_G0 127 ∈ lw_tbl := sh_in_tables_1_5 (List.mem_of_getElem? (i := 150) rfl)
set_option maxRecDepth 20000 in
theorem sh_cw128 : sh_code sh_G0 128 ∈ lw_tbl := sh_in_tables_1_5 (List.mem_of_getElem? (i := 154) rfl)
set_option maxRecDepth 20000 in
theorem sh_cw129 : sh_code sh_G0 129 ∈ lw_tbl := sh_in_tables_1_5 (List.mem_of_getElem? (i := 159) rfl)
set_option maxRecDepth 20000 in
theorem sh_cw130 : sh_code sh_G0 130 ∈ lw_tbl := sh_in_tables_1_5 (List.mem_of_getElem? (i := 163) rfl)
set_option maxRecDepth 20000 in
theorem sh_cw131 : sh_code sh_G0 131 ∈ lw_tbl := sh_in_tables_1_5 (List.mem_of_getElem? (i := 167) rfl)
set_option maxRecDepth 20000 in
theorem sh_cw132 : sh_code sh_G0 132 ∈ lw_tbl := sh_in_tables_1_5 (List.mem_of_getElem? (i := 171) rfl)
set_option maxRecDepth 20000 in
theorem sh_cw133 : sh_code sh_G0 133 ∈ lw_tbl := sh_in_tables_1_5 (List.mem_of_getElem? (i := 175) rfl)
set_option maxRecDepth 20000 in
theorem sh_cw134 : sh_code sh_G0 134 ∈ lw_tbl := sh_in_tables_1_5 (List.mem_of_getElem? (i := 179) rfl)
set_option maxRecDepth 20000 in
theorem sh_cw135 : sh_code sh_G0 135 ∈ lw_tbl := sh_in_tables_1_5 (List.mem_of_getElem? (i := 182) rfl)
set_option maxRecDepth 20000 in
theorem sh_cw136 : sh_code sh_G0 136 ∈ lw_tbl := sh_in_tables_1_5 (List.mem_of_getElem? (i := 186) rfl)
set_option maxRecDepth 20000 in
theorem sh_cw137 : sh_code sh_G0 137 ∈ lw_tbl := sh_in_tables_1_5 (List.mem_of_getElem? (i := 191) rfl)
set_option maxRecDepth 20000 in
theorem sh_cw138 : sh_code sh_G0 138 ∈ lw_tbl := sh_in_tables_1_5 (List.mem_of_getElem? (i := 194) rfl)
set_option maxRecDepth 20000 in
theorem sh_cw139 : sh_code sh_G0 139 ∈ lw_tbl := sh_in_tables_1_5 (List.mem_of_getElem? (i := 198) rfl)
set_option maxRecDepth 20000 in
theorem sh_cw140 : sh_code sh_G0 140 ∈ lw_tbl := sh_in_tables_1_5 (List.mem_of_getElem? (i := 205) rfl)
set_option maxRecDepth 20000 in
theorem sh_cw141 : sh_code sh_G0 141 ∈ lw_tbl := sh_in_tables_1_5 (List.mem_of_getElem? (i := 210) rfl)
set_option maxRecDepth 20000 in
theorem sh_cw142 : sh_code sh_G0 142 ∈ lw_tbl := sh_in_tables_1_5 (List.mem_of_getElem? (i := 215) rfl)
set_option maxRecDepth 20000 in
theorem sh_cw143 : sh_code sh_G0 143 ∈ lw_tbl := sh_in_tables_1_5 (List.mem_of_getElem? (i := 219) rfl)
set_option maxRecDepth 20000 in
theorem sh_cw144 : sh_code sh_G0 144 ∈ lw_tbl := sh_in_tables_1_5 (List.mem_of_getElem? (i := 224) rfl)
set_option maxRecDepth 20000 in
theorem sh_cw145 : sh_code sh_G0 145 ∈ lw_tbl := sh_in_tables_1_5 (List.mem_of_getElem? (i := 228) rfl)
set_option maxRecDepth 20000 in
theorem sh_cw146 : sh_code sh_G0 146 ∈ lw_tbl := sh_in_tables_1_5 (List.mem_of_getElem? (i := 232) rfl)
set_option maxRecDepth 20000 in
theorem sh_cw147 : sh_code sh_G0 147 ∈ lw_tbl := sh_in_tables_1_5 (List.mem_of_getElem? (i := 239) rfl)
set_option maxRecDepth 20000 in
theorem sh_cw148 : sh_code sh_G0 148 ∈ lw_tbl := sh_in_tables_1_6 (List.mem_of_getElem? (i := 3) rfl)
set_option maxRecDepth 20000 in
theorem sh_cw149 : sh_code sh_G0 149 ∈ lw_tbl := sh_in_tables_1_6 (List.mem_of_getElem? (i := 7) rfl)
set_option maxRecDepth 20000 in
theorem sh_cw150 : sh_code sh_G0 150 ∈ lw_tbl := sh_in_tables_1_6 (List.mem_of_getElem? (i := 12) rfl)
set_option maxRecDepth 20000 in
theorem sh_cw151 : sh_code sh_G0 151 ∈ lw_tbl := sh_in_tables_1_6 (List.mem_of_getElem? (i := 16) rfl)
set_option maxRecDepth 20000 in
theorem sh_cw152 : sh_code sh_G0 152 ∈ lw_tbl := sh_in_tables_1_6 (List.mem_of_getElem? (i := 20) rfl)
set_option maxRecDepth 20000 in
theorem sh_cw153 : sh_code sh_G0 153 ∈ lw_tbl := sh_in_tables_1_6 (List.mem_of_getElem? (i := 24) rfl)
set_option maxRecDepth 20000 in
theorem sh_cw154 : sh_code sh_G0 154 ∈ lw_tbl := sh_in_tables_1_6 (List.mem_of_getElem? (i := 28) rfl)
set_option maxRecDepth 20000 in
theorem sh_cw155 : sh_code sh_G0 155 ∈ lw_tbl := sh_in_tables_1_6 (List.mem_of_getElem? (i := 32) rfl)
set_option maxRecDepth 20000 in
theorem sh_cw156 : sh_code sh_G0 156 ∈ lw_tbl := sh_in_tables_1_6 (List.mem_of_getElem? (i := 36) rfl)
set_option maxRecDepth 20000 in
theorem sh_cw157 : sh_code sh_G0 157 ∈ lw_tbl := sh_in_tables_1_6 (List.mem_of_getElem? (i := 40) rfl)
set_option maxRecDepth 20000 in
theorem sh_cw158 : sh_code sh_G0 158 ∈ lw_tbl := sh_in_tables_1_6 (List.mem_of_getElem? (i := 44) rfl)
set_option maxRecDepth 20000 in
theorem sh_cw159 : sh_code sh_G0 159 ∈ lw_tbl := sh_in_tables_1_6 (List.mem_of_getElem? (i := 48) rfl)
set_option maxRecDepth 20000 in
theorem sh_cw160 : sh_code sh_G0 160 ∈ lw_tbl := sh_in_tables_1_6 (List.mem_of_getElem? (i := 52) rfl)
set_option maxRecDepth 20000 in
theorem sh_cw161 : sh_code sh_G0 161 ∈ lw_tbl := sh_in_tables_1_6 (List.mem_of_getElem? (i := 56) rfl)
set_option maxRecDepth 20000 in
theorem sh_cw162 : sh_code sh_G0 162 ∈ lw_tbl := sh_in_tables_1_6 (List.mem_of_getElem? (i := 60) rfl)
set_option maxRecDepth 20000 in
theorem sh_cw163 : sh_code sh_G0 163 ∈ lw_tbl := sh_in_tables_1_6 (List.mem_of_getElem? (i := 64) rfl)
set_option maxRecDepth 20000 in
theorem sh_cw164 : sh_code sh_G0 164 ∈ lw_tbl := sh_in_tables_1_6 (List.mem_of_getElem? (i := 69) rfl)
set_option maxRecDepth 20000 in
theorem sh_cw165 : sh_code sh_G0 165 ∈ lw_tbl := sh_in_tables_1_6 (List.mem_of_getElem? (i := 73) rfl)
set_option maxRecDepth 20000 in
theorem sh_cw166 : sh_code sh_G0 166 ∈ lw_tbl := sh_in_tables_1_6 (List.mem_of_getElem? (i := 78) rfl)
set_option maxRecDepth 20000 in
theorem sh_cw167 : sh_code sh_G0 167 ∈ lw_tbl := sh_in_tables_1_6 (List.mem_of_getElem? (i := 83) rfl)
set_option maxRecDepth 20000 in
theorem sh_cw168 : sh_code sh_G0 168 ∈ lw_tbl := sh_in_tables_1_6 (List.mem_of_getElem? (i := 87) rfl)
set_option maxRecDepth 20000 in
theorem sh_cw169 : sh_code sh_G0 169 ∈ lw_tbl := sh_in_tables_1_6 (List.mem_of_getElem? (i := 91) rfl)
set_option maxRecDepth 20000 in
theorem sh_cw170 : sh_code sh_G0 170 ∈ lw_tbl := sh_in_tables_1_6 (List.mem_of_getElem? (i := 95) rfl)
set_option maxRecDepth 20000 in
theorem sh_cw171 : sh_code sh_G0 171 ∈ lw_tbl := sh_in_tables_1_6 (List.mem_of_getElem? (i := 99) rfl)
set_option maxRecDepth 20000 in
theorem sh_cw172 : sh_code sh_G0 172 ∈ lw_tbl := sh_in_tables_1_6 (List.mem_of_getElem? (i := 103) rfl)
set_option maxRecDepth 20000 in
theorem sh_cw173 : sh_code sh_G0 173 ∈ lw_tbl := sh_in_tables_1_6 (List.mem_of_getElem? (i := 108) rfl)
set_option maxRecDepth 20000 in
theorem sh_cw174 : sh_code sh_G0 174 ∈ lw_tbl := sh_in_tables_1_6 (List.mem_of_getElem? (i := 111) rfl)
set_option maxRecDepth 20000 in
theorem sh_cw175 : sh_code sh_G0 175 ∈ lw_tbl := sh_in_tables_1_6 (List.mem_of_getElem? (i := 115) rfl)
set_option maxRecDepth 20000 in
theorem sh_cw176 : sh_code sh_G0 176 ∈ lw_tbl := sh_in_tables_1_6 (List.mem_of_getElem? (i := 119) rfl)
set_option maxRecDepth 20000 in
theorem sh_cw177 : sh_code sh_G0 177 ∈ lw_tbl := sh_in_tables_1_6 (List.mem_of_getElem? (i := 122) rfl)
set_option maxRecDepth 20000 in
theorem sh_cw178 : sh_code sh_G0 178 ∈ lw_tbl := sh_in_tables_1_6 (List.mem_of_getElem? (i := 126) rfl)
set_option maxRecDepth 20000 in
theorem sh_cw179 : sh_code sh_G0 179 ∈ lw_tbl := sh_in_tables_1_6 (List.mem_of_getElem? (i := 131) rfl)
set_option maxRecDepth 20000 in
theorem sh_cw180 : sh_code sh_G0 180 ∈ lw_tbl := sh_in_tables_1_6 (List.mem_of_getElem? (i := 135) rfl)
set_option maxRecDepth 20000 in
theorem sh_cw181 : sh_code sh_G0 181 ∈ lw_tbl := sh_in_tables_1_6 (List.mem_of_getElem? (i := 139) rfl)
set_option maxRecDepth 20000 in
theorem sh_cw182 : sh_code sh_G0 182 ∈ lw_tbl := sh_in_tables_1_6 (List.mem_of_getElem? (i := 143) rfl)
set_option maxRecDepth 20000 in
theorem sh_cw183 : sh_code sh_G0 183 ∈ lw_tbl := sh_in_tables_1_6 (List.mem_of_getElem? (i := 147) rfl)
set_option maxRecDepth 20000 in
theorem sh_cw184 : sh_code sh_G0 184 ∈ lw_tbl := sh_in_tables_1_6 (List.mem_of_getElem? (i := 150) rfl)
set_option maxRecDepth 20000 in
theorem sh_cw185 : sh_code sh_G0 185 ∈ lw_tbl := sh_in_tables_1_6 (List.mem_of_getElem? (i := 155) rfl)
set_option maxRecDepth 20000 in
theorem sh_cw186 : sh_code sh_G0 186 ∈ lw_tbl := sh_in_tables_1_6 (List.mem_of_getElem? (i := 160) rfl)
set_option maxRecDepth 20000 in
theorem sh_cw187 : sh_code sh_G0 187 ∈ lw_tbl := sh_in_tables_1_6 (List.mem_of_getElem? (i := 164) rfl)
set_option maxRecDepth 20000 in
theorem sh_cw188 : sh_code sh_G0 188 ∈ lw_tbl := sh_in_tables_1_6 (List.mem_of_getElem? (i := 168) rfl)
set_option maxRecDepth 20000 in
theorem sh_cw189 : sh_code sh_G0 189 ∈ lw_tbl := sh_in_tables_1_6 (List.mem_of_getElem? (i := 172) rfl)
set_option maxRecDepth 20000 in
theorem sh_cw190 : sh_code sh_G0 190 ∈ lw_tbl := sh_in_tables_1_6 (List.mem_of_getElem? (i := 176) rfl)
set_option maxRecDepth 20000 in
theorem sh_cw191 : sh_code sh_G0 191 ∈ lw_tbl := sh_in_tables_1_6 (List.mem_of_getElem? (i := 179) rfl)
set_option maxRecDepth 20000 in
theorem sh_cw192 : sh_code sh_G0 192 ∈ lw_tbl := sh_in_tables_1_6 (List.mem_of_getElem? (i := 183) rfl)
set_option maxRecDepth 20000 in
theorem sh_cw193 : sh_code sh_G0 193 ∈ lw_tbl := sh_in_tables_1_6 (List.mem_of_getElem? (i := 187) rfl)
set_option maxRecDepth 20000 in
theorem sh_cw194 : sh_code sh_G0 194 ∈ lw_tbl := sh_in_tables_1_6 (List.mem_of_getElem? (i := 191) rfl)
set_option maxRecDepth 20000 in
theorem sh_cw195 : sh_code sh_G0 195 ∈ lw_tbl := sh_in_tables_1_6 (List.mem_of_getElem? (i := 195) rfl)
set_option maxRecDepth 20000 in
theorem sh_cw196 : sh_code sh_G0 196 ∈ lw_tbl := sh_in_tables_1_6 (List.mem_of_getElem? (i := 199) rfl)
set_option maxRecDepth 20000 in
theorem sh_cw197 : sh_code sh_G0 197 ∈ lw_tbl := sh_in_tables_1_6 (List.mem_of_getElem? (i := 203) rfl)
set_option maxRecDepth 20000 in
theorem sh_cw198 : sh_code sh_G0 198 ∈ lw_tbl := sh_in_tables_1_6 (List.mem_of_getElem? (i := 207) rfl)
set_option maxRecDepth 20000 in
theorem sh_cw199 : sh_code sh_G0 199 ∈ lw_tbl := sh_in_tables_1_6 (List.mem_of_getElem? (i := 212) rfl)
set_option maxRecDepth 20000 in
theorem sh_cw200 : sh_code sh_G0 200 ∈ lw_tbl := sh_in_tables_1_6 (List.mem_of_getElem? (i := 216) rfl)
set_option maxRecDepth 20000 in
theorem sh_cw201 : sh_code sh_G0 201 ∈ lw_tbl := sh_in_tables_1_6 (List.mem_of_getElem? (i := 222) rfl)
set_option maxRecDepth 20000 in
theorem sh_cw202 : sh_code sh_G0 202 ∈ lw_tbl := sh_in_tables_1_6 (List.mem_of_getElem? (i := 226) rfl)
set_option maxRecDepth 20000 in
theorem sh_cw203 : sh_code sh_G0 203 ∈ lw_tbl := sh_in_tables_1_6 (List.mem_of_getElem? (i := 231) rfl)
set_option maxRecDepth 20000 in
theorem sh_cw204 : sh_code sh_G0 204 ∈ lw_tbl := sh_in_tables_1_6 (List.mem_of_getElem? (i := 237) rfl)
set_option maxRecDepth 20000 in
theorem sh_cw205 : sh_code sh_G0 205 ∈ lw_tbl := sh_in_tables_1_7 (List.mem_of_getElem? (i := 1) rfl)
set_option maxRecDepth 20000 in
theorem sh_cw206 : sh_code sh_G0 206 ∈ lw_tbl := sh_in_tables_1_7 (List.mem_of_getElem? (i := 5) rfl)
set_option maxRecDepth 20000 in
theorem sh_cw207 : sh_code sh_G0 207 ∈ lw_tbl := sh_in_tables_1_7 (List.mem_of_getElem? (i := 9) rfl)
set_option maxRecDepth 20000 in
theorem sh_cw208 : sh_code sh_G0 208 ∈ lw_tbl := sh_in_tables_1_7 (List.mem_of_getElem? (i := 16) rfl)
set_option maxRecDepth 20000 in
theorem sh_cw209 : sh_code sh_G0 209 ∈ lw_tbl := sh_in_tables_1_7 (List.mem_of_getElem? (i := 20) rfl)
set_option maxRecDepth 20000 in
theorem sh_cw210 : sh_code sh_G0 210 ∈ lw_tbl := sh_in_tables_1_7 (List.mem_of_getElem? (i := 24) rfl)
set_option maxRecDepth 20000 in
theorem sh_cw211 : sh_code sh_G0 211 ∈ lw_tbl := sh_in_tables_1_7 (List.mem_of_getElem? (i := 29) rfl)
set_option maxRecDepth 20000 in
theorem sh_cw212 : sh_code sh_G0 212 ∈ lw_tbl := sh_in_tables_1_7 (List.mem_of_getElem? (i := 41) rfl)
set_option maxRecDepth 20000 in
theorem sh_cw213 : sh_code sh_G0 213 ∈ lw_tbl := sh_in_tables_1_7 (List.mem_of_getElem? (i := 46) rfl)
set_option maxRecDepth 20000 in
theorem sh_cw214 : sh_code sh_G0 214 ∈ lw_tbl := sh_in_tables_1_7 (List.mem_of_getElem? (i := 50) rfl)
set_option maxRecDepth 20000 in
theorem sh_cw215 : sh_code sh_G0 215 ∈ lw_tbl := sh_in_tables_1_7 (List.mem_of_getElem? (i := 54) rfl)
set_option maxRecDepth 20000 in
theorem sh_cw216 : sh_code sh_G0 216 ∈ lw_tbl := sh_in_tables_1_7 (List.mem_of_getElem? (i := 58) rfl)
set_option maxRecDepth 20000 in
theorem sh_cw217 : sh_code sh_G0 217 ∈ lw_tbl := sh_in_tables_1_7 (List.mem_of_getElem? (i := 62) rfl)
set_option maxRecDepth 20000 in
theorem sh_cw218 : sh_code sh_G0 218 ∈ lw_tbl := sh_in_tables_1_7 (List.mem_of_getElem? (i := 67) rfl)
set_option maxRecDepth 20000 in
theorem sh_cw219 : sh_code sh_G0 219 ∈ lw_tbl := sh_in_tables_1_7 (List.mem_of_getElem? (i := 71) rfl)
set_option maxRecDepth 20000 in
theorem sh_cw220 : sh_code sh_G0 220 ∈ lw_tbl := sh_in_tables_1_7 (List.mem_of_getElem? (i := 75) rfl)
set_option maxRecDepth 20000 in
theorem sh_cw221 : sh_code sh_G0 221 ∈ lw_tbl := sh_in_tables_1_7 (List.mem_of_getElem? (i := 79) rfl)
set_option maxRecDepth 20000 in
theorem sh_cw222 : sh_code sh_G0 222 ∈ lw_tbl := sh_in_tables_1_7 (List.mem_of_getElem? (i := 83) rfl)
set_option maxRecDepth 20000 in
theorem sh_cw223 : sh_code sh_G0 223 ∈ lw_tbl := sh_in_tables_1_7 (List.mem_of_getElem? (i := 87) rfl)
set_option maxRecDepth 20000 in
theorem sh_cw224 : sh_code sh_G0 224 ∈ lw_tbl := sh_in_tables_1_7 (List.mem_of_getElem? (i := 93) rfl)
set_option maxRecDepth 20000 in
theorem sh_cw225 : sh_code sh_G0 225 ∈ lw_tbl := sh_in_tables_1_7 (List.mem_of_getElem? (i := 97) rfl)
set_option maxRecDepth 20000 in
theorem sh_cw226 : sh_code sh_G0 226 ∈ lw_tbl := sh_in_tables_1_7 (List.mem_of_getElem? (i := 101) rfl)
set_option maxRecDepth 20000 in
theorem sh_cw227 : sh_code sh_G0 227 ∈ lw_tbl := sh_in_tables_1_7 (List.mem_of_getElem? (i := 105) rfl)
set_option maxRecDepth 20000 in
theorem sh_cw228 : sh_code sh_G0 228 ∈ lw_tbl := sh_in_tables_1_7 (List.mem_of_getElem? (i := 109) rfl)
set_option maxRecDepth 20000 in
theorem sh_cw229 : sh_code sh_G0 229 ∈ lw_tbl := sh_in_tables_1_7 (List.mem_of_getElem? (i := 113) rfl)
set_option maxRecDepth 20000 in
theorem sh_cw230 : sh_code sh_G0 230 ∈ lw_tbl := sh_in_tables_1_7 (List.mem_of_getElem? (i := 117) rfl)
set_option maxRecDepth 20000 in
theorem sh_cw231 : sh_code sh_G0 231 ∈ lw_tbl := sh_in_tables_1_7 (List.mem_of_getElem? (i := 121) rfl)
set_option maxRecDepth 20000 in
theorem sh_cw232 : sh_code sh_G0 232 ∈ lw_tbl := sh_in_tables_1_7 (List.mem_of_getElem? (i := 124) rfl)
set_option maxRecDepth 20000 in
theorem sh_cw233 : sh_code sh_G0 233 ∈ lw_tbl := sh_in_tables_1_7 (List.mem_of_getElem? (i := 128) rfl)
set_option maxRecDepth 20000 in
theorem sh_cw234 : sh_code sh_G0 234 ∈ lw_tbl := sh_in_tables_1_7 (List.mem_of_getElem? (i := 132) rfl)
set_option maxRecDepth 20000 in
theorem sh_cw235 : sh_code sh_G0 235 ∈ lw_tbl := sh_in_tables_1_7 (List.mem_of_getElem? (i := 136) rfl)
set_option maxRecDepth 20000 in
theorem sh_cw236 : sh_code sh_G0 236 ∈ lw_tbl := sh_in_tables_1_7 (List.mem_of_getElem? (i := 139) rfl)
set_option maxRecDepth 20000 in
theorem sh_cw237 : sh_code sh_G0 237 ∈ lw_tbl := sh_in_tables_1_7 (List.mem_of_getElem? (i := 144) rfl)
set_option maxRecDepth 20000 in
theorem sh_cw238 : sh_code sh_G0 238 ∈ lw_tbl := sh_in_tables_1_7 (List.mem_of_getElem? (i := 163) rfl)
set_option maxRecDepth 20000 in
theorem sh_cw239 : sh_code sh_G0 239 ∈ lw_tbl := sh_in_tables_1_7 (List.mem_of_getElem? (i := 167) rfl)
set_option maxRecDepth 20000 in
theorem sh_cw240 : sh_code sh_G0 240 ∈ lw_tbl := sh_in_tables_1_7 (List.mem_of_getElem? (i := 171) rfl)
set_option maxRecDepth 20000 in
theorem sh_cw241 : sh_code sh_G0 241 ∈ lw_tbl := sh_in_tables_1_7 (List.mem_of_getElem? (i := 175) rfl)
set_option maxRecDepth 20000 in
theorem sh_cw242 : sh_code sh_G0 242 ∈ lw_tbl := sh_in_tables_1_7 (List.mem_of_getElem? (i := 180) rfl)
set_option maxRecDepth 20000 in
theorem sh_cw243 : sh_code sh_G0 243 ∈ lw_tbl := sh_in_tables_1_8 (List.mem_of_getElem? (i := 230) rfl)
set_option maxRecDepth 20000 in
theorem sh_cw244 : sh_code sh_G0 244 ∈ lw_tbl := sh_in_tables_1_8 (List.mem_of_getElem? (i := 234) rfl)
set_option maxRecDepth 20000 in
theorem sh_cw245 : sh_code sh_G0 245 ∈ lw_tbl := sh_in_tables_1_8 (List.mem_of_getElem? (i := 238) rfl)
set_option maxRecDepth 20000 in
theorem sh_cw246 : sh_code sh_G0 246 ∈ lw_tbl := sh_in_tables_1_9 (List.mem_of_getElem? (i := 2) rfl)
set_option maxRecDepth 20000 in
theorem sh_cw247 : sh_code sh_G0 247 ∈ lw_tbl := sh_in_tables_1_9 (List.mem_of_getElem? (i := 6) rfl)
set_option maxRecDepth 20000 in
theorem sh_cw248 : sh_code sh_G0 248 ∈ lw_tbl := sh_in_tables_1_9 (List.mem_of_getElem? (i := 10) rfl)
set_option maxRecDepth 20000 in
theorem sh_cw249 : sh_code sh_G0 249 ∈ lw_tbl := sh_in_tables_1_9 (List.mem_of_getElem? (i := 14) rfl)
set_option maxRecDepth 20000 in
theorem sh_cw250 : sh_code sh_G0 250 ∈ lw_tbl := sh_in_tables_1_9 (List.mem_of_getElem? (i := 17) rfl)
set_option maxRecDepth 20000 in
theorem sh_cw251 : sh_code sh_G0 251 ∈ lw_tbl := sh_in_tables_1_9 (List.mem_of_getElem? (i := 20) rfl)
set_option maxRecDepth 20000 in
theorem sh_cw252 : sh_code sh_G0 252 ∈ lw_tbl := sh_in_tables_1_9 (List.mem_of_getElem? (i := 24) rfl)
set_option maxRecDepth 20000 in
theorem sh_cw253 : sh_code sh_G0 253 ∈ lw_tbl := sh_in_tables_1_9 (List.mem_of_getElem? (i := 28) rfl)
set_option maxRecDepth 20000 in
theorem sh_cw254 : sh_code sh_G0 254 ∈ lw_tbl := sh_in_tables_1_9 (List.mem_of_getElem? (i := 31) rfl)
set_option maxRecDepth 20000 in
theorem sh_cw255 : sh_code sh_G0 255 ∈ lw_tbl := sh_in_tables_1_9 (List.mem_of_getElem? (i := 37) rfl)
set_option maxRecDepth 20000 in
theorem sh_cw256 : sh_code sh_G0 256 ∈ lw_tbl := sh_in_tables_1_9 (List.mem_of_getElem? (i := 42) rfl)
set_option maxRecDepth 20000 in
theorem sh_cw257 : sh_code sh_G0 257 ∈ lw_tbl := sh_in_tables_1_9 (List.mem_of_getElem? (i := 48) rfl)
set_option maxRecDepth 20000 in
theorem sh_cw258 : sh_code sh_G0 258 ∈ lw_tbl := sh_in_tables_1_9 (List.mem_of_getElem? (i := 52) rfl)
set_option maxRecDepth 20000 in
theorem sh_cw259 : sh_code sh_G0 259 ∈ lw_tbl := sh_in_tables_1_9 (List.mem_of_getElem? (i := 56) rfl)
set_option maxRecDepth 20000 in
theorem sh_cw260 : sh_code sh_G0 260 ∈ lw_tbl := sh_in_tables_1_9 (List.mem_of_getElem? (i := 60) rfl)
set_option maxRecDepth 20000 in
theorem sh_cw261 : sh_code sh_G0 261 ∈ lw_tbl := sh_in_tables_1_9 (List.mem_of_getElem? (i := 76) rfl)
set_option maxRecDepth 20000 in
theorem sh_cw262 : sh_code sh_G0 262 ∈ lw_tbl := sh_in_tables_1_9 (List.mem_of_getElem? (i := 80) rfl)
set_option maxRecDepth 20000 in
theorem sh_cw263 : sh_code sh_G0 263 ∈ lw_tbl := sh_in_tables_1_9 (List.mem_of_getElem? (i := 84) rfl)
set_option maxRecDepth 20000 in
theorem sh_cw264 : sh_code sh_G0 264 ∈ lw_tbl := sh_in_tables_1_9 (List.mem_of_getElem? (i := 88) rfl)
set_option maxRecDepth 20000 in
theorem sh_cw265 : sh_code sh_G0 265 ∈ lw_tbl := sh_in_tables_1_9 (List.mem_of_getElem? (i := 92) rfl)
set_option maxRecDepth 20000 in
theorem sh_cw266 : sh_code sh_G0 266 ∈ lw_tbl := sh_in_tables_1_9 (List.mem_of_getElem? (i := 96) rfl)
set_option maxRecDepth 20000 in
theorem sh_cw267 : sh_code sh_G0 267 ∈ lw_tbl := sh_in_tables_1_9 (List.mem_of_getElem? (i := 100) rfl)
set_option maxRecDepth 20000 in
theorem sh_cw268 : sh_code sh_G0 268 ∈ lw_tbl := sh_in_tables_1_9 (List.mem_of_getElem? (i := 104) rfl)
set_option maxRecDepth 20000 in
theorem sh_cw269 : sh_code sh_G0 269 ∈ lw_tbl := sh_in_tables_1_9 (List.mem_of_getElem? (i := 108) rfl)
set_option maxRecDepth 20000 in
theorem sh_cw270 : sh_code sh_G0 270 ∈ lw_tbl := sh_in_tables_1_9 (List.mem_of_getElem? (i := 112) rfl)
set_option maxRecDepth 20000 in
theorem sh_cw271 : sh_code sh_G0 271 ∈ lw_tbl := sh_in_tables_1_9 (List.mem_of_getElem? (i := 116) rfl)
set_option maxRecDepth 20000 in
theorem sh_cw272 : sh_code sh_G0 272 ∈ lw_tbl := sh_in_tables_1_9 (List.mem_of_getElem? (i := 120) rfl)
set_option maxRecDepth 20000 in
theorem sh_cw273 : sh_code sh_G0 273 ∈ lw_tbl := sh_in_tables_1_9 (List.mem_of_getElem? (i := 124) rfl)
set_option maxRecDepth 20000 in
theorem sh_cw274 : sh_code sh_G0 274 ∈ lw_tbl := sh_in_tables_1_9 (List.mem_of_getElem? (i := 127) rfl)
set_option maxRecDepth 20000 in
theorem sh_cw275 : sh_code sh_G0 275 ∈ lw_tbl := sh_in_tables_1_9 (List.mem_of_getElem? (i := 131) rfl)
set_option maxRecDepth 20000 in
theorem sh_cw276 : sh_code sh_G0 276 ∈ lw_tbl := sh_in_tables_1_9 (List.mem_of_getElem? (i := 135) rfl)
set_option maxRecDepth 20000 in
theorem sh_cw277 : sh_code sh_G0 277 ∈ lw_tbl := sh_in_tables_1_9 (List.mem_of_getElem? (i := 139) rfl)
set_option maxRecDepth 20000 in
theorem sh_cw278 : sh_code sh_G0 278 ∈ lw_tbl := sh_in_tables_1_9 (List.mem_of_getElem? (i := 143) rfl)
set_option maxRecDepth 20000 in
theorem sh_cw279 : sh_code sh_G0 279 ∈ lw_tbl := sh_in_tables_1_9 (List.mem_of_getElem? (i := 147) rfl)
set_option maxRecDepth 20000 in
theorem sh_cw280 : sh_code sh_G0 280 ∈ lw_tbl := sh_in_tables_1_9 (List.mem_of_getElem? (i := 151) rfl)
set_option maxRecDepth 20000 in
theorem sh_cw281 : sh_code sh_G0 281 ∈ lw_tbl := sh_in_tables_1_9 (List.mem_of_getElem? (i := 155) rfl)
set_option maxRecDepth 20000 in
theorem sh_cw282 : sh_code sh_G0 282 ∈ lw_tbl := sh_in_tables_1_9 (List.mem_of_getElem? (i := 162) rfl)
set_option maxRecDepth 20000 in
theorem sh_cw283 : sh_code sh_G0 283 ∈ lw_tbl := sh_in_tables_1_9 (List.mem_of_getElem? (i := 166) rfl)
set_option maxRecDepth 20000 in
theorem sh_cw284 : sh_code sh_G0 284 ∈ lw_tbl := sh_in_tables_1_9 (List.mem_of_getElem? (i := 170) rfl)
set_option maxRecDepth 20000 in
theorem sh_cw285 : sh_code sh_G0 285 ∈ lw_tbl := sh_in_tables_1_9 (List.mem_of_getElem? (i := 174) rfl)
set_option maxRecDepth 20000 in
theorem sh_cw286 : sh_code sh_G0 286 ∈ lw_tbl := sh_in_tables_1_9 (List.mem_of_getElem? (i := 178) rfl)
set_option maxRecDepth 20000 in
theorem sh_cw287 : sh_code sh_G0 287 ∈ lw_tbl := sh_in_tables_1_9 (List.mem_of_getElem? (i := 182) rfl)
set_option maxRecDepth 20000 in
theorem sh_cw288 : sh_code sh_G0 288 ∈ lw_tbl := sh_in_tables_1_9 (List.mem_of_getElem? (i := 185) rfl)
set_option maxRecDepth 20000 in
theorem sh_cw289 : sh_code sh_G0 289 ∈ lw_tbl := sh_in_tables_1_9 (List.mem_of_getElem? (i := 189) rfl)
set_option maxRecDepth 20000 in
theorem sh_cw290 : sh_code sh_G0 290 ∈ lw_tbl := sh_in_tables_1_9 (List.mem_of_getElem? (i := 193) rfl)
set_option maxRecDepth 20000 in
theorem sh_cw291 : sh_code sh_G0 291 ∈ lw_tbl := sh_in_tables_1_9 (List.mem_of_getElem? (i := 197) rfl)
set_option maxRecDepth 20000 in
theorem sh_cw292 : sh_code sh_G0 292 ∈ lw_tbl := sh_in_tables_1_9 (List.mem_of_getElem? (i := 201) rfl)
set_option maxRecDepth 20000 in
theorem sh_cw293 : sh_code sh_G0 293 ∈ lw_tbl := sh_in_tables_1_9 (List.mem_of_getElem? (i := 205) rfl)
set_option maxRecDepth 20000 in
theorem sh_cw294 : sh_code sh_G0 294 ∈ lw_tbl := sh_in_tables_1_9 (List.mem_of_getElem? (i := 209) rfl)
set_option maxRecDepth 20000 in
theorem sh_cw295 : sh_code sh_G0 295 ∈ lw_tbl := sh_in_tables_1_9 (List.mem_of_getElem? (i := 213) rfl)
set_option maxRecDepth 20000 in
theorem sh_cw296 : sh_code sh_G0 296 ∈ lw_tbl := sh_in_tables_1_9 (List.mem_of_getElem? (i := 217) rfl)
set_option maxRecDepth 20000 in
theorem sh_cw297 : sh_code sh_G0 297 ∈ lw_tbl := sh_in_tables_1_9 (List.mem_of_getElem? (i := 221) rfl)
set_option maxRecDepth 20000 in
theorem sh_cw298 : sh_code sh_G0 298 ∈ lw_tbl := sh_in_tables_1_9 (List.mem_of_getElem? (i := 225) rfl)
set_option maxRecDepth 20000 in
theorem sh_cw299 : sh_code sh_G0 299 ∈ lw_tbl := sh_in_tables_1_9 (List.mem_of_getElem? (i := 229) rfl)
set_option maxRecDepth 20000 in
theorem sh_cw300 : sh_code sh_G0 300 ∈ lw_tbl := sh_in_tables_1_9 (List.mem_of_getElem? (i := 232) rfl)
set_option maxRecDepth 20000 in
theorem sh_cw301 : sh_code sh_G0 301 ∈ lw_tbl := sh_in_tables_1_9 (List.mem_of_getElem? (i := 236) rfl)
set_option maxRecDepth 20000 in
theorem sh_cw302 : sh_code sh_G0 302 ∈ lw_tbl := sh_in_tables_1_10 (List.mem_of_getElem? (i := 1) rfl)
set_option maxRecDepth 20000 in
theorem sh_cw303 : sh_code sh_G0 303 ∈ lw_tbl := sh_in_tables_1_10 (List.mem_of_getElem? (i := 5) rfl)
set_option maxRecDepth 20000 in
theorem sh_cw304 : sh_code sh_G0 304 ∈ lw_tbl := sh_in_tables_1_10 (List.mem_of_getElem? (i := 9) rfl)
set_option maxRecDepth 20000 in
theorem sh_cw305 : sh_code sh_G0 305 ∈ lw_tbl := sh_in_tables_1_10 (List.mem_of_getElem? (i := 13) rfl)
set_option maxRecDepth 20000 in
theorem sh_cw306 : sh_code sh_G0 306 ∈ lw_tbl := sh_in_tables_1_10 (List.mem_of_getElem? (i := 17) rfl)
set_option maxRecDepth 20000 in
theorem sh_cw307 : sh_code sh_G0 307 ∈ lw_tbl := sh_in_tables_1_10 (List.mem_of_getElem? (i := 20) rfl)
set_option maxRecDepth 20000 in
theorem sh_cw308 : sh_code sh_G0 308 ∈ lw_tbl := sh_in_tables_1_10 (List.mem_of_getElem? (i := 24) rfl)
set_option maxRecDepth 20000 in
theorem sh_cw309 : sh_code sh_G0 309 ∈ lw_tbl := sh_in_tables_1_10 (List.mem_of_getElem? (i := 28) rfl)
set_option maxRecDepth 20000 in
theorem sh_cw310 : sh_code sh_G0 310 ∈ lw_tbl := sh_in_tables_1_10 (List.mem_of_getElem? (i := 32) rfl)
set_option maxRecDepth 20000 in
theorem sh_cw311 : sh_code sh_G0 311 ∈ lw_tbl := sh_in_tables_1_10 (List.mem_of_getElem? (i := 36) rfl)
set_option maxRecDepth 20000 in
theorem sh_cw312 : sh_code sh_G0 312 ∈ lw_tbl := sh_in_tables_1_10 (List.mem_of_getElem? (i := 40) rfl)
set_option maxRecDepth 20000 in
theorem sh_cw313 : sh_code sh_G0 313 ∈ lw_tbl := sh_in_tables_1_10 (List.mem_of_getElem? (i := 44) rfl)
set_option maxRecDepth 20000 in
theorem sh_cw314 : sh_code sh_G0 314 ∈ lw_tbl := sh_in_tables_1_10 (List.mem_of_getElem? (i := 48) rfl)
set_option maxRecDepth 20000 in
theorem sh_cw315 : sh_code sh_G0 315 ∈ lw_tbl := sh_in_tables_1_10 (List.mem_of_getElem? (i := 52) rfl)
set_option maxRecDepth 20000 in
theorem sh_cw316 : sh_code sh_G0 316 ∈ lw_tbl := sh_in_tables_1_10 (List.mem_of_getElem? (i := 56) rfl)
set_option maxRecDepth 20000 in
theorem sh_cw317 : sh_code sh_G0 317 ∈ lw_tbl := sh_in_tables_1_10 (List.mem_of_getElem? (i := 60) rfl)
set_option maxRecDepth 20000 in
theorem sh_cw318 : sh_code sh_G0 318 ∈ lw_tbl := sh_in_tables_1_10 (List.mem_of_getElem? (i := 64) rfl)
set_option maxRecDepth 20000 in
theorem sh_cw319 : sh_code sh_G0 319 ∈ lw_tbl := sh_in_tables_1_10 (List.mem_of_getElem? (i := 68) rfl)
set_option maxRecDepth 20000 in
theorem sh_cw320 : sh_code sh_G0 320 ∈ lw_tbl := sh_in_tables_1_10 (List.mem_of_getElem? (i := 72) rfl)
set_option maxRecDepth 20000 in
theorem sh_cw321 : sh_code sh_G0 321 ∈ lw_tbl := sh_in_tables_1_10 (List.mem_of_getElem? (i := 76) rfl)
set_option maxRecDepth 20000 in
theorem sh_cw322 : sh_code sh_G0 322 ∈ lw_tbl := sh_in_tables_1_10 (List.mem_of_getElem? (i := 81) rfl)
set_option maxRecDepth 20000 in
theorem sh_cw323 : sh_code sh_G0 323 ∈ lw_tbl := sh_in_tables_1_10 (List.mem_of_getElem? (i := 85) rfl)
set_option maxRecDepth 20000 in
theorem sh_cw324 : sh_code sh_G0 324 ∈ lw_tbl := sh_in_tables_1_10 (List.mem_of_getElem? (i := 89) rfl)
set_option maxRecDepth 20000 in
theorem sh_cw325 : sh_code sh_G0 325 ∈ lw_tbl := sh_in_tables_1_10 (List.mem_of_getElem? (i := 93) rfl)
set_option maxRecDepth 20000 in
theorem sh_cw326 : sh_code sh_G0 326 ∈ lw_tbl := sh_in_tables_1_10 (List.mem_of_getElem? (i := 97) rfl)
set_option maxRecDepth 20000 in
theorem sh_cw327 : sh_code sh_G0 327 ∈ lw_tbl := sh_in_tables_1_10 (List.mem_of_getElem? (i := 101) rfl)
set_option maxRecDepth 20000 in
theorem sh_cw328 : sh_code sh_G0 328 ∈ lw_tbl := sh_in_tables_1_10 (List.mem_of_getElem? (i := 106) rfl)
set_option maxRecDepth 20000 in
theorem sh_cw329 : sh_code sh_G0 329 ∈ lw_tbl := sh_in_tables_1_10 (List.mem_of_getElem? (i := 110) rfl)
set_option maxRecDepth 20000 in
theorem sh_cw330 : sh_code sh_G0 330 ∈ lw_tbl := sh_in_tables_1_10 (List.mem_of_getElem? (i := 114) rfl)
set_option maxRecDepth 20000 in
theorem sh_cw331 : sh_code sh_G0 331 ∈ lw_tbl := sh_in_tables_1_10 (List.mem_of_getElem? (i := 119) rfl)
set_option maxRecDepth 20000 in
theorem sh_cw332 : sh_code sh_G0 332 ∈ lw_tbl := sh_in_tables_1_10 (List.mem_of_getElem? (i := 128) rfl)
set_option maxRecDepth 20000 in
theorem sh_cw333 : sh_code sh_G0 333 ∈ lw_tbl := sh_in_tables_1_10 (List.mem_of_getElem? (i := 132) rfl)
set_option maxRecDepth 20000 in
theorem sh_cw334 : sh_code sh_G0 334 ∈ lw_tbl := sh_in_tables_1_10 (List.mem_of_getElem? (i := 136) rfl)
set_option maxRecDepth 20000 in
theorem sh_cw335 : sh_code sh_G0 335 ∈ lw_tbl := sh_in_tables_1_10 (List.mem_of_getElem? (i := 140) rfl)
set_option maxRecDepth 20000 in
theorem sh_cw336 : sh_code sh_G0 336 ∈ lw_tbl := sh_in_tables_1_10 (List.mem_of_getElem? (i := 144) rfl)
set_option maxRecDepth 20000 in
theorem sh_cw337 : sh_code sh_G0 337 ∈ lw_tbl := sh_in_tables_1_10 (List.mem_of_getElem? (i := 149) rfl)
set_option maxRecDepth 20000 in
theorem sh_cw338 : sh_code sh_G0 338 ∈ lw_tbl := sh_in_tables_1_10 (List.mem_of_getElem? (i := 153) rfl)
set_option maxRecDepth 20000 in
theorem sh_cw339 : sh_code sh_G0 339 ∈ lw_tbl := sh_in_tables_1_10 (List.mem_of_getElem? (i := 157) rfl)
set_option maxRecDepth 20000 in
theorem sh_cw340 : sh_code sh_G0 340 ∈ lw_tbl := sh_in_tables_1_10 (List.mem_of_getElem? (i := 161) rfl)
set_option maxRecDepth 20000 in
theorem sh_cw341 : sh_code sh_G0 341 ∈ lw_tbl := sh_in_tables_1_3 (List.mem_of_getElem? (i := 158) rfl)
set_option maxRecDepth 20000 in
theorem sh_cw342 : sh_code sh_G0 342 ∈ lw_tbl := sh_in_tables_1_3 (List.mem_of_getElem? (i := 162) rfl)
set_option maxRecDepth 20000 in
theorem sh_cw343 : sh_code sh_G0 343 ∈ lw_tbl := sh_in_tables_1_3 (List.mem_of_getElem? (i := 172) rfl)
set_option maxRecDepth 20000 in
theorem sh_cw344 : sh_code sh_G0 344 ∈ lw_tbl := sh_in_tables_1_3 (List.mem_of_getElem? (i := 168) rfl)
set_option maxRecDepth 20000 in
theorem sh_cw345 : sh_code sh_G0 345 ∈ lw_tbl := sh_in_tables_1_3 (List.mem_of_getElem? (i := 178) rfl)
set_option maxRecDepth 20000 in
theorem sh_cw346 : sh_code sh_G0 346 ∈ lw_tbl := sh_in_tables_1_3 (List.mem_of_getElem? (i := 236) rfl)
set_option maxRecDepth 20000 in
theorem sh_cw347 : sh_code sh_G0 347 ∈ lw_tbl := sh_in_tables_1_4 (List.mem_of_getElem? (i := 0) rfl)
set_option maxRecDepth 20000 in
theorem sh_cw348 : sh_code sh_G0 348 ∈ lw_tbl := sh_in_tables_1_3 (List.mem_of_getElem? (i := 175) rfl)
set_option maxRecDepth 20000 in
theorem sh_cw349 : sh_code sh_G0 349 ∈ lw_tbl := sh_in_tables_1_4 (List.mem_of_getElem? (i := 4) rfl)
set_option maxRecDepth 20000 in
theorem sh_cw350 : sh_code sh_G0 350 ∈ lw_tbl := sh_in_tables_1_4 (List.mem_of_getElem? (i := 7) rfl)
set_option maxRecDepth 20000 in
theorem sh_cw351 : sh_code sh_G0 351 ∈ lw_tbl := sh_in_tables_1_4 (List.mem_of_getElem? (i := 14) rfl)
set_option maxRecDepth 20000 in
theorem sh_cw352 : sh_code sh_G0 352 ∈ lw_tbl := sh_in_tables_1_3 (List.mem_of_getElem? (i := 183) rfl)
theorem sh_cwB_0 : ∀ k, 1 ≤ k → k < 17 → sh_code sh_G0 k ∈ lw_tbl := by
  intro k h1 h2
  have h3 : k = 1 ∨ k = 2 ∨ k = 3 ∨ k = 4 ∨ k = 5 ∨ k = 6 ∨ k = 7 ∨ k = 8 ∨ k = 9 ∨ k = 10 ∨ k = 11 ∨ k = 12 ∨ k = 13 ∨ k = 14 ∨ k = 15 ∨ k = 16 := by omega
  rcases h3 with rfl | rfl | rfl | rfl | rfl | rfl | rfl | rfl | rfl | rfl | rfl | rfl | rfl | rfl | rfl | rfl
  · exact sh_cw1
  · exact sh_cw2
  · exact sh_cw3
  · exact sh_cw4
  · exact sh_cw5
  · exact sh_cw6
  · exact sh_cw7
  · exact sh_cw8
  · exact sh_cw9
  · exact sh_cw10
  · exact sh_cw11
  · exact sh_cw12
  · exact sh_cw13
  · exact sh_cw14
  · exact sh_cw15
  · exact sh_cw16
theorem sh_cwB_1 : ∀ k, 17 ≤ k → k < 33 → sh_code sh_G0 k ∈ lw_tbl := by
  intro k h1 h2
  have h3 : k = 17 ∨ k = 18 ∨ k = 19 ∨ k = 20 ∨ k = 21 ∨ k = 22 ∨ k = 23 ∨ k = 24 ∨ k = 25 ∨ k = 26 ∨ k = 27 ∨ k = 28 ∨ k = 29 ∨ k = 30 ∨ k = 31 ∨ k = 32 := by omega
  rcases h3 with rfl | rfl | rfl | rfl | rfl | rfl | rfl | rfl | rfl | rfl | rfl | rfl | rfl | rfl | rfl | rfl
  · exact sh_cw17
  · exact sh_cw18
  · exact sh_cw19
  · exact sh_cw20
  · exact sh_cw21
  · exact sh_cw22
  · exact sh_cw23
  · exact sh_cw24
  · exact sh_cw25
  · exact sh_cw26
  · exact sh_cw27
  · exact sh_cw28
  · exact sh_cw29
  · exact sh_cw30
  · exact sh_cw31
  · exact sh_cw32
theorem sh_cwB_2 : ∀ k, 33 ≤ k → k < 49 → sh_code sh_G0 k ∈ lw_tbl := by
  intro k h1 h2
  have h3 : k = 33 ∨ k = 34 ∨ k = 35 ∨ k = 36 ∨ k = 37 ∨ k = 38 ∨ k = 39 ∨ k = 40 ∨ k = 41 ∨ k = 42 ∨ k = 43 ∨ k = 44 ∨ k = 45 ∨ k = 46 ∨ k = 47 ∨ k = 48 := by omega
  rcases h3 with rfl | rfl | rfl | rfl | rfl | rfl | rfl | rfl | rfl | rfl | rfl | rfl | rfl | rfl | rfl | rfl
  · exact sh_cw33
  · exact sh_cw34
  · exact sh_cw35
  · exact sh_cw36
  · exact sh_cw37
  · exact sh_cw38
  · exact sh_cw39
  · exact sh_cw40
  · exact sh_cw41
  · exact sh_cw42
  · exact sh_cw43
  · exact sh_cw44
  · exact sh_cw45
  · exact sh_cw46
  · exact sh_cw47
  · exact sh_cw48
theorem sh_cwB_3 : ∀ k, 49 ≤ k → k < 65 → sh_code sh_G0 k ∈ lw_tbl := by
  intro k h1 h2
  have h3 : k = 49 ∨ k = 50 ∨ k = 51 ∨ k = 52 ∨ k = 53 ∨ k = 54 ∨ k = 55 ∨ k = 56 ∨ k = 57 ∨ k = 58 ∨ k = 59 ∨ k = 60 ∨ k = 61 ∨ k = 62 ∨ k = 63 ∨ k = 64 := by omega
  rcases h3 with rfl | rfl | rfl | rfl | rfl | rfl | rfl | rfl | rfl | rfl | rfl | rfl | rfl | rfl | rfl | rfl
  · exact sh_cw49
  · exact sh_cw50
  · exact sh_cw51
  · exact sh_cw52
  · exact sh_cw53
  · exact sh_cw54
  · exact sh_cw55
  · exact sh_cw56
  · exact sh_cw57
  · exact sh_cw58
  · exact sh_cw59
  · exact sh_cw60
  · exact sh_cw61
  · exact sh_cw62
  · exact sh_cw63
  · exact sh_cw64
theorem sh_cwB_4 : ∀ k, 65 ≤ k → k < 81 → sh_code sh_G0 k ∈ lw_tbl := by
  intro k h1 h2
  have h3 : k = 65 ∨ k = 66 ∨ k = 67 ∨ k = 68 ∨ k = 69 ∨ k = 70 ∨ k = 71 ∨ k = 72 ∨ k = 73 ∨ k = 74 ∨ k = 75 ∨ k = 76 ∨ k = 77 ∨ k = 78 ∨ k = 79 ∨ k = 80 := by omega
  rcases h3 with rfl | rfl | rfl | rfl | rfl | rfl | rfl | rfl | rfl | rfl | rfl | rfl | rfl | rfl | rfl | rfl
  · exact sh_cw65
  · exact sh_cw66
  · exact sh_cw67
  · exact sh_cw68
  · exact sh_cw69
  · exact sh_cw70
  · exact sh_cw71
  · exact sh_cw72
  · exact sh_cw73
  · exact sh_cw74
  · exact sh_cw75
  · exact sh_cw76
  · exact sh_cw77
  · exact sh_cw78
  · exact sh_cw79
  · exact sh_cw80
theorem sh_cwB_5 : ∀ k, 81 ≤ k → k < 97 → sh_code sh_G0 k ∈ lw_tbl := by
  intro k h1 h2
  have h3 : k = 81 ∨ k = 82 ∨ k = 83 ∨ k = 84 ∨ k = 85 ∨ k = 86 ∨ k = 87 ∨ k = 88 ∨ k = 89 ∨ k = 90 ∨ k = 91 ∨ k = 92 ∨ k = 93 ∨ k = 94 ∨ k = 95 ∨ k = 96 := by omega
  rcases h3 with rfl | rfl | rfl | rfl | rfl | rfl | rfl | rfl | rfl | rfl | rfl | rfl | rfl | rfl | rfl | rfl
  · exact sh_cw81
  · exact sh_cw82
  · exact sh_cw83
  · exact sh_cw84
  · exact sh_cw85
  · exact sh_cw86
  · exact sh_cw87
  · exact sh_cw88
  · exact sh_cw89
  · exact sh_cw90
  · exact sh_cw91
  · exact sh_cw92
  · exact sh_cw93
  · exact sh_cw94
  · exact sh_cw95
  · exact sh_cw96
theorem sh_cwB_6 : ∀ k, 97 ≤ k → k < 113 → sh_code sh_G0 k ∈ lw_tbl := by
  intro k h1 h2
  have h3 : k = 97 ∨ k = 98 ∨ k = 99 ∨ k = 100 ∨ k = 101 ∨ k = 102 ∨ k = 103 ∨ k = 104 ∨ k = 105 ∨ k = 106 ∨ k = 107 ∨ k = 108 ∨ k = 109 ∨ k = 110 ∨ k = 111 ∨ k = 112 := by omega
  rcases h3 with rfl | rfl | rfl | rfl | rfl | rfl | rfl | rfl | rfl | rfl | rfl | rfl | rfl | rfl | rfl | rfl
  · exact sh_cw97
  · exact sh_cw98
  · exact sh_cw99
  · exact sh_cw100
  · exact sh_cw101
  · exact sh_cw102
  · exact sh_cw103
  · exact sh_cw104
  · exact sh_cw105
  · exact sh_cw106
  · exact sh_cw107
  · exact sh_cw108
  · exact sh_cw109
  · exact sh_cw110
  · exact sh_cw111
  · exact sh_cw112
theorem sh_cwB_7 : ∀ k, 113 ≤ k → k < 129 → sh_code sh_G0 k ∈ lw_tbl := by
  intro k h1 h2
  have h3 : k = 113 ∨ k = 114 ∨ k = 115 ∨ k = 116 ∨ k = 117 ∨ k = 118 ∨ k = 119 ∨ k = 120 ∨ k = 121 ∨ k = 122 ∨ k = 123 ∨ k = 124 ∨ k = 125 ∨ k = 126 ∨ k = 127 ∨ k = 128 := by omega
  rcases h3 with rfl | rfl | rfl | rfl | rfl | rfl | rfl | rfl | rfl | rfl | rfl | rfl | rfl | rfl | rfl | rfl
  · exact sh_cw113
  · exact sh_cw114
  · exact sh_cw115
  · exact sh_cw116
  · exact sh_cw117
  · exact sh_cw118
  · exact sh_cw119
  · exact sh_cw120
  · exact sh_cw121
  · exact sh_cw122
  · exact sh_cw123
  · exact sh_cw124
  · exact sh_cw125
  · exact sh_cw126
  · exact sh_cw127
  · exact sh_cw128
theorem sh_cwB_8 : ∀ k, 129 ≤ k → k < 145 → sh_code sh_G0 k ∈ lw_tbl := by
  intro k h1 h2
  have h3 : k = 129 ∨ k = 130 ∨ k = 131 ∨ k = 132 ∨ k = 133 ∨ k = 134 ∨ k = 135 ∨ k = 136 ∨ k = 137 ∨ k = 138 ∨ k = 139 ∨ k = 140 ∨ k = 141 ∨ k = 142 ∨ k = 143 ∨ k = 144 := by omega
  rcases h3 with rfl | rfl | rfl | rfl | rfl | rfl | rfl | rfl | rfl | rfl | rfl | rfl | rfl | rfl | rfl | rfl
  · exact sh_cw129
  · exact sh_cw130
  · exact sh_cw131
  · exact sh_cw132
  · exact sh_cw133
  · exact sh_cw134
  · exact sh_cw135
  · exact sh_cw136
  · exact sh_cw137
  · exact sh_cw138
  · exact sh_cw139
  · exact sh_cw140
  · exact sh_cw141
  · exact sh_cw142
  · exact sh_cw143
  · exact sh_cw144
theorem sh_cwB_9 : ∀ k, 145 ≤ k → k < 161 → sh_code sh_G0 k ∈ lw_tbl := by
  intro k h1 h2
  have h3 : k = 145 ∨ k = 146 ∨ k = 147 ∨ k = 148 ∨ k = 149 ∨ k = 150 ∨ k = 151 ∨ k = 152 ∨ k = 153 ∨ k = 154 ∨ k = 155 ∨ k = 156 ∨ k = 157 ∨ k = 158 ∨ k = 159 ∨ k = 160 := by omega
  rcases h3 with rfl | rfl | rfl | rfl | rfl | rfl | rfl | rfl | rfl | rfl | rfl | rfl | rfl | rfl | rfl | rfl
  · exact sh_cw145
  · exact sh_cw146
  · exact sh_cw147
  · exact sh_cw148
  · exact sh_cw149
  · exact sh_cw150
  · exact sh_cw151
  · exact sh_cw152
  · exact sh_cw153
  · exact sh_cw154
  · exact sh_cw155
  · exact sh_cw156
  · exact sh_cw157
  · exact sh_cw158
  · exact sh_cw159
  · exact sh_cw160
theorem sh_cwB_10 : ∀ k, 161 ≤ k → k < 177 → sh_code sh_G0 k ∈ lw_tbl := by
  intro k h1 h2
  have h3 : k = 161 ∨ k = 162 ∨ k = 163 ∨ k = 164 ∨ k = 165 ∨ k = 166 ∨ k = 167 ∨ k = 168 ∨ k = 169 ∨ k = 170 ∨ k = 171 ∨ k = 172 ∨ k = 173 ∨ k = 174 ∨ k = 175 ∨ k = 176 := by omega
  rcases h3 with rfl | rfl | rfl | rfl | rfl | rfl | rfl | rfl | rfl | rfl | rfl | rfl | rfl | rfl | rfl | rfl
  · exact sh_cw161
  · exact sh_cw162
  · exact sh_cw163
  · exact sh_cw164
  · exact sh_cw165
  · exact sh_cw166
  · exact sh_cw167
  · exact sh_cw168
  · exact sh_cw169
  · exact sh_cw170
  · exact sh_cw171
  · exact sh_cw172
  · exact sh_cw173
  · exact sh_cw174
  · exact sh_cw175
  · exact sh_cw176
theorem sh_cwB_11 : ∀ k, 177 ≤ k → k < 193 → sh_code sh_G0 k ∈ lw_tbl := by
  intro k h1 h2
  have h3 : k = 177 ∨ k = 178 ∨ k = 179 ∨ k = 180 ∨ k = 181 ∨ k = 182 ∨ k = 183 ∨ k = 184 ∨ k = 185 ∨ k = 186 ∨ k = 187 ∨ k = 188 ∨ k = 189 ∨ k = 190 ∨ k = 191 ∨ k = 192 := by omega
  rcases h3 with rfl | rfl | rfl | rfl | rfl | rfl | rfl | rfl | rfl | rfl | rfl | rfl | rfl | rfl | rfl | rfl
  · exact sh_cw177
  · exact sh_cw178
  · exact sh_cw179
  · exact sh_cw180
  · exact sh_cw181
  · exact sh_cw182
  · exact sh_cw183
  · exact sh_cw184
  · exact sh_cw185
  · exact sh_cw186
  · exact sh_cw187
  · exact sh_cw188
  · exact sh_cw189
  · exact sh_cw190
  · exact sh_cw191
  · exact sh_cw192
theorem sh_cwB_12 : ∀ k, 193 ≤ k → k < 209 → sh_code sh_G0 k ∈ lw_tbl := by
  intro k h1 h2
  have h3 : k = 193 ∨ k = 194 ∨ k = 195 ∨ k = 196 ∨ k = 197 ∨ k = 198 ∨ k = 199 ∨ k = 200 ∨ k = 201 ∨ k = 202 ∨ k = 203 ∨ k = 204 ∨ k = 205 ∨ k = 206 ∨ k = 207 ∨ k = 208 := by omega
  rcases h3 with rfl | rfl | rfl | rfl | rfl | rfl | rfl | rfl | rfl | rfl | rfl | rfl | rfl | rfl | rfl | rfl
  · exact sh_cw193
  · exact sh_cw194
  · exact sh_cw195
  · exact sh_cw196
  · exact sh_cw197
  · exact sh_cw198
  · exact sh_cw199
  · exact sh_cw200
  · exact sh_cw201
  · exact sh_cw202
  · exact sh_cw203
  · exact sh_cw204
  · exact sh_cw205
  · exact sh_cw206
  · exact sh_cw207
  · exact sh_cw208
theorem sh_cwB_13 : ∀ k, 209 ≤ k → k < 225 → sh_code sh_G0 k ∈ lw_tbl := by
  intro k h1 h2
  have h3 : k = 209 ∨ k = 210 ∨ k = 211 ∨ k = 212 ∨ k = 213 ∨ k = 214 ∨ k = 215 ∨ k = 216 ∨ k = 217 ∨ k = 218 ∨ k = 219 ∨ k = 220 ∨ k = 221 ∨ k = 222 ∨ k = 223 ∨ k = 224 := by omega
  rcases h3 with rfl | rfl | rfl | rfl | rfl | rfl | rfl | rfl | rfl | rfl | rfl | rfl | rfl | rfl | rfl | rfl
  · exact sh_cw209
  · exact sh_cw210
  · exact sh_cw211
  · exact sh_cw212
  · exact sh_cw213
  · exact sh_cw214
  · exact sh_cw215
  · exact sh_cw216
  · exact sh_cw217
  · exact sh_cw218
  · exact sh_cw219
  · exact sh_cw220
  · exact sh_cw221
  · exact sh_cw222
  · exact sh_cw223
  · exact sh_cw224
theorem sh_cwB_14 : ∀ k, 225 ≤ k → k < 241 → sh_code sh_G0 k ∈ lw_tbl := by
  intro k h1 h2
  have h3 : k = 225 ∨ k = 226 ∨ k = 227 ∨ k = 228 ∨ k = 229 ∨ k = 230 ∨ k = 231 ∨ k = 232 ∨ k = 233 ∨ k = 234 ∨ k = 235 ∨ k = 236 ∨ k = 237 ∨ k = 238 ∨ k = 239 ∨ k = 240 := by omega
  rcases h3 with rfl | rfl | rfl | rfl | rfl | rfl | rfl | rfl | rfl | rfl | rfl | rfl | rfl | rfl | rfl | rfl
  · exact sh_cw225
  · exact sh_cw226
  · exact sh_cw227
  · exact sh_cw228
  · exact sh_cw229
  · exact sh_cw230
  · exact sh_cw231
  · exact sh_cw232
  · exact sh_cw233
  · exact sh_cw234
  · exact sh_cw235
  · exact sh_cw236
  · exact sh_cw237
  · exact sh_cw238
  · exact sh_cw239
  · exact sh_cw240
theorem sh_cwB_15 : ∀ k, 241 ≤ k → k < 257 → sh_code sh_G0 k ∈ lw_tbl := by
  intro k h1 h2
  have h3 : k = 241 ∨ k = 242 ∨ k = 243 ∨ k = 244 ∨ k = 245 ∨ k = 246 ∨ k = 247 ∨ k = 248 ∨ k = 249 ∨ k = 250 ∨ k = 251 ∨ k = 252 ∨ k = 253 ∨ k = 254 ∨ k = 255 ∨ k = 256 := by omega
  rcases h3 with rfl | rfl | rfl | rfl | rfl | rfl | rfl | rfl | rfl | rfl | rfl | rfl | rfl | rfl | rfl | rfl
  · exact sh_cw241
  · exact sh_cw242
  · exact sh_cw243
  · exact sh_cw244
  · exact sh_cw245
  · exact sh_cw246
  · exact sh_cw247
  · exact sh_cw248
  · exact sh_cw249
  · exact sh_cw250
  · exact sh_cw251
  · exact sh_cw252
  · exact sh_cw253
  · exact sh_cw254
  · exact sh_cw255
  · exact sh_cw256
theorem sh_cwB_16 : ∀ k, 257 ≤ k → k < 273 → sh_code sh_G0 k ∈ lw_tbl := by
  intro k h1 h2
  have h3 : k = 257 ∨ k = 258 ∨ k = 259 ∨ k = 260 ∨ k = 261 ∨ k = 262 ∨ k = 263 ∨ k = 264 ∨ k = 265 ∨ k = 266 ∨ k = 267 ∨ k = 268 ∨ k = 269 ∨ k = 270 ∨ k = 271 ∨ k = 272 := by omega
  rcases h3 with rfl | rfl | rfl | rfl | rfl | rfl | rfl | rfl | rfl | rfl | rfl | rfl | rfl | rfl | rfl | rfl
  · exact sh_cw257
  · exact sh_cw258
  · exact sh_cw259
  · exact sh_cw260
  · exact sh_cw261
  · exact sh_cw262
  · exact sh_cw263
  · exact sh_cw264
  · exact sh_cw265
  · exact sh_cw266
  · exact sh_cw267
  · exact sh_cw268
  · exact sh_cw269
  · exact sh_cw270
  · exact sh_cw271
  · exact sh_cw272
theorem sh_cwB_17 : ∀ k, 273 ≤ k → k < 289 → sh_code sh_G0 k ∈ lw_tbl := by
  intro k h1 h2
  have h3 : k = 273 ∨ k = 274 ∨ k = 275 ∨ k = 276 ∨ k = 277 ∨ k = 278 ∨ k = 279 ∨ k = 280 ∨ k = 281 ∨ k = 282 ∨ k = 283 ∨ k = 284 ∨ k = 285 ∨ k = 286 ∨ k = 287 ∨ k = 288 := by omega
  rcases h3 with rfl | rfl | rfl | rfl | rfl | rfl | rfl | rfl | rfl | rfl | rfl | rfl | rfl | rfl | rfl | rfl
  · exact sh_cw273
  · exact sh_cw274
  · exact sh_cw275
  · exact sh_cw276
  · exact sh_cw277
  · exact sh_cw278
  · exact sh_cw279
  · exact sh_cw280
  · exact sh_cw281
  · exact sh_cw282
  · exact sh_cw283
  · exact sh_cw284
  · exact sh_cw285
  · exact sh_cw286
  · exact sh_cw287
  · exact sh_cw288
theorem sh_cwB_18 : ∀ k, 289 ≤ k → k < 305 → sh_code sh_G0 k ∈ lw_tbl := by
  intro k h1 h2
  have h3 : k = 289 ∨ k = 290 ∨ k = 291 ∨ k = 292 ∨ k = 293 ∨ k = 294 ∨ k = 295 ∨ k = 296 ∨ k = 297 ∨ k = 298 ∨ k = 299 ∨ k = 300 ∨ k = 301 ∨ k = 302 ∨ k = 303 ∨ k = 304 := by omega
  rcases h3 with rfl | rfl | rfl | rfl | rfl | rfl | rfl | rfl | rfl | rfl | rfl | rfl | rfl | rfl | rfl | rfl
  · exact sh_cw289
  · exact sh_cw290
  · exact sh_cw291
  · exact sh_cw292
  · exact sh_cw293
  · exact sh_cw294
  · exact sh_cw295
  · exact sh_cw296
  · exact sh_cw297
  · exact sh_cw298
  · exact sh_cw299
  · exact sh_cw300
  · exact sh_cw301
  · exact sh_cw302
  · exact sh_cw303
  · exact sh_cw304
theorem sh_cwB_19 : ∀ k, 305 ≤ k → k < 321 → sh_code sh_G0 k ∈ lw_tbl := by
  intro k h1 h2
  have h3 : k = 305 ∨ k = 306 ∨ k = 307 ∨ k = 308 ∨ k = 309 ∨ k = 310 ∨ k = 311 ∨ k = 312 ∨ k = 313 ∨ k = 314 ∨ k = 315 ∨ k = 316 ∨ k = 317 ∨ k = 318 ∨ k = 319 ∨ k = 320 := by omega
  rcases h3 with rfl | rfl | rfl | rfl | rfl | rfl | rfl | rfl | rfl | rfl | rfl | rfl | rfl | rfl | rfl | rfl
  · exact sh_cw305
  · exact sh_cw306
  · exact sh_cw307
  · exact sh_cw308
  · exact sh_cw309
  · exact sh_cw310
  · exact sh_cw311
  · exact sh_cw312
  · exact sh_cw313
  · exact sh_cw314
  · exact sh_cw315
  · exact sh_cw316
  · exact sh_cw317
  · exact sh_cw318
  · exact sh_cw319
  · exact sh_cw320
theorem sh_cwB_20 : ∀ k, 321 ≤ k → k < 337 → sh_code sh_G0 k ∈ lw_tbl := by
  intro k h1 h2
  have h3 : k = 321 ∨ k = 322 ∨ k = 323 ∨ k = 324 ∨ k = 325 ∨ k = 326 ∨ k = 327 ∨ k = 328 ∨ k = 329 ∨ k = 330 ∨ k = 331 ∨ k = 332 ∨ k = 333 ∨ k = 334 ∨ k = 335 ∨ k = 336 := by omega
  rcases h3 with rfl | rfl | rfl | rfl | rfl | rfl | rfl | rfl | rfl | rfl | rfl | rfl | rfl | rfl | rfl | rfl
  · exact sh_cw321
  · exact sh_cw322
  · exact sh_cw323
  · exact sh_cw324
  · exact sh_cw325
  · exact sh_cw326
  · exact sh_cw327
  · exact sh_cw328
  · exact sh_cw329
  · exact sh_cw330
  · exact sh_cw331
  · exact sh_cw332
  · exact sh_cw333
  · exact sh_cw334
  · exact sh_cw335
  · exact sh_cw336
theorem sh_cwB_21 : ∀ k, 337 ≤ k → k < 353 → sh_code sh_G0 k ∈ lw_tbl := by
  intro k h1 h2
  have h3 : k = 337 ∨ k = 338 ∨ k = 339 ∨ k = 340 ∨ k = 341 ∨ k = 342 ∨ k = 343 ∨ k = 344 ∨ k = 345 ∨ k = 346 ∨ k = 347 ∨ k = 348 ∨ k = 349 ∨ k = 350 ∨ k = 351 ∨ k = 352 := by omega
  rcases h3 with rfl | rfl | rfl | rfl | rfl | rfl | rfl | rfl | rfl | rfl | rfl | rfl | rfl | rfl | rfl | rfl
  · exact sh_cw337
  · exact sh_cw338
  · exact sh_cw339
  · exact sh_cw340
  · exact sh_cw341
  · exact sh_cw342
  · exact sh_cw343
  · exact sh_cw344
  · exact sh_cw345
  · exact sh_cw346
  · exact sh_cw347
  · exact sh_cw348
  · exact sh_cw349
  · exact sh_cw350
  · exact sh_cw351
  · exact sh_cw352
theorem sh_cwA : ∀ k, 1 ≤ k → k < 353 → sh_code sh_G0 k ∈ lw_tbl := by
  intro k h1 h2
  rcases Nat.lt_or_ge k 17 with h | h
  · exact sh_cwB_0 k (by omega) h
  rcases Nat.lt_or_ge k 33 with h | h
  · exact sh_cwB_1 k (by omega) h
  rcases Nat.lt_or_ge k 49 with h | h
  · exact sh_cwB_2 k (by omega) h
  rcases Nat.lt_or_ge k 65 with h | h
  · exact sh_cwB_3 k (by omega) h
  rcases Nat.lt_or_ge k 81 with h | h
  · exact sh_cwB_4 k (by omega) h
  rcases Nat.lt_or_ge k 97 with h | h
  · exact sh_cwB_5 k (by omega) h
  rcases Nat.lt_or_ge k 113 with h | h
  · exact sh_cwB_6 k (by omega) h
  rcases Nat.lt_or_ge k 129 with h | h
  · exact sh_cwB_7 k (by omega) h
  rcases Nat.lt_or_ge k 145 with h | h
  · exact sh_cwB_8 k (by omega) h
  rcases Nat.lt_or_ge k 161 with h | h
  · exact sh_cwB_9 k (by omega) h
  rcases Nat.lt_or_ge k 177 with h | h
  · exact sh_cwB_10 k (by omega) h
  rcases Nat.lt_or_ge k 193 with h | h
  · exact sh_cwB_11 k (by omega) h
  rcases Nat.lt_or_ge k 209 with h | h
  · exact sh_cwB_12 k (by omega) h
  rcases Nat.lt_or_ge k 225 with h | h
  · exact sh_cwB_13 k (by omega) h
  rcases Nat.lt_or_ge k 241 with h | h
  · exact sh_cwB_14 k (by omega) h
  rcases Nat.lt_or_ge k 257 with h | h
  · exact sh_cwB_15 k (by omega) h
  rcases Nat.lt_or_ge k 273 with h | h
  · exact sh_cwB_16 k (by omega) h
  rcases Nat.lt_or_ge k 289 with h | h
  · exact sh_cwB_17 k (by omega) h
  rcases Nat.lt_or_ge k 305 with h | h
  · exact sh_cwB_18 k (by omega) h
  rcases Nat.lt_or_ge k 321 with h | h
  · exact sh_cwB_19 k (by omega) h
  rcases Nat.lt_or_ge k 337 with h | h
  · exact sh_cwB_20 k (by omega) h
  exact sh_cwB_21 k (by omega) (by omega)
