theorem j_memr {ws big : List Cond} (ps : List Nat) (h : ws = ps.filterMap (fun i => big[i]?)) : ∀ w ∈ ws, w ∈ big := by
  intro w hw
  rw [h] at hw
  obtain ⟨i, -, hi⟩ := List.mem_filterMap.mp hw
  exact List.mem_of_getElem? hi
set_option maxRecDepth 20000 in
theorem in_wsL_law0_r1 : ∀ w ∈ wsL_law0_r1, w ∈ lw_tbl := j_memr [87, 88, 54, 1321, 1322, 65, 439, 89, 90, 91, 92, 93, 94, 95, 96, 55, 252, 97, 98, 99, 100, 101, 102, 58] (by decide +kernel)
set_option maxRecDepth 20000 in
theorem in_wsL_law0_r2 : ∀ w ∈ wsL_law0_r2, w ∈ lw_tbl := j_memr [221, 223, 224, 226, 228, 127, 128, 59, 230, 138, 139, 60, 103, 104, 105, 113, 115, 106, 107, 57, 108, 117, 109, 110] (by decide +kernel)
set_option maxRecDepth 20000 in
theorem in_wsL_law0_r3 : ∀ w ∈ wsL_law0_r3, w ∈ lw_tbl := j_memr [56, 111, 112, 130, 131, 132, 137, 133, 140, 141, 142, 143, 146, 144, 158, 159, 160, 161, 118, 119, 116, 162, 164, 0] (by decide +kernel)
set_option maxRecDepth 20000 in
theorem in_wsL_law0_r4 : ∀ w ∈ wsL_law0_r4, w ∈ lw_tbl := j_memr [165, 166, 168, 1, 169, 170, 172, 2, 173, 219, 178, 62, 179, 220, 174, 175, 61, 176, 177, 180, 181, 182, 183, 184] (by decide +kernel)
set_option maxRecDepth 20000 in
theorem in_wsL_law0_r5 : ∀ w ∈ wsL_law0_r5, w ∈ lw_tbl := j_memr [185, 63, 186, 187, 1693, 188, 206, 207, 208, 209, 210, 212, 213, 214, 215, 216, 218, 217, 64, 1323, 1324, 1325, 1326, 1330] (by decide +kernel)
set_option maxRecDepth 20000 in
theorem in_wsL_law0_r6 : ∀ w ∈ wsL_law0_r6, w ∈ lw_tbl := j_memr [1331, 1403, 1332, 1333, 1334, 1335, 1336, 1337, 1338, 1339, 1340, 1341, 1342, 1343, 1344, 1345, 1346, 1347, 1348, 1349, 1350, 268, 269, 53] (by decide +kernel)
set_option maxRecDepth 20000 in
theorem in_wsL_law0_r7 : ∀ w ∈ wsL_law0_r7, w ∈ lw_tbl := j_memr [270, 271, 272, 273, 274, 275, 276, 277, 279, 3, 280, 281, 69, 229, 363, 264, 265, 266, 267, 349, 350, 351, 352, 353] (by decide +kernel)
set_option maxRecDepth 20000 in
theorem in_wsL_law0_r8 : ∀ w ∈ wsL_law0_r8, w ∈ lw_tbl := j_memr [354, 70, 355, 356, 357, 71, 358, 359, 360, 361, 362, 364, 365, 366, 368, 370, 5, 371, 372, 72, 222, 388, 389, 390] (by decide +kernel)
set_option maxRecDepth 20000 in
theorem in_wsL_law0_r9 : ∀ w ∈ wsL_law0_r9, w ∈ lw_tbl := j_memr [391, 393, 394, 73, 460, 461, 75, 392, 395, 396, 397, 398, 399, 446, 448, 440, 401, 402, 74, 442, 444, 400, 403, 404] (by decide +kernel)
set_option maxRecDepth 20000 in
theorem in_wsL_law0_r10 : ∀ w ∈ wsL_law0_r10, w ∈ lw_tbl := j_memr [405, 406, 412, 413, 414, 417, 407, 408, 462, 463, 464, 465, 466, 478, 468, 470, 473, 476, 467, 524, 526, 6, 527, 474] (by decide +kernel)
set_option maxRecDepth 20000 in
theorem in_wsL_law0_r11 : ∀ w ∈ wsL_law0_r11, w ∈ lw_tbl := j_memr [447, 1408, 1409, 1410, 1411, 1327, 1412, 1413, 1414, 1415, 1417, 20, 1418, 1351, 1419, 1421, 21, 1422, 1404, 1405, 1406, 1407, 528, 529] (by decide +kernel)
set_option maxRecDepth 20000 in
theorem in_wsL_law0_r12 : ∀ w ∈ wsL_law0_r12, w ∈ lw_tbl := j_memr [530, 531, 532, 533, 534, 535, 536, 538, 7, 539, 540, 76, 556, 557, 558, 559, 560, 480, 1423, 1424, 1425, 1426, 1427, 1429] (by decide +kernel)
set_option maxRecDepth 20000 in
theorem in_wsL_law0_r13 : ∀ w ∈ wsL_law0_r13, w ∈ lw_tbl := j_memr [22, 1430, 561, 562, 563, 564, 565, 566, 567, 568, 569, 471, 482, 484, 1431, 1432, 1433, 1434, 1435, 1436, 1437, 1438, 1439, 1440] (by decide +kernel)
set_option maxRecDepth 20000 in
theorem in_wsL_law0_r14 : ∀ w ∈ wsL_law0_r14, w ∈ lw_tbl := j_memr [1442, 23, 1443, 571, 572, 573, 574, 575, 576, 577, 485, 1444, 1445, 1446, 1447, 578, 579, 580, 581, 582, 583, 584, 585, 225] (by decide +kernel)
set_option maxRecDepth 20000 in
theorem in_wsL_law0_r15 : ∀ w ∈ wsL_law0_r15, w ∈ lw_tbl := j_memr [586, 587, 588, 591, 592, 593, 594, 595, 596, 77, 597, 598, 599, 600, 601, 602, 604, 634, 635, 636, 637, 640, 605, 638] (by decide +kernel)
set_option maxRecDepth 20000 in
theorem in_wsL_law0_r16 : ∀ w ∈ wsL_law0_r16, w ∈ lw_tbl := j_memr [639, 641, 642, 643, 644, 886, 645, 647, 8, 648, 1448, 1449, 1450, 1451, 1452, 1328, 887, 888, 889, 890, 891, 892, 893, 894] (by decide +kernel)
set_option maxRecDepth 20000 in
theorem in_wsL_law0_r17 : ∀ w ∈ wsL_law0_r17, w ∈ lw_tbl := j_memr [147, 1453, 1454, 1455, 1456, 1457, 256, 257, 258, 259, 233, 1458, 1459, 1460, 1461, 895, 896, 897, 898, 899, 900, 901, 231, 902] (by decide +kernel)
set_option maxRecDepth 20000 in
theorem in_wsL_law0_r18 : ∀ w ∈ wsL_law0_r18, w ∈ lw_tbl := j_memr [903, 904, 905, 906, 907, 908, 909, 910, 911, 912, 913, 1462, 1463, 1464, 1465, 1466, 1468, 24, 1469, 914, 915, 916, 917, 918] (by decide +kernel)
set_option maxRecDepth 20000 in
theorem in_wsL_law0_r19 : ∀ w ∈ wsL_law0_r19, w ∈ lw_tbl := j_memr [919, 920, 921, 922, 923, 924, 1470, 1471, 1472, 1473, 1474, 1476, 25, 1477, 925, 926, 927, 928, 929, 930, 931, 933, 934, 935] (by decide +kernel)
set_option maxRecDepth 20000 in
theorem in_wsL_law0_r20 : ∀ w ∈ wsL_law0_r20, w ∈ lw_tbl := j_memr [936, 232, 937, 938, 940, 10, 941, 943, 942, 944, 945, 946, 86, 947, 1109, 1108, 1104, 488, 1106, 1107, 948, 949, 950, 951] (by decide +kernel)
set_option maxRecDepth 20000 in
theorem in_wsL_law0_r21 : ∀ w ∈ wsL_law0_r21, w ∈ lw_tbl := j_memr [460, 952, 953, 85, 954, 955, 956, 957, 479, 960, 487, 971, 966, 967, 472, 958, 959, 961, 962, 963, 964, 481, 483, 965] (by decide +kernel)
set_option maxRecDepth 20000 in
theorem in_wsL_law0_r22 : ∀ w ∈ wsL_law0_r22, w ∈ lw_tbl := j_memr [968, 969, 970, 972, 973, 974, 975, 976, 977, 486, 978, 979, 981, 11, 982, 983, 984, 985, 986, 491, 987, 603, 607, 988] (by decide +kernel)
set_option maxRecDepth 20000 in
theorem in_wsL_law0_r23 : ∀ w ∈ wsL_law0_r23, w ∈ lw_tbl := j_memr [989, 990, 991, 992, 993, 995, 12, 996, 997, 998, 999, 1000, 1001, 138, 149, 477, 493, 1002, 1003, 1005, 13, 1006, 1007, 1008] (by decide +kernel)
set_option maxRecDepth 20000 in
theorem in_wsL_law0_r24 : ∀ w ∈ wsL_law0_r24, w ∈ lw_tbl := j_memr [1009, 1010, 148, 1011, 1012, 1013, 1014, 1015, 1016, 1017, 1018, 1019, 1020, 1021, 1022, 145, 1023, 1024, 1025, 1026, 1027, 1029, 14, 1030] (by decide +kernel)
set_option maxRecDepth 20000 in
theorem in_wsL_law0_r25 : ∀ w ∈ wsL_law0_r25, w ∈ lw_tbl := j_memr [595, 1031, 1032, 1033, 1034, 1035, 1036, 1037, 1038, 1039, 409, 1042, 489, 1043, 1040, 1041, 1044, 1045, 1046, 1047, 611, 606, 1048, 1050] (by decide +kernel)
set_option maxRecDepth 20000 in
theorem in_wsL_law0_r26 : ∀ w ∈ wsL_law0_r26, w ∈ lw_tbl := j_memr [15, 1051, 1052, 1053, 1054, 1055, 1056, 1057, 1058, 1059, 1060, 410, 1061, 1063, 16, 1064, 1065, 1067, 17, 1068, 1069, 1070, 1071, 1072] (by decide +kernel)
set_option maxRecDepth 20000 in
theorem in_wsL_law0_r27 : ∀ w ∈ wsL_law0_r27, w ∈ lw_tbl := j_memr [1073, 490, 495, 1074, 1075, 1076, 1077, 1078, 609, 492, 1478, 1479, 1480, 1481, 1482, 1483, 1485, 26, 1486, 1329, 1487, 1489, 27, 1490] (by decide +kernel)
set_option maxRecDepth 20000 in
theorem in_wsL_law0_r28 : ∀ w ∈ wsL_law0_r28, w ∈ lw_tbl := j_memr [1491, 1493, 28, 1494, 1495, 1497, 29, 1498, 1499, 1501, 30, 1502, 1503, 1505, 31, 1506, 1507, 1509, 32, 1510, 1511, 1513, 33, 1514] (by decide +kernel)
set_option maxRecDepth 20000 in
theorem in_wsL_law0_r29 : ∀ w ∈ wsL_law0_r29, w ∈ lw_tbl := j_memr [1515, 1517, 34, 1518, 1519, 1521, 35, 1522, 1523, 1525, 36, 1526, 1527, 1529, 37, 1530, 1531, 1533, 38, 1534, 1535, 1536, 1538, 39] (by decide +kernel)
set_option maxRecDepth 20000 in
theorem in_wsL_law0_r30 : ∀ w ∈ wsL_law0_r30, w ∈ lw_tbl := j_memr [1539, 1540, 1542, 40, 1543, 1544, 1546, 41, 1547, 1548, 1550, 42, 1551, 1552, 1554, 43, 1555, 1556, 1557, 1559, 44, 1560, 1561, 1562] (by decide +kernel)
set_option maxRecDepth 20000 in
theorem in_wsL_law0_r31 : ∀ w ∈ wsL_law0_r31, w ∈ lw_tbl := j_memr [1564, 45, 1565, 1079, 1080, 1081, 1082, 1083, 1084, 1085, 494, 1086, 1087, 1088, 1566, 1567, 1568, 1569, 1090, 1091, 1092, 1093, 1094, 1095] (by decide +kernel)
set_option maxRecDepth 20000 in
theorem in_wsL_law0_r32 : ∀ w ∈ wsL_law0_r32, w ∈ lw_tbl := j_memr [1096, 227, 1098, 1099, 1100, 1101, 1102, 1103, 1128, 1570, 1571, 1572, 1573, 1129, 1130, 1131, 1132, 1133, 1134, 1135, 1110, 1136, 1138, 18] (by decide +kernel)
set_option maxRecDepth 20000 in
theorem in_wsL_law0_r33 : ∀ w ∈ wsL_law0_r33, w ∈ lw_tbl := j_memr [1139, 1098, 1574, 1575, 1576, 1577, 1578, 1580, 46, 1581, 1582, 1584, 47, 1585, 1141, 1142, 1143, 1144, 1145, 1146, 1147, 1586, 1587, 1588] (by decide +kernel)
set_option maxRecDepth 20000 in
theorem in_wsL_law0_r34 : ∀ w ∈ wsL_law0_r34, w ∈ lw_tbl := j_memr [1589, 1148, 1149, 1150, 1151, 1152, 1153, 1154, 1155, 1156, 1157, 1158, 1105, 1159, 1160, 1161, 1162, 1163, 1590, 1591, 1592, 1593, 260, 261] (by decide +kernel)
set_option maxRecDepth 20000 in
theorem in_wsL_law0_r35 : ∀ w ∈ wsL_law0_r35, w ∈ lw_tbl := j_memr [262, 263, 1594, 1595, 1596, 1597, 1164, 1165, 1166, 1167, 1168, 1169, 1170, 475, 441, 1598, 1599, 1600, 1601, 1602, 1604, 48, 1605, 1171] (by decide +kernel)
set_option maxRecDepth 20000 in
theorem in_wsL_law0_r36 : ∀ w ∈ wsL_law0_r36, w ∈ lw_tbl := j_memr [1172, 1173, 1174, 1175, 1176, 1177, 1606, 1607, 1608, 1609, 1178, 1179, 1180, 1181, 1182, 1183, 1184, 1186, 1187, 1188, 1610, 1611, 1612, 1613] (by decide +kernel)
set_option maxRecDepth 20000 in
theorem in_wsL_law0_r37 : ∀ w ∈ wsL_law0_r37, w ∈ lw_tbl := j_memr [1189, 1190, 1191, 1192, 1193, 1194, 1195, 150, 1196, 1614, 1615, 1616, 1617, 1197, 1198, 1199, 1200, 1201, 1202, 1203, 608, 1204, 1206, 19] (by decide +kernel)
set_option maxRecDepth 20000 in
theorem in_wsL_law0_r38 : ∀ w ∈ wsL_law0_r38, w ∈ lw_tbl := j_memr [1207, 1209, 1618, 1619, 1620, 1621, 1622, 1624, 49, 1625, 1210, 1211, 1212, 1213, 1214, 1215, 1216, 610, 1626, 1627, 1628, 1629, 1217, 1218] (by decide +kernel)
set_option maxRecDepth 20000 in
theorem in_wsL_law0_r39 : ∀ w ∈ wsL_law0_r39, w ∈ lw_tbl := j_memr [1219, 1220, 1221, 1222, 1223, 496, 1630, 1631, 1632, 1633, 1224, 1225, 1226, 1227, 1228, 1229, 1230, 443, 411, 445, 1634, 1635, 1636, 1637] (by decide +kernel)
set_option maxRecDepth 20000 in
theorem in_wsL_law0_r40 : ∀ w ∈ wsL_law0_r40, w ∈ lw_tbl := j_memr [1231, 1232, 1233, 1234, 1235, 1236, 1237, 1238, 1239, 1240, 1241, 1242, 1243, 469, 1244, 1245, 1246, 1247, 1248, 1249, 1638, 1639, 1640, 1641] (by decide +kernel)
set_option maxRecDepth 20000 in
theorem in_wsL_law0_r41 : ∀ w ∈ wsL_law0_r41, w ∈ lw_tbl := j_memr [1642, 1644, 50, 1645, 1646, 1648, 51, 1649, 1650, 1652, 52, 1653, 1250, 1251, 1252, 1253, 1254, 1255, 1256, 1257, 1258, 1259, 1260, 234] (by decide +kernel)
set_option maxRecDepth 20000 in
theorem in_wsL_law0_r42 : ∀ w ∈ wsL_law0_r42, w ∈ lw_tbl := j_memr [1261, 1262, 1263, 1264, 497, 498, 1265, 1266, 1267, 1268, 1269, 1270, 1271, 1272, 415, 416, 1273, 1274, 1275, 1276, 1277, 612, 613, 614] (by decide +kernel)
set_option maxRecDepth 20000 in
theorem in_wsL_law0_r43 : ∀ w ∈ wsL_law0_r43, w ∈ lw_tbl := j_memr [1278, 1279, 1280, 1281, 1111, 1112, 1282, 1283, 1284, 1285, 1286, 1287, 1288, 1289, 1290, 1291, 1292, 1293, 1294, 1295, 1296, 1297, 1298, 1299] (by decide +kernel)
set_option maxRecDepth 20000 in
theorem in_wsL_law0_r44 : ∀ w ∈ wsL_law0_r44, w ∈ lw_tbl := j_memr [1300, 1301, 1302, 1303, 1304, 1305, 1306, 1654, 1655, 1656, 1657, 1307, 1308, 1309, 1310, 1311, 1312, 1313, 1658, 1659, 1660, 1661, 1314, 1315] (by decide +kernel)
set_option maxRecDepth 20000 in
theorem in_wsL_law0_r45 : ∀ w ∈ wsL_law0_r45, w ∈ lw_tbl := j_memr [1316, 1317, 1318, 1319, 1320, 1662, 1663, 1664, 1665] (by decide +kernel)
theorem in_wsX9 : ∀ w ∈ wsX90, w ∈ lw_tbl := by decide +kernel
theorem in_wsX10 : ∀ w ∈ wsX100, w ∈ lw_tbl := by decide +kernel
theorem in_wsX3 : ∀ w ∈ wsX30, w ∈ lw_tbl := by decide +kernel
theorem in_wsJx4a65c : ∀ w ∈ wsJx4a65c0, w ∈ lw_tbl := by decide +kernel
theorem in_wsX2 : ∀ w ∈ wsX20, w ∈ lw_tbl := by decide +kernel
theorem in_wsX1 : ∀ w ∈ wsX10, w ∈ lw_tbl := by decide +kernel
theorem in_wsX6 : ∀ w ∈ wsX60, w ∈ lw_tbl := by decide +kernel
theorem in_wsX0 : ∀ w ∈ wsX00, w ∈ lw_tbl := by decide +kernel
theorem in_wsX7 : ∀ w ∈ wsX70, w ∈ lw_tbl := by decide +kernel
theorem in_wsX5 : ∀ w ∈ wsX50, w ∈ lw_tbl := by decide +kernel
theorem in_wsX4 : ∀ w ∈ wsX40, w ∈ lw_tbl := by decide +kernel
theorem j_memapp {a b big : List Cond} (ha : ∀ w ∈ a, w ∈ big) (hb : ∀ w ∈ b, w ∈ big) : ∀ w ∈ a ++ b, w ∈ big := fun w h => (List.mem_append.mp h).elim (ha w) (hb w)
theorem wsL_law_in0 : ∀ w ∈ wsL_law0, w ∈ lw_tbl := (j_memapp (j_memapp (j_memapp (j_memapp (j_memapp (j_memapp (j_memapp (j_memapp (j_memapp (j_memapp (j_memapp (j_memapp (fun w h0 => (List.mem_append.mp h0).elim (fun h => in_wsL_law0_r1 w h) (fun h1 => (List.mem_append.mp h1).elim (fun h => in_wsL_law0_r2 w h) (fun h2 => (List.mem_append.mp h2).elim (fun h => in_wsL_law0_r3 w h) (fun h3 => (List.mem_append.mp h3).elim (fun h => in_wsL_law0_r4 w h) (fun h4 => (List.mem_append.mp h4).elim (fun h => in_wsL_law0_r5 w h) (fun h5 => (List.mem_append.mp h5).elim (fun h => in_wsL_law0_r6 w h) (fun h6 => (List.mem_append.mp h6).elim (fun h => in_wsL_law0_r7 w h) (fun h7 => (List.mem_append.mp h7).elim (fun h => in_wsL_law0_r8 w h) (fun h8 => (List.mem_append.mp h8).elim (fun h => in_wsL_law0_r9 w h) (fun h9 => (List.mem_append.mp h9).elim (fun h => in_wsL_law0_r10 w h) (fun h10 => (List.mem_append.mp h10).elim (fun h => in_wsL_law0_r11 w h) (fun h11 => (List.mem_append.mp h11).elim (fun h => in_wsL_law0_r12 w h) (fun h12 => (List.mem_append.mp h12).elim (fun h => in_wsL_law0_r13 w h) (fun h13 => (List.mem_append.mp h13).elim (fun h => in_wsL_law0_r14 w h) (fun h14 => (List.mem_append.mp h14).elim (fun h => in_wsL_law0_r15 w h) (fun h15 => (List.mem_append.mp h15).elim (fun h => in_wsL_law0_r16 w h) (fun h16 => (List.mem_append.mp h16).elim (fun h => in_wsL_law0_r17 w h) (fun h17 => (List.mem_append.mp h17).elim (fun h => in_wsL_law0_r18 w h) (fun h18 => (List.mem_append.mp h18).elim (fun h => in_wsL_law0_r19 w h) (fun h19 => (List.mem_append.mp h19).elim (fun h => in_wsL_law0_r20 w h) (fun h20 => (List.mem_append.mp h20).elim (fun h => in_wsL_law0_r21 w h) (fun h21 => (List.mem_append.mp h21).elim (fun h => in_wsL_law0_r22 w h) (fun h22 => (List.mem_append.mp h22).elim (fun h => in_wsL_law0_r23 w h) (fun h23 => (List.mem_append.mp h23).elim (fun h => in_wsL_law0_r24 w h) (fun h24 => (List.mem_append.mp h24).elim (fun h => in_wsL_law0_r25 w h) (fun h25 => (List.mem_append.mp h25).elim (fun h => in_wsL_law0_r26 w h) (fun h26 => (List.mem_append.mp h26).elim (fun h => in_wsL_law0_r27 w h) (fun h27 => (List.mem_append.mp h27).elim (fun h => in_wsL_law0_r28 w h) (fun h28 => (List.mem_append.mp h28).elim (fun h => in_wsL_law0_r29 w h) (fun h29 => (List.mem_append.mp h29).elim (fun h => in_wsL_law0_r30 w h) (fun h30 => (List.mem_append.mp h30).elim (fun h => in_wsL_law0_r31 w h) (fun h31 => (List.mem_append.mp h31).elim (fun h => in_wsL_law0_r32 w h) (fun h32 => (List.mem_append.mp h32).elim (fun h => in_wsL_law0_r33 w h) (fun h33 => (List.mem_append.mp h33).elim (fun h => in_wsL_law0_r34 w h) (fun h34 => (List.mem_append.mp h34).elim (fun h => in_wsL_law0_r35 w h) (fun h35 => (List.mem_append.mp h35).elim (fun h => in_wsL_law0_r36 w h) (fun h36 => (List.mem_append.mp h36).elim (fun h => in_wsL_law0_r37 w h) (fun h37 => (List.mem_append.mp h37).elim (fun h => in_wsL_law0_r38 w h) (fun h38 => (List.mem_append.mp h38).elim (fun h => in_wsL_law0_r39 w h) (fun h39 => (List.mem_append.mp h39).elim (fun h => in_wsL_law0_r40 w h) (fun h40 => (List.mem_append.mp h40).elim (fun h => in_wsL_law0_r41 w h) (fun h41 => (List.mem_append.mp h41).elim (fun h => in_wsL_law0_r42 w h) (fun h42 => (List.mem_append.mp h42).elim (fun h => in_wsL_law0_r43 w h) (fun h43 => (List.mem_append.mp h43).elim (fun h => in_wsL_law0_r44 w h) (fun h44 => in_wsL_law0_r45 w h44))))))))))))))))))))))))))))))))))))))))))))) in_wsX9) in_wsX10) in_wsX3) in_wsJx4a65c) in_wsX2) in_wsX1) in_wsX6) in_wsX0) in_wsX7) in_wsX5) in_wsX4) (fun _ h => absurd h List.not_mem_nil))
