set_option maxRecDepth 20000 in
theorem ggL_law_X7_customerByWaitingTime : GoodIn wsL_law wsX7_customerByWaitingTime := goodIn_ca (goodIn_r _ [912, 180, 86, 193, 194, 5, 195, 189, 190, 191, 192, 1426, 1427, 1428, 1429, 1430, 1431, 1432, 1433, 1434, 1435, 1436, 1437, 1438, 1439, 1440, 1441, 1442, 1443, 1444, 1445, 1446] (by decide +kernel) (by decide +kernel)) (goodIn_sub (fun _ h => List.mem_append_left _ (List.mem_append_left _ (List.mem_append_left _ (List.mem_append_left _ (List.mem_append_left _ (List.mem_append_left _ (List.mem_append_left _ (List.mem_append_right _ h)))))))) (by decide +kernel))
set_option maxRecDepth 20000 in
theorem gL_law_X7_customerByWaitingTime : GoodIn wsL_law (wsV RL 277 RX7 yX7_customerByWaitingTime wsX7_customerByWaitingTime) := goodIn_app (goodIn_of _ (by decide +kernel)) ggL_law_X7_customerByWaitingTime
set_option maxRecDepth 20000 in
theorem ggL_law_X6_minute : GoodIn wsL_law wsX6_minute := goodIn_r _ [916, 17, 917, 1415, 1416, 1417, 1418, 1419, 1420, 1421, 1422, 1423, 1424, 1425, 1447, 1448, 1449, 1450, 1451, 1452, 1453, 1454, 1455, 1456, 1457, 1458, 1459, 1460] (by decide +kernel) (by decide +kernel)
set_option maxRecDepth 20000 in
theorem gL_law_X6_minute : GoodIn wsL_law (wsV RL 278 RX6 yX6_minute wsX6_minute) := goodIn_app (goodIn_of _ (by decide +kernel)) ggL_law_X6_minute
set_option maxRecDepth 20000 in
theorem ggL_law_X7_minute : GoodIn wsL_law wsX7_minute := goodIn_ca (goodIn_r _ [921, 922, 923, 924, 5, 925, 180, 86, 1426, 1427, 1428, 1429, 1430, 1431, 1432, 1433, 1434, 1435, 1436, 1437, 1438, 1439, 1440, 1441, 1442, 1443, 1444, 1445, 1446] (by decide +kernel) (by decide +kernel)) (goodIn_sub (fun _ h => List.mem_append_left _ (List.mem_append_left _ (List.mem_append_left _ (List.mem_append_left _ (List.mem_append_left _ (List.mem_append_left _ (List.mem_append_left _ (List.mem_append_right _ h)))))))) (by decide +kernel))
set_option maxRecDepth 20000 in
theorem gL_law_X7_minute : GoodIn wsL_law (wsV RL 281 RX7 yX7_minute wsX7_minute) := goodIn_app (goodIn_of _ (by decide +kernel)) ggL_law_X7_minute
set_option maxRecDepth 20000 in
theorem ggL_law_X6_addedTotal : GoodIn wsL_law wsX6_addedTotal := goodIn_r _ [929, 17, 930, 1415, 1416, 1417, 1418, 1419, 1420, 1421, 1422, 1423, 1424, 1425, 1447, 1448, 1449, 1450, 1451, 1452, 1453, 1454, 1455, 1456, 1457, 1458, 1459, 1460] (by decide +kernel) (by decide +kernel)
set_option maxRecDepth 20000 in
theorem gL_law_X6_addedTotal : GoodIn wsL_law (wsV RL 282 RX6 yX6_addedTotal wsX6_addedTotal) := goodIn_app (goodIn_of _ (by decide +kernel)) ggL_law_X6_addedTotal
set_option maxRecDepth 20000 in
theorem ggL_law_X7_addedTotal : GoodIn wsL_law wsX7_addedTotal := goodIn_ca (goodIn_r _ [934, 922, 923, 924, 5, 925, 180, 86, 1426, 1427, 1428, 1429, 1430, 1431, 1432, 1433, 1434, 1435, 1436, 1437, 1438, 1439, 1440, 1441, 1442, 1443, 1444, 1445, 1446] (by decide +kernel) (by decide +kernel)) (goodIn_sub (fun _ h => List.mem_append_left _ (List.mem_append_left _ (List.mem_append_left _ (List.mem_append_left _ (List.mem_append_left _ (List.mem_append_left _ (List.mem_append_left _ (List.mem_append_right _ h)))))))) (by decide +kernel))
set_option maxRecDepth 20000 in
theorem gL_law_X7_addedTotal : GoodIn wsL_law (wsV RL 285 RX7 yX7_addedTotal wsX7_addedTotal) := goodIn_app (goodIn_of _ (by decide +kernel)) ggL_law_X7_addedTotal
set_option maxRecDepth 20000 in
theorem ggL_law_X6_servedTotal : GoodIn wsL_law wsX6_servedTotal := goodIn_r _ [938, 17, 853, 1415, 1416, 1417, 1418, 1419, 1420, 1421, 1422, 1423, 1424, 1425, 1447, 1448, 1449, 1450, 1451, 1452, 1453, 1454, 1455, 1456, 1457, 1458, 1459, 1460] (by decide +kernel) (by decide +kernel)
set_option maxRecDepth 20000 in
theorem gL_law_X6_servedTotal : GoodIn wsL_law (wsV RL 286 RX6 yX6_servedTotal wsX6_servedTotal) := goodIn_app (goodIn_of _ (by decide +kernel)) ggL_law_X6_servedTotal
set_option maxRecDepth 20000 in
theorem ggL_law_X7_servedTotal : GoodIn wsL_law wsX7_servedTotal := goodIn_ca (goodIn_r _ [942, 922, 923, 924, 5, 925, 180, 86, 1426, 1427, 1428, 1429, 1430, 1431, 1432, 1433, 1434, 1435, 1436, 1437, 1438, 1439, 1440, 1441, 1442, 1443, 1444, 1445, 1446] (by decide +kernel) (by decide +kernel)) (goodIn_sub (fun _ h => List.mem_append_left _ (List.mem_append_left _ (List.mem_append_left _ (List.mem_append_left _ (List.mem_append_left _ (List.mem_append_left _ (List.mem_append_left _ (List.mem_append_right _ h)))))))) (by decide +kernel))
set_option maxRecDepth 20000 in
theorem gL_law_X7_servedTotal : GoodIn wsL_law (wsV RL 289 RX7 yX7_servedTotal wsX7_servedTotal) := goodIn_app (goodIn_of _ (by decide +kernel)) ggL_law_X7_servedTotal
set_option maxRecDepth 20000 in
theorem ggL_law_X6_walkedOutTotal : GoodIn wsL_law wsX6_walkedOutTotal := goodIn_r _ [946, 17, 947, 1415, 1416, 1417, 1418, 1419, 1420, 1421, 1422, 1423, 1424, 1425, 1447, 1448, 1449, 1450, 1451, 1452, 1453, 1454, 1455, 1456, 1457, 1458, 1459, 1460] (by decide +kernel) (by decide +kernel)
set_option maxRecDepth 20000 in
theorem gL_law_X6_walkedOutTotal : GoodIn wsL_law (wsV RL 290 RX6 yX6_walkedOutTotal wsX6_walkedOutTotal) := goodIn_app (goodIn_of _ (by decide +kernel)) ggL_law_X6_walkedOutTotal
set_option maxRecDepth 20000 in
theorem ggL_law_X7_walkedOutTotal : GoodIn wsL_law wsX7_walkedOutTotal := goodIn_ca (goodIn_r _ [951, 922, 923, 924, 5, 925, 180, 86, 1426, 1427, 1428, 1429, 1430, 1431, 1432, 1433, 1434, 1435, 1436, 1437, 1438, 1439, 1440, 1441, 1442, 1443, 1444, 1445, 1446] (by decide +kernel) (by decide +kernel)) (goodIn_sub (fun _ h => List.mem_append_left _ (List.mem_append_left _ (List.mem_append_left _ (List.mem_append_left _ (List.mem_append_left _ (List.mem_append_left _ (List.mem_append_left _ (List.mem_append_right _ h)))))))) (by decide +kernel))
set_option maxRecDepth 20000 in
theorem gL_law_X7_walkedOutTotal : GoodIn wsL_law (wsV RL 293 RX7 yX7_walkedOutTotal wsX7_walkedOutTotal) := goodIn_app (goodIn_of _ (by decide +kernel)) ggL_law_X7_walkedOutTotal
set_option maxRecDepth 20000 in
theorem ggL_law_X6_sighTotal : GoodIn wsL_law wsX6_sighTotal := goodIn_r _ [955, 17, 836, 1415, 1416, 1417, 1418, 1419, 1420, 1421, 1422, 1423, 1424, 1425, 1447, 1448, 1449, 1450, 1451, 1452, 1453, 1454, 1455, 1456, 1457, 1458, 1459, 1460] (by decide +kernel) (by decide +kernel)
set_option maxRecDepth 20000 in
theorem gL_law_X6_sighTotal : GoodIn wsL_law (wsV RL 294 RX6 yX6_sighTotal wsX6_sighTotal) := goodIn_app (goodIn_of _ (by decide +kernel)) ggL_law_X6_sighTotal
set_option maxRecDepth 20000 in
theorem ggL_law_X7_sighTotal : GoodIn wsL_law wsX7_sighTotal := goodIn_ca (goodIn_r _ [959, 922, 923, 924, 5, 925, 180, 86, 1426, 1427, 1428, 1429, 1430, 1431, 1432, 1433, 1434, 1435, 1436, 1437, 1438, 1439, 1440, 1441, 1442, 1443, 1444, 1445, 1446] (by decide +kernel) (by decide +kernel)) (goodIn_sub (fun _ h => List.mem_append_left _ (List.mem_append_left _ (List.mem_append_left _ (List.mem_append_left _ (List.mem_append_left _ (List.mem_append_left _ (List.mem_append_left _ (List.mem_append_right _ h)))))))) (by decide +kernel))
set_option maxRecDepth 20000 in
theorem gL_law_X7_sighTotal : GoodIn wsL_law (wsV RL 297 RX7 yX7_sighTotal wsX7_sighTotal) := goodIn_app (goodIn_of _ (by decide +kernel)) ggL_law_X7_sighTotal
set_option maxRecDepth 20000 in
theorem ggL_law_L_meanPatience : GoodIn wsL_law wsL_meanPatience := goodIn_ca (goodIn_ca (goodIn_r _ [962, 963, 964, 965, 966, 2, 967, 968, 969, 17, 524, 536, 558, 1415, 1416, 1417, 1418, 1419, 1420, 1421, 1422, 1423, 1424, 1425, 1447, 1448, 1449, 1450, 1451, 1452, 1453, 1454, 1455, 1456, 1457, 1458, 1459, 1460, 1468, 1469, 1470, 1471, 1472, 1473, 1474] (by decide +kernel) (by decide +kernel)) (goodIn_sub (fun _ h => List.mem_append_left _ (List.mem_append_left _ (List.mem_append_left _ (List.mem_append_left _ (List.mem_append_left _ (List.mem_append_left _ (List.mem_append_left _ (List.mem_append_right _ h)))))))) (by decide +kernel))) (goodIn_sub (fun _ h => List.mem_append_left _ (List.mem_append_right _ h)) (by decide +kernel))
set_option maxRecDepth 20000 in
theorem gL_law_L_meanPatience : GoodIn wsL_law (va_wsS RL 298 yL_meanPatience wsL_meanPatience) := goodIn_app (goodIn_of _ (by decide +kernel)) ggL_law_L_meanPatience
set_option maxRecDepth 20000 in
theorem ggL_law_X7_meanPatience : GoodIn wsL_law wsX7_meanPatience := goodIn_ca (goodIn_r _ [973, 180, 86, 189, 190, 191, 5, 192, 193, 194, 195, 1426, 1427, 1428, 1429, 1430, 1431, 1432, 1433, 1434, 1435, 1436, 1437, 1438, 1439, 1440, 1441, 1442, 1443, 1444, 1445, 1446] (by decide +kernel) (by decide +kernel)) (goodIn_sub (fun _ h => List.mem_append_left _ (List.mem_append_left _ (List.mem_append_left _ (List.mem_append_left _ (List.mem_append_left _ (List.mem_append_left _ (List.mem_append_left _ (List.mem_append_right _ h)))))))) (by decide +kernel))
set_option maxRecDepth 20000 in
theorem gL_law_X7_meanPatience : GoodIn wsL_law (wsV RL 301 RX7 yX7_meanPatience wsX7_meanPatience) := goodIn_app (goodIn_of _ (by decide +kernel)) ggL_law_X7_meanPatience
set_option maxRecDepth 20000 in
theorem ggL_law_L_calmShare : GoodIn wsL_law wsL_calmShare := goodIn_ca (goodIn_ca (goodIn_r _ [976, 963, 977, 978, 979, 2, 980, 968, 969, 17, 853, 981, 1415, 1416, 1417, 1418, 1419, 1420, 1421, 1422, 1423, 1424, 1425, 1447, 1448, 1449, 1450, 1451, 1452, 1453, 1454, 1455, 1456, 1457, 1458, 1459, 1460] (by decide +kernel) (by decide +kernel)) (goodIn_sub (fun _ h => List.mem_append_left _ (List.mem_append_left _ (List.mem_append_left _ (List.mem_append_left _ (List.mem_append_left _ (List.mem_append_left _ (List.mem_append_left _ (List.mem_append_right _ h)))))))) (by decide +kernel))) (goodIn_sub (fun _ h => List.mem_append_left _ (List.mem_append_right _ h)) (by decide +kernel))
set_option maxRecDepth 20000 in
theorem gL_law_L_calmShare : GoodIn wsL_law (va_wsS RL 302 yL_calmShare wsL_calmShare) := goodIn_app (goodIn_of _ (by decide +kernel)) ggL_law_L_calmShare
set_option maxRecDepth 20000 in
theorem ggL_law_X7_calmShare : GoodIn wsL_law wsX7_calmShare := goodIn_ca (goodIn_r _ [985, 180, 86, 189, 190, 191, 5, 192, 1426, 1427, 1428, 1429, 1430, 1431, 1432, 1433, 1434, 1435, 1436, 1437, 1438, 1439, 1440, 1441, 1442, 1443, 1444, 1445, 1446] (by decide +kernel) (by decide +kernel)) (goodIn_sub (fun _ h => List.mem_append_left _ (List.mem_append_left _ (List.mem_append_left _ (List.mem_append_left _ (List.mem_append_left _ (List.mem_append_left _ (List.mem_append_left _ (List.mem_append_right _ h)))))))) (by decide +kernel))
set_option maxRecDepth 20000 in
theorem gL_law_X7_calmShare : GoodIn wsL_law (wsV RL 304 RX7 yX7_calmShare wsX7_calmShare) := goodIn_app (goodIn_of _ (by decide +kernel)) ggL_law_X7_calmShare
set_option maxRecDepth 20000 in
theorem ggL_law_X6_isConsistent : GoodIn wsL_law wsX6_isConsistent := goodIn_ca (goodIn_ca (goodIn_r _ [989, 17, 524, 930, 853, 990, 947, 630, 331, 332, 16, 333, 116, 45, 642, 368, 369, 370, 42, 267, 991, 734, 735, 2, 736, 654, 655, 536, 606, 538, 539, 540, 541, 158, 159, 542, 327, 328, 329, 115, 992, 745, 746, 747, 993, 754, 755, 756, 757, 758, 759, 760, 38, 301, 994, 766, 767, 768, 32, 769, 770, 771, 772, 1415, 1416, 1417, 1418, 1419, 1420, 1421, 1422, 1423, 1424, 1425, 1447, 1448, 1449, 1450, 1451, 1452, 1453, 1454, 1455, 1456, 1457, 1458, 1459, 1460, 1475, 1476, 1477, 1478, 1468, 1469, 1470, 1471, 1472, 1473, 1474] (by decide +kernel) (by decide +kernel)) (goodIn_sub (fun _ h => List.mem_append_left _ (List.mem_append_left _ (List.mem_append_left _ (List.mem_append_left _ (List.mem_append_left _ (List.mem_append_left _ (List.mem_append_left _ (List.mem_append_right _ h)))))))) (by decide +kernel))) (goodIn_sub (fun _ h => List.mem_append_left _ (List.mem_append_left _ (List.mem_append_left _ (List.mem_append_left _ (List.mem_append_left _ (List.mem_append_left _ (List.mem_append_right _ h))))))) (by decide +kernel))
set_option maxRecDepth 20000 in
theorem gL_law_X6_isConsistent : GoodIn wsL_law (wsV RL 305 RX6 yX6_isConsistent wsX6_isConsistent) := goodIn_app (goodIn_of _ (by decide +kernel)) ggL_law_X6_isConsistent
set_option maxRecDepth 20000 in
theorem ggL_law_X7_isConsistent : GoodIn wsL_law wsX7_isConsistent := goodIn_r _ [998, 180, 1426, 1427, 1428, 1429, 1430, 1431, 1432, 1433, 1434, 1435, 1436, 1437, 1438, 1439, 1440, 1441, 1442, 1443, 1444, 1445, 1446] (by decide +kernel) (by decide +kernel)
set_option maxRecDepth 20000 in
theorem gL_law_X7_isConsistent : GoodIn wsL_law (wsV RL 309 RX7 yX7_isConsistent wsX7_isConsistent) := goodIn_app (goodIn_of _ (by decide +kernel)) ggL_law_X7_isConsistent
set_option maxRecDepth 20000 in
theorem ggL_law_X6_renderQueue : GoodIn wsL_law wsX6_renderQueue := goodIn_ca (goodIn_r _ [1002, 30, 17, 654, 536, 655, 1003, 1004, 1005, 29, 1006, 1007, 1008, 1009, 1010, 66, 1011, 1012, 1013, 1014, 1015, 71, 1016, 1017, 1018, 1019, 1020, 1021, 72, 1022, 1023, 1024, 1025, 1026, 1027, 1028, 1029, 1030, 1031, 1032, 483, 324, 484, 1033, 1034, 1035, 1036, 1037, 1038, 1039, 1040, 1041, 1042, 1043, 1044, 1045, 1046, 70, 1047, 480, 481, 1048, 1049, 1050, 1051, 1052, 1053, 1054, 1055, 1056, 69, 1057, 1058, 1059, 1060, 1061, 1062, 1063, 1064, 1065, 1066, 1067, 28, 1068, 1069, 1070, 1071, 1072, 75, 1073, 1074, 1075, 1076, 1077, 1078, 1079, 1080, 1081, 1082, 1083, 1084, 1085, 1086, 1087, 1088, 1089, 1090, 73, 74, 76, 77, 78, 79, 80, 1091, 1092, 1093, 1094, 1095, 1096, 1097, 1098, 1099, 1100, 1101, 1102, 1103, 1104, 1105, 1106, 1107, 1108, 1109, 1110, 1111, 1112, 1113, 1114, 1115, 1116, 1117, 1118, 1119, 1120, 1121, 1122, 1123, 1124, 1125, 1126, 1127, 1128, 1129, 1130, 1131, 1132, 2, 1133, 537, 606, 618, 1134, 1135, 1136, 1137, 1138, 1139, 1140, 1141, 1142, 1143, 1144, 1145, 1146, 1147, 1148, 1149, 1150, 1151, 1152, 1153, 1154, 1155, 1156, 1157, 1158, 1159, 1160, 1161, 1162, 1163, 1164, 1165, 1166, 1167, 1168, 1169, 1170, 1171, 1172, 1173, 1174, 1175, 1415, 1416, 1417, 1418, 1419, 1420, 1421, 1422, 1423, 1424, 1425, 1447, 1448, 1449, 1450, 1451, 1452, 1453, 1454, 1455, 1456, 1457, 1458, 1459, 1460, 1479, 1480, 1481, 1482, 1483, 1484, 1464, 1465, 1466, 1467, 1485, 1486, 1487, 1488, 1489, 1490, 1468, 1469, 1470, 1471, 1472, 1473, 1474] (by decide +kernel) (by decide +kernel)) (goodIn_sub (fun _ h => List.mem_append_left _ (List.mem_append_left _ (List.mem_append_left _ (List.mem_append_left _ (List.mem_append_left _ (List.mem_append_left _ (List.mem_append_left _ (List.mem_append_right _ h)))))))) (by decide +kernel))
set_option maxRecDepth 20000 in
theorem gL_law_X6_renderQueue : GoodIn wsL_law (wsV RL 310 RX6 yX6_renderQueue wsX6_renderQueue) := goodIn_app (goodIn_of _ (by decide +kernel)) ggL_law_X6_renderQueue
set_option maxRecDepth 20000 in
theorem ggL_law_X7_renderQueue : GoodIn wsL_law wsX7_renderQueue := goodIn_ca (goodIn_ca (goodIn_r _ [1179, 180, 1180, 86, 193, 194, 5, 195, 1181, 1182, 1183, 1184, 94, 1185, 1186, 1187, 1188, 1426, 1427, 1428, 1429, 1430, 1431, 1432, 1433, 1434, 1435, 1436, 1437, 1438, 1439, 1440, 1441, 1442, 1443, 1444, 1445, 1446] (by decide +kernel) (by decide +kernel)) (goodIn_sub (fun _ h => List.mem_append_left _ (List.mem_append_left _ (List.mem_append_left _ (List.mem_append_left _ (List.mem_append_left _ (List.mem_append_left _ (List.mem_append_left _ (List.mem_append_right _ h)))))))) (by decide +kernel))) (goodIn_sub (fun _ h => List.mem_append_right _ h) (by decide +kernel))
set_option maxRecDepth 20000 in
theorem gL_law_X7_renderQueue : GoodIn wsL_law (wsV RL 313 RX7 yX7_renderQueue wsX7_renderQueue) := goodIn_app (goodIn_of _ (by decide +kernel)) ggL_law_X7_renderQueue
set_option maxRecDepth 20000 in
theorem ggL_law_X6_renderWindows : GoodIn wsL_law wsX6_renderWindows := goodIn_r _ [1192, 30, 17, 675, 1003, 1004, 1005, 29, 1006, 1007, 1008, 1009, 1010, 66, 1011, 1012, 1013, 1014, 1015, 71, 1016, 1017, 1018, 1019, 1020, 1021, 72, 1022, 1023, 1024, 1025, 1026, 1027, 1028, 1029, 1030, 1031, 1032, 483, 324, 484, 1033, 1034, 1035, 1036, 1037, 1038, 1039, 1040, 1041, 1042, 1043, 1044, 1045, 1046, 70, 1047, 480, 481, 1048, 1049, 1050, 1051, 1052, 1053, 1054, 1055, 1056, 69, 1057, 1058, 1059, 1060, 1061, 1062, 1063, 1064, 1065, 1066, 1067, 28, 1068, 1069, 1070, 1071, 1072, 75, 1073, 1074, 1075, 1076, 1077, 1078, 1079, 1080, 1081, 1082, 1083, 1084, 1085, 1086, 1087, 1088, 1089, 1090, 73, 74, 76, 77, 78, 79, 80, 1091, 1092, 1093, 1094, 1095, 1096, 1097, 1098, 1099, 1100, 1101, 1102, 1103, 1104, 1105, 1106, 1107, 1108, 1109, 1110, 1111, 1112, 1113, 1114, 1115, 1116, 1117, 1118, 1119, 1120, 1121, 1122, 1123, 1124, 1125, 1126, 1127, 1128, 1129, 1134, 1135, 1136, 1137, 1138, 1139, 1140, 1141, 1142, 1143, 1144, 1145, 1146, 1147, 1148, 1149, 1150, 1151, 1152, 1153, 1154, 1155, 1156, 1157, 1158, 1159, 1160, 1161, 1162, 1163, 1164, 1165, 1166, 1167, 1193, 1194, 1195, 2, 1196, 705, 536, 537, 725, 693, 223, 224, 44, 225, 139, 1168, 1169, 1170, 1171, 1172, 1173, 1174, 1175, 1415, 1416, 1417, 1418, 1419, 1420, 1421, 1422, 1423, 1424, 1425, 1447, 1448, 1449, 1450, 1451, 1452, 1453, 1454, 1455, 1456, 1457, 1458, 1459, 1460, 1479, 1480, 1481, 1482, 1483, 1484, 1464, 1465, 1466, 1467, 1485, 1486, 1487, 1488, 1489, 1490, 1475, 1476, 1477, 1478, 1468, 1469, 1470, 1471, 1472, 1473, 1474] (by decide +kernel) (by decide +kernel)
set_option maxRecDepth 20000 in
theorem gL_law_X6_renderWindows : GoodIn wsL_law (wsV RL 314 RX6 yX6_renderWindows wsX6_renderWindows) := goodIn_app (goodIn_of _ (by decide +kernel)) ggL_law_X6_renderWindows
set_option maxRecDepth 20000 in
theorem ggL_law_X7_renderWindows : GoodIn wsL_law wsX7_renderWindows := goodIn_ca (goodIn_ca (goodIn_r _ [1200, 180, 1180, 86, 1181, 1182, 1183, 5, 1184, 94, 99, 100, 101, 244, 245, 246, 247, 193, 194, 195, 1185, 1186, 1187, 1188, 1426, 1427, 1428, 1429, 1430, 1431, 1432, 1433, 1434, 1435, 1436, 1437, 1438, 1439, 1440, 1441, 1442, 1443, 1444, 1445, 1446] (by decide +kernel) (by decide +kernel)) (goodIn_sub (fun _ h => List.mem_append_left _ (List.mem_append_left _ (List.mem_append_left _ (List.mem_append_left _ (List.mem_append_left _ (List.mem_append_left _ (List.mem_append_left _ (List.mem_append_right _ h)))))))) (by decide +kernel))) (goodIn_sub (fun _ h => List.mem_append_right _ h) (by decide +kernel))
set_option maxRecDepth 20000 in
theorem gL_law_X7_renderWindows : GoodIn wsL_law (wsV RL 317 RX7 yX7_renderWindows wsX7_renderWindows) := goodIn_app (goodIn_of _ (by decide +kernel)) ggL_law_X7_renderWindows
set_option maxRecDepth 20000 in
theorem ggL_law_L_outputAt : GoodIn wsL_law wsL_outputAt := goodIn_ca (goodIn_ca (goodIn_r _ [1203, 208, 1204, 1205, 1206, 2, 1207, 158, 159, 30, 1168, 1169, 1170, 29, 1171, 1172, 1173, 1009, 1174, 66, 1175, 1015, 1208, 1209, 1210, 1211, 1212, 1213, 1214, 1215, 72, 71, 1216, 480, 324, 481, 1217, 1125, 1105, 1126, 1107, 1127, 1128, 1110, 1129, 1218, 1219, 75, 1220, 1115, 1116, 1117, 1100, 1101, 1102, 1415, 1416, 1417, 1418, 1419, 1420, 1421, 1422, 1423, 1424, 1425, 1464, 1465, 1466, 1467] (by decide +kernel) (by decide +kernel)) (goodIn_sub (fun _ h => List.mem_append_left _ (List.mem_append_left _ (List.mem_append_left _ (List.mem_append_left _ (List.mem_append_left _ (List.mem_append_left _ (List.mem_append_left _ (List.mem_append_right _ h)))))))) (by decide +kernel))) (goodIn_sub (fun _ h => List.mem_append_left _ (List.mem_append_left _ (List.mem_append_left _ (List.mem_append_left _ (List.mem_append_left _ (List.mem_append_left _ (List.mem_append_right _ h))))))) (by decide +kernel))
set_option maxRecDepth 20000 in
theorem gL_law_L_outputAt : GoodIn wsL_law (va_wsS RL 318 yL_outputAt wsL_outputAt) := goodIn_app (goodIn_of _ (by decide +kernel)) ggL_law_L_outputAt
set_option maxRecDepth 20000 in
theorem ggL_law_X7_outputAt : GoodIn wsL_law wsX7_outputAt := goodIn_ca (goodIn_r _ [1224, 180, 1180, 94, 186, 187, 5, 188, 189, 190, 191, 192, 1426, 1427, 1428, 1429, 1430, 1431, 1432, 1433, 1434, 1435, 1436, 1437, 1438, 1439, 1440, 1441, 1442, 1443, 1444, 1445, 1446] (by decide +kernel) (by decide +kernel)) (goodIn_sub (fun _ h => List.mem_append_left _ (List.mem_append_left _ (List.mem_append_left _ (List.mem_append_left _ (List.mem_append_left _ (List.mem_append_left _ (List.mem_append_left _ (List.mem_append_right _ h)))))))) (by decide +kernel))
set_option maxRecDepth 20000 in
theorem gL_law_X7_outputAt : GoodIn wsL_law (wsV RL 320 RX7 yX7_outputAt wsX7_outputAt) := goodIn_app (goodIn_of _ (by decide +kernel)) ggL_law_X7_outputAt
set_option maxRecDepth 20000 in
theorem ggL_law_L_type : GoodIn wsL_law wsL_type := goodIn_ca (goodIn_ca (goodIn_ca (goodIn_r _ [1227, 106, 1228, 1229, 1230, 2, 1231, 160, 161, 162, 163, 24, 1232, 1168, 1169, 1170, 29, 1171, 1172, 1173, 1009, 1174, 66, 1175, 1015, 1075, 1076, 1077, 1078, 1079, 1080, 1081, 1082, 71, 1017, 1018, 1019, 1020, 1021, 72, 1022, 1023, 1024, 1025, 1026, 1027, 1028, 1029, 1030, 1031, 1032, 483, 324, 484, 1033, 1034, 1035, 1036, 1037, 1038, 1039, 1040, 1041, 1042, 1043, 1044, 1045, 1046, 70, 1047, 480, 481, 1048, 1049, 1050, 1051, 1052, 1053, 1054, 1055, 1056, 69, 1083, 1084, 1059, 1085, 1086, 1087, 1088, 1089, 1090, 73, 74, 75, 76, 77, 78, 79, 80, 1091, 1092, 1093, 1094, 1095, 1096, 1097, 1098, 1099, 1100, 1101, 1102, 1103, 1104, 1105, 1106, 1107, 1108, 1109, 1110, 1111, 1112, 1113, 1114, 1115, 1116, 1117, 1118, 1119, 1120, 1121, 1122, 1123, 1124, 1125, 1126, 1127, 1128, 1129, 1415, 1416, 1417, 1418, 1419, 1420, 1421, 1422, 1423, 1424, 1425, 1461, 1462, 1463, 1464, 1465, 1466, 1467] (by decide +kernel) (by decide +kernel)) (goodIn_sub (fun _ h => List.mem_append_left _ (List.mem_append_left _ (List.mem_append_left _ (List.mem_append_left _ (List.mem_append_left _ (List.mem_append_left _ (List.mem_append_left _ (List.mem_append_right _ h)))))))) (by decide +kernel))) (goodIn_sub (fun _ h => List.mem_append_left _ (List.mem_append_left _ (List.mem_append_left _ (List.mem_append_left _ (List.mem_append_left _ (List.mem_append_right _ h)))))) (by decide +kernel))) (goodIn_sub (fun _ h => List.mem_append_left _ (List.mem_append_left _ (List.mem_append_left _ (List.mem_append_left _ (List.mem_append_right _ h))))) (by decide +kernel))
set_option maxRecDepth 20000 in
theorem gL_law_L_type : GoodIn wsL_law (va_wsS RL 321 yL_type wsL_type) := goodIn_app (goodIn_of _ (by decide +kernel)) ggL_law_L_type
set_option maxRecDepth 20000 in
theorem ggL_law_X7_type : GoodIn wsL_law wsX7_type := goodIn_ca (goodIn_r _ [1236, 180, 1237, 1238, 1239, 93, 186, 187, 5, 188, 189, 190, 191, 192, 1426, 1427, 1428, 1429, 1430, 1431, 1432, 1433, 1434, 1435, 1436, 1437, 1438, 1439, 1440, 1441, 1442, 1443, 1444, 1445, 1446] (by decide +kernel) (by decide +kernel)) (goodIn_sub (fun _ h => List.mem_append_left _ (List.mem_append_left _ (List.mem_append_left _ (List.mem_append_left _ (List.mem_append_left _ (List.mem_append_left _ (List.mem_append_left _ (List.mem_append_right _ h)))))))) (by decide +kernel))
set_option maxRecDepth 20000 in
theorem gL_law_X7_type : GoodIn wsL_law (wsV RL 324 RX7 yX7_type wsX7_type) := goodIn_app (goodIn_of _ (by decide +kernel)) ggL_law_X7_type
set_option maxRecDepth 20000 in
theorem gh_wsL_runScript : GoodIn wsL_law [Cond.codeWith yL_runScript cL_runScript 3 (some .int) [(0, 8, 11, 13), (0, 8, 14, 15)]] := goodIn_r _ [1242] (by decide +kernel) (by decide +kernel)
set_option maxRecDepth 20000 in
theorem gr_wsL_runScript_r1 : GoodIn wsL_law wsL_runScript_r1 := goodIn_r _ [106, 1243, 1244, 1245, 2, 1246, 160, 161, 162, 163, 24, 1247, 25, 1232, 18, 17, 26, 1248, 1249, 1250, 23, 1251, 1252, 59] (by decide +kernel) (by decide +kernel)
set_option maxRecDepth 20000 in
theorem gr_wsL_runScript_r2 : GoodIn wsL_law wsL_runScript_r2 := goodIn_r _ [1253, 1254, 1255, 1256, 1257, 1258, 483, 324, 484, 1259, 1260, 1261, 1262, 1263, 1264, 1265, 1105, 1266, 1267, 1268, 1269, 1270, 1271, 1272] (by decide +kernel) (by decide +kernel)
set_option maxRecDepth 20000 in
theorem gr_wsL_runScript_r3 : GoodIn wsL_law wsL_runScript_r3 := goodIn_r _ [1273, 1274, 1275, 1276, 1277, 1278, 1279, 1280, 1281, 1282, 1283, 1059, 1284, 1285, 1125, 1126, 1107, 1127, 1128, 1110, 1129, 1286, 1287, 75] (by decide +kernel) (by decide +kernel)
set_option maxRecDepth 20000 in
theorem gr_wsL_runScript_r4 : GoodIn wsL_law wsL_runScript_r4 := goodIn_r _ [1288, 1121, 1122, 1123, 1100, 1101, 1102, 1124, 1289, 1219, 1220, 1115, 1116, 1117, 1290, 1291, 1292, 1293, 60, 1294, 1295, 1296, 1297, 1298] (by decide +kernel) (by decide +kernel)
set_option maxRecDepth 20000 in
theorem gr_wsL_runScript_r5 : GoodIn wsL_law wsL_runScript_r5 := goodIn_r _ [1169, 1170, 29, 1171, 1172, 1173, 1009, 1174, 66, 1175, 1015, 1299, 1209, 1210, 1211, 1212, 1213, 1214, 1215, 72, 71, 1216, 480, 481] (by decide +kernel) (by decide +kernel)
set_option maxRecDepth 20000 in
theorem gr_wsL_runScript_r6 : GoodIn wsL_law wsL_runScript_r6 := goodIn_r _ [1217, 1218, 1300, 1301, 1302, 1303, 1003, 1004, 1005, 1006, 1007, 1008, 1010, 1011, 1012, 1013, 1014, 1016, 1017, 1018, 1019, 1020, 1021, 1022] (by decide +kernel) (by decide +kernel)
set_option maxRecDepth 20000 in
theorem gr_wsL_runScript_r7 : GoodIn wsL_law wsL_runScript_r7 := goodIn_r _ [1023, 1024, 1025, 1026, 1027, 1028, 1029, 1030, 1031, 1032, 1033, 1034, 1035, 1036, 1037, 1038, 1039, 1040, 1041, 1042, 1043, 1044, 1045, 1046] (by decide +kernel) (by decide +kernel)
set_option maxRecDepth 20000 in
theorem gr_wsL_runScript_r8 : GoodIn wsL_law wsL_runScript_r8 := goodIn_r _ [70, 1047, 1048, 1049, 1050, 1051, 1052, 1053, 1054, 1055, 1056, 69, 1057, 1058, 1060, 1061, 1062, 1063, 1064, 1065, 1066, 1067, 28, 1068] (by decide +kernel) (by decide +kernel)
set_option maxRecDepth 20000 in
theorem gr_wsL_runScript_r9 : GoodIn wsL_law wsL_runScript_r9 := goodIn_r _ [1069, 1070, 1071, 1072, 1073, 1074, 111, 112, 113, 16, 114, 38, 45, 42, 46, 47, 115, 116, 117, 118, 119, 120, 121, 122] (by decide +kernel) (by decide +kernel)
set_option maxRecDepth 20000 in
theorem gr_wsL_runScript_r10 : GoodIn wsL_law wsL_runScript_r10 := goodIn_r _ [123, 124, 125, 126, 40, 127, 128, 129, 130, 131, 132, 133, 134, 135, 136, 137, 44, 138, 139, 140, 54, 141, 1304, 1305] (by decide +kernel) (by decide +kernel)
set_option maxRecDepth 20000 in
theorem gr_wsL_runScript_r11 : GoodIn wsL_law wsL_runScript_r11 := goodIn_r _ [1306, 1307, 1308, 1309, 1310, 1311, 1312, 1313, 1314, 1315, 1316, 1317, 1318, 1319, 1320, 1321, 142, 143, 144, 145, 146, 147, 148, 149] (by decide +kernel) (by decide +kernel)
set_option maxRecDepth 20000 in
theorem gr_wsL_runScript_r12 : GoodIn wsL_law wsL_runScript_r12 := goodIn_r _ [213, 214, 215, 216, 217, 218, 219, 220, 221, 222, 223, 224, 225, 226, 227, 228, 229, 259, 260, 261, 262, 263, 264, 265] (by decide +kernel) (by decide +kernel)
set_option maxRecDepth 20000 in
theorem gr_wsL_runScript_r13 : GoodIn wsL_law wsL_runScript_r13 := goodIn_r _ [266, 267, 268, 269, 270, 271, 296, 297, 298, 299, 300, 301, 317, 318, 319, 320, 321, 322, 323, 325, 326, 327, 328, 329] (by decide +kernel) (by decide +kernel)
set_option maxRecDepth 20000 in
theorem gr_wsL_runScript_r14 : GoodIn wsL_law wsL_runScript_r14 := goodIn_r _ [330, 331, 332, 333, 362, 363, 364, 365, 366, 367, 368, 369, 370, 371, 372, 373, 374, 394, 395, 396, 397, 413, 414, 415] (by decide +kernel) (by decide +kernel)
set_option maxRecDepth 20000 in
theorem gr_wsL_runScript_r15 : GoodIn wsL_law wsL_runScript_r15 := goodIn_r _ [416, 417, 418, 419, 420, 421, 422, 423, 424, 425, 426, 427, 428, 452, 453, 454, 455, 456, 457, 458, 459, 460, 461, 462] (by decide +kernel) (by decide +kernel)
set_option maxRecDepth 20000 in
theorem gr_wsL_runScript_r16 : GoodIn wsL_law wsL_runScript_r16 := goodIn_r _ [463, 464, 465, 466, 467, 468, 469, 470, 471, 472, 473, 474, 475, 476, 477, 478, 479, 482, 485, 486, 487, 488, 150, 151] (by decide +kernel) (by decide +kernel)
set_option maxRecDepth 20000 in
theorem gr_wsL_runScript_r17 : GoodIn wsL_law wsL_runScript_r17 := goodIn_r _ [152, 153, 154, 20, 155, 156, 157, 158, 159, 164, 165, 166, 167, 168, 169, 170, 171] (by decide +kernel) (by decide +kernel)
set_option maxRecDepth 20000 in
theorem gx_wsL_runScript_wsX60 : GoodIn wsL_law wsX60 := goodIn_r _ [1415, 1416, 1417, 1418, 1419, 1420, 1421, 1422, 1423, 1424, 1425] (by decide +kernel) (by decide +kernel)
set_option maxRecDepth 20000 in
theorem gx_wsL_runScript_wsX40 : GoodIn wsL_law wsX40 := goodIn_r _ [1461, 1462, 1463] (by decide +kernel) (by decide +kernel)
set_option maxRecDepth 20000 in
theorem gx_wsL_runScript_wsJ00 : GoodIn wsL_law wsJ00 := goodIn_r _ [1491, 1492, 1493, 1494] (by decide +kernel) (by decide +kernel)
set_option maxRecDepth 20000 in
theorem gx_wsL_runScript_wsJ40 : GoodIn wsL_law wsJ40 := goodIn_r _ [1464, 1465, 1466, 1467] (by decide +kernel) (by decide +kernel)
set_option maxRecDepth 20000 in
theorem gx_wsL_runScript_wsJx7c7330 : GoodIn wsL_law wsJx7c7330 := goodIn_r _ [1479, 1480, 1481, 1482, 1483, 1484] (by decide +kernel) (by decide +kernel)
set_option maxRecDepth 20000 in
theorem gx_wsL_runScript_wsJx000600 : GoodIn wsL_law wsJx000600 := goodIn_r _ [1485, 1486, 1487, 1488, 1489, 1490] (by decide +kernel) (by decide +kernel)
set_option maxRecDepth 20000 in
theorem gx_wsL_runScript_wsX30 : GoodIn wsL_law wsX30 := goodIn_r _ [1447, 1448, 1449, 1450, 1451, 1452, 1453, 1454, 1455, 1456, 1457, 1458, 1459, 1460] (by decide +kernel) (by decide +kernel)
set_option maxRecDepth 20000 in
theorem gx_wsL_runScript_wsX20 : GoodIn wsL_law wsX20 := goodIn_r _ [1468, 1469, 1470, 1471, 1472, 1473, 1474] (by decide +kernel) (by decide +kernel)
set_option maxRecDepth 20000 in
theorem gx_wsL_runScript_wsX50 : GoodIn wsL_law wsX50 := goodIn_r _ [1475, 1476, 1477, 1478] (by decide +kernel) (by decide +kernel)
set_option maxRecDepth 20000 in
theorem ggL_law_L_runScript : GoodIn wsL_law wsL_runScript := goodIn_ca (goodIn_ca (goodIn_ca (goodIn_ca (goodIn_ca (goodIn_ca (goodIn_app (a := [_]) gh_wsL_runScript (goodIn_app (goodIn_app (goodIn_app (goodIn_app (goodIn_app (goodIn_app (goodIn_app (goodIn_app (goodIn_app (goodIn_app gr_wsL_runScript_r1 (goodIn_app gr_wsL_runScript_r2 (goodIn_app gr_wsL_runScript_r3 (goodIn_app gr_wsL_runScript_r4 (goodIn_app gr_wsL_runScript_r5 (goodIn_app gr_wsL_runScript_r6 (goodIn_app gr_wsL_runScript_r7 (goodIn_app gr_wsL_runScript_r8 (goodIn_app gr_wsL_runScript_r9 (goodIn_app gr_wsL_runScript_r10 (goodIn_app gr_wsL_runScript_r11 (goodIn_app gr_wsL_runScript_r12 (goodIn_app gr_wsL_runScript_r13 (goodIn_app gr_wsL_runScript_r14 (goodIn_app gr_wsL_runScript_r15 (goodIn_app gr_wsL_runScript_r16 gr_wsL_runScript_r17)))))))))))))))) gx_wsL_runScript_wsX60) gx_wsL_runScript_wsX40) gx_wsL_runScript_wsJ00) gx_wsL_runScript_wsJ40) gx_wsL_runScript_wsJx7c7330) gx_wsL_runScript_wsJx000600) gx_wsL_runScript_wsX30) gx_wsL_runScript_wsX20) gx_wsL_runScript_wsX50)) (goodIn_sub (fun _ h => List.mem_append_left _ (List.mem_append_left _ (List.mem_append_left _ (List.mem_append_left _ (List.mem_append_left _ (List.mem_append_left _ (List.mem_append_left _ (List.mem_append_right _ h)))))))) (by decide +kernel))) (goodIn_sub (fun _ h => List.mem_append_left _ (List.mem_append_left _ (List.mem_append_left _ (List.mem_append_left _ (List.mem_append_left _ (List.mem_append_right _ h)))))) (by decide +kernel))) (goodIn_sub (fun _ h => List.mem_append_left _ (List.mem_append_left _ (List.mem_append_left _ (List.mem_append_left _ (List.mem_append_right _ h))))) (by decide +kernel))) (goodIn_sub (fun _ h => List.mem_append_left _ (List.mem_append_left _ (List.mem_append_left _ (List.mem_append_left _ (List.mem_append_left _ (List.mem_append_left _ (List.mem_append_right _ h))))))) (by decide +kernel))) (goodIn_sub (fun _ h => List.mem_append_left _ (List.mem_append_left _ (List.mem_append_left _ (List.mem_append_right _ h)))) (by decide +kernel))) (goodIn_sub (fun _ h => List.mem_append_left _ (List.mem_append_left _ (List.mem_append_right _ h))) (by decide +kernel))
set_option maxRecDepth 20000 in
theorem gL_law_L_runScript : GoodIn wsL_law (va_wsS RL 325 yL_runScript wsL_runScript) := goodIn_app (goodIn_of _ (by decide +kernel)) ggL_law_L_runScript
set_option maxRecDepth 20000 in
theorem gh_wsX7_runScript : GoodIn wsL_law [Cond.code yX7_runScript cX7_runScript 4 (some .int)] := goodIn_r _ [1325] (by decide +kernel) (by decide +kernel)
set_option maxRecDepth 20000 in
theorem gr_wsX7_runScript_r1 : GoodIn wsL_law wsX7_runScript_r1 := goodIn_r _ [1239, 1326, 1327, 1328, 1329, 91, 180, 86, 87, 92, 176, 177, 178, 5, 179, 1330, 1331, 1332, 1333, 97, 98, 1334, 1335, 1336] (by decide +kernel) (by decide +kernel)
set_option maxRecDepth 20000 in
theorem gr_wsX7_runScript_r2 : GoodIn wsL_law wsX7_runScript_r2 := goodIn_r _ [1337, 93, 96, 1338, 1339, 1340, 1341, 1342, 1343, 1344, 1345, 1346, 1347, 186, 187, 188, 1348, 1349, 1350, 1351, 1352, 1353, 1354, 1355] (by decide +kernel) (by decide +kernel)
set_option maxRecDepth 20000 in
theorem gr_wsX7_runScript_r3 : GoodIn wsL_law wsX7_runScript_r3 := goodIn_r _ [189, 190, 191, 192, 1356, 1357, 1358, 1359, 181, 182, 183, 184, 185, 193, 194, 195, 234, 235, 236, 237, 238, 239, 240, 241] (by decide +kernel) (by decide +kernel)
set_option maxRecDepth 20000 in
theorem gr_wsX7_runScript_r4 : GoodIn wsL_law wsX7_runScript_r4 := goodIn_r _ [242, 243, 244, 245, 246, 247, 99, 100, 101, 248, 249, 250, 251, 276, 277, 278, 279, 280, 281, 282, 283, 284, 285, 286] (by decide +kernel) (by decide +kernel)
set_option maxRecDepth 20000 in
theorem gr_wsX7_runScript_r5 : GoodIn wsL_law wsX7_runScript_r5 := goodIn_r _ [287, 338, 339, 340, 341, 342, 323, 324, 325, 343, 344, 345, 346, 347, 348, 349, 350, 351, 352, 353, 354, 379, 380, 381] (by decide +kernel) (by decide +kernel)
set_option maxRecDepth 20000 in
theorem gr_wsX7_runScript_r6 : GoodIn wsL_law wsX7_runScript_r6 := goodIn_r _ [382, 383, 384, 385, 386, 402, 403, 404, 405, 433, 434, 435, 436, 437, 438, 439, 440, 441, 442, 443, 444, 306, 307, 308] (by decide +kernel) (by decide +kernel)
set_option maxRecDepth 20000 in
theorem gr_wsX7_runScript_r7 : GoodIn wsL_law wsX7_runScript_r7 := goodIn_r _ [309, 493, 494, 495, 496, 497, 498, 499, 500, 501, 502, 503, 504, 505, 506, 507, 508, 509, 510, 480, 481, 511, 512, 513] (by decide +kernel) (by decide +kernel)
set_option maxRecDepth 20000 in
theorem gr_wsX7_runScript_r8 : GoodIn wsL_law wsX7_runScript_r8 := goodIn_r _ [514, 515, 483, 484, 516, 517, 518, 519, 196, 197, 198, 199, 200, 90] (by decide +kernel) (by decide +kernel)
set_option maxRecDepth 20000 in
theorem gx_wsX7_runScript_wsX70 : GoodIn wsL_law wsX70 := goodIn_r _ [1426, 1427, 1428, 1429, 1430, 1431, 1432, 1433, 1434, 1435, 1436, 1437, 1438, 1439, 1440, 1441, 1442, 1443, 1444, 1445, 1446] (by decide +kernel) (by decide +kernel)
set_option maxRecDepth 20000 in
theorem ggL_law_X7_runScript : GoodIn wsL_law wsX7_runScript := goodIn_ca (goodIn_app (a := [_]) gh_wsX7_runScript (goodIn_app (goodIn_app gr_wsX7_runScript_r1 (goodIn_app gr_wsX7_runScript_r2 (goodIn_app gr_wsX7_runScript_r3 (goodIn_app gr_wsX7_runScript_r4 (goodIn_app gr_wsX7_runScript_r5 (goodIn_app gr_wsX7_runScript_r6 (goodIn_app gr_wsX7_runScript_r7 gr_wsX7_runScript_r8))))))) gx_wsX7_runScript_wsX70)) (goodIn_sub (fun _ h => List.mem_append_left _ (List.mem_append_left _ (List.mem_append_left _ (List.mem_append_left _ (List.mem_append_left _ (List.mem_append_left _ (List.mem_append_left _ (List.mem_append_right _ h)))))))) (by decide +kernel))
set_option maxRecDepth 20000 in
theorem gL_law_X7_runScript : GoodIn wsL_law (wsV RL 327 RX7 yX7_runScript wsX7_runScript) := goodIn_app (goodIn_of _ (by decide +kernel)) ggL_law_X7_runScript
set_option maxRecDepth 20000 in
theorem ggL_law_L_errorPosition : GoodIn wsL_law wsL_errorPosition := goodIn_ca (goodIn_ca (goodIn_r _ [1362, 291, 1363, 1364, 1365, 2, 1366, 166, 167, 25, 1415, 1416, 1417, 1418, 1419, 1420, 1421, 1422, 1423, 1424, 1425] (by decide +kernel) (by decide +kernel)) (goodIn_sub (fun _ h => List.mem_append_left _ (List.mem_append_left _ (List.mem_append_left _ (List.mem_append_left _ (List.mem_append_left _ (List.mem_append_left _ (List.mem_append_left _ (List.mem_append_right _ h)))))))) (by decide +kernel))) (goodIn_sub (fun _ h => List.mem_append_left _ (List.mem_append_left _ (List.mem_append_right _ h))) (by decide +kernel))
set_option maxRecDepth 20000 in
theorem gL_law_L_errorPosition : GoodIn wsL_law (va_wsS RL 328 yL_errorPosition wsL_errorPosition) := goodIn_app (goodIn_of _ (by decide +kernel)) ggL_law_L_errorPosition
set_option maxRecDepth 20000 in
theorem ggL_law_X7_errorPosition : GoodIn wsL_law wsX7_errorPosition := goodIn_r _ [1370, 180, 91, 189, 190, 191, 5, 192, 1426, 1427, 1428, 1429, 1430, 1431, 1432, 1433, 1434, 1435, 1436, 1437, 1438, 1439, 1440, 1441, 1442, 1443, 1444, 1445, 1446] (by decide +kernel) (by decide +kernel)
set_option maxRecDepth 20000 in
theorem gL_law_X7_errorPosition : GoodIn wsL_law (wsV RL 330 RX7 yX7_errorPosition wsX7_errorPosition) := goodIn_app (goodIn_of _ (by decide +kernel)) ggL_law_X7_errorPosition
set_option maxRecDepth 20000 in
theorem ggL_law_L_failedCommand : GoodIn wsL_law wsL_failedCommand := goodIn_ca (goodIn_ca (goodIn_r _ [1373, 291, 1374, 1375, 1376, 2, 1377, 166, 167, 26, 1415, 1416, 1417, 1418, 1419, 1420, 1421, 1422, 1423, 1424, 1425] (by decide +kernel) (by decide +kernel)) (goodIn_sub (fun _ h => List.mem_append_left _ (List.mem_append_left _ (List.mem_append_left _ (List.mem_append_left _ (List.mem_append_left _ (List.mem_append_left _ (List.mem_append_left _ (List.mem_append_right _ h)))))))) (by decide +kernel))) (goodIn_sub (fun _ h => List.mem_append_left _ (List.mem_append_left _ (List.mem_append_right _ h))) (by decide +kernel))
set_option maxRecDepth 20000 in
theorem gL_law_L_failedCommand : GoodIn wsL_law (va_wsS RL 331 yL_failedCommand wsL_failedCommand) := goodIn_app (goodIn_of _ (by decide +kernel)) ggL_law_L_failedCommand
set_option maxRecDepth 20000 in
theorem ggL_law_X7_failedCommand : GoodIn wsL_law wsX7_failedCommand := goodIn_r _ [1381, 180, 92, 189, 190, 191, 5, 192, 1426, 1427, 1428, 1429, 1430, 1431, 1432, 1433, 1434, 1435, 1436, 1437, 1438, 1439, 1440, 1441, 1442, 1443, 1444, 1445, 1446] (by decide +kernel) (by decide +kernel)
set_option maxRecDepth 20000 in
theorem gL_law_X7_failedCommand : GoodIn wsL_law (wsV RL 333 RX7 yX7_failedCommand wsX7_failedCommand) := goodIn_app (goodIn_of _ (by decide +kernel)) ggL_law_X7_failedCommand
set_option maxRecDepth 20000 in
theorem ggL_law_L_undo : GoodIn wsL_law wsL_undo := goodIn_ca (goodIn_ca (goodIn_r _ [1384, 291, 1385, 1386, 1387, 2, 1388, 166, 167, 154, 17, 20, 1415, 1416, 1417, 1418, 1419, 1420, 1421, 1422, 1423, 1424, 1425] (by decide +kernel) (by decide +kernel)) (goodIn_sub (fun _ h => List.mem_append_left _ (List.mem_append_left _ (List.mem_append_left _ (List.mem_append_left _ (List.mem_append_left _ (List.mem_append_left _ (List.mem_append_left _ (List.mem_append_right _ h)))))))) (by decide +kernel))) (goodIn_sub (fun _ h => List.mem_append_left _ (List.mem_append_left _ (List.mem_append_right _ h))) (by decide +kernel))
set_option maxRecDepth 20000 in
theorem gL_law_L_undo : GoodIn wsL_law (va_wsS RL 334 yL_undo wsL_undo) := goodIn_app (goodIn_of _ (by decide +kernel)) ggL_law_L_undo
set_option maxRecDepth 20000 in
theorem ggL_law_X7_undo : GoodIn wsL_law wsX7_undo := goodIn_ca (goodIn_r _ [1392, 180, 200, 86, 90, 189, 190, 191, 5, 192, 1426, 1427, 1428, 1429, 1430, 1431, 1432, 1433, 1434, 1435, 1436, 1437, 1438, 1439, 1440, 1441, 1442, 1443, 1444, 1445, 1446] (by decide +kernel) (by decide +kernel)) (goodIn_sub (fun _ h => List.mem_append_left _ (List.mem_append_left _ (List.mem_append_left _ (List.mem_append_left _ (List.mem_append_left _ (List.mem_append_left _ (List.mem_append_left _ (List.mem_append_right _ h)))))))) (by decide +kernel))
set_option maxRecDepth 20000 in
theorem gL_law_X7_undo : GoodIn wsL_law (wsV RL 336 RX7 yX7_undo wsX7_undo) := goodIn_app (goodIn_of _ (by decide +kernel)) ggL_law_X7_undo
set_option maxRecDepth 20000 in
theorem ggL_law_X6_save : GoodIn wsL_law wsX6_save := goodIn_ca (goodIn_r _ [1396, 19, 17, 1397, 524, 111, 112, 113, 16, 114, 38, 45, 42, 46, 47, 115, 116, 117, 118, 119, 120, 121, 122, 123, 124, 125, 126, 40, 127, 128, 129, 130, 131, 132, 133, 134, 135, 136, 137, 44, 138, 139, 140, 54, 141, 1415, 1416, 1417, 1418, 1419, 1420, 1421, 1422, 1423, 1424, 1425, 1447, 1448, 1449, 1450, 1451, 1452, 1453, 1454, 1455, 1456, 1457, 1458, 1459, 1460, 1468, 1469, 1470, 1471, 1472, 1473, 1474, 1475, 1476, 1477, 1478] (by decide +kernel) (by decide +kernel)) (goodIn_sub (fun _ h => List.mem_append_left _ (List.mem_append_left _ (List.mem_append_left _ (List.mem_append_left _ (List.mem_append_left _ (List.mem_append_left _ (List.mem_append_left _ (List.mem_append_right _ h)))))))) (by decide +kernel))
set_option maxRecDepth 20000 in
theorem gL_law_X6_save : GoodIn wsL_law (wsV RL 337 RX6 yX6_save wsX6_save) := goodIn_app (goodIn_of _ (by decide +kernel)) ggL_law_X6_save
set_option maxRecDepth 20000 in
theorem ggL_law_X7_save : GoodIn wsL_law wsX7_save := goodIn_ca (goodIn_r _ [1401, 180, 89, 86, 1402, 1426, 1427, 1428, 1429, 1430, 1431, 1432, 1433, 1434, 1435, 1436, 1437, 1438, 1439, 1440, 1441, 1442, 1443, 1444, 1445, 1446] (by decide +kernel) (by decide +kernel)) (goodIn_sub (fun _ h => List.mem_append_left _ (List.mem_append_left _ (List.mem_append_left _ (List.mem_append_left _ (List.mem_append_left _ (List.mem_append_left _ (List.mem_append_left _ (List.mem_append_right _ h)))))))) (by decide +kernel))
set_option maxRecDepth 20000 in
theorem gL_law_X7_save : GoodIn wsL_law (wsV RL 340 RX7 yX7_save wsX7_save) := goodIn_app (goodIn_of _ (by decide +kernel)) ggL_law_X7_save
set_option maxRecDepth 20000 in
theorem ggL_law_L_restore : GoodIn wsL_law wsL_restore := goodIn_ca (goodIn_ca (goodIn_r _ [1405, 1406, 1407, 1408, 1409, 2, 1410, 162, 163, 1397, 17, 19, 154, 524, 111, 112, 113, 16, 114, 38, 45, 42, 46, 47, 115, 116, 117, 118, 119, 120, 121, 122, 123, 124, 125, 126, 40, 127, 128, 129, 130, 131, 132, 133, 134, 135, 136, 137, 44, 138, 139, 140, 54, 141, 1415, 1416, 1417, 1418, 1419, 1420, 1421, 1422, 1423, 1424, 1425, 1447, 1448, 1449, 1450, 1451, 1452, 1453, 1454, 1455, 1456, 1457, 1458, 1459, 1460, 1468, 1469, 1470, 1471, 1472, 1473, 1474, 1475, 1476, 1477, 1478] (by decide +kernel) (by decide +kernel)) (goodIn_sub (fun _ h => List.mem_append_left _ (List.mem_append_left _ (List.mem_append_left _ (List.mem_append_left _ (List.mem_append_left _ (List.mem_append_left _ (List.mem_append_left _ (List.mem_append_right _ h)))))))) (by decide +kernel))) (goodIn_sub (fun _ h => List.mem_append_left _ (List.mem_append_left _ (List.mem_append_left _ (List.mem_append_left _ (List.mem_append_right _ h))))) (by decide +kernel))
set_option maxRecDepth 20000 in
theorem gL_law_L_restore : GoodIn wsL_law (va_wsS RL 341 yL_restore wsL_restore) := goodIn_app (goodIn_of _ (by decide +kernel)) ggL_law_L_restore
set_option maxRecDepth 20000 in
theorem ggL_law_X7_restore : GoodIn wsL_law wsX7_restore := goodIn_ca (goodIn_r _ [1414, 180, 1402, 86, 89, 200, 189, 190, 191, 5, 192, 1426, 1427, 1428, 1429, 1430, 1431, 1432, 1433, 1434, 1435, 1436, 1437, 1438, 1439, 1440, 1441, 1442, 1443, 1444, 1445, 1446] (by decide +kernel) (by decide +kernel)) (goodIn_sub (fun _ h => List.mem_append_left _ (List.mem_append_left _ (List.mem_append_left _ (List.mem_append_left _ (List.mem_append_left _ (List.mem_append_left _ (List.mem_append_left _ (List.mem_append_right _ h)))))))) (by decide +kernel))
set_option maxRecDepth 20000 in
theorem gL_law_X7_restore : GoodIn wsL_law (wsV RL 343 RX7 yX7_restore wsX7_restore) := goodIn_app (goodIn_of _ (by decide +kernel)) ggL_law_X7_restore
