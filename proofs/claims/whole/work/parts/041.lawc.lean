set_option maxRecDepth 20000 in
theorem ggL_law_X7_customerByWaitingTime : GoodIn wsL_law wsX7_customerByWaitingTime := goodIn_ca (goodIn_rr _ [(912, 1), (180, 1), (86, 1), (193, 2), (5, 1), (195, 1), (189, 4), (1426, 21)] rfl (by decide +kernel)) (goodIn_sub (fun _ h => List.mem_append_left _ (List.mem_append_left _ (List.mem_append_left _ (List.mem_append_left _ (List.mem_append_left _ (List.mem_append_left _ (List.mem_append_left _ (List.mem_append_right _ h)))))))) (by decide +kernel))
set_option maxRecDepth 20000 in
theorem gL_law_X7_customerByWaitingTime : GoodIn wsL_law (wsV RL 277 RX7 yX7_customerByWaitingTime wsX7_customerByWaitingTime) := goodIn_app (goodIn_of _ (by decide +kernel)) ggL_law_X7_customerByWaitingTime
set_option maxRecDepth 20000 in
theorem ggL_law_X6_minute : GoodIn wsL_law wsX6_minute := goodIn_rr _ [(916, 1), (17, 1), (917, 1), (1415, 11), (1447, 14)] rfl (by decide +kernel)
set_option maxRecDepth 20000 in
theorem gL_law_X6_minute : GoodIn wsL_law (wsV RL 278 RX6 yX6_minute wsX6_minute) := goodIn_app (goodIn_of _ (by decide +kernel)) ggL_law_X6_minute
set_option maxRecDepth 20000 in
theorem ggL_law_X7_minute : GoodIn wsL_law wsX7_minute := goodIn_ca (goodIn_rr _ [(921, 4), (5, 1), (925, 1), (180, 1), (86, 1), (1426, 21)] rfl (by decide +kernel)) (goodIn_sub (fun _ h => List.mem_append_left _ (List.mem_append_left _ (List.mem_append_left _ (List.mem_append_left _ (List.mem_append_left _ (List.mem_append_left _ (List.mem_append_left _ (List.mem_append_right _ h)))))))) (by decide +kernel))
set_option maxRecDepth 20000 in
theorem gL_law_X7_minute : GoodIn wsL_law (wsV RL 281 RX7 yX7_minute wsX7_minute) := goodIn_app (goodIn_of _ (by decide +kernel)) ggL_law_X7_minute
set_option maxRecDepth 20000 in
theorem ggL_law_X6_addedTotal : GoodIn wsL_law wsX6_addedTotal := goodIn_rr _ [(929, 1), (17, 1), (930, 1), (1415, 11), (1447, 14)] rfl (by decide +kernel)
set_option maxRecDepth 20000 in
theorem gL_law_X6_addedTotal : GoodIn wsL_law (wsV RL 282 RX6 yX6_addedTotal wsX6_addedTotal) := goodIn_app (goodIn_of _ (by decide +kernel)) ggL_law_X6_addedTotal
set_option maxRecDepth 20000 in
theorem ggL_law_X7_addedTotal : GoodIn wsL_law wsX7_addedTotal := goodIn_ca (goodIn_rr _ [(934, 1), (922, 3), (5, 1), (925, 1), (180, 1), (86, 1), (1426, 21)] rfl (by decide +kernel)) (goodIn_sub (fun _ h => List.mem_append_left _ (List.mem_append_left _ (List.mem_append_left _ (List.mem_append_left _ (List.mem_append_left _ (List.mem_append_left _ (List.mem_append_left _ (List.mem_append_right _ h)))))))) (by decide +kernel))
set_option maxRecDepth 20000 in
theorem gL_law_X7_addedTotal : GoodIn wsL_law (wsV RL 285 RX7 yX7_addedTotal wsX7_addedTotal) := goodIn_app (goodIn_of _ (by decide +kernel)) ggL_law_X7_addedTotal
set_option maxRecDepth 20000 in
theorem ggL_law_X6_servedTotal : GoodIn wsL_law wsX6_servedTotal := goodIn_rr _ [(938, 1), (17, 1), (853, 1), (1415, 11), (1447, 14)] rfl (by decide +kernel)
set_option maxRecDepth 20000 in
theorem gL_law_X6_servedTotal : GoodIn wsL_law (wsV RL 286 RX6 yX6_servedTotal wsX6_servedTotal) := goodIn_app (goodIn_of _ (by decide +kernel)) ggL_law_X6_servedTotal
set_option maxRecDepth 20000 in
theorem ggL_law_X7_servedTotal : GoodIn wsL_law wsX7_servedTotal := goodIn_ca (goodIn_rr _ [(942, 1), (922, 3), (5, 1), (925, 1), (180, 1), (86, 1), (1426, 21)] rfl (by decide +kernel)) (goodIn_sub (fun _ h => List.mem_append_left _ (List.mem_append_left _ (List.mem_append_left _ (List.mem_append_left _ (List.mem_append_left _ (List.mem_append_left _ (List.mem_append_left _ (List.mem_append_right _ h)))))))) (by decide +kernel))
set_option maxRecDepth 20000 in
theorem gL_law_X7_servedTotal : GoodIn wsL_law (wsV RL 289 RX7 yX7_servedTotal wsX7_servedTotal) := goodIn_app (goodIn_of _ (by decide +kernel)) ggL_law_X7_servedTotal
set_option maxRecDepth 20000 in
theorem ggL_law_X6_walkedOutTotal : GoodIn wsL_law wsX6_walkedOutTotal := goodIn_rr _ [(946, 1), (17, 1), (947, 1), (1415, 11), (1447, 14)] rfl (by decide +kernel)
set_option maxRecDepth 20000 in
theorem gL_law_X6_walkedOutTotal : GoodIn wsL_law (wsV RL 290 RX6 yX6_walkedOutTotal wsX6_walkedOutTotal) := goodIn_app (goodIn_of _ (by decide +kernel)) ggL_law_X6_walkedOutTotal
set_option maxRecDepth 20000 in
theorem ggL_law_X7_walkedOutTotal : GoodIn wsL_law wsX7_walkedOutTotal := goodIn_ca (goodIn_rr _ [(951, 1), (922, 3), (5, 1), (925, 1), (180, 1), (86, 1), (1426, 21)] rfl (by decide +kernel)) (goodIn_sub (fun _ h => List.mem_append_left _ (List.mem_append_left _ (List.mem_append_left _ (List.mem_append_left _ (List.mem_append_left _ (List.mem_append_left _ (List.mem_append_left _ (List.mem_append_right _ h)))))))) (by decide +kernel))
set_option maxRecDepth 20000 in
theorem gL_law_X7_walkedOutTotal : GoodIn wsL_law (wsV RL 293 RX7 yX7_walkedOutTotal wsX7_walkedOutTotal) := goodIn_app (goodIn_of _ (by decide +kernel)) ggL_law_X7_walkedOutTotal
set_option maxRecDepth 20000 in
theorem ggL_law_X6_sighTotal : GoodIn wsL_law wsX6_sighTotal := goodIn_rr _ [(955, 1), (17, 1), (836, 1), (1415, 11), (1447, 14)] rfl (by decide +kernel)
set_option maxRecDepth 20000 in
theorem gL_law_X6_sighTotal : GoodIn wsL_law (wsV RL 294 RX6 yX6_sighTotal wsX6_sighTotal) := goodIn_app (goodIn_of _ (by decide +kernel)) ggL_law_X6_sighTotal
set_option maxRecDepth 20000 in
theorem ggL_law_X7_sighTotal : GoodIn wsL_law wsX7_sighTotal := goodIn_ca (goodIn_rr _ [(959, 1), (922, 3), (5, 1), (925, 1), (180, 1), (86, 1), (1426, 21)] rfl (by decide +kernel)) (goodIn_sub (fun _ h => List.mem_append_left _ (List.mem_append_left _ (List.mem_append_left _ (List.mem_append_left _ (List.mem_append_left _ (List.mem_append_left _ (List.mem_append_left _ (List.mem_append_right _ h)))))))) (by decide +kernel))
set_option maxRecDepth 20000 in
theorem gL_law_X7_sighTotal : GoodIn wsL_law (wsV RL 297 RX7 yX7_sighTotal wsX7_sighTotal) := goodIn_app (goodIn_of _ (by decide +kernel)) ggL_law_X7_sighTotal
set_option maxRecDepth 20000 in
theorem ggL_law_L_meanPatience : GoodIn wsL_law wsL_meanPatience := goodIn_ca (goodIn_ca (goodIn_rr _ [(962, 5), (2, 1), (967, 3), (17, 1), (524, 1), (536, 1), (558, 1), (1415, 11), (1447, 14), (1468, 7)] rfl (by decide +kernel)) (goodIn_sub (fun _ h => List.mem_append_left _ (List.mem_append_left _ (List.mem_append_left _ (List.mem_append_left _ (List.mem_append_left _ (List.mem_append_left _ (List.mem_append_left _ (List.mem_append_right _ h)))))))) (by decide +kernel))) (goodIn_sub (fun _ h => List.mem_append_left _ (List.mem_append_right _ h)) (by decide +kernel))
set_option maxRecDepth 20000 in
theorem gL_law_L_meanPatience : GoodIn wsL_law (va_wsS RL 298 yL_meanPatience wsL_meanPatience) := goodIn_app (goodIn_of _ (by decide +kernel)) ggL_law_L_meanPatience
set_option maxRecDepth 20000 in
theorem ggL_law_X7_meanPatience : GoodIn wsL_law wsX7_meanPatience := goodIn_ca (goodIn_rr _ [(973, 1), (180, 1), (86, 1), (189, 3), (5, 1), (192, 4), (1426, 21)] rfl (by decide +kernel)) (goodIn_sub (fun _ h => List.mem_append_left _ (List.mem_append_left _ (List.mem_append_left _ (List.mem_append_left _ (List.mem_append_left _ (List.mem_append_left _ (List.mem_append_left _ (List.mem_append_right _ h)))))))) (by decide +kernel))
set_option maxRecDepth 20000 in
theorem gL_law_X7_meanPatience : GoodIn wsL_law (wsV RL 301 RX7 yX7_meanPatience wsX7_meanPatience) := goodIn_app (goodIn_of _ (by decide +kernel)) ggL_law_X7_meanPatience
set_option maxRecDepth 20000 in
theorem ggL_law_L_calmShare : GoodIn wsL_law wsL_calmShare := goodIn_ca (goodIn_ca (goodIn_rr _ [(976, 1), (963, 1), (977, 3), (2, 1), (980, 1), (968, 2), (17, 1), (853, 1), (981, 1), (1415, 11), (1447, 14)] rfl (by decide +kernel)) (goodIn_sub (fun _ h => List.mem_append_left _ (List.mem_append_left _ (List.mem_append_left _ (List.mem_append_left _ (List.mem_append_left _ (List.mem_append_left _ (List.mem_append_left _ (List.mem_append_right _ h)))))))) (by decide +kernel))) (goodIn_sub (fun _ h => List.mem_append_left _ (List.mem_append_right _ h)) (by decide +kernel))
set_option maxRecDepth 20000 in
theorem gL_law_L_calmShare : GoodIn wsL_law (va_wsS RL 302 yL_calmShare wsL_calmShare) := goodIn_app (goodIn_of _ (by decide +kernel)) ggL_law_L_calmShare
set_option maxRecDepth 20000 in
theorem ggL_law_X7_calmShare : GoodIn wsL_law wsX7_calmShare := goodIn_ca (goodIn_rr _ [(985, 1), (180, 1), (86, 1), (189, 3), (5, 1), (192, 1), (1426, 21)] rfl (by decide +kernel)) (goodIn_sub (fun _ h => List.mem_append_left _ (List.mem_append_left _ (List.mem_append_left _ (List.mem_append_left _ (List.mem_append_left _ (List.mem_append_left _ (List.mem_append_left _ (List.mem_append_right _ h)))))))) (by decide +kernel))
set_option maxRecDepth 20000 in
theorem gL_law_X7_calmShare : GoodIn wsL_law (wsV RL 304 RX7 yX7_calmShare wsX7_calmShare) := goodIn_app (goodIn_of _ (by decide +kernel)) ggL_law_X7_calmShare
set_option maxRecDepth 20000 in
theorem ggL_law_X6_isConsistent : GoodIn wsL_law wsX6_isConsistent := goodIn_ca (goodIn_ca (goodIn_rr _ [(989, 1), (17, 1), (524, 1), (930, 1), (853, 1), (990, 1), (947, 1), (630, 1), (331, 2), (16, 1), (333, 1), (116, 1), (45, 1), (642, 1), (368, 3), (42, 1), (267, 1), (991, 1), (734, 2), (2, 1), (736, 1), (654, 2), (536, 1), (606, 1), (538, 4), (158, 2), (542, 1), (327, 3), (115, 1), (992, 1), (745, 3), (993, 1), (754, 7), (38, 1), (301, 1), (994, 1), (766, 3), (32, 1), (769, 4), (1415, 11), (1447, 14), (1475, 4), (1468, 7)] rfl (by decide +kernel)) (goodIn_sub (fun _ h => List.mem_append_left _ (List.mem_append_left _ (List.mem_append_left _ (List.mem_append_left _ (List.mem_append_left _ (List.mem_append_left _ (List.mem_append_left _ (List.mem_append_right _ h)))))))) (by decide +kernel))) (goodIn_sub (fun _ h => List.mem_append_left _ (List.mem_append_left _ (List.mem_append_left _ (List.mem_append_left _ (List.mem_append_left _ (List.mem_append_left _ (List.mem_append_right _ h))))))) (by decide +kernel))
set_option maxRecDepth 20000 in
theorem gL_law_X6_isConsistent : GoodIn wsL_law (wsV RL 305 RX6 yX6_isConsistent wsX6_isConsistent) := goodIn_app (goodIn_of _ (by decide +kernel)) ggL_law_X6_isConsistent
set_option maxRecDepth 20000 in
theorem ggL_law_X7_isConsistent : GoodIn wsL_law wsX7_isConsistent := goodIn_rr _ [(998, 1), (180, 1), (1426, 21)] rfl (by decide +kernel)
set_option maxRecDepth 20000 in
theorem gL_law_X7_isConsistent : GoodIn wsL_law (wsV RL 309 RX7 yX7_isConsistent wsX7_isConsistent) := goodIn_app (goodIn_of _ (by decide +kernel)) ggL_law_X7_isConsistent
set_option maxRecDepth 20000 in
theorem ggL_law_X6_renderQueue : GoodIn wsL_law wsX6_renderQueue := goodIn_ca (goodIn_rr _ [(1002, 1), (30, 1), (17, 1), (654, 1), (536, 1), (655, 1), (1003, 3), (29, 1), (1006, 5), (66, 1), (1011, 5), (71, 1), (1016, 6), (72, 1), (1022, 11), (483, 1), (324, 1), (484, 1), (1033, 14), (70, 1), (1047, 1), (480, 2), (1048, 9), (69, 1), (1057, 11), (28, 1), (1068, 5), (75, 1), (1073, 18), (73, 2), (76, 5), (1091, 42), (2, 1), (1133, 1), (537, 1), (606, 1), (618, 1), (1134, 42), (1415, 11), (1447, 14), (1479, 6), (1464, 4), (1485, 6), (1468, 7)] rfl (by decide +kernel)) (goodIn_sub (fun _ h => List.mem_append_left _ (List.mem_append_left _ (List.mem_append_left _ (List.mem_append_left _ (List.mem_append_left _ (List.mem_append_left _ (List.mem_append_left _ (List.mem_append_right _ h)))))))) (by decide +kernel))
set_option maxRecDepth 20000 in
theorem gL_law_X6_renderQueue : GoodIn wsL_law (wsV RL 310 RX6 yX6_renderQueue wsX6_renderQueue) := goodIn_app (goodIn_of _ (by decide +kernel)) ggL_law_X6_renderQueue
set_option maxRecDepth 20000 in
theorem ggL_law_X7_renderQueue : GoodIn wsL_law wsX7_renderQueue := goodIn_ca (goodIn_ca (goodIn_rr _ [(1179, 1), (180, 1), (1180, 1), (86, 1), (193, 2), (5, 1), (195, 1), (1181, 4), (94, 1), (1185, 4), (1426, 21)] rfl (by decide +kernel)) (goodIn_sub (fun _ h => List.mem_append_left _ (List.mem_append_left _ (List.mem_append_left _ (List.mem_append_left _ (List.mem_append_left _ (List.mem_append_left _ (List.mem_append_left _ (List.mem_append_right _ h)))))))) (by decide +kernel))) (goodIn_sub (fun _ h => List.mem_append_right _ h) (by decide +kernel))
set_option maxRecDepth 20000 in
theorem gL_law_X7_renderQueue : GoodIn wsL_law (wsV RL 313 RX7 yX7_renderQueue wsX7_renderQueue) := goodIn_app (goodIn_of _ (by decide +kernel)) ggL_law_X7_renderQueue
set_option maxRecDepth 20000 in
theorem ggL_law_X6_renderWindows : GoodIn wsL_law wsX6_renderWindows := goodIn_rr _ [(1192, 1), (30, 1), (17, 1), (675, 1), (1003, 3), (29, 1), (1006, 5), (66, 1), (1011, 5), (71, 1), (1016, 6), (72, 1), (1022, 11), (483, 1), (324, 1), (484, 1), (1033, 14), (70, 1), (1047, 1), (480, 2), (1048, 9), (69, 1), (1057, 11), (28, 1), (1068, 5), (75, 1), (1073, 18), (73, 2), (76, 5), (1091, 39), (1134, 34), (1193, 3), (2, 1), (1196, 1), (705, 1), (536, 2), (725, 1), (693, 1), (223, 2), (44, 1), (225, 1), (139, 1), (1168, 8), (1415, 11), (1447, 14), (1479, 6), (1464, 4), (1485, 6), (1475, 4), (1468, 7)] rfl (by decide +kernel)
set_option maxRecDepth 20000 in
theorem gL_law_X6_renderWindows : GoodIn wsL_law (wsV RL 314 RX6 yX6_renderWindows wsX6_renderWindows) := goodIn_app (goodIn_of _ (by decide +kernel)) ggL_law_X6_renderWindows
set_option maxRecDepth 20000 in
theorem ggL_law_X7_renderWindows : GoodIn wsL_law wsX7_renderWindows := goodIn_ca (goodIn_ca (goodIn_rr _ [(1200, 1), (180, 1), (1180, 1), (86, 1), (1181, 3), (5, 1), (1184, 1), (94, 1), (99, 3), (244, 4), (193, 3), (1185, 4), (1426, 21)] rfl (by decide +kernel)) (goodIn_sub (fun _ h => List.mem_append_left _ (List.mem_append_left _ (List.mem_append_left _ (List.mem_append_left _ (List.mem_append_left _ (List.mem_append_left _ (List.mem_append_left _ (List.mem_append_right _ h)))))))) (by decide +kernel))) (goodIn_sub (fun _ h => List.mem_append_right _ h) (by decide +kernel))
set_option maxRecDepth 20000 in
theorem gL_law_X7_renderWindows : GoodIn wsL_law (wsV RL 317 RX7 yX7_renderWindows wsX7_renderWindows) := goodIn_app (goodIn_of _ (by decide +kernel)) ggL_law_X7_renderWindows
set_option maxRecDepth 20000 in
theorem ggL_law_L_outputAt : GoodIn wsL_law wsL_outputAt := goodIn_ca (goodIn_ca (goodIn_rr _ [(1203, 1), (208, 1), (1204, 3), (2, 1), (1207, 1), (158, 2), (30, 1), (1168, 3), (29, 1), (1171, 3), (1009, 1), (1174, 1), (66, 1), (1175, 1), (1015, 1), (1208, 8), (72, 1), (71, 1), (1216, 1), (480, 1), (324, 1), (481, 1), (1217, 1), (1125, 1), (1105, 1), (1126, 1), (1107, 1), (1127, 2), (1110, 1), (1129, 1), (1218, 2), (75, 1), (1220, 1), (1115, 3), (1100, 3), (1415, 11), (1464, 4)] rfl (by decide +kernel)) (goodIn_sub (fun _ h => List.mem_append_left _ (List.mem_append_left _ (List.mem_append_left _ (List.mem_append_left _ (List.mem_append_left _ (List.mem_append_left _ (List.mem_append_left _ (List.mem_append_right _ h)))))))) (by decide +kernel))) (goodIn_sub (fun _ h => List.mem_append_left _ (List.mem_append_left _ (List.mem_append_left _ (List.mem_append_left _ (List.mem_append_left _ (List.mem_append_left _ (List.mem_append_right _ h))))))) (by decide +kernel))
set_option maxRecDepth 20000 in
theorem gL_law_L_outputAt : GoodIn wsL_law (va_wsS RL 318 yL_outputAt wsL_outputAt) := goodIn_app (goodIn_of _ (by decide +kernel)) ggL_law_L_outputAt
set_option maxRecDepth 20000 in
theorem ggL_law_X7_outputAt : GoodIn wsL_law wsX7_outputAt := goodIn_ca (goodIn_rr _ [(1224, 1), (180, 1), (1180, 1), (94, 1), (186, 2), (5, 1), (188, 5), (1426, 21)] rfl (by decide +kernel)) (goodIn_sub (fun _ h => List.mem_append_left _ (List.mem_append_left _ (List.mem_append_left _ (List.mem_append_left _ (List.mem_append_left _ (List.mem_append_left _ (List.mem_append_left _ (List.mem_append_right _ h)))))))) (by decide +kernel))
set_option maxRecDepth 20000 in
theorem gL_law_X7_outputAt : GoodIn wsL_law (wsV RL 320 RX7 yX7_outputAt wsX7_outputAt) := goodIn_app (goodIn_of _ (by decide +kernel)) ggL_law_X7_outputAt
set_option maxRecDepth 20000 in
theorem ggL_law_L_type : GoodIn wsL_law wsL_type := goodIn_ca (goodIn_ca (goodIn_ca (goodIn_rr _ [(1227, 1), (106, 1), (1228, 3), (2, 1), (1231, 1), (160, 4), (24, 1), (1232, 1), (1168, 3), (29, 1), (1171, 3), (1009, 1), (1174, 1), (66, 1), (1175, 1), (1015, 1), (1075, 8), (71, 1), (1017, 5), (72, 1), (1022, 11), (483, 1), (324, 1), (484, 1), (1033, 14), (70, 1), (1047, 1), (480, 2), (1048, 9), (69, 1), (1083, 2), (1059, 1), (1085, 6), (73, 8), (1091, 39), (1415, 11), (1461, 7)] rfl (by decide +kernel)) (goodIn_sub (fun _ h => List.mem_append_left _ (List.mem_append_left _ (List.mem_append_left _ (List.mem_append_left _ (List.mem_append_left _ (List.mem_append_left _ (List.mem_append_left _ (List.mem_append_right _ h)))))))) (by decide +kernel))) (goodIn_sub (fun _ h => List.mem_append_left _ (List.mem_append_left _ (List.mem_append_left _ (List.mem_append_left _ (List.mem_append_left _ (List.mem_append_right _ h)))))) (by decide +kernel))) (goodIn_sub (fun _ h => List.mem_append_left _ (List.mem_append_left _ (List.mem_append_left _ (List.mem_append_left _ (List.mem_append_right _ h))))) (by decide +kernel))
set_option maxRecDepth 20000 in
theorem gL_law_L_type : GoodIn wsL_law (va_wsS RL 321 yL_type wsL_type) := goodIn_app (goodIn_of _ (by decide +kernel)) ggL_law_L_type
set_option maxRecDepth 20000 in
theorem ggL_law_X7_type : GoodIn wsL_law wsX7_type := goodIn_ca (goodIn_rr _ [(1236, 1), (180, 1), (1237, 3), (93, 1), (186, 2), (5, 1), (188, 5), (1426, 21)] rfl (by decide +kernel)) (goodIn_sub (fun _ h => List.mem_append_left _ (List.mem_append_left _ (List.mem_append_left _ (List.mem_append_left _ (List.mem_append_left _ (List.mem_append_left _ (List.mem_append_left _ (List.mem_append_right _ h)))))))) (by decide +kernel))
set_option maxRecDepth 20000 in
theorem gL_law_X7_type : GoodIn wsL_law (wsV RL 324 RX7 yX7_type wsX7_type) := goodIn_app (goodIn_of _ (by decide +kernel)) ggL_law_X7_type
set_option maxRecDepth 20000 in
theorem gh_wsL_runScript : GoodIn wsL_law [Cond.codeWith yL_runScript cL_runScript 3 (some .int) [(0, 8, 11, 13), (0, 8, 14, 15)]] := goodIn_rr _ [(1242, 1)] rfl (by decide +kernel)
set_option maxRecDepth 20000 in
theorem gr_wsL_runScript_r1 : GoodIn wsL_law wsL_runScript_r1 := goodIn_rr _ [(106, 1), (1243, 3), (2, 1), (1246, 1), (160, 4), (24, 1), (1247, 1), (25, 1), (1232, 1), (18, 1), (17, 1), (26, 1), (1248, 3), (23, 1), (1251, 2), (59, 1)] rfl (by decide +kernel)
set_option maxRecDepth 20000 in
theorem gr_wsL_runScript_r2 : GoodIn wsL_law wsL_runScript_r2 := goodIn_rr _ [(1253, 6), (483, 1), (324, 1), (484, 1), (1259, 7), (1105, 1), (1266, 7)] rfl (by decide +kernel)
set_option maxRecDepth 20000 in
theorem gr_wsL_runScript_r3 : GoodIn wsL_law wsL_runScript_r3 := goodIn_rr _ [(1273, 11), (1059, 1), (1284, 2), (1125, 2), (1107, 1), (1127, 2), (1110, 1), (1129, 1), (1286, 2), (75, 1)] rfl (by decide +kernel)
set_option maxRecDepth 20000 in
theorem gr_wsL_runScript_r4 : GoodIn wsL_law wsL_runScript_r4 := goodIn_rr _ [(1288, 1), (1121, 3), (1100, 3), (1124, 1), (1289, 1), (1219, 2), (1115, 3), (1290, 4), (60, 1), (1294, 5)] rfl (by decide +kernel)
set_option maxRecDepth 20000 in
theorem gr_wsL_runScript_r5 : GoodIn wsL_law wsL_runScript_r5 := goodIn_rr _ [(1169, 2), (29, 1), (1171, 3), (1009, 1), (1174, 1), (66, 1), (1175, 1), (1015, 1), (1299, 1), (1209, 7), (72, 1), (71, 1), (1216, 1), (480, 2)] rfl (by decide +kernel)
set_option maxRecDepth 20000 in
theorem gr_wsL_runScript_r6 : GoodIn wsL_law wsL_runScript_r6 := goodIn_rr _ [(1217, 2), (1300, 4), (1003, 6), (1010, 5), (1016, 7)] rfl (by decide +kernel)
set_option maxRecDepth 20000 in
theorem gr_wsL_runScript_r7 : GoodIn wsL_law wsL_runScript_r7 := goodIn_rr _ [(1023, 24)] rfl (by decide +kernel)
set_option maxRecDepth 20000 in
theorem gr_wsL_runScript_r8 : GoodIn wsL_law wsL_runScript_r8 := goodIn_rr _ [(70, 1), (1047, 10), (69, 1), (1057, 2), (1060, 8), (28, 1), (1068, 1)] rfl (by decide +kernel)
set_option maxRecDepth 20000 in
theorem gr_wsL_runScript_r9 : GoodIn wsL_law wsL_runScript_r9 := goodIn_rr _ [(1069, 6), (111, 3), (16, 1), (114, 1), (38, 1), (45, 1), (42, 1), (46, 2), (115, 8)] rfl (by decide +kernel)
set_option maxRecDepth 20000 in
theorem gr_wsL_runScript_r10 : GoodIn wsL_law wsL_runScript_r10 := goodIn_rr _ [(123, 4), (40, 1), (127, 11), (44, 1), (138, 3), (54, 1), (141, 1), (1304, 2)] rfl (by decide +kernel)
set_option maxRecDepth 20000 in
theorem gr_wsL_runScript_r11 : GoodIn wsL_law wsL_runScript_r11 := goodIn_rr _ [(1306, 16), (142, 8)] rfl (by decide +kernel)
set_option maxRecDepth 20000 in
theorem gr_wsL_runScript_r12 : GoodIn wsL_law wsL_runScript_r12 := goodIn_rr _ [(213, 17), (259, 7)] rfl (by decide +kernel)
set_option maxRecDepth 20000 in
theorem gr_wsL_runScript_r13 : GoodIn wsL_law wsL_runScript_r13 := goodIn_rr _ [(266, 6), (296, 6), (317, 7), (325, 5)] rfl (by decide +kernel)
set_option maxRecDepth 20000 in
theorem gr_wsL_runScript_r14 : GoodIn wsL_law wsL_runScript_r14 := goodIn_rr _ [(330, 4), (362, 13), (394, 4), (413, 3)] rfl (by decide +kernel)
set_option maxRecDepth 20000 in
theorem gr_wsL_runScript_r15 : GoodIn wsL_law wsL_runScript_r15 := goodIn_rr _ [(416, 13), (452, 11)] rfl (by decide +kernel)
set_option maxRecDepth 20000 in
theorem gr_wsL_runScript_r16 : GoodIn wsL_law wsL_runScript_r16 := goodIn_rr _ [(463, 17), (482, 1), (485, 4), (150, 2)] rfl (by decide +kernel)
set_option maxRecDepth 20000 in
theorem gr_wsL_runScript_r17 : GoodIn wsL_law wsL_runScript_r17 := goodIn_rr _ [(152, 3), (20, 1), (155, 5), (164, 8)] rfl (by decide +kernel)
set_option maxRecDepth 20000 in
theorem gx_wsL_runScript_wsX60 : GoodIn wsL_law wsX60 := goodIn_rr _ [(1415, 11)] rfl (by decide +kernel)
set_option maxRecDepth 20000 in
theorem gx_wsL_runScript_wsX40 : GoodIn wsL_law wsX40 := goodIn_rr _ [(1461, 3)] rfl (by decide +kernel)
set_option maxRecDepth 20000 in
theorem gx_wsL_runScript_wsJ00 : GoodIn wsL_law wsJ00 := goodIn_rr _ [(1491, 4)] rfl (by decide +kernel)
set_option maxRecDepth 20000 in
theorem gx_wsL_runScript_wsJ40 : GoodIn wsL_law wsJ40 := goodIn_rr _ [(1464, 4)] rfl (by decide +kernel)
set_option maxRecDepth 20000 in
theorem gx_wsL_runScript_wsJx7c7330 : GoodIn wsL_law wsJx7c7330 := goodIn_rr _ [(1479, 6)] rfl (by decide +kernel)
set_option maxRecDepth 20000 in
theorem gx_wsL_runScript_wsJx000600 : GoodIn wsL_law wsJx000600 := goodIn_rr _ [(1485, 6)] rfl (by decide +kernel)
set_option maxRecDepth 20000 in
theorem gx_wsL_runScript_wsX30 : GoodIn wsL_law wsX30 := goodIn_rr _ [(1447, 14)] rfl (by decide +kernel)
set_option maxRecDepth 20000 in
theorem gx_wsL_runScript_wsX20 : GoodIn wsL_law wsX20 := goodIn_rr _ [(1468, 7)] rfl (by decide +kernel)
set_option maxRecDepth 20000 in
theorem gx_wsL_runScript_wsX50 : GoodIn wsL_law wsX50 := goodIn_rr _ [(1475, 4)] rfl (by decide +kernel)
set_option maxRecDepth 20000 in
theorem ggL_law_L_runScript : GoodIn wsL_law wsL_runScript := goodIn_ca (goodIn_ca (goodIn_ca (goodIn_ca (goodIn_ca (goodIn_ca (goodIn_app (a := [_]) gh_wsL_runScript (goodIn_app (goodIn_app (goodIn_app (goodIn_app (goodIn_app (goodIn_app (goodIn_app (goodIn_app (goodIn_app (goodIn_app gr_wsL_runScript_r1 (goodIn_app gr_wsL_runScript_r2 (goodIn_app gr_wsL_runScript_r3 (goodIn_app gr_wsL_runScript_r4 (goodIn_app gr_wsL_runScript_r5 (goodIn_app gr_wsL_runScript_r6 (goodIn_app gr_wsL_runScript_r7 (goodIn_app gr_wsL_runScript_r8 (goodIn_app gr_wsL_runScript_r9 (goodIn_app gr_wsL_runScript_r10 (goodIn_app gr_wsL_runScript_r11 (goodIn_app gr_wsL_runScript_r12 (goodIn_app gr_wsL_runScript_r13 (goodIn_app gr_wsL_runScript_r14 (goodIn_app gr_wsL_runScript_r15 (goodIn_app gr_wsL_runScript_r16 gr_wsL_runScript_r17)))))))))))))))) gx_wsL_runScript_wsX60) gx_wsL_runScript_wsX40) gx_wsL_runScript_wsJ00) gx_wsL_runScript_wsJ40) gx_wsL_runScript_wsJx7c7330) gx_wsL_runScript_wsJx000600) gx_wsL_runScript_wsX30) gx_wsL_runScript_wsX20) gx_wsL_runScript_wsX50)) (goodIn_sub (fun _ h => List.mem_append_left _ (List.mem_append_left _ (List.mem_append_left _ (List.mem_append_left _ (List.mem_append_left _ (List.mem_append_left _ (List.mem_append_left _ (List.mem_append_right _ h)))))))) (by decide +kernel))) (goodIn_sub (fun _ h => List.mem_append_left _ (List.mem_append_left _ (List.mem_append_left _ (List.mem_append_left _ (List.mem_append_left _ (List.mem_append_right _ h)))))) (by decide +kernel))) (goodIn_sub (fun _ h => List.mem_append_left _ (List.mem_append_left _ (List.mem_append_left _ (List.mem_append_left _ (List.mem_append_right _ h))))) (by decide +kernel))) (goodIn_sub (fun _ h => List.mem_append_left _ (List.mem_append_left _ (List.mem_append_left _ (List.mem_append_left _ (List.mem_append_left _ (List.mem_append_left _ (List.mem_append_right _ h))))))) (by decide +kernel))) (goodIn_sub (fun _ h => List.mem_append_left _ (List.mem_append_left _ (List.mem_append_left _ (List.mem_append_right _ h)))) (by decide +kernel))) (goodIn_sub (fun _ h => List.mem_append_left _ (List.mem_append_left _ (List.mem_append_right _ h))) (by decide +kernel))
set_option maxRecDepth 20000 in
theorem gL_law_L_runScript : GoodIn wsL_law (va_wsS RL 325 yL_runScript wsL_runScript) := goodIn_app (goodIn_of _ (by decide +kernel)) ggL_law_L_runScript
set_option maxRecDepth 20000 in
theorem gh_wsX7_runScript : GoodIn wsL_law [Cond.code yX7_runScript cX7_runScript 4 (some .int)] := goodIn_rr _ [(1325, 1)] rfl (by decide +kernel)
set_option maxRecDepth 20000 in
theorem gr_wsX7_runScript_r1 : GoodIn wsL_law wsX7_runScript_r1 := goodIn_rr _ [(1239, 1), (1326, 4), (91, 1), (180, 1), (86, 2), (92, 1), (176, 3), (5, 1), (179, 1), (1330, 4), (97, 2), (1334, 3)] rfl (by decide +kernel)
set_option maxRecDepth 20000 in
theorem gr_wsX7_runScript_r2 : GoodIn wsL_law wsX7_runScript_r2 := goodIn_rr _ [(1337, 1), (93, 1), (96, 1), (1338, 10), (186, 3), (1348, 8)] rfl (by decide +kernel)
set_option maxRecDepth 20000 in
theorem gr_wsX7_runScript_r3 : GoodIn wsL_law wsX7_runScript_r3 := goodIn_rr _ [(189, 4), (1356, 4), (181, 5), (193, 3), (234, 8)] rfl (by decide +kernel)
set_option maxRecDepth 20000 in
theorem gr_wsX7_runScript_r4 : GoodIn wsL_law wsX7_runScript_r4 := goodIn_rr _ [(242, 6), (99, 3), (248, 4), (276, 11)] rfl (by decide +kernel)
set_option maxRecDepth 20000 in
theorem gr_wsX7_runScript_r5 : GoodIn wsL_law wsX7_runScript_r5 := goodIn_rr _ [(287, 1), (338, 5), (323, 3), (343, 12), (379, 3)] rfl (by decide +kernel)
set_option maxRecDepth 20000 in
theorem gr_wsX7_runScript_r6 : GoodIn wsL_law wsX7_runScript_r6 := goodIn_rr _ [(382, 5), (402, 4), (433, 12), (306, 3)] rfl (by decide +kernel)
set_option maxRecDepth 20000 in
theorem gr_wsX7_runScript_r7 : GoodIn wsL_law wsX7_runScript_r7 := goodIn_rr _ [(309, 1), (493, 18), (480, 2), (511, 3)] rfl (by decide +kernel)
set_option maxRecDepth 20000 in
theorem gr_wsX7_runScript_r8 : GoodIn wsL_law wsX7_runScript_r8 := goodIn_rr _ [(514, 2), (483, 2), (516, 4), (196, 5), (90, 1)] rfl (by decide +kernel)
set_option maxRecDepth 20000 in
theorem gx_wsX7_runScript_wsX70 : GoodIn wsL_law wsX70 := goodIn_rr _ [(1426, 21)] rfl (by decide +kernel)
set_option maxRecDepth 20000 in
theorem ggL_law_X7_runScript : GoodIn wsL_law wsX7_runScript := goodIn_ca (goodIn_app (a := [_]) gh_wsX7_runScript (goodIn_app (goodIn_app gr_wsX7_runScript_r1 (goodIn_app gr_wsX7_runScript_r2 (goodIn_app gr_wsX7_runScript_r3 (goodIn_app gr_wsX7_runScript_r4 (goodIn_app gr_wsX7_runScript_r5 (goodIn_app gr_wsX7_runScript_r6 (goodIn_app gr_wsX7_runScript_r7 gr_wsX7_runScript_r8))))))) gx_wsX7_runScript_wsX70)) (goodIn_sub (fun _ h => List.mem_append_left _ (List.mem_append_left _ (List.mem_append_left _ (List.mem_append_left _ (List.mem_append_left _ (List.mem_append_left _ (List.mem_append_left _ (List.mem_append_right _ h)))))))) (by decide +kernel))
set_option maxRecDepth 20000 in
theorem gL_law_X7_runScript : GoodIn wsL_law (wsV RL 327 RX7 yX7_runScript wsX7_runScript) := goodIn_app (goodIn_of _ (by decide +kernel)) ggL_law_X7_runScript
set_option maxRecDepth 20000 in
theorem ggL_law_L_errorPosition : GoodIn wsL_law wsL_errorPosition := goodIn_ca (goodIn_ca (goodIn_rr _ [(1362, 1), (291, 1), (1363, 3), (2, 1), (1366, 1), (166, 2), (25, 1), (1415, 11)] rfl (by decide +kernel)) (goodIn_sub (fun _ h => List.mem_append_left _ (List.mem_append_left _ (List.mem_append_left _ (List.mem_append_left _ (List.mem_append_left _ (List.mem_append_left _ (List.mem_append_left _ (List.mem_append_right _ h)))))))) (by decide +kernel))) (goodIn_sub (fun _ h => List.mem_append_left _ (List.mem_append_left _ (List.mem_append_right _ h))) (by decide +kernel))
set_option maxRecDepth 20000 in
theorem gL_law_L_errorPosition : GoodIn wsL_law (va_wsS RL 328 yL_errorPosition wsL_errorPosition) := goodIn_app (goodIn_of _ (by decide +kernel)) ggL_law_L_errorPosition
set_option maxRecDepth 20000 in
theorem ggL_law_X7_errorPosition : GoodIn wsL_law wsX7_errorPosition := goodIn_rr _ [(1370, 1), (180, 1), (91, 1), (189, 3), (5, 1), (192, 1), (1426, 21)] rfl (by decide +kernel)
set_option maxRecDepth 20000 in
theorem gL_law_X7_errorPosition : GoodIn wsL_law (wsV RL 330 RX7 yX7_errorPosition wsX7_errorPosition) := goodIn_app (goodIn_of _ (by decide +kernel)) ggL_law_X7_errorPosition
set_option maxRecDepth 20000 in
theorem ggL_law_L_failedCommand : GoodIn wsL_law wsL_failedCommand := goodIn_ca (goodIn_ca (goodIn_rr _ [(1373, 1), (291, 1), (1374, 3), (2, 1), (1377, 1), (166, 2), (26, 1), (1415, 11)] rfl (by decide +kernel)) (goodIn_sub (fun _ h => List.mem_append_left _ (List.mem_append_left _ (List.mem_append_left _ (List.mem_append_left _ (List.mem_append_left _ (List.mem_append_left _ (List.mem_append_left _ (List.mem_append_right _ h)))))))) (by decide +kernel))) (goodIn_sub (fun _ h => List.mem_append_left _ (List.mem_append_left _ (List.mem_append_right _ h))) (by decide +kernel))
set_option maxRecDepth 20000 in
theorem gL_law_L_failedCommand : GoodIn wsL_law (va_wsS RL 331 yL_failedCommand wsL_failedCommand) := goodIn_app (goodIn_of _ (by decide +kernel)) ggL_law_L_failedCommand
set_option maxRecDepth 20000 in
theorem ggL_law_X7_failedCommand : GoodIn wsL_law wsX7_failedCommand := goodIn_rr _ [(1381, 1), (180, 1), (92, 1), (189, 3), (5, 1), (192, 1), (1426, 21)] rfl (by decide +kernel)
set_option maxRecDepth 20000 in
theorem gL_law_X7_failedCommand : GoodIn wsL_law (wsV RL 333 RX7 yX7_failedCommand wsX7_failedCommand) := goodIn_app (goodIn_of _ (by decide +kernel)) ggL_law_X7_failedCommand
set_option maxRecDepth 20000 in
theorem ggL_law_L_undo : GoodIn wsL_law wsL_undo := goodIn_ca (goodIn_ca (goodIn_rr _ [(1384, 1), (291, 1), (1385, 3), (2, 1), (1388, 1), (166, 2), (154, 1), (17, 1), (20, 1), (1415, 11)] rfl (by decide +kernel)) (goodIn_sub (fun _ h => List.mem_append_left _ (List.mem_append_left _ (List.mem_append_left _ (List.mem_append_left _ (List.mem_append_left _ (List.mem_append_left _ (List.mem_append_left _ (List.mem_append_right _ h)))))))) (by decide +kernel))) (goodIn_sub (fun _ h => List.mem_append_left _ (List.mem_append_left _ (List.mem_append_right _ h))) (by decide +kernel))
set_option maxRecDepth 20000 in
theorem gL_law_L_undo : GoodIn wsL_law (va_wsS RL 334 yL_undo wsL_undo) := goodIn_app (goodIn_of _ (by decide +kernel)) ggL_law_L_undo
set_option maxRecDepth 20000 in
theorem ggL_law_X7_undo : GoodIn wsL_law wsX7_undo := goodIn_ca (goodIn_rr _ [(1392, 1), (180, 1), (200, 1), (86, 1), (90, 1), (189, 3), (5, 1), (192, 1), (1426, 21)] rfl (by decide +kernel)) (goodIn_sub (fun _ h => List.mem_append_left _ (List.mem_append_left _ (List.mem_append_left _ (List.mem_append_left _ (List.mem_append_left _ (List.mem_append_left _ (List.mem_append_left _ (List.mem_append_right _ h)))))))) (by decide +kernel))
set_option maxRecDepth 20000 in
theorem gL_law_X7_undo : GoodIn wsL_law (wsV RL 336 RX7 yX7_undo wsX7_undo) := goodIn_app (goodIn_of _ (by decide +kernel)) ggL_law_X7_undo
set_option maxRecDepth 20000 in
theorem ggL_law_X6_save : GoodIn wsL_law wsX6_save := goodIn_ca (goodIn_rr _ [(1396, 1), (19, 1), (17, 1), (1397, 1), (524, 1), (111, 3), (16, 1), (114, 1), (38, 1), (45, 1), (42, 1), (46, 2), (115, 12), (40, 1), (127, 11), (44, 1), (138, 3), (54, 1), (141, 1), (1415, 11), (1447, 14), (1468, 11)] rfl (by decide +kernel)) (goodIn_sub (fun _ h => List.mem_append_left _ (List.mem_append_left _ (List.mem_append_left _ (List.mem_append_left _ (List.mem_append_left _ (List.mem_append_left _ (List.mem_append_left _ (List.mem_append_right _ h)))))))) (by decide +kernel))
set_option maxRecDepth 20000 in
theorem gL_law_X6_save : GoodIn wsL_law (wsV RL 337 RX6 yX6_save wsX6_save) := goodIn_app (goodIn_of _ (by decide +kernel)) ggL_law_X6_save
set_option maxRecDepth 20000 in
theorem ggL_law_X7_save : GoodIn wsL_law wsX7_save := goodIn_ca (goodIn_rr _ [(1401, 1), (180, 1), (89, 1), (86, 1), (1402, 1), (1426, 21)] rfl (by decide +kernel)) (goodIn_sub (fun _ h => List.mem_append_left _ (List.mem_append_left _ (List.mem_append_left _ (List.mem_append_left _ (List.mem_append_left _ (List.mem_append_left _ (List.mem_append_left _ (List.mem_append_right _ h)))))))) (by decide +kernel))
set_option maxRecDepth 20000 in
theorem gL_law_X7_save : GoodIn wsL_law (wsV RL 340 RX7 yX7_save wsX7_save) := goodIn_app (goodIn_of _ (by decide +kernel)) ggL_law_X7_save
set_option maxRecDepth 20000 in
theorem ggL_law_L_restore : GoodIn wsL_law wsL_restore := goodIn_ca (goodIn_ca (goodIn_rr _ [(1405, 5), (2, 1), (1410, 1), (162, 2), (1397, 1), (17, 1), (19, 1), (154, 1), (524, 1), (111, 3), (16, 1), (114, 1), (38, 1), (45, 1), (42, 1), (46, 2), (115, 12), (40, 1), (127, 11), (44, 1), (138, 3), (54, 1), (141, 1), (1415, 11), (1447, 14), (1468, 11)] rfl (by decide +kernel)) (goodIn_sub (fun _ h => List.mem_append_left _ (List.mem_append_left _ (List.mem_append_left _ (List.mem_append_left _ (List.mem_append_left _ (List.mem_append_left _ (List.mem_append_left _ (List.mem_append_right _ h)))))))) (by decide +kernel))) (goodIn_sub (fun _ h => List.mem_append_left _ (List.mem_append_left _ (List.mem_append_left _ (List.mem_append_left _ (List.mem_append_right _ h))))) (by decide +kernel))
set_option maxRecDepth 20000 in
theorem gL_law_L_restore : GoodIn wsL_law (va_wsS RL 341 yL_restore wsL_restore) := goodIn_app (goodIn_of _ (by decide +kernel)) ggL_law_L_restore
set_option maxRecDepth 20000 in
theorem ggL_law_X7_restore : GoodIn wsL_law wsX7_restore := goodIn_ca (goodIn_rr _ [(1414, 1), (180, 1), (1402, 1), (86, 1), (89, 1), (200, 1), (189, 3), (5, 1), (192, 1), (1426, 21)] rfl (by decide +kernel)) (goodIn_sub (fun _ h => List.mem_append_left _ (List.mem_append_left _ (List.mem_append_left _ (List.mem_append_left _ (List.mem_append_left _ (List.mem_append_left _ (List.mem_append_left _ (List.mem_append_right _ h)))))))) (by decide +kernel))
set_option maxRecDepth 20000 in
theorem gL_law_X7_restore : GoodIn wsL_law (wsV RL 343 RX7 yX7_restore wsX7_restore) := goodIn_app (goodIn_of _ (by decide +kernel)) ggL_law_X7_restore
