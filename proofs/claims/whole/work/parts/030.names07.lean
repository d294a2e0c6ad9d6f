set_option maxRecDepth 20000 in
theorem ggX6_init_X3_init : GoodIn wsX6_init wsX3_init := goodIn_rr _ [(25, 2), (2, 2), (27, 8), (21, 1), (35, 10), (72, 14), (104, 11)] rfl (by decide +kernel)
set_option maxRecDepth 20000 in
theorem gX6_init_X3_init : GoodIn wsX6_init (wsX3_init) := ggX6_init_X3_init
set_option maxRecDepth 20000 in
theorem ggX6_init_X4_init : GoodIn wsX6_init wsX4_init := goodIn_rr _ [(46, 2), (2, 2), (48, 1), (18, 2), (49, 1), (21, 1), (50, 21), (100, 4), (97, 3)] rfl (by decide +kernel)
set_option maxRecDepth 20000 in
theorem gX6_init_X4_init_n28 : GoodIn wsX6_init (wsX4_init) := ggX6_init_X4_init
set_option maxRecDepth 20000 in
theorem ggX6_init_J4_init_da8c8 : GoodIn wsX6_init wsJ4_init_da8c8 := goodIn_rr _ [(53, 6), (2, 2), (59, 12), (100, 4)] rfl (by decide +kernel)
set_option maxRecDepth 20000 in
theorem gX6_init_J4_init_da8c8 : GoodIn wsX6_init (wsJ4_init_da8c8) := ggX6_init_J4_init_da8c8
theorem dX6_init_0 : decode cX6_init 0 = .ok (.aload_n 0, 1) := by decide +kernel
theorem dX6_init_1 : decode cX6_init 1 = .ok (.invokespecial 1, 3) := by decide +kernel
theorem dX6_init_4 : decode cX6_init 4 = .ok (.aload_n 0, 1) := by decide +kernel
theorem dX6_init_5 : decode cX6_init 5 = .ok (.new 7, 3) := by decide +kernel
theorem dX6_init_8 : decode cX6_init 8 = .ok (.dup, 1) := by decide +kernel
theorem dX6_init_9 : decode cX6_init 9 = .ok (.invokespecial 9, 3) := by decide +kernel
theorem dX6_init_12 : decode cX6_init 12 = .ok (.putfield 10, 3) := by decide +kernel
theorem dX6_init_15 : decode cX6_init 15 = .ok (.aload_n 0, 1) := by decide +kernel
theorem dX6_init_16 : decode cX6_init 16 = .ok (.new 7, 3) := by decide +kernel
theorem dX6_init_19 : decode cX6_init 19 = .ok (.dup, 1) := by decide +kernel
theorem dX6_init_20 : decode cX6_init 20 = .ok (.invokespecial 9, 3) := by decide +kernel
theorem dX6_init_23 : decode cX6_init 23 = .ok (.putfield 16, 3) := by decide +kernel
theorem dX6_init_26 : decode cX6_init 26 = .ok (.aload_n 0, 1) := by decide +kernel
theorem dX6_init_27 : decode cX6_init 27 = .ok (.new 7, 3) := by decide +kernel
theorem dX6_init_30 : decode cX6_init 30 = .ok (.dup, 1) := by decide +kernel
theorem dX6_init_31 : decode cX6_init 31 = .ok (.invokespecial 9, 3) := by decide +kernel
theorem dX6_init_34 : decode cX6_init 34 = .ok (.putfield 19, 3) := by decide +kernel
theorem dX6_init_37 : decode cX6_init 37 = .ok (.aload_n 0, 1) := by decide +kernel
theorem dX6_init_38 : decode cX6_init 38 = .ok (.bipush 8, 2) := by decide +kernel
theorem dX6_init_40 : decode cX6_init 40 = .ok (.anewarray 7, 3) := by decide +kernel
theorem dX6_init_43 : decode cX6_init 43 = .ok (.putfield 22, 3) := by decide +kernel
theorem dX6_init_46 : decode cX6_init 46 = .ok (.iconst 0, 1) := by decide +kernel
theorem dX6_init_47 : decode cX6_init 47 = .ok (.istore_n 1, 1) := by decide +kernel
theorem dX6_init_48 : decode cX6_init 48 = .ok (.iload_n 1, 1) := by decide +kernel
theorem dX6_init_49 : decode cX6_init 49 = .ok (.bipush 8, 2) := by decide +kernel
theorem dX6_init_51 : decode cX6_init 51 = .ok (.if_icmp .ge 22, 3) := by decide +kernel
theorem dX6_init_54 : decode cX6_init 54 = .ok (.aload_n 0, 1) := by decide +kernel
theorem dX6_init_55 : decode cX6_init 55 = .ok (.getfield 22, 3) := by decide +kernel
theorem dX6_init_58 : decode cX6_init 58 = .ok (.iload_n 1, 1) := by decide +kernel
theorem dX6_init_59 : decode cX6_init 59 = .ok (.new 7, 3) := by decide +kernel
theorem dX6_init_62 : decode cX6_init 62 = .ok (.dup, 1) := by decide +kernel
theorem dX6_init_63 : decode cX6_init 63 = .ok (.invokespecial 9, 3) := by decide +kernel
theorem dX6_init_66 : decode cX6_init 66 = .ok (.aastore, 1) := by decide +kernel
theorem dX6_init_67 : decode cX6_init 67 = .ok (.iinc 1 1, 3) := by decide +kernel
theorem dX6_init_70 : decode cX6_init 70 = .ok (.goto (-22), 3) := by decide +kernel
theorem dX6_init_73 : decode cX6_init 73 = .ok (.aload_n 0, 1) := by decide +kernel
theorem dX6_init_74 : decode cX6_init 74 = .ok (.new 26, 3) := by decide +kernel
theorem dX6_init_77 : decode cX6_init 77 = .ok (.dup, 1) := by decide +kernel
theorem dX6_init_78 : decode cX6_init 78 = .ok (.invokespecial 28, 3) := by decide +kernel
theorem dX6_init_81 : decode cX6_init 81 = .ok (.putfield 29, 3) := by decide +kernel
theorem dX6_init_84 : decode cX6_init 84 = .ok (.aload_n 0, 1) := by decide +kernel
theorem dX6_init_85 : decode cX6_init 85 = .ok (.iconst (-1), 1) := by decide +kernel
theorem dX6_init_86 : decode cX6_init 86 = .ok (.putfield 33, 3) := by decide +kernel
theorem dX6_init_89 : decode cX6_init 89 = .ok (.aload_n 0, 1) := by decide +kernel
theorem dX6_init_90 : decode cX6_init 90 = .ok (.iconst (-1), 1) := by decide +kernel
theorem dX6_init_91 : decode cX6_init 91 = .ok (.putfield 37, 3) := by decide +kernel
theorem dX6_init_94 : decode cX6_init 94 = .ok (.aload_n 0, 1) := by decide +kernel
theorem dX6_init_95 : decode cX6_init 95 = .ok (.new 40, 3) := by decide +kernel
theorem dX6_init_98 : decode cX6_init 98 = .ok (.dup, 1) := by decide +kernel
theorem dX6_init_99 : decode cX6_init 99 = .ok (.invokespecial 42, 3) := by decide +kernel
theorem dX6_init_102 : decode cX6_init 102 = .ok (.putfield 43, 3) := by decide +kernel
theorem dX6_init_105 : decode cX6_init 105 = .ok (.aload_n 0, 1) := by decide +kernel
theorem dX6_init_106 : decode cX6_init 106 = .ok (.bipush 12, 2) := by decide +kernel
theorem dX6_init_108 : decode cX6_init 108 = .ok (.newarray .int, 2) := by decide +kernel
theorem dX6_init_110 : decode cX6_init 110 = .ok (.putfield 47, 3) := by decide +kernel
theorem dX6_init_113 : decode cX6_init 113 = .ok (.return_, 1) := by decide +kernel
set_option maxRecDepth 20000 in
theorem ggX6_addCustomer_X3_copyFrom : GoodIn wsX6_addCustomer wsX3_copyFrom := goodIn_ca (goodIn_rr _ [(7, 36), (86, 25)] rfl (by decide +kernel)) (goodIn_sub (fun _ h => List.mem_cons_of_mem _ (List.mem_append_left _ (List.mem_append_left _ (List.mem_append_left _ (List.mem_append_left _ (List.mem_append_left _ (List.mem_append_right _ h))))))) (by decide +kernel))
set_option maxRecDepth 20000 in
theorem gX6_addCustomer_X3_copyFrom : GoodIn wsX6_addCustomer (wsV RX6 51 RX3 yX3_copyFrom wsX3_copyFrom) := goodIn_app (goodIn_of _ (by decide +kernel)) ggX6_addCustomer_X3_copyFrom
set_option maxRecDepth 20000 in
theorem ggX6_addCustomer_X3_admit : GoodIn wsX6_addCustomer wsX3_admit := goodIn_ca (goodIn_rr _ [(46, 1), (13, 2), (16, 1), (8, 2), (47, 3), (25, 1), (50, 1), (27, 7), (86, 21)] rfl (by decide +kernel)) (goodIn_sub (fun _ h => List.mem_cons_of_mem _ (List.mem_append_left _ (List.mem_append_left _ (List.mem_append_left _ (List.mem_append_left _ (List.mem_append_left _ (List.mem_append_right _ h))))))) (by decide +kernel))
set_option maxRecDepth 20000 in
theorem gX6_addCustomer_X3_admit : GoodIn wsX6_addCustomer (wsV RX6 55 RX3 yX3_admit wsX3_admit) := goodIn_app (goodIn_of _ (by decide +kernel)) ggX6_addCustomer_X3_admit
set_option maxRecDepth 20000 in
theorem ggX6_addCustomer_X6_commit : GoodIn wsX6_addCustomer wsX6_commit := goodIn_ca (goodIn_ca (goodIn_ca (goodIn_ca (goodIn_ca (goodIn_rr _ [(55, 3), (2, 1), (1, 1), (58, 2), (54, 1), (60, 26)] rfl (by decide +kernel)) (goodIn_sub (fun _ h => List.mem_cons_of_mem _ (List.mem_append_left _ (List.mem_append_left _ (List.mem_append_left _ (List.mem_append_left _ (List.mem_append_right _ h)))))) (by decide +kernel))) (goodIn_sub (fun _ h => List.mem_cons_of_mem _ (List.mem_append_left _ (List.mem_append_left _ (List.mem_append_left _ (List.mem_append_right _ h))))) (by decide +kernel))) (goodIn_sub (fun _ h => List.mem_cons_of_mem _ (List.mem_append_left _ (List.mem_append_left _ (List.mem_append_right _ h)))) (by decide +kernel))) (goodIn_sub (fun _ h => List.mem_cons_of_mem _ (List.mem_append_left _ (List.mem_append_right _ h))) (by decide +kernel))) (goodIn_sub (fun _ h => List.mem_cons_of_mem _ (List.mem_append_right _ h)) (by decide +kernel))
set_option maxRecDepth 20000 in
theorem gX6_addCustomer_X6_commit : GoodIn wsX6_addCustomer (wsV RX6 59 RX6 yX6_commit wsX6_commit) := goodIn_app (goodIn_of _ (by decide +kernel)) ggX6_addCustomer_X6_commit
theorem dX6_addCustomer_0 : decode cX6_addCustomer 0 = .ok (.aload_n 0, 1) := by decide +kernel
theorem dX6_addCustomer_1 : decode cX6_addCustomer 1 = .ok (.getfield 16, 3) := by decide +kernel
theorem dX6_addCustomer_4 : decode cX6_addCustomer 4 = .ok (.aload_n 0, 1) := by decide +kernel
theorem dX6_addCustomer_5 : decode cX6_addCustomer 5 = .ok (.getfield 10, 3) := by decide +kernel
theorem dX6_addCustomer_8 : decode cX6_addCustomer 8 = .ok (.invokevirtual 51, 3) := by decide +kernel
theorem dX6_addCustomer_11 : decode cX6_addCustomer 11 = .ok (.aload_n 0, 1) := by decide +kernel
theorem dX6_addCustomer_12 : decode cX6_addCustomer 12 = .ok (.aload_n 0, 1) := by decide +kernel
theorem dX6_addCustomer_13 : decode cX6_addCustomer 13 = .ok (.getfield 16, 3) := by decide +kernel
theorem dX6_addCustomer_16 : decode cX6_addCustomer 16 = .ok (.iload_n 1, 1) := by decide +kernel
theorem dX6_addCustomer_17 : decode cX6_addCustomer 17 = .ok (.invokevirtual 55, 3) := by decide +kernel
theorem dX6_addCustomer_20 : decode cX6_addCustomer 20 = .ok (.invokevirtual 59, 3) := by decide +kernel
theorem dX6_addCustomer_23 : decode cX6_addCustomer 23 = .ok (.ireturn, 1) := by decide +kernel
set_option maxRecDepth 20000 in
theorem ggX6_openWindow_X3_copyFrom : GoodIn wsX6_openWindow wsX3_copyFrom := goodIn_ca (goodIn_rr _ [(7, 36), (95, 25)] rfl (by decide +kernel)) (goodIn_sub (fun _ h => List.mem_cons_of_mem _ (List.mem_append_left _ (List.mem_append_left _ (List.mem_append_left _ (List.mem_append_left _ (List.mem_append_left _ (List.mem_append_right _ h))))))) (by decide +kernel))
set_option maxRecDepth 20000 in
theorem gX6_openWindow_X3_copyFrom : GoodIn wsX6_openWindow (wsV RX6 51 RX3 yX3_copyFrom wsX3_copyFrom) := goodIn_app (goodIn_of _ (by decide +kernel)) ggX6_openWindow_X3_copyFrom
set_option maxRecDepth 20000 in
theorem ggX6_openWindow_X3_open : GoodIn wsX6_openWindow wsX3_open := goodIn_rr _ [(46, 1), (10, 1), (47, 4), (6, 1), (51, 4), (37, 1), (55, 1), (39, 1), (56, 4), (95, 14), (116, 4)] rfl (by decide +kernel)
set_option maxRecDepth 20000 in
theorem gX6_openWindow_X3_open : GoodIn wsX6_openWindow (wsV RX6 62 RX3 yX3_open wsX3_open) := goodIn_app (goodIn_of _ (by decide +kernel)) ggX6_openWindow_X3_open
set_option maxRecDepth 20000 in
theorem ggX6_openWindow_X6_commit : GoodIn wsX6_openWindow wsX6_commit := goodIn_ca (goodIn_ca (goodIn_ca (goodIn_ca (goodIn_ca (goodIn_rr _ [(64, 3), (2, 1), (1, 1), (67, 2), (63, 1), (69, 26)] rfl (by decide +kernel)) (goodIn_sub (fun _ h => List.mem_cons_of_mem _ (List.mem_append_left _ (List.mem_append_left _ (List.mem_append_left _ (List.mem_append_left _ (List.mem_append_right _ h)))))) (by decide +kernel))) (goodIn_sub (fun _ h => List.mem_cons_of_mem _ (List.mem_append_left _ (List.mem_append_left _ (List.mem_append_left _ (List.mem_append_right _ h))))) (by decide +kernel))) (goodIn_sub (fun _ h => List.mem_cons_of_mem _ (List.mem_append_left _ (List.mem_append_left _ (List.mem_append_right _ h)))) (by decide +kernel))) (goodIn_sub (fun _ h => List.mem_cons_of_mem _ (List.mem_append_left _ (List.mem_append_right _ h))) (by decide +kernel))) (goodIn_sub (fun _ h => List.mem_cons_of_mem _ (List.mem_append_right _ h)) (by decide +kernel))
set_option maxRecDepth 20000 in
theorem gX6_openWindow_X6_commit : GoodIn wsX6_openWindow (wsV RX6 59 RX6 yX6_commit wsX6_commit) := goodIn_app (goodIn_of _ (by decide +kernel)) ggX6_openWindow_X6_commit
theorem dX6_openWindow_0 : decode cX6_openWindow 0 = .ok (.aload_n 0, 1) := by decide +kernel
theorem dX6_openWindow_1 : decode cX6_openWindow 1 = .ok (.getfield 16, 3) := by decide +kernel
theorem dX6_openWindow_4 : decode cX6_openWindow 4 = .ok (.aload_n 0, 1) := by decide +kernel
theorem dX6_openWindow_5 : decode cX6_openWindow 5 = .ok (.getfield 10, 3) := by decide +kernel
theorem dX6_openWindow_8 : decode cX6_openWindow 8 = .ok (.invokevirtual 51, 3) := by decide +kernel
theorem dX6_openWindow_11 : decode cX6_openWindow 11 = .ok (.aload_n 0, 1) := by decide +kernel
theorem dX6_openWindow_12 : decode cX6_openWindow 12 = .ok (.aload_n 0, 1) := by decide +kernel
theorem dX6_openWindow_13 : decode cX6_openWindow 13 = .ok (.getfield 16, 3) := by decide +kernel
theorem dX6_openWindow_16 : decode cX6_openWindow 16 = .ok (.iload_n 1, 1) := by decide +kernel
theorem dX6_openWindow_17 : decode cX6_openWindow 17 = .ok (.iload_n 2, 1) := by decide +kernel
theorem dX6_openWindow_18 : decode cX6_openWindow 18 = .ok (.iload_n 3, 1) := by decide +kernel
theorem dX6_openWindow_19 : decode cX6_openWindow 19 = .ok (.invokevirtual 62, 3) := by decide +kernel
theorem dX6_openWindow_22 : decode cX6_openWindow 22 = .ok (.invokevirtual 59, 3) := by decide +kernel
theorem dX6_openWindow_25 : decode cX6_openWindow 25 = .ok (.ireturn, 1) := by decide +kernel
set_option maxRecDepth 20000 in
theorem ggX6_closeWindow_X3_copyFrom : GoodIn wsX6_closeWindow wsX3_copyFrom := goodIn_ca (goodIn_rr _ [(7, 36), (103, 25)] rfl (by decide +kernel)) (goodIn_sub (fun _ h => List.mem_cons_of_mem _ (List.mem_append_left _ (List.mem_append_left _ (List.mem_append_left _ (List.mem_append_left _ (List.mem_append_left _ (List.mem_append_right _ h))))))) (by decide +kernel))
set_option maxRecDepth 20000 in
theorem gX6_closeWindow_X3_copyFrom : GoodIn wsX6_closeWindow (wsV RX6 51 RX3 yX3_copyFrom wsX3_copyFrom) := goodIn_app (goodIn_of _ (by decide +kernel)) ggX6_closeWindow_X3_copyFrom
set_option maxRecDepth 20000 in
theorem ggX6_closeWindow_X3_close : GoodIn wsX6_closeWindow wsX3_close := goodIn_ca (goodIn_rr _ [(46, 1), (10, 1), (47, 2), (6, 1), (49, 4), (37, 1), (53, 1), (39, 1), (54, 10), (14, 1), (9, 1), (64, 4), (103, 14), (124, 4)] rfl (by decide +kernel)) (goodIn_sub (fun _ h => List.mem_cons_of_mem _ (List.mem_append_left _ (List.mem_append_left _ (List.mem_append_left _ (List.mem_append_left _ (List.mem_append_left _ (List.mem_append_right _ h))))))) (by decide +kernel))
set_option maxRecDepth 20000 in
theorem gX6_closeWindow_X3_close : GoodIn wsX6_closeWindow (wsV RX6 66 RX3 yX3_close wsX3_close) := goodIn_app (goodIn_of _ (by decide +kernel)) ggX6_closeWindow_X3_close
set_option maxRecDepth 20000 in
theorem ggX6_closeWindow_X6_commit : GoodIn wsX6_closeWindow wsX6_commit := goodIn_ca (goodIn_ca (goodIn_ca (goodIn_ca (goodIn_ca (goodIn_rr _ [(72, 3), (2, 1), (1, 1), (75, 2), (71, 1), (77, 26)] rfl (by decide +kernel)) (goodIn_sub (fun _ h => List.mem_cons_of_mem _ (List.mem_append_left _ (List.mem_append_left _ (List.mem_append_left _ (List.mem_append_left _ (List.mem_append_right _ h)))))) (by decide +kernel))) (goodIn_sub (fun _ h => List.mem_cons_of_mem _ (List.mem_append_left _ (List.mem_append_left _ (List.mem_append_left _ (List.mem_append_right _ h))))) (by decide +kernel))) (goodIn_sub (fun _ h => List.mem_cons_of_mem _ (List.mem_append_left _ (List.mem_append_left _ (List.mem_append_right _ h)))) (by decide +kernel))) (goodIn_sub (fun _ h => List.mem_cons_of_mem _ (List.mem_append_left _ (List.mem_append_right _ h))) (by decide +kernel))) (goodIn_sub (fun _ h => List.mem_cons_of_mem _ (List.mem_append_right _ h)) (by decide +kernel))
set_option maxRecDepth 20000 in
theorem gX6_closeWindow_X6_commit : GoodIn wsX6_closeWindow (wsV RX6 59 RX6 yX6_commit wsX6_commit) := goodIn_app (goodIn_of _ (by decide +kernel)) ggX6_closeWindow_X6_commit
theorem dX6_closeWindow_0 : decode cX6_closeWindow 0 = .ok (.aload_n 0, 1) := by decide +kernel
theorem dX6_closeWindow_1 : decode cX6_closeWindow 1 = .ok (.getfield 16, 3) := by decide +kernel
theorem dX6_closeWindow_4 : decode cX6_closeWindow 4 = .ok (.aload_n 0, 1) := by decide +kernel
theorem dX6_closeWindow_5 : decode cX6_closeWindow 5 = .ok (.getfield 10, 3) := by decide +kernel
theorem dX6_closeWindow_8 : decode cX6_closeWindow 8 = .ok (.invokevirtual 51, 3) := by decide +kernel
theorem dX6_closeWindow_11 : decode cX6_closeWindow 11 = .ok (.aload_n 0, 1) := by decide +kernel
theorem dX6_closeWindow_12 : decode cX6_closeWindow 12 = .ok (.aload_n 0, 1) := by decide +kernel
theorem dX6_closeWindow_13 : decode cX6_closeWindow 13 = .ok (.getfield 16, 3) := by decide +kernel
theorem dX6_closeWindow_16 : decode cX6_closeWindow 16 = .ok (.iload_n 1, 1) := by decide +kernel
theorem dX6_closeWindow_17 : decode cX6_closeWindow 17 = .ok (.invokevirtual 66, 3) := by decide +kernel
theorem dX6_closeWindow_20 : decode cX6_closeWindow 20 = .ok (.invokevirtual 59, 3) := by decide +kernel
theorem dX6_closeWindow_23 : decode cX6_closeWindow 23 = .ok (.ireturn, 1) := by decide +kernel
set_option maxRecDepth 20000 in
theorem ggX6_callNext_X3_copyFrom : GoodIn wsX6_callNext wsX3_copyFrom := goodIn_ca (goodIn_rr _ [(7, 36), (84, 25)] rfl (by decide +kernel)) (goodIn_sub (fun _ h => List.mem_cons_of_mem _ (List.mem_append_left _ (List.mem_append_left _ (List.mem_append_left _ (List.mem_append_left _ (List.mem_append_left _ (List.mem_append_right _ h))))))) (by decide +kernel))
set_option maxRecDepth 20000 in
theorem gX6_callNext_X3_copyFrom : GoodIn wsX6_callNext (wsV RX6 51 RX3 yX3_copyFrom wsX3_copyFrom) := goodIn_app (goodIn_of _ (by decide +kernel)) ggX6_callNext_X3_copyFrom
set_option maxRecDepth 20000 in
theorem ggX6_callNext_X3_callLowestTicket : GoodIn wsX6_callNext wsX3_callLowestTicket := goodIn_rr _ [(46, 1), (13, 1), (8, 1), (47, 2), (84, 21)] rfl (by decide +kernel)
set_option maxRecDepth 20000 in
theorem gX6_callNext_X3_callLowestTicket : GoodIn wsX6_callNext (wsV RX6 69 RX3 yX3_callLowestTicket wsX3_callLowestTicket) := goodIn_app (goodIn_of _ (by decide +kernel)) ggX6_callNext_X3_callLowestTicket
set_option maxRecDepth 20000 in
theorem ggX6_callNext_X6_commit : GoodIn wsX6_callNext wsX6_commit := goodIn_ca (goodIn_ca (goodIn_ca (goodIn_ca (goodIn_ca (goodIn_rr _ [(53, 3), (2, 1), (1, 1), (56, 2), (52, 1), (58, 26)] rfl (by decide +kernel)) (goodIn_sub (fun _ h => List.mem_cons_of_mem _ (List.mem_append_left _ (List.mem_append_left _ (List.mem_append_left _ (List.mem_append_left _ (List.mem_append_right _ h)))))) (by decide +kernel))) (goodIn_sub (fun _ h => List.mem_cons_of_mem _ (List.mem_append_left _ (List.mem_append_left _ (List.mem_append_left _ (List.mem_append_right _ h))))) (by decide +kernel))) (goodIn_sub (fun _ h => List.mem_cons_of_mem _ (List.mem_append_left _ (List.mem_append_left _ (List.mem_append_right _ h)))) (by decide +kernel))) (goodIn_sub (fun _ h => List.mem_cons_of_mem _ (List.mem_append_left _ (List.mem_append_right _ h))) (by decide +kernel))) (goodIn_sub (fun _ h => List.mem_cons_of_mem _ (List.mem_append_right _ h)) (by decide +kernel))
set_option maxRecDepth 20000 in
theorem gX6_callNext_X6_commit : GoodIn wsX6_callNext (wsV RX6 59 RX6 yX6_commit wsX6_commit) := goodIn_app (goodIn_of _ (by decide +kernel)) ggX6_callNext_X6_commit
theorem dX6_callNext_0 : decode cX6_callNext 0 = .ok (.aload_n 0, 1) := by decide +kernel
theorem dX6_callNext_1 : decode cX6_callNext 1 = .ok (.getfield 16, 3) := by decide +kernel
theorem dX6_callNext_4 : decode cX6_callNext 4 = .ok (.aload_n 0, 1) := by decide +kernel
theorem dX6_callNext_5 : decode cX6_callNext 5 = .ok (.getfield 10, 3) := by decide +kernel
theorem dX6_callNext_8 : decode cX6_callNext 8 = .ok (.invokevirtual 51, 3) := by decide +kernel
theorem dX6_callNext_11 : decode cX6_callNext 11 = .ok (.aload_n 0, 1) := by decide +kernel
theorem dX6_callNext_12 : decode cX6_callNext 12 = .ok (.aload_n 0, 1) := by decide +kernel
theorem dX6_callNext_13 : decode cX6_callNext 13 = .ok (.getfield 16, 3) := by decide +kernel
theorem dX6_callNext_16 : decode cX6_callNext 16 = .ok (.invokevirtual 69, 3) := by decide +kernel
theorem dX6_callNext_19 : decode cX6_callNext 19 = .ok (.invokevirtual 59, 3) := by decide +kernel
theorem dX6_callNext_22 : decode cX6_callNext 22 = .ok (.ireturn, 1) := by decide +kernel
set_option maxRecDepth 20000 in
theorem ggX6_swap_X3_copyFrom : GoodIn wsX6_swap wsX3_copyFrom := goodIn_ca (goodIn_rr _ [(7, 36), (95, 25)] rfl (by decide +kernel)) (goodIn_sub (fun _ h => List.mem_cons_of_mem _ (List.mem_append_left _ (List.mem_append_left _ (List.mem_append_left _ (List.mem_append_left _ (List.mem_append_left _ (List.mem_append_right _ h))))))) (by decide +kernel))
set_option maxRecDepth 20000 in
theorem gX6_swap_X3_copyFrom : GoodIn wsX6_swap (wsV RX6 51 RX3 yX3_copyFrom wsX3_copyFrom) := goodIn_app (goodIn_of _ (by decide +kernel)) ggX6_swap_X3_copyFrom
set_option maxRecDepth 20000 in
theorem ggX6_swap_X3_exchange : GoodIn wsX6_swap wsX3_exchange := goodIn_ca (goodIn_rr _ [(46, 1), (8, 1), (47, 1), (9, 1), (48, 7), (6, 1), (55, 1), (13, 1), (56, 4), (14, 1), (95, 21)] rfl (by decide +kernel)) (goodIn_sub (fun _ h => List.mem_cons_of_mem _ (List.mem_append_left _ (List.mem_append_left _ (List.mem_append_left _ (List.mem_append_left _ (List.mem_append_left _ (List.mem_append_right _ h))))))) (by decide +kernel))
set_option maxRecDepth 20000 in
theorem gX6_swap_X3_exchange : GoodIn wsX6_swap (wsV RX6 73 RX3 yX3_exchange wsX3_exchange) := goodIn_app (goodIn_of _ (by decide +kernel)) ggX6_swap_X3_exchange
set_option maxRecDepth 20000 in
theorem ggX6_swap_X6_commit : GoodIn wsX6_swap wsX6_commit := goodIn_ca (goodIn_ca (goodIn_ca (goodIn_ca (goodIn_ca (goodIn_rr _ [(64, 3), (2, 1), (1, 1), (67, 2), (63, 1), (69, 26)] rfl (by decide +kernel)) (goodIn_sub (fun _ h => List.mem_cons_of_mem _ (List.mem_append_left _ (List.mem_append_left _ (List.mem_append_left _ (List.mem_append_left _ (List.mem_append_right _ h)))))) (by decide +kernel))) (goodIn_sub (fun _ h => List.mem_cons_of_mem _ (List.mem_append_left _ (List.mem_append_left _ (List.mem_append_left _ (List.mem_append_right _ h))))) (by decide +kernel))) (goodIn_sub (fun _ h => List.mem_cons_of_mem _ (List.mem_append_left _ (List.mem_append_left _ (List.mem_append_right _ h)))) (by decide +kernel))) (goodIn_sub (fun _ h => List.mem_cons_of_mem _ (List.mem_append_left _ (List.mem_append_right _ h))) (by decide +kernel))) (goodIn_sub (fun _ h => List.mem_cons_of_mem _ (List.mem_append_right _ h)) (by decide +kernel))
set_option maxRecDepth 20000 in
theorem gX6_swap_X6_commit : GoodIn wsX6_swap (wsV RX6 59 RX6 yX6_commit wsX6_commit) := goodIn_app (goodIn_of _ (by decide +kernel)) ggX6_swap_X6_commit
theorem dX6_swap_0 : decode cX6_swap 0 = .ok (.aload_n 0, 1) := by decide +kernel
theorem dX6_swap_1 : decode cX6_swap 1 = .ok (.getfield 16, 3) := by decide +kernel
theorem dX6_swap_4 : decode cX6_swap 4 = .ok (.aload_n 0, 1) := by decide +kernel
theorem dX6_swap_5 : decode cX6_swap 5 = .ok (.getfield 10, 3) := by decide +kernel
theorem dX6_swap_8 : decode cX6_swap 8 = .ok (.invokevirtual 51, 3) := by decide +kernel
theorem dX6_swap_11 : decode cX6_swap 11 = .ok (.aload_n 0, 1) := by decide +kernel
theorem dX6_swap_12 : decode cX6_swap 12 = .ok (.aload_n 0, 1) := by decide +kernel
theorem dX6_swap_13 : decode cX6_swap 13 = .ok (.getfield 16, 3) := by decide +kernel
theorem dX6_swap_16 : decode cX6_swap 16 = .ok (.iload_n 1, 1) := by decide +kernel
theorem dX6_swap_17 : decode cX6_swap 17 = .ok (.iload_n 2, 1) := by decide +kernel
theorem dX6_swap_18 : decode cX6_swap 18 = .ok (.invokevirtual 73, 3) := by decide +kernel
theorem dX6_swap_21 : decode cX6_swap 21 = .ok (.invokevirtual 59, 3) := by decide +kernel
theorem dX6_swap_24 : decode cX6_swap 24 = .ok (.ireturn, 1) := by decide +kernel
set_option maxRecDepth 20000 in
theorem ggX6_sit_X3_copyFrom : GoodIn wsX6_sit wsX3_copyFrom := goodIn_ca (goodIn_rr _ [(7, 36), (96, 25)] rfl (by decide +kernel)) (goodIn_sub (fun _ h => List.mem_cons_of_mem _ (List.mem_append_left _ (List.mem_append_left _ (List.mem_append_left _ (List.mem_append_left _ (List.mem_append_left _ (List.mem_append_right _ h))))))) (by decide +kernel))
set_option maxRecDepth 20000 in
theorem gX6_sit_X3_copyFrom : GoodIn wsX6_sit (wsV RX6 51 RX3 yX3_copyFrom wsX3_copyFrom) := goodIn_app (goodIn_of _ (by decide +kernel)) ggX6_sit_X3_copyFrom
set_option maxRecDepth 20000 in
theorem ggX6_sit_X3_seat : GoodIn wsX6_sit wsX3_seat := goodIn_rr _ [(46, 1), (8, 1), (47, 4), (6, 1), (51, 1), (13, 1), (52, 4), (10, 1), (56, 5), (96, 25)] rfl (by decide +kernel)
set_option maxRecDepth 20000 in
theorem gX6_sit_X3_seat : GoodIn wsX6_sit (wsV RX6 77 RX3 yX3_seat wsX3_seat) := goodIn_app (goodIn_of _ (by decide +kernel)) ggX6_sit_X3_seat
set_option maxRecDepth 20000 in
theorem ggX6_sit_X6_commit : GoodIn wsX6_sit wsX6_commit := goodIn_ca (goodIn_ca (goodIn_ca (goodIn_ca (goodIn_ca (goodIn_rr _ [(65, 3), (2, 1), (1, 1), (68, 2), (64, 1), (70, 26)] rfl (by decide +kernel)) (goodIn_sub (fun _ h => List.mem_cons_of_mem _ (List.mem_append_left _ (List.mem_append_left _ (List.mem_append_left _ (List.mem_append_left _ (List.mem_append_right _ h)))))) (by decide +kernel))) (goodIn_sub (fun _ h => List.mem_cons_of_mem _ (List.mem_append_left _ (List.mem_append_left _ (List.mem_append_left _ (List.mem_append_right _ h))))) (by decide +kernel))) (goodIn_sub (fun _ h => List.mem_cons_of_mem _ (List.mem_append_left _ (List.mem_append_left _ (List.mem_append_right _ h)))) (by decide +kernel))) (goodIn_sub (fun _ h => List.mem_cons_of_mem _ (List.mem_append_left _ (List.mem_append_right _ h))) (by decide +kernel))) (goodIn_sub (fun _ h => List.mem_cons_of_mem _ (List.mem_append_right _ h)) (by decide +kernel))
set_option maxRecDepth 20000 in
theorem gX6_sit_X6_commit : GoodIn wsX6_sit (wsV RX6 59 RX6 yX6_commit wsX6_commit) := goodIn_app (goodIn_of _ (by decide +kernel)) ggX6_sit_X6_commit
theorem dX6_sit_0 : decode cX6_sit 0 = .ok (.aload_n 0, 1) := by decide +kernel
theorem dX6_sit_1 : decode cX6_sit 1 = .ok (.getfield 16, 3) := by decide +kernel
theorem dX6_sit_4 : decode cX6_sit 4 = .ok (.aload_n 0, 1) := by decide +kernel
theorem dX6_sit_5 : decode cX6_sit 5 = .ok (.getfield 10, 3) := by decide +kernel
theorem dX6_sit_8 : decode cX6_sit 8 = .ok (.invokevirtual 51, 3) := by decide +kernel
theorem dX6_sit_11 : decode cX6_sit 11 = .ok (.aload_n 0, 1) := by decide +kernel
theorem dX6_sit_12 : decode cX6_sit 12 = .ok (.aload_n 0, 1) := by decide +kernel
theorem dX6_sit_13 : decode cX6_sit 13 = .ok (.getfield 16, 3) := by decide +kernel
theorem dX6_sit_16 : decode cX6_sit 16 = .ok (.iload_n 1, 1) := by decide +kernel
theorem dX6_sit_17 : decode cX6_sit 17 = .ok (.invokevirtual 77, 3) := by decide +kernel
theorem dX6_sit_20 : decode cX6_sit 20 = .ok (.invokevirtual 59, 3) := by decide +kernel
theorem dX6_sit_23 : decode cX6_sit 23 = .ok (.ireturn, 1) := by decide +kernel
set_option maxRecDepth 20000 in
theorem ggX6_standUp_X3_copyFrom : GoodIn wsX6_standUp wsX3_copyFrom := goodIn_ca (goodIn_rr _ [(7, 36), (91, 25)] rfl (by decide +kernel)) (goodIn_sub (fun _ h => List.mem_cons_of_mem _ (List.mem_append_left _ (List.mem_append_left _ (List.mem_append_left _ (List.mem_append_left _ (List.mem_append_left _ (List.mem_append_right _ h))))))) (by decide +kernel))
set_option maxRecDepth 20000 in
theorem gX6_standUp_X3_copyFrom : GoodIn wsX6_standUp (wsV RX6 51 RX3 yX3_copyFrom wsX3_copyFrom) := goodIn_app (goodIn_of _ (by decide +kernel)) ggX6_standUp_X3_copyFrom
set_option maxRecDepth 20000 in
theorem ggX6_standUp_X3_unseat : GoodIn wsX6_standUp wsX3_unseat := goodIn_rr _ [(46, 1), (8, 1), (47, 4), (6, 1), (51, 1), (13, 1), (52, 4), (91, 21)] rfl (by decide +kernel)
set_option maxRecDepth 20000 in
theorem gX6_standUp_X3_unseat : GoodIn wsX6_standUp (wsV RX6 80 RX3 yX3_unseat wsX3_unseat) := goodIn_app (goodIn_of _ (by decide +kernel)) ggX6_standUp_X3_unseat
set_option maxRecDepth 20000 in
theorem ggX6_standUp_X6_commit : GoodIn wsX6_standUp wsX6_commit := goodIn_ca (goodIn_ca (goodIn_ca (goodIn_ca (goodIn_ca (goodIn_rr _ [(60, 3), (2, 1), (1, 1), (63, 2), (59, 1), (65, 26)] rfl (by decide +kernel)) (goodIn_sub (fun _ h => List.mem_cons_of_mem _ (List.mem_append_left _ (List.mem_append_left _ (List.mem_append_left _ (List.mem_append_left _ (List.mem_append_right _ h)))))) (by decide +kernel))) (goodIn_sub (fun _ h => List.mem_cons_of_mem _ (List.mem_append_left _ (List.mem_append_left _ (List.mem_append_left _ (List.mem_append_right _ h))))) (by decide +kernel))) (goodIn_sub (fun _ h => List.mem_cons_of_mem _ (List.mem_append_left _ (List.mem_append_left _ (List.mem_append_right _ h)))) (by decide +kernel))) (goodIn_sub (fun _ h => List.mem_cons_of_mem _ (List.mem_append_left _ (List.mem_append_right _ h))) (by decide +kernel))) (goodIn_sub (fun _ h => List.mem_cons_of_mem _ (List.mem_append_right _ h)) (by decide +kernel))
set_option maxRecDepth 20000 in
theorem gX6_standUp_X6_commit : GoodIn wsX6_standUp (wsV RX6 59 RX6 yX6_commit wsX6_commit) := goodIn_app (goodIn_of _ (by decide +kernel)) ggX6_standUp_X6_commit
theorem dX6_standUp_0 : decode cX6_standUp 0 = .ok (.aload_n 0, 1) := by decide +kernel
theorem dX6_standUp_1 : decode cX6_standUp 1 = .ok (.getfield 16, 3) := by decide +kernel
theorem dX6_standUp_4 : decode cX6_standUp 4 = .ok (.aload_n 0, 1) := by decide +kernel
theorem dX6_standUp_5 : decode cX6_standUp 5 = .ok (.getfield 10, 3) := by decide +kernel
theorem dX6_standUp_8 : decode cX6_standUp 8 = .ok (.invokevirtual 51, 3) := by decide +kernel
theorem dX6_standUp_11 : decode cX6_standUp 11 = .ok (.aload_n 0, 1) := by decide +kernel
theorem dX6_standUp_12 : decode cX6_standUp 12 = .ok (.aload_n 0, 1) := by decide +kernel
theorem dX6_standUp_13 : decode cX6_standUp 13 = .ok (.getfield 16, 3) := by decide +kernel
theorem dX6_standUp_16 : decode cX6_standUp 16 = .ok (.iload_n 1, 1) := by decide +kernel
theorem dX6_standUp_17 : decode cX6_standUp 17 = .ok (.invokevirtual 80, 3) := by decide +kernel
theorem dX6_standUp_20 : decode cX6_standUp 20 = .ok (.invokevirtual 59, 3) := by decide +kernel
theorem dX6_standUp_23 : decode cX6_standUp 23 = .ok (.ireturn, 1) := by decide +kernel
set_option maxRecDepth 20000 in
theorem ggX6_remove_X3_copyFrom : GoodIn wsX6_remove wsX3_copyFrom := goodIn_ca (goodIn_rr _ [(7, 36), (107, 25)] rfl (by decide +kernel)) (goodIn_sub (fun _ h => List.mem_cons_of_mem _ (List.mem_append_left _ (List.mem_append_left _ (List.mem_append_left _ (List.mem_append_left _ (List.mem_append_left _ (List.mem_append_right _ h))))))) (by decide +kernel))
set_option maxRecDepth 20000 in
theorem gX6_remove_X3_copyFrom : GoodIn wsX6_remove (wsV RX6 51 RX3 yX3_copyFrom wsX3_copyFrom) := goodIn_app (goodIn_of _ (by decide +kernel)) ggX6_remove_X3_copyFrom
set_option maxRecDepth 20000 in
theorem ggX6_remove_X3_dismiss : GoodIn wsX6_remove wsX3_dismiss := goodIn_ca (goodIn_rr _ [(46, 1), (20, 1), (13, 1), (47, 3), (6, 1), (50, 5), (10, 1), (55, 1), (8, 1), (56, 4), (14, 1), (9, 1), (60, 12), (107, 14), (128, 4)] rfl (by decide +kernel)) (goodIn_sub (fun _ h => List.mem_cons_of_mem _ (List.mem_append_left _ (List.mem_append_left _ (List.mem_append_left _ (List.mem_append_left _ (List.mem_append_left _ (List.mem_append_right _ h))))))) (by decide +kernel))
set_option maxRecDepth 20000 in
theorem gX6_remove_X3_dismiss : GoodIn wsX6_remove (wsV RX6 83 RX3 yX3_dismiss wsX3_dismiss) := goodIn_app (goodIn_of _ (by decide +kernel)) ggX6_remove_X3_dismiss
set_option maxRecDepth 20000 in
theorem ggX6_remove_X6_commit : GoodIn wsX6_remove wsX6_commit := goodIn_ca (goodIn_ca (goodIn_ca (goodIn_ca (goodIn_ca (goodIn_rr _ [(76, 3), (2, 1), (1, 1), (79, 2), (75, 1), (81, 26)] rfl (by decide +kernel)) (goodIn_sub (fun _ h => List.mem_cons_of_mem _ (List.mem_append_left _ (List.mem_append_left _ (List.mem_append_left _ (List.mem_append_left _ (List.mem_append_right _ h)))))) (by decide +kernel))) (goodIn_sub (fun _ h => List.mem_cons_of_mem _ (List.mem_append_left _ (List.mem_append_left _ (List.mem_append_left _ (List.mem_append_right _ h))))) (by decide +kernel))) (goodIn_sub (fun _ h => List.mem_cons_of_mem _ (List.mem_append_left _ (List.mem_append_left _ (List.mem_append_right _ h)))) (by decide +kernel))) (goodIn_sub (fun _ h => List.mem_cons_of_mem _ (List.mem_append_left _ (List.mem_append_right _ h))) (by decide +kernel))) (goodIn_sub (fun _ h => List.mem_cons_of_mem _ (List.mem_append_right _ h)) (by decide +kernel))
set_option maxRecDepth 20000 in
theorem gX6_remove_X6_commit : GoodIn wsX6_remove (wsV RX6 59 RX6 yX6_commit wsX6_commit) := goodIn_app (goodIn_of _ (by decide +kernel)) ggX6_remove_X6_commit
theorem dX6_remove_0 : decode cX6_remove 0 = .ok (.aload_n 0, 1) := by decide +kernel
theorem dX6_remove_1 : decode cX6_remove 1 = .ok (.getfield 16, 3) := by decide +kernel
theorem dX6_remove_4 : decode cX6_remove 4 = .ok (.aload_n 0, 1) := by decide +kernel
theorem dX6_remove_5 : decode cX6_remove 5 = .ok (.getfield 10, 3) := by decide +kernel
theorem dX6_remove_8 : decode cX6_remove 8 = .ok (.invokevirtual 51, 3) := by decide +kernel
theorem dX6_remove_11 : decode cX6_remove 11 = .ok (.aload_n 0, 1) := by decide +kernel
theorem dX6_remove_12 : decode cX6_remove 12 = .ok (.aload_n 0, 1) := by decide +kernel
theorem dX6_remove_13 : decode cX6_remove 13 = .ok (.getfield 16, 3) := by decide +kernel
theorem dX6_remove_16 : decode cX6_remove 16 = .ok (.iload_n 1, 1) := by decide +kernel
theorem dX6_remove_17 : decode cX6_remove 17 = .ok (.invokevirtual 83, 3) := by decide +kernel
theorem dX6_remove_20 : decode cX6_remove 20 = .ok (.invokevirtual 59, 3) := by decide +kernel
theorem dX6_remove_23 : decode cX6_remove 23 = .ok (.ireturn, 1) := by decide +kernel
set_option maxRecDepth 20000 in
theorem ggX6_advance_X3_copyFrom : GoodIn wsX6_advance wsX3_copyFrom := goodIn_ca (goodIn_rr _ [(7, 36), (154, 25)] rfl (by decide +kernel)) (goodIn_sub (fun _ h => List.mem_cons_of_mem _ (List.mem_append_left _ (List.mem_append_left _ (List.mem_append_left _ (List.mem_append_left _ (List.mem_append_left _ (List.mem_append_right _ h))))))) (by decide +kernel))
set_option maxRecDepth 20000 in
theorem gX6_advance_X3_copyFrom : GoodIn wsX6_advance (wsV RX6 51 RX3 yX3_copyFrom wsX3_copyFrom) := goodIn_app (goodIn_of _ (by decide +kernel)) ggX6_advance_X3_copyFrom
set_option maxRecDepth 20000 in
theorem ggX6_advance_X3_pass : GoodIn wsX6_advance wsX3_pass := goodIn_ca (goodIn_rr _ [(46, 1), (17, 1), (47, 3), (6, 1), (50, 1), (10, 1), (51, 1), (15, 1), (52, 3), (37, 1), (55, 1), (39, 1), (56, 5), (8, 1), (61, 5), (11, 2), (66, 3), (18, 1), (69, 4), (13, 1), (73, 4), (14, 1), (9, 1), (77, 24), (21, 1), (19, 1), (101, 3), (25, 1), (104, 1), (31, 1), (33, 1), (30, 1), (105, 7), (28, 2), (112, 7), (154, 14), (175, 4), (168, 7)] rfl (by decide +kernel)) (goodIn_sub (fun _ h => List.mem_cons_of_mem _ (List.mem_append_left _ (List.mem_append_left _ (List.mem_append_left _ (List.mem_append_left _ (List.mem_append_left _ (List.mem_append_right _ h))))))) (by decide +kernel))
set_option maxRecDepth 20000 in
theorem gX6_advance_X3_pass : GoodIn wsX6_advance (wsV RX6 86 RX3 yX3_pass wsX3_pass) := goodIn_app (goodIn_of _ (by decide +kernel)) ggX6_advance_X3_pass
set_option maxRecDepth 20000 in
theorem ggX6_advance_X6_commit : GoodIn wsX6_advance wsX6_commit := goodIn_ca (goodIn_ca (goodIn_ca (goodIn_ca (goodIn_ca (goodIn_rr _ [(123, 3), (2, 1), (1, 1), (126, 2), (122, 1), (128, 26)] rfl (by decide +kernel)) (goodIn_sub (fun _ h => List.mem_cons_of_mem _ (List.mem_append_left _ (List.mem_append_left _ (List.mem_append_left _ (List.mem_append_left _ (List.mem_append_right _ h)))))) (by decide +kernel))) (goodIn_sub (fun _ h => List.mem_cons_of_mem _ (List.mem_append_left _ (List.mem_append_left _ (List.mem_append_left _ (List.mem_append_right _ h))))) (by decide +kernel))) (goodIn_sub (fun _ h => List.mem_cons_of_mem _ (List.mem_append_left _ (List.mem_append_left _ (List.mem_append_right _ h)))) (by decide +kernel))) (goodIn_sub (fun _ h => List.mem_cons_of_mem _ (List.mem_append_left _ (List.mem_append_right _ h))) (by decide +kernel))) (goodIn_sub (fun _ h => List.mem_cons_of_mem _ (List.mem_append_right _ h)) (by decide +kernel))
set_option maxRecDepth 20000 in
theorem gX6_advance_X6_commit : GoodIn wsX6_advance (wsV RX6 59 RX6 yX6_commit wsX6_commit) := goodIn_app (goodIn_of _ (by decide +kernel)) ggX6_advance_X6_commit
theorem dX6_advance_0 : decode cX6_advance 0 = .ok (.aload_n 0, 1) := by decide +kernel
theorem dX6_advance_1 : decode cX6_advance 1 = .ok (.getfield 16, 3) := by decide +kernel
theorem dX6_advance_4 : decode cX6_advance 4 = .ok (.aload_n 0, 1) := by decide +kernel
theorem dX6_advance_5 : decode cX6_advance 5 = .ok (.getfield 10, 3) := by decide +kernel
theorem dX6_advance_8 : decode cX6_advance 8 = .ok (.invokevirtual 51, 3) := by decide +kernel
theorem dX6_advance_11 : decode cX6_advance 11 = .ok (.aload_n 0, 1) := by decide +kernel
theorem dX6_advance_12 : decode cX6_advance 12 = .ok (.aload_n 0, 1) := by decide +kernel
theorem dX6_advance_13 : decode cX6_advance 13 = .ok (.getfield 16, 3) := by decide +kernel
theorem dX6_advance_16 : decode cX6_advance 16 = .ok (.iload_n 1, 1) := by decide +kernel
theorem dX6_advance_17 : decode cX6_advance 17 = .ok (.invokevirtual 86, 3) := by decide +kernel
theorem dX6_advance_20 : decode cX6_advance 20 = .ok (.invokevirtual 59, 3) := by decide +kernel
theorem dX6_advance_23 : decode cX6_advance 23 = .ok (.ireturn, 1) := by decide +kernel
set_option maxRecDepth 20000 in
theorem ggX6_commit_X6_throwIfRefused : GoodIn wsX6_commit wsX6_throwIfRefused := goodIn_ca (goodIn_ca (goodIn_ca (goodIn_ca (goodIn_ca (goodIn_rr _ [(8, 11)] rfl (by decide +kernel)) (goodIn_sub (fun _ h => List.mem_cons_of_mem _ (List.mem_append_left _ (List.mem_append_left _ (List.mem_append_left _ (List.mem_append_left _ (List.mem_append_right _ h)))))) (by decide +kernel))) (goodIn_sub (fun _ h => List.mem_cons_of_mem _ (List.mem_append_left _ (List.mem_append_left _ (List.mem_append_left _ (List.mem_append_right _ h))))) (by decide +kernel))) (goodIn_sub (fun _ h => List.mem_cons_of_mem _ (List.mem_append_left _ (List.mem_append_left _ (List.mem_append_right _ h)))) (by decide +kernel))) (goodIn_sub (fun _ h => List.mem_cons_of_mem _ (List.mem_append_left _ (List.mem_append_right _ h))) (by decide +kernel))) (goodIn_sub (fun _ h => List.mem_cons_of_mem _ (List.mem_append_right _ h)) (by decide +kernel))
set_option maxRecDepth 20000 in
theorem gX6_commit_X6_throwIfRefused : GoodIn wsX6_commit (va_wsS RX6 89 yX6_throwIfRefused wsX6_throwIfRefused) := goodIn_app (goodIn_of _ (by decide +kernel)) ggX6_commit_X6_throwIfRefused
set_option maxRecDepth 20000 in
theorem ggX6_commit_X6_forgetOldestChange : GoodIn wsX6_commit wsX6_forgetOldestChange := goodIn_rr _ [(22, 1), (2, 1), (1, 1), (23, 11)] rfl (by decide +kernel)
set_option maxRecDepth 20000 in
theorem gX6_commit_X6_forgetOldestChange : GoodIn wsX6_commit (wsV RX6 96 RX6 yX6_forgetOldestChange wsX6_forgetOldestChange) := goodIn_app (goodIn_of _ (by decide +kernel)) ggX6_commit_X6_forgetOldestChange
theorem dX6_commit_0 : decode cX6_commit 0 = .ok (.iload_n 1, 1) := by decide +kernel
theorem dX6_commit_1 : decode cX6_commit 1 = .ok (.invokestatic 89, 3) := by decide +kernel
theorem dX6_commit_4 : decode cX6_commit 4 = .ok (.aload_n 0, 1) := by decide +kernel
theorem dX6_commit_5 : decode cX6_commit 5 = .ok (.getfield 93, 3) := by decide +kernel
theorem dX6_commit_8 : decode cX6_commit 8 = .ok (.bipush 8, 2) := by decide +kernel
theorem dX6_commit_10 : decode cX6_commit 10 = .ok (.if_icmp .ne 7, 3) := by decide +kernel
theorem dX6_commit_13 : decode cX6_commit 13 = .ok (.aload_n 0, 1) := by decide +kernel
theorem dX6_commit_14 : decode cX6_commit 14 = .ok (.invokevirtual 96, 3) := by decide +kernel
theorem dX6_commit_17 : decode cX6_commit 17 = .ok (.aload_n 0, 1) := by decide +kernel
theorem dX6_commit_18 : decode cX6_commit 18 = .ok (.getfield 22, 3) := by decide +kernel
theorem dX6_commit_21 : decode cX6_commit 21 = .ok (.aload_n 0, 1) := by decide +kernel
theorem dX6_commit_22 : decode cX6_commit 22 = .ok (.getfield 93, 3) := by decide +kernel
theorem dX6_commit_25 : decode cX6_commit 25 = .ok (.aaload, 1) := by decide +kernel
theorem dX6_commit_26 : decode cX6_commit 26 = .ok (.astore_n 2, 1) := by decide +kernel
theorem dX6_commit_27 : decode cX6_commit 27 = .ok (.aload_n 0, 1) := by decide +kernel
theorem dX6_commit_28 : decode cX6_commit 28 = .ok (.getfield 22, 3) := by decide +kernel
theorem dX6_commit_31 : decode cX6_commit 31 = .ok (.aload_n 0, 1) := by decide +kernel
theorem dX6_commit_32 : decode cX6_commit 32 = .ok (.getfield 93, 3) := by decide +kernel
theorem dX6_commit_35 : decode cX6_commit 35 = .ok (.aload_n 0, 1) := by decide +kernel
theorem dX6_commit_36 : decode cX6_commit 36 = .ok (.getfield 10, 3) := by decide +kernel
theorem dX6_commit_39 : decode cX6_commit 39 = .ok (.aastore, 1) := by decide +kernel
theorem dX6_commit_40 : decode cX6_commit 40 = .ok (.aload_n 0, 1) := by decide +kernel
theorem dX6_commit_41 : decode cX6_commit 41 = .ok (.dup, 1) := by decide +kernel
theorem dX6_commit_42 : decode cX6_commit 42 = .ok (.getfield 93, 3) := by decide +kernel
theorem dX6_commit_45 : decode cX6_commit 45 = .ok (.iconst 1, 1) := by decide +kernel
theorem dX6_commit_46 : decode cX6_commit 46 = .ok (.iadd, 1) := by decide +kernel
theorem dX6_commit_47 : decode cX6_commit 47 = .ok (.putfield 93, 3) := by decide +kernel
theorem dX6_commit_50 : decode cX6_commit 50 = .ok (.aload_n 0, 1) := by decide +kernel
theorem dX6_commit_51 : decode cX6_commit 51 = .ok (.aload_n 0, 1) := by decide +kernel
theorem dX6_commit_52 : decode cX6_commit 52 = .ok (.getfield 16, 3) := by decide +kernel
theorem dX6_commit_55 : decode cX6_commit 55 = .ok (.putfield 10, 3) := by decide +kernel
theorem dX6_commit_58 : decode cX6_commit 58 = .ok (.aload_n 0, 1) := by decide +kernel
theorem dX6_commit_59 : decode cX6_commit 59 = .ok (.aload_n 2, 1) := by decide +kernel
theorem dX6_commit_60 : decode cX6_commit 60 = .ok (.putfield 16, 3) := by decide +kernel
theorem dX6_commit_63 : decode cX6_commit 63 = .ok (.iload_n 1, 1) := by decide +kernel
theorem dX6_commit_64 : decode cX6_commit 64 = .ok (.ireturn, 1) := by decide +kernel
theorem dX6_forgetOldestChange_0 : decode cX6_forgetOldestChange 0 = .ok (.aload_n 0, 1) := by decide +kernel
theorem dX6_forgetOldestChange_1 : decode cX6_forgetOldestChange 1 = .ok (.getfield 22, 3) := by decide +kernel
theorem dX6_forgetOldestChange_4 : decode cX6_forgetOldestChange 4 = .ok (.iconst 0, 1) := by decide +kernel
theorem dX6_forgetOldestChange_5 : decode cX6_forgetOldestChange 5 = .ok (.aaload, 1) := by decide +kernel
theorem dX6_forgetOldestChange_6 : decode cX6_forgetOldestChange 6 = .ok (.astore_n 1, 1) := by decide +kernel
theorem dX6_forgetOldestChange_7 : decode cX6_forgetOldestChange 7 = .ok (.iconst 1, 1) := by decide +kernel
theorem dX6_forgetOldestChange_8 : decode cX6_forgetOldestChange 8 = .ok (.istore_n 2, 1) := by decide +kernel
theorem dX6_forgetOldestChange_9 : decode cX6_forgetOldestChange 9 = .ok (.iload_n 2, 1) := by decide +kernel
theorem dX6_forgetOldestChange_10 : decode cX6_forgetOldestChange 10 = .ok (.bipush 8, 2) := by decide +kernel
theorem dX6_forgetOldestChange_12 : decode cX6_forgetOldestChange 12 = .ok (.if_icmp .ge 23, 3) := by decide +kernel
theorem dX6_forgetOldestChange_15 : decode cX6_forgetOldestChange 15 = .ok (.aload_n 0, 1) := by decide +kernel
theorem dX6_forgetOldestChange_16 : decode cX6_forgetOldestChange 16 = .ok (.getfield 22, 3) := by decide +kernel
theorem dX6_forgetOldestChange_19 : decode cX6_forgetOldestChange 19 = .ok (.iload_n 2, 1) := by decide +kernel
theorem dX6_forgetOldestChange_20 : decode cX6_forgetOldestChange 20 = .ok (.iconst 1, 1) := by decide +kernel
theorem dX6_forgetOldestChange_21 : decode cX6_forgetOldestChange 21 = .ok (.isub, 1) := by decide +kernel
theorem dX6_forgetOldestChange_22 : decode cX6_forgetOldestChange 22 = .ok (.aload_n 0, 1) := by decide +kernel
theorem dX6_forgetOldestChange_23 : decode cX6_forgetOldestChange 23 = .ok (.getfield 22, 3) := by decide +kernel
theorem dX6_forgetOldestChange_26 : decode cX6_forgetOldestChange 26 = .ok (.iload_n 2, 1) := by decide +kernel
theorem dX6_forgetOldestChange_27 : decode cX6_forgetOldestChange 27 = .ok (.aaload, 1) := by decide +kernel
theorem dX6_forgetOldestChange_28 : decode cX6_forgetOldestChange 28 = .ok (.aastore, 1) := by decide +kernel
theorem dX6_forgetOldestChange_29 : decode cX6_forgetOldestChange 29 = .ok (.iinc 2 1, 3) := by decide +kernel
theorem dX6_forgetOldestChange_32 : decode cX6_forgetOldestChange 32 = .ok (.goto (-23), 3) := by decide +kernel
theorem dX6_forgetOldestChange_35 : decode cX6_forgetOldestChange 35 = .ok (.aload_n 0, 1) := by decide +kernel
theorem dX6_forgetOldestChange_36 : decode cX6_forgetOldestChange 36 = .ok (.getfield 22, 3) := by decide +kernel
theorem dX6_forgetOldestChange_39 : decode cX6_forgetOldestChange 39 = .ok (.bipush 7, 2) := by decide +kernel
theorem dX6_forgetOldestChange_41 : decode cX6_forgetOldestChange 41 = .ok (.aload_n 1, 1) := by decide +kernel
theorem dX6_forgetOldestChange_42 : decode cX6_forgetOldestChange 42 = .ok (.aastore, 1) := by decide +kernel
theorem dX6_forgetOldestChange_43 : decode cX6_forgetOldestChange 43 = .ok (.aload_n 0, 1) := by decide +kernel
theorem dX6_forgetOldestChange_44 : decode cX6_forgetOldestChange 44 = .ok (.bipush 7, 2) := by decide +kernel
theorem dX6_forgetOldestChange_46 : decode cX6_forgetOldestChange 46 = .ok (.putfield 93, 3) := by decide +kernel
theorem dX6_forgetOldestChange_49 : decode cX6_forgetOldestChange 49 = .ok (.return_, 1) := by decide +kernel
theorem dX6_throwIfRefused_0 : decode cX6_throwIfRefused 0 = .ok (.iload_n 0, 1) := by decide +kernel
theorem dX6_throwIfRefused_1 : decode cX6_throwIfRefused 1 = .ok (.tableswitch 85 (-5) (-1) #[75, 65, 55, 45, 35], 35) := by decide +kernel
theorem dX6_throwIfRefused_36 : decode cX6_throwIfRefused 36 = .ok (.new 99, 3) := by decide +kernel
theorem dX6_throwIfRefused_39 : decode cX6_throwIfRefused 39 = .ok (.dup, 1) := by decide +kernel
theorem dX6_throwIfRefused_40 : decode cX6_throwIfRefused 40 = .ok (.ldc 101, 2) := by decide +kernel
theorem dX6_throwIfRefused_42 : decode cX6_throwIfRefused 42 = .ok (.invokespecial 103, 3) := by decide +kernel
theorem dX6_throwIfRefused_45 : decode cX6_throwIfRefused 45 = .ok (.athrow, 1) := by decide +kernel
theorem dX6_throwIfRefused_46 : decode cX6_throwIfRefused 46 = .ok (.new 106, 3) := by decide +kernel
theorem dX6_throwIfRefused_49 : decode cX6_throwIfRefused 49 = .ok (.dup, 1) := by decide +kernel
theorem dX6_throwIfRefused_50 : decode cX6_throwIfRefused 50 = .ok (.ldc 108, 2) := by decide +kernel
theorem dX6_throwIfRefused_52 : decode cX6_throwIfRefused 52 = .ok (.invokespecial 110, 3) := by decide +kernel
theorem dX6_throwIfRefused_55 : decode cX6_throwIfRefused 55 = .ok (.athrow, 1) := by decide +kernel
theorem dX6_throwIfRefused_56 : decode cX6_throwIfRefused 56 = .ok (.new 111, 3) := by decide +kernel
theorem dX6_throwIfRefused_59 : decode cX6_throwIfRefused 59 = .ok (.dup, 1) := by decide +kernel
theorem dX6_throwIfRefused_60 : decode cX6_throwIfRefused 60 = .ok (.ldc 113, 2) := by decide +kernel
theorem dX6_throwIfRefused_62 : decode cX6_throwIfRefused 62 = .ok (.invokespecial 115, 3) := by decide +kernel
theorem dX6_throwIfRefused_65 : decode cX6_throwIfRefused 65 = .ok (.athrow, 1) := by decide +kernel
theorem dX6_throwIfRefused_66 : decode cX6_throwIfRefused 66 = .ok (.new 116, 3) := by decide +kernel
theorem dX6_throwIfRefused_69 : decode cX6_throwIfRefused 69 = .ok (.dup, 1) := by decide +kernel
theorem dX6_throwIfRefused_70 : decode cX6_throwIfRefused 70 = .ok (.ldc 118, 2) := by decide +kernel
theorem dX6_throwIfRefused_72 : decode cX6_throwIfRefused 72 = .ok (.invokespecial 120, 3) := by decide +kernel
theorem dX6_throwIfRefused_75 : decode cX6_throwIfRefused 75 = .ok (.athrow, 1) := by decide +kernel
theorem dX6_throwIfRefused_76 : decode cX6_throwIfRefused 76 = .ok (.new 121, 3) := by decide +kernel
theorem dX6_throwIfRefused_79 : decode cX6_throwIfRefused 79 = .ok (.dup, 1) := by decide +kernel
theorem dX6_throwIfRefused_80 : decode cX6_throwIfRefused 80 = .ok (.ldc 123, 2) := by decide +kernel
theorem dX6_throwIfRefused_82 : decode cX6_throwIfRefused 82 = .ok (.invokespecial 125, 3) := by decide +kernel
theorem dX6_throwIfRefused_85 : decode cX6_throwIfRefused 85 = .ok (.athrow, 1) := by decide +kernel
theorem dX6_throwIfRefused_86 : decode cX6_throwIfRefused 86 = .ok (.return_, 1) := by decide +kernel
theorem dX6_customerCount_0 : decode cX6_customerCount 0 = .ok (.aload_n 0, 1) := by decide +kernel
theorem dX6_customerCount_1 : decode cX6_customerCount 1 = .ok (.getfield 10, 3) := by decide +kernel
theorem dX6_customerCount_4 : decode cX6_customerCount 4 = .ok (.getfield 126, 3) := by decide +kernel
theorem dX6_customerCount_7 : decode cX6_customerCount 7 = .ok (.ireturn, 1) := by decide +kernel
set_option maxRecDepth 20000 in
theorem ggX6_ticket_X6_requireCustomer : GoodIn wsX6_ticket wsX6_requireCustomer := goodIn_ca (goodIn_rr _ [(8, 3), (1, 1), (11, 31)] rfl (by decide +kernel)) (goodIn_sub (fun _ h => List.mem_cons_of_mem _ (List.mem_append_right _ h)) (by decide +kernel))
set_option maxRecDepth 20000 in
theorem gX6_ticket_X6_requireCustomer : GoodIn wsX6_ticket (wsV RX6 129 RX6 yX6_requireCustomer wsX6_requireCustomer) := goodIn_app (goodIn_of _ (by decide +kernel)) ggX6_ticket_X6_requireCustomer
theorem dX6_ticket_0 : decode cX6_ticket 0 = .ok (.aload_n 0, 1) := by decide +kernel
theorem dX6_ticket_1 : decode cX6_ticket 1 = .ok (.iload_n 1, 1) := by decide +kernel
theorem dX6_ticket_2 : decode cX6_ticket 2 = .ok (.invokevirtual 129, 3) := by decide +kernel
theorem dX6_ticket_5 : decode cX6_ticket 5 = .ok (.aload_n 0, 1) := by decide +kernel
theorem dX6_ticket_6 : decode cX6_ticket 6 = .ok (.getfield 10, 3) := by decide +kernel
theorem dX6_ticket_9 : decode cX6_ticket 9 = .ok (.getfield 132, 3) := by decide +kernel
theorem dX6_ticket_12 : decode cX6_ticket 12 = .ok (.iload_n 1, 1) := by decide +kernel
theorem dX6_ticket_13 : decode cX6_ticket 13 = .ok (.aaload, 1) := by decide +kernel
theorem dX6_ticket_14 : decode cX6_ticket 14 = .ok (.getfield 136, 3) := by decide +kernel
theorem dX6_ticket_17 : decode cX6_ticket 17 = .ok (.ireturn, 1) := by decide +kernel
set_option maxRecDepth 20000 in
theorem ggX6_patience_X6_requireCustomer : GoodIn wsX6_patience wsX6_requireCustomer := goodIn_ca (goodIn_rr _ [(8, 3), (1, 1), (11, 31)] rfl (by decide +kernel)) (goodIn_sub (fun _ h => List.mem_cons_of_mem _ (List.mem_append_right _ h)) (by decide +kernel))
set_option maxRecDepth 20000 in
theorem gX6_patience_X6_requireCustomer : GoodIn wsX6_patience (wsV RX6 129 RX6 yX6_requireCustomer wsX6_requireCustomer) := goodIn_app (goodIn_of _ (by decide +kernel)) ggX6_patience_X6_requireCustomer
theorem dX6_patience_0 : decode cX6_patience 0 = .ok (.aload_n 0, 1) := by decide +kernel
theorem dX6_patience_1 : decode cX6_patience 1 = .ok (.iload_n 1, 1) := by decide +kernel
theorem dX6_patience_2 : decode cX6_patience 2 = .ok (.invokevirtual 129, 3) := by decide +kernel
theorem dX6_patience_5 : decode cX6_patience 5 = .ok (.aload_n 0, 1) := by decide +kernel
theorem dX6_patience_6 : decode cX6_patience 6 = .ok (.getfield 10, 3) := by decide +kernel
theorem dX6_patience_9 : decode cX6_patience 9 = .ok (.getfield 132, 3) := by decide +kernel
theorem dX6_patience_12 : decode cX6_patience 12 = .ok (.iload_n 1, 1) := by decide +kernel
theorem dX6_patience_13 : decode cX6_patience 13 = .ok (.aaload, 1) := by decide +kernel
theorem dX6_patience_14 : decode cX6_patience 14 = .ok (.getfield 141, 3) := by decide +kernel
theorem dX6_patience_17 : decode cX6_patience 17 = .ok (.ireturn, 1) := by decide +kernel
set_option maxRecDepth 20000 in
theorem ggX6_sighs_X6_requireCustomer : GoodIn wsX6_sighs wsX6_requireCustomer := goodIn_ca (goodIn_rr _ [(8, 3), (1, 1), (11, 31)] rfl (by decide +kernel)) (goodIn_sub (fun _ h => List.mem_cons_of_mem _ (List.mem_append_right _ h)) (by decide +kernel))
set_option maxRecDepth 20000 in
theorem gX6_sighs_X6_requireCustomer : GoodIn wsX6_sighs (wsV RX6 129 RX6 yX6_requireCustomer wsX6_requireCustomer) := goodIn_app (goodIn_of _ (by decide +kernel)) ggX6_sighs_X6_requireCustomer
theorem dX6_sighs_0 : decode cX6_sighs 0 = .ok (.aload_n 0, 1) := by decide +kernel
theorem dX6_sighs_1 : decode cX6_sighs 1 = .ok (.iload_n 1, 1) := by decide +kernel
theorem dX6_sighs_2 : decode cX6_sighs 2 = .ok (.invokevirtual 129, 3) := by decide +kernel
theorem dX6_sighs_5 : decode cX6_sighs 5 = .ok (.aload_n 0, 1) := by decide +kernel
theorem dX6_sighs_6 : decode cX6_sighs 6 = .ok (.getfield 10, 3) := by decide +kernel
theorem dX6_sighs_9 : decode cX6_sighs 9 = .ok (.getfield 132, 3) := by decide +kernel
theorem dX6_sighs_12 : decode cX6_sighs 12 = .ok (.iload_n 1, 1) := by decide +kernel
theorem dX6_sighs_13 : decode cX6_sighs 13 = .ok (.aaload, 1) := by decide +kernel
theorem dX6_sighs_14 : decode cX6_sighs 14 = .ok (.getfield 144, 3) := by decide +kernel
theorem dX6_sighs_17 : decode cX6_sighs 17 = .ok (.ireturn, 1) := by decide +kernel
set_option maxRecDepth 20000 in
theorem ggX6_ache_X6_requireCustomer : GoodIn wsX6_ache wsX6_requireCustomer := goodIn_ca (goodIn_rr _ [(8, 3), (1, 1), (11, 31)] rfl (by decide +kernel)) (goodIn_sub (fun _ h => List.mem_cons_of_mem _ (List.mem_append_right _ h)) (by decide +kernel))
set_option maxRecDepth 20000 in
theorem gX6_ache_X6_requireCustomer : GoodIn wsX6_ache (wsV RX6 129 RX6 yX6_requireCustomer wsX6_requireCustomer) := goodIn_app (goodIn_of _ (by decide +kernel)) ggX6_ache_X6_requireCustomer
theorem dX6_ache_0 : decode cX6_ache 0 = .ok (.aload_n 0, 1) := by decide +kernel
theorem dX6_ache_1 : decode cX6_ache 1 = .ok (.iload_n 1, 1) := by decide +kernel
theorem dX6_ache_2 : decode cX6_ache 2 = .ok (.invokevirtual 129, 3) := by decide +kernel
theorem dX6_ache_5 : decode cX6_ache 5 = .ok (.aload_n 0, 1) := by decide +kernel
theorem dX6_ache_6 : decode cX6_ache 6 = .ok (.getfield 10, 3) := by decide +kernel
theorem dX6_ache_9 : decode cX6_ache 9 = .ok (.getfield 132, 3) := by decide +kernel
theorem dX6_ache_12 : decode cX6_ache 12 = .ok (.iload_n 1, 1) := by decide +kernel
theorem dX6_ache_13 : decode cX6_ache 13 = .ok (.aaload, 1) := by decide +kernel
theorem dX6_ache_14 : decode cX6_ache 14 = .ok (.getfield 147, 3) := by decide +kernel
theorem dX6_ache_17 : decode cX6_ache 17 = .ok (.ireturn, 1) := by decide +kernel
set_option maxRecDepth 20000 in
theorem ggX6_waitingTime_X6_requireCustomer : GoodIn wsX6_waitingTime wsX6_requireCustomer := goodIn_ca (goodIn_rr _ [(8, 3), (1, 1), (11, 31)] rfl (by decide +kernel)) (goodIn_sub (fun _ h => List.mem_cons_of_mem _ (List.mem_append_right _ h)) (by decide +kernel))
set_option maxRecDepth 20000 in
theorem gX6_waitingTime_X6_requireCustomer : GoodIn wsX6_waitingTime (wsV RX6 129 RX6 yX6_requireCustomer wsX6_requireCustomer) := goodIn_app (goodIn_of _ (by decide +kernel)) ggX6_waitingTime_X6_requireCustomer
theorem dX6_waitingTime_0 : decode cX6_waitingTime 0 = .ok (.aload_n 0, 1) := by decide +kernel
theorem dX6_waitingTime_1 : decode cX6_waitingTime 1 = .ok (.iload_n 1, 1) := by decide +kernel
theorem dX6_waitingTime_2 : decode cX6_waitingTime 2 = .ok (.invokevirtual 129, 3) := by decide +kernel
theorem dX6_waitingTime_5 : decode cX6_waitingTime 5 = .ok (.aload_n 0, 1) := by decide +kernel
theorem dX6_waitingTime_6 : decode cX6_waitingTime 6 = .ok (.getfield 10, 3) := by decide +kernel
theorem dX6_waitingTime_9 : decode cX6_waitingTime 9 = .ok (.getfield 132, 3) := by decide +kernel
theorem dX6_waitingTime_12 : decode cX6_waitingTime 12 = .ok (.iload_n 1, 1) := by decide +kernel
theorem dX6_waitingTime_13 : decode cX6_waitingTime 13 = .ok (.aaload, 1) := by decide +kernel
theorem dX6_waitingTime_14 : decode cX6_waitingTime 14 = .ok (.getfield 150, 3) := by decide +kernel
theorem dX6_waitingTime_17 : decode cX6_waitingTime 17 = .ok (.ireturn, 1) := by decide +kernel
set_option maxRecDepth 20000 in
theorem ggX6_isCalled_X6_requireCustomer : GoodIn wsX6_isCalled wsX6_requireCustomer := goodIn_ca (goodIn_rr _ [(8, 3), (1, 1), (11, 31)] rfl (by decide +kernel)) (goodIn_sub (fun _ h => List.mem_cons_of_mem _ (List.mem_append_right _ h)) (by decide +kernel))
set_option maxRecDepth 20000 in
theorem gX6_isCalled_X6_requireCustomer : GoodIn wsX6_isCalled (wsV RX6 129 RX6 yX6_requireCustomer wsX6_requireCustomer) := goodIn_app (goodIn_of _ (by decide +kernel)) ggX6_isCalled_X6_requireCustomer
theorem dX6_isCalled_0 : decode cX6_isCalled 0 = .ok (.aload_n 0, 1) := by decide +kernel
theorem dX6_isCalled_1 : decode cX6_isCalled 1 = .ok (.iload_n 1, 1) := by decide +kernel
theorem dX6_isCalled_2 : decode cX6_isCalled 2 = .ok (.invokevirtual 129, 3) := by decide +kernel
theorem dX6_isCalled_5 : decode cX6_isCalled 5 = .ok (.aload_n 0, 1) := by decide +kernel
theorem dX6_isCalled_6 : decode cX6_isCalled 6 = .ok (.getfield 10, 3) := by decide +kernel
theorem dX6_isCalled_9 : decode cX6_isCalled 9 = .ok (.getfield 132, 3) := by decide +kernel
theorem dX6_isCalled_12 : decode cX6_isCalled 12 = .ok (.iload_n 1, 1) := by decide +kernel
theorem dX6_isCalled_13 : decode cX6_isCalled 13 = .ok (.aaload, 1) := by decide +kernel
theorem dX6_isCalled_14 : decode cX6_isCalled 14 = .ok (.getfield 153, 3) := by decide +kernel
theorem dX6_isCalled_17 : decode cX6_isCalled 17 = .ok (.ireturn, 1) := by decide +kernel
set_option maxRecDepth 20000 in
theorem ggX6_isSitting_X6_requireCustomer : GoodIn wsX6_isSitting wsX6_requireCustomer := goodIn_ca (goodIn_rr _ [(8, 3), (1, 1), (11, 31)] rfl (by decide +kernel)) (goodIn_sub (fun _ h => List.mem_cons_of_mem _ (List.mem_append_right _ h)) (by decide +kernel))
set_option maxRecDepth 20000 in
theorem gX6_isSitting_X6_requireCustomer : GoodIn wsX6_isSitting (wsV RX6 129 RX6 yX6_requireCustomer wsX6_requireCustomer) := goodIn_app (goodIn_of _ (by decide +kernel)) ggX6_isSitting_X6_requireCustomer
theorem dX6_isSitting_0 : decode cX6_isSitting 0 = .ok (.aload_n 0, 1) := by decide +kernel
theorem dX6_isSitting_1 : decode cX6_isSitting 1 = .ok (.iload_n 1, 1) := by decide +kernel
theorem dX6_isSitting_2 : decode cX6_isSitting 2 = .ok (.invokevirtual 129, 3) := by decide +kernel
theorem dX6_isSitting_5 : decode cX6_isSitting 5 = .ok (.aload_n 0, 1) := by decide +kernel
theorem dX6_isSitting_6 : decode cX6_isSitting 6 = .ok (.getfield 10, 3) := by decide +kernel
theorem dX6_isSitting_9 : decode cX6_isSitting 9 = .ok (.getfield 132, 3) := by decide +kernel
theorem dX6_isSitting_12 : decode cX6_isSitting 12 = .ok (.iload_n 1, 1) := by decide +kernel
theorem dX6_isSitting_13 : decode cX6_isSitting 13 = .ok (.aaload, 1) := by decide +kernel
theorem dX6_isSitting_14 : decode cX6_isSitting 14 = .ok (.getfield 157, 3) := by decide +kernel
theorem dX6_isSitting_17 : decode cX6_isSitting 17 = .ok (.ireturn, 1) := by decide +kernel
set_option maxRecDepth 20000 in
theorem ggX6_position_X6_requireCustomer : GoodIn wsX6_position wsX6_requireCustomer := goodIn_ca (goodIn_rr _ [(8, 3), (3, 1), (11, 6), (23, 25)] rfl (by decide +kernel)) (goodIn_sub (fun _ h => List.mem_cons_of_mem _ (List.mem_append_left _ (List.mem_append_right _ h))) (by decide +kernel))
set_option maxRecDepth 20000 in
theorem gX6_position_X6_requireCustomer : GoodIn wsX6_position (wsV RX6 129 RX6 yX6_requireCustomer wsX6_requireCustomer) := goodIn_app (goodIn_of _ (by decide +kernel)) ggX6_position_X6_requireCustomer
set_option maxRecDepth 20000 in
theorem ggX6_position_X3_positionOf : GoodIn wsX6_position wsX3_positionOf := goodIn_ca (goodIn_rr _ [(20, 3), (34, 14)] rfl (by decide +kernel)) (goodIn_sub (fun _ h => List.mem_cons_of_mem _ (List.mem_append_right _ h)) (by decide +kernel))
set_option maxRecDepth 20000 in
theorem gX6_position_X3_positionOf : GoodIn wsX6_position (wsV RX6 160 RX3 yX3_positionOf wsX3_positionOf) := goodIn_app (goodIn_of _ (by decide +kernel)) ggX6_position_X3_positionOf
theorem dX6_position_0 : decode cX6_position 0 = .ok (.aload_n 0, 1) := by decide +kernel
theorem dX6_position_1 : decode cX6_position 1 = .ok (.iload_n 1, 1) := by decide +kernel
theorem dX6_position_2 : decode cX6_position 2 = .ok (.invokevirtual 129, 3) := by decide +kernel
theorem dX6_position_5 : decode cX6_position 5 = .ok (.aload_n 0, 1) := by decide +kernel
theorem dX6_position_6 : decode cX6_position 6 = .ok (.getfield 10, 3) := by decide +kernel
theorem dX6_position_9 : decode cX6_position 9 = .ok (.iload_n 1, 1) := by decide +kernel
theorem dX6_position_10 : decode cX6_position 10 = .ok (.invokevirtual 160, 3) := by decide +kernel
theorem dX6_position_13 : decode cX6_position 13 = .ok (.istore_n 2, 1) := by decide +kernel
theorem dX6_position_14 : decode cX6_position 14 = .ok (.iload_n 2, 1) := by decide +kernel
theorem dX6_position_15 : decode cX6_position 15 = .ok (.iconst (-1), 1) := by decide +kernel
theorem dX6_position_16 : decode cX6_position 16 = .ok (.if_icmp .ne 13, 3) := by decide +kernel
theorem dX6_position_19 : decode cX6_position 19 = .ok (.new 121, 3) := by decide +kernel
theorem dX6_position_22 : decode cX6_position 22 = .ok (.dup, 1) := by decide +kernel
theorem dX6_position_23 : decode cX6_position 23 = .ok (.ldc 163, 2) := by decide +kernel
theorem dX6_position_25 : decode cX6_position 25 = .ok (.invokespecial 125, 3) := by decide +kernel
theorem dX6_position_28 : decode cX6_position 28 = .ok (.athrow, 1) := by decide +kernel
theorem dX6_position_29 : decode cX6_position 29 = .ok (.iload_n 2, 1) := by decide +kernel
theorem dX6_position_30 : decode cX6_position 30 = .ok (.ireturn, 1) := by decide +kernel
set_option maxRecDepth 20000 in
theorem ggX6_windowOfCustomer_X6_requireCustomer : GoodIn wsX6_windowOfCustomer wsX6_requireCustomer := goodIn_ca (goodIn_rr _ [(8, 3), (3, 1), (11, 6), (23, 25)] rfl (by decide +kernel)) (goodIn_sub (fun _ h => List.mem_cons_of_mem _ (List.mem_append_right _ h)) (by decide +kernel))
set_option maxRecDepth 20000 in
theorem gX6_windowOfCustomer_X6_requireCustomer : GoodIn wsX6_windowOfCustomer (wsV RX6 129 RX6 yX6_requireCustomer wsX6_requireCustomer) := goodIn_app (goodIn_of _ (by decide +kernel)) ggX6_windowOfCustomer_X6_requireCustomer
set_option maxRecDepth 20000 in
theorem ggX6_windowOfCustomer_X3_windowOf : GoodIn wsX6_windowOfCustomer wsX3_windowOf := goodIn_rr _ [(20, 3), (34, 18)] rfl (by decide +kernel)
set_option maxRecDepth 20000 in
theorem gX6_windowOfCustomer_X3_windowOf : GoodIn wsX6_windowOfCustomer (wsV RX6 165 RX3 yX3_windowOf wsX3_windowOf) := goodIn_app (goodIn_of _ (by decide +kernel)) ggX6_windowOfCustomer_X3_windowOf
theorem dX6_windowOfCustomer_0 : decode cX6_windowOfCustomer 0 = .ok (.aload_n 0, 1) := by decide +kernel
theorem dX6_windowOfCustomer_1 : decode cX6_windowOfCustomer 1 = .ok (.iload_n 1, 1) := by decide +kernel
theorem dX6_windowOfCustomer_2 : decode cX6_windowOfCustomer 2 = .ok (.invokevirtual 129, 3) := by decide +kernel
theorem dX6_windowOfCustomer_5 : decode cX6_windowOfCustomer 5 = .ok (.aload_n 0, 1) := by decide +kernel
theorem dX6_windowOfCustomer_6 : decode cX6_windowOfCustomer 6 = .ok (.getfield 10, 3) := by decide +kernel
theorem dX6_windowOfCustomer_9 : decode cX6_windowOfCustomer 9 = .ok (.iload_n 1, 1) := by decide +kernel
theorem dX6_windowOfCustomer_10 : decode cX6_windowOfCustomer 10 = .ok (.invokevirtual 165, 3) := by decide +kernel
theorem dX6_windowOfCustomer_13 : decode cX6_windowOfCustomer 13 = .ok (.istore_n 2, 1) := by decide +kernel
theorem dX6_windowOfCustomer_14 : decode cX6_windowOfCustomer 14 = .ok (.iload_n 2, 1) := by decide +kernel
theorem dX6_windowOfCustomer_15 : decode cX6_windowOfCustomer 15 = .ok (.iconst (-1), 1) := by decide +kernel
theorem dX6_windowOfCustomer_16 : decode cX6_windowOfCustomer 16 = .ok (.if_icmp .ne 13, 3) := by decide +kernel
theorem dX6_windowOfCustomer_19 : decode cX6_windowOfCustomer 19 = .ok (.new 121, 3) := by decide +kernel
theorem dX6_windowOfCustomer_22 : decode cX6_windowOfCustomer 22 = .ok (.dup, 1) := by decide +kernel
theorem dX6_windowOfCustomer_23 : decode cX6_windowOfCustomer 23 = .ok (.ldc 168, 2) := by decide +kernel
theorem dX6_windowOfCustomer_25 : decode cX6_windowOfCustomer 25 = .ok (.invokespecial 125, 3) := by decide +kernel
theorem dX6_windowOfCustomer_28 : decode cX6_windowOfCustomer 28 = .ok (.athrow, 1) := by decide +kernel
theorem dX6_windowOfCustomer_29 : decode cX6_windowOfCustomer 29 = .ok (.iload_n 2, 1) := by decide +kernel
theorem dX6_windowOfCustomer_30 : decode cX6_windowOfCustomer 30 = .ok (.ireturn, 1) := by decide +kernel
set_option maxRecDepth 20000 in
theorem ggX6_requireCustomer_X3_hasCustomer : GoodIn wsX6_requireCustomer wsX3_hasCustomer := goodIn_rr _ [(8, 2), (21, 14)] rfl (by decide +kernel)
set_option maxRecDepth 20000 in
theorem gX6_requireCustomer_X3_hasCustomer : GoodIn wsX6_requireCustomer (wsV RX6 170 RX3 yX3_hasCustomer wsX3_hasCustomer) := goodIn_app (goodIn_of _ (by decide +kernel)) ggX6_requireCustomer_X3_hasCustomer
theorem dX6_requireCustomer_0 : decode cX6_requireCustomer 0 = .ok (.aload_n 0, 1) := by decide +kernel
theorem dX6_requireCustomer_1 : decode cX6_requireCustomer 1 = .ok (.getfield 10, 3) := by decide +kernel
theorem dX6_requireCustomer_4 : decode cX6_requireCustomer 4 = .ok (.iload_n 1, 1) := by decide +kernel
theorem dX6_requireCustomer_5 : decode cX6_requireCustomer 5 = .ok (.invokevirtual 170, 3) := by decide +kernel
theorem dX6_requireCustomer_8 : decode cX6_requireCustomer 8 = .ok (.ifCond .ne 13, 3) := by decide +kernel
theorem dX6_requireCustomer_11 : decode cX6_requireCustomer 11 = .ok (.new 99, 3) := by decide +kernel
theorem dX6_requireCustomer_14 : decode cX6_requireCustomer 14 = .ok (.dup, 1) := by decide +kernel
theorem dX6_requireCustomer_15 : decode cX6_requireCustomer 15 = .ok (.ldc 174, 2) := by decide +kernel
theorem dX6_requireCustomer_17 : decode cX6_requireCustomer 17 = .ok (.invokespecial 103, 3) := by decide +kernel
theorem dX6_requireCustomer_20 : decode cX6_requireCustomer 20 = .ok (.athrow, 1) := by decide +kernel
theorem dX6_requireCustomer_21 : decode cX6_requireCustomer 21 = .ok (.return_, 1) := by decide +kernel
theorem dX6_customerAtPosition_0 : decode cX6_customerAtPosition 0 = .ok (.iload_n 1, 1) := by decide +kernel
theorem dX6_customerAtPosition_1 : decode cX6_customerAtPosition 1 = .ok (.ifCond .lt 14, 3) := by decide +kernel
theorem dX6_customerAtPosition_4 : decode cX6_customerAtPosition 4 = .ok (.iload_n 1, 1) := by decide +kernel
theorem dX6_customerAtPosition_5 : decode cX6_customerAtPosition 5 = .ok (.aload_n 0, 1) := by decide +kernel
theorem dX6_customerAtPosition_6 : decode cX6_customerAtPosition 6 = .ok (.getfield 10, 3) := by decide +kernel
theorem dX6_customerAtPosition_9 : decode cX6_customerAtPosition 9 = .ok (.getfield 176, 3) := by decide +kernel
theorem dX6_customerAtPosition_12 : decode cX6_customerAtPosition 12 = .ok (.if_icmp .lt 13, 3) := by decide +kernel
theorem dX6_customerAtPosition_15 : decode cX6_customerAtPosition 15 = .ok (.new 99, 3) := by decide +kernel
theorem dX6_customerAtPosition_18 : decode cX6_customerAtPosition 18 = .ok (.dup, 1) := by decide +kernel
theorem dX6_customerAtPosition_19 : decode cX6_customerAtPosition 19 = .ok (.ldc 179, 2) := by decide +kernel
theorem dX6_customerAtPosition_21 : decode cX6_customerAtPosition 21 = .ok (.invokespecial 103, 3) := by decide +kernel
theorem dX6_customerAtPosition_24 : decode cX6_customerAtPosition 24 = .ok (.athrow, 1) := by decide +kernel
theorem dX6_customerAtPosition_25 : decode cX6_customerAtPosition 25 = .ok (.aload_n 0, 1) := by decide +kernel
theorem dX6_customerAtPosition_26 : decode cX6_customerAtPosition 26 = .ok (.getfield 10, 3) := by decide +kernel
theorem dX6_customerAtPosition_29 : decode cX6_customerAtPosition 29 = .ok (.getfield 181, 3) := by decide +kernel
theorem dX6_customerAtPosition_32 : decode cX6_customerAtPosition 32 = .ok (.iload_n 1, 1) := by decide +kernel
theorem dX6_customerAtPosition_33 : decode cX6_customerAtPosition 33 = .ok (.iaload, 1) := by decide +kernel
theorem dX6_customerAtPosition_34 : decode cX6_customerAtPosition 34 = .ok (.ireturn, 1) := by decide +kernel
theorem dX6_queueLength_0 : decode cX6_queueLength 0 = .ok (.aload_n 0, 1) := by decide +kernel
theorem dX6_queueLength_1 : decode cX6_queueLength 1 = .ok (.getfield 10, 3) := by decide +kernel
theorem dX6_queueLength_4 : decode cX6_queueLength 4 = .ok (.getfield 176, 3) := by decide +kernel
theorem dX6_queueLength_7 : decode cX6_queueLength 7 = .ok (.ireturn, 1) := by decide +kernel
set_option maxRecDepth 20000 in
theorem ggX6_openingTimeLeft_X6_requireWindow : GoodIn wsX6_openingTimeLeft wsX6_requireWindow := goodIn_ca (goodIn_rr _ [(7, 7)] rfl (by decide +kernel)) (goodIn_sub (fun _ h => List.mem_cons_of_mem _ (List.mem_append_right _ h)) (by decide +kernel))
set_option maxRecDepth 20000 in
theorem gX6_openingTimeLeft_X6_requireWindow : GoodIn wsX6_openingTimeLeft (va_wsS RX6 184 yX6_requireWindow wsX6_requireWindow) := goodIn_app (goodIn_of _ (by decide +kernel)) ggX6_openingTimeLeft_X6_requireWindow
theorem dX6_openingTimeLeft_0 : decode cX6_openingTimeLeft 0 = .ok (.iload_n 1, 1) := by decide +kernel
theorem dX6_openingTimeLeft_1 : decode cX6_openingTimeLeft 1 = .ok (.invokestatic 184, 3) := by decide +kernel
theorem dX6_openingTimeLeft_4 : decode cX6_openingTimeLeft 4 = .ok (.aload_n 0, 1) := by decide +kernel
theorem dX6_openingTimeLeft_5 : decode cX6_openingTimeLeft 5 = .ok (.getfield 10, 3) := by decide +kernel
theorem dX6_openingTimeLeft_8 : decode cX6_openingTimeLeft 8 = .ok (.getfield 187, 3) := by decide +kernel
theorem dX6_openingTimeLeft_11 : decode cX6_openingTimeLeft 11 = .ok (.iload_n 1, 1) := by decide +kernel
theorem dX6_openingTimeLeft_12 : decode cX6_openingTimeLeft 12 = .ok (.aaload, 1) := by decide +kernel
theorem dX6_openingTimeLeft_13 : decode cX6_openingTimeLeft 13 = .ok (.getfield 191, 3) := by decide +kernel
theorem dX6_openingTimeLeft_16 : decode cX6_openingTimeLeft 16 = .ok (.ireturn, 1) := by decide +kernel
set_option maxRecDepth 20000 in
theorem ggX6_pace_X6_requireWindow : GoodIn wsX6_pace wsX6_requireWindow := goodIn_ca (goodIn_rr _ [(9, 7)] rfl (by decide +kernel)) (goodIn_sub (fun _ h => List.mem_cons_of_mem _ (List.mem_append_right _ h)) (by decide +kernel))
set_option maxRecDepth 20000 in
theorem gX6_pace_X6_requireWindow : GoodIn wsX6_pace (va_wsS RX6 184 yX6_requireWindow wsX6_requireWindow) := goodIn_app (goodIn_of _ (by decide +kernel)) ggX6_pace_X6_requireWindow
set_option maxRecDepth 20000 in
theorem ggX6_pace_X5_isOpen : GoodIn wsX6_pace wsX5_isOpen := goodIn_rr _ [(20, 2), (47, 4)] rfl (by decide +kernel)
set_option maxRecDepth 20000 in
theorem gX6_pace_X5_isOpen : GoodIn wsX6_pace (wsV RX6 196 RX5 yX5_isOpen wsX5_isOpen) := goodIn_app (goodIn_of _ (by decide +kernel)) ggX6_pace_X5_isOpen
theorem dX6_pace_0 : decode cX6_pace 0 = .ok (.iload_n 1, 1) := by decide +kernel
theorem dX6_pace_1 : decode cX6_pace 1 = .ok (.invokestatic 184, 3) := by decide +kernel
theorem dX6_pace_4 : decode cX6_pace 4 = .ok (.aload_n 0, 1) := by decide +kernel
theorem dX6_pace_5 : decode cX6_pace 5 = .ok (.getfield 10, 3) := by decide +kernel
theorem dX6_pace_8 : decode cX6_pace 8 = .ok (.getfield 187, 3) := by decide +kernel
theorem dX6_pace_11 : decode cX6_pace 11 = .ok (.iload_n 1, 1) := by decide +kernel
theorem dX6_pace_12 : decode cX6_pace 12 = .ok (.aaload, 1) := by decide +kernel
theorem dX6_pace_13 : decode cX6_pace 13 = .ok (.invokevirtual 196, 3) := by decide +kernel
theorem dX6_pace_16 : decode cX6_pace 16 = .ok (.ifCond .ne 13, 3) := by decide +kernel
theorem dX6_pace_19 : decode cX6_pace 19 = .ok (.new 111, 3) := by decide +kernel
theorem dX6_pace_22 : decode cX6_pace 22 = .ok (.dup, 1) := by decide +kernel
theorem dX6_pace_23 : decode cX6_pace 23 = .ok (.ldc 200, 2) := by decide +kernel
theorem dX6_pace_25 : decode cX6_pace 25 = .ok (.invokespecial 115, 3) := by decide +kernel
theorem dX6_pace_28 : decode cX6_pace 28 = .ok (.athrow, 1) := by decide +kernel
theorem dX6_pace_29 : decode cX6_pace 29 = .ok (.aload_n 0, 1) := by decide +kernel
theorem dX6_pace_30 : decode cX6_pace 30 = .ok (.getfield 10, 3) := by decide +kernel
theorem dX6_pace_33 : decode cX6_pace 33 = .ok (.getfield 187, 3) := by decide +kernel
theorem dX6_pace_36 : decode cX6_pace 36 = .ok (.iload_n 1, 1) := by decide +kernel
theorem dX6_pace_37 : decode cX6_pace 37 = .ok (.aaload, 1) := by decide +kernel
theorem dX6_pace_38 : decode cX6_pace 38 = .ok (.getfield 202, 3) := by decide +kernel
theorem dX6_pace_41 : decode cX6_pace 41 = .ok (.ireturn, 1) := by decide +kernel
set_option maxRecDepth 20000 in
theorem ggX6_customerAtWindow_X6_requireWindow : GoodIn wsX6_customerAtWindow wsX6_requireWindow := goodIn_ca (goodIn_rr _ [(7, 7)] rfl (by decide +kernel)) (goodIn_sub (fun _ h => List.mem_cons_of_mem _ (List.mem_append_left _ (List.mem_append_right _ h))) (by decide +kernel))
set_option maxRecDepth 20000 in
theorem gX6_customerAtWindow_X6_requireWindow : GoodIn wsX6_customerAtWindow (va_wsS RX6 184 yX6_requireWindow wsX6_requireWindow) := goodIn_app (goodIn_of _ (by decide +kernel)) ggX6_customerAtWindow_X6_requireWindow
set_option maxRecDepth 20000 in
theorem ggX6_customerAtWindow_X6_requireSomebodyAt : GoodIn wsX6_customerAtWindow wsX6_requireSomebodyAt := goodIn_ca (goodIn_rr _ [(17, 3), (1, 3), (20, 29)] rfl (by decide +kernel)) (goodIn_sub (fun _ h => List.mem_cons_of_mem _ (List.mem_append_right _ h)) (by decide +kernel))
set_option maxRecDepth 20000 in
theorem gX6_customerAtWindow_X6_requireSomebodyAt : GoodIn wsX6_customerAtWindow (wsV RX6 205 RX6 yX6_requireSomebodyAt wsX6_requireSomebodyAt) := goodIn_app (goodIn_of _ (by decide +kernel)) ggX6_customerAtWindow_X6_requireSomebodyAt
theorem dX6_customerAtWindow_0 : decode cX6_customerAtWindow 0 = .ok (.iload_n 1, 1) := by decide +kernel
theorem dX6_customerAtWindow_1 : decode cX6_customerAtWindow 1 = .ok (.invokestatic 184, 3) := by decide +kernel
theorem dX6_customerAtWindow_4 : decode cX6_customerAtWindow 4 = .ok (.aload_n 0, 1) := by decide +kernel
theorem dX6_customerAtWindow_5 : decode cX6_customerAtWindow 5 = .ok (.iload_n 1, 1) := by decide +kernel
theorem dX6_customerAtWindow_6 : decode cX6_customerAtWindow 6 = .ok (.invokevirtual 205, 3) := by decide +kernel
theorem dX6_customerAtWindow_9 : decode cX6_customerAtWindow 9 = .ok (.aload_n 0, 1) := by decide +kernel
theorem dX6_customerAtWindow_10 : decode cX6_customerAtWindow 10 = .ok (.getfield 10, 3) := by decide +kernel
theorem dX6_customerAtWindow_13 : decode cX6_customerAtWindow 13 = .ok (.getfield 187, 3) := by decide +kernel
theorem dX6_customerAtWindow_16 : decode cX6_customerAtWindow 16 = .ok (.iload_n 1, 1) := by decide +kernel
theorem dX6_customerAtWindow_17 : decode cX6_customerAtWindow 17 = .ok (.aaload, 1) := by decide +kernel
theorem dX6_customerAtWindow_18 : decode cX6_customerAtWindow 18 = .ok (.getfield 208, 3) := by decide +kernel
theorem dX6_customerAtWindow_21 : decode cX6_customerAtWindow 21 = .ok (.ireturn, 1) := by decide +kernel
set_option maxRecDepth 20000 in
theorem ggX6_serviceTimeLeft_X6_requireWindow : GoodIn wsX6_serviceTimeLeft wsX6_requireWindow := goodIn_ca (goodIn_rr _ [(7, 7)] rfl (by decide +kernel)) (goodIn_sub (fun _ h => List.mem_cons_of_mem _ (List.mem_append_left _ (List.mem_append_right _ h))) (by decide +kernel))
set_option maxRecDepth 20000 in
theorem gX6_serviceTimeLeft_X6_requireWindow : GoodIn wsX6_serviceTimeLeft (va_wsS RX6 184 yX6_requireWindow wsX6_requireWindow) := goodIn_app (goodIn_of _ (by decide +kernel)) ggX6_serviceTimeLeft_X6_requireWindow
set_option maxRecDepth 20000 in
theorem ggX6_serviceTimeLeft_X6_requireSomebodyAt : GoodIn wsX6_serviceTimeLeft wsX6_requireSomebodyAt := goodIn_ca (goodIn_rr _ [(17, 3), (1, 2), (20, 30)] rfl (by decide +kernel)) (goodIn_sub (fun _ h => List.mem_cons_of_mem _ (List.mem_append_right _ h)) (by decide +kernel))
set_option maxRecDepth 20000 in
theorem gX6_serviceTimeLeft_X6_requireSomebodyAt : GoodIn wsX6_serviceTimeLeft (wsV RX6 205 RX6 yX6_requireSomebodyAt wsX6_requireSomebodyAt) := goodIn_app (goodIn_of _ (by decide +kernel)) ggX6_serviceTimeLeft_X6_requireSomebodyAt
theorem dX6_serviceTimeLeft_0 : decode cX6_serviceTimeLeft 0 = .ok (.iload_n 1, 1) := by decide +kernel
theorem dX6_serviceTimeLeft_1 : decode cX6_serviceTimeLeft 1 = .ok (.invokestatic 184, 3) := by decide +kernel
theorem dX6_serviceTimeLeft_4 : decode cX6_serviceTimeLeft 4 = .ok (.aload_n 0, 1) := by decide +kernel
theorem dX6_serviceTimeLeft_5 : decode cX6_serviceTimeLeft 5 = .ok (.iload_n 1, 1) := by decide +kernel
theorem dX6_serviceTimeLeft_6 : decode cX6_serviceTimeLeft 6 = .ok (.invokevirtual 205, 3) := by decide +kernel
theorem dX6_serviceTimeLeft_9 : decode cX6_serviceTimeLeft 9 = .ok (.aload_n 0, 1) := by decide +kernel
theorem dX6_serviceTimeLeft_10 : decode cX6_serviceTimeLeft 10 = .ok (.getfield 10, 3) := by decide +kernel
theorem dX6_serviceTimeLeft_13 : decode cX6_serviceTimeLeft 13 = .ok (.getfield 187, 3) := by decide +kernel
theorem dX6_serviceTimeLeft_16 : decode cX6_serviceTimeLeft 16 = .ok (.iload_n 1, 1) := by decide +kernel
theorem dX6_serviceTimeLeft_17 : decode cX6_serviceTimeLeft 17 = .ok (.aaload, 1) := by decide +kernel
theorem dX6_serviceTimeLeft_18 : decode cX6_serviceTimeLeft 18 = .ok (.getfield 211, 3) := by decide +kernel
theorem dX6_serviceTimeLeft_21 : decode cX6_serviceTimeLeft 21 = .ok (.ireturn, 1) := by decide +kernel
set_option maxRecDepth 20000 in
theorem ggX6_requireWindow_X3_hasWindow : GoodIn wsX6_requireWindow wsX3_hasWindow := goodIn_rr _ [(6, 1)] rfl (by decide +kernel)
set_option maxRecDepth 20000 in
theorem gX6_requireWindow_X3_hasWindow : GoodIn wsX6_requireWindow (va_wsS RX6 214 yX3_hasWindow wsX3_hasWindow) := goodIn_app (goodIn_of _ (by decide +kernel)) ggX6_requireWindow_X3_hasWindow
theorem dX6_requireWindow_0 : decode cX6_requireWindow 0 = .ok (.iload_n 0, 1) := by decide +kernel
theorem dX6_requireWindow_1 : decode cX6_requireWindow 1 = .ok (.invokestatic 214, 3) := by decide +kernel
theorem dX6_requireWindow_4 : decode cX6_requireWindow 4 = .ok (.ifCond .ne 13, 3) := by decide +kernel
theorem dX6_requireWindow_7 : decode cX6_requireWindow 7 = .ok (.new 99, 3) := by decide +kernel
theorem dX6_requireWindow_10 : decode cX6_requireWindow 10 = .ok (.dup, 1) := by decide +kernel
theorem dX6_requireWindow_11 : decode cX6_requireWindow 11 = .ok (.ldc 217, 2) := by decide +kernel
theorem dX6_requireWindow_13 : decode cX6_requireWindow 13 = .ok (.invokespecial 103, 3) := by decide +kernel
theorem dX6_requireWindow_16 : decode cX6_requireWindow 16 = .ok (.athrow, 1) := by decide +kernel
theorem dX6_requireWindow_17 : decode cX6_requireWindow 17 = .ok (.return_, 1) := by decide +kernel
theorem dX6_requireSomebodyAt_0 : decode cX6_requireSomebodyAt 0 = .ok (.aload_n 0, 1) := by decide +kernel
theorem dX6_requireSomebodyAt_1 : decode cX6_requireSomebodyAt 1 = .ok (.getfield 10, 3) := by decide +kernel
theorem dX6_requireSomebodyAt_4 : decode cX6_requireSomebodyAt 4 = .ok (.getfield 187, 3) := by decide +kernel
theorem dX6_requireSomebodyAt_7 : decode cX6_requireSomebodyAt 7 = .ok (.iload_n 1, 1) := by decide +kernel
theorem dX6_requireSomebodyAt_8 : decode cX6_requireSomebodyAt 8 = .ok (.aaload, 1) := by decide +kernel
theorem dX6_requireSomebodyAt_9 : decode cX6_requireSomebodyAt 9 = .ok (.getfield 208, 3) := by decide +kernel
theorem dX6_requireSomebodyAt_12 : decode cX6_requireSomebodyAt 12 = .ok (.iconst (-1), 1) := by decide +kernel
theorem dX6_requireSomebodyAt_13 : decode cX6_requireSomebodyAt 13 = .ok (.if_icmp .ne 13, 3) := by decide +kernel
theorem dX6_requireSomebodyAt_16 : decode cX6_requireSomebodyAt 16 = .ok (.new 121, 3) := by decide +kernel
theorem dX6_requireSomebodyAt_19 : decode cX6_requireSomebodyAt 19 = .ok (.dup, 1) := by decide +kernel
theorem dX6_requireSomebodyAt_20 : decode cX6_requireSomebodyAt 20 = .ok (.ldc 219, 2) := by decide +kernel
theorem dX6_requireSomebodyAt_22 : decode cX6_requireSomebodyAt 22 = .ok (.invokespecial 125, 3) := by decide +kernel
theorem dX6_requireSomebodyAt_25 : decode cX6_requireSomebodyAt 25 = .ok (.athrow, 1) := by decide +kernel
theorem dX6_requireSomebodyAt_26 : decode cX6_requireSomebodyAt 26 = .ok (.return_, 1) := by decide +kernel
set_option maxRecDepth 20000 in
theorem ggX6_calledAhead_X6_requireCustomer : GoodIn wsX6_calledAhead wsX6_requireCustomer := goodIn_ca (goodIn_rr _ [(10, 3), (1, 1), (13, 6), (25, 25)] rfl (by decide +kernel)) (goodIn_sub (fun _ h => List.mem_cons_of_mem _ (List.mem_append_right _ h)) (by decide +kernel))
set_option maxRecDepth 20000 in
theorem gX6_calledAhead_X6_requireCustomer : GoodIn wsX6_calledAhead (wsV RX6 129 RX6 yX6_requireCustomer wsX6_requireCustomer) := goodIn_app (goodIn_of _ (by decide +kernel)) ggX6_calledAhead_X6_requireCustomer
set_option maxRecDepth 20000 in
theorem ggX6_calledAhead_X3_windowOf : GoodIn wsX6_calledAhead wsX3_windowOf := goodIn_rr _ [(22, 3), (36, 14), (57, 4)] rfl (by decide +kernel)
set_option maxRecDepth 20000 in
theorem gX6_calledAhead_X3_windowOf : GoodIn wsX6_calledAhead (wsV RX6 165 RX3 yX3_windowOf wsX3_windowOf) := goodIn_app (goodIn_of _ (by decide +kernel)) ggX6_calledAhead_X3_windowOf
theorem dX6_calledAhead_0 : decode cX6_calledAhead 0 = .ok (.aload_n 0, 1) := by decide +kernel
theorem dX6_calledAhead_1 : decode cX6_calledAhead 1 = .ok (.iload_n 1, 1) := by decide +kernel
theorem dX6_calledAhead_2 : decode cX6_calledAhead 2 = .ok (.invokevirtual 129, 3) := by decide +kernel
theorem dX6_calledAhead_5 : decode cX6_calledAhead 5 = .ok (.aload_n 0, 1) := by decide +kernel
theorem dX6_calledAhead_6 : decode cX6_calledAhead 6 = .ok (.getfield 10, 3) := by decide +kernel
theorem dX6_calledAhead_9 : decode cX6_calledAhead 9 = .ok (.iload_n 1, 1) := by decide +kernel
theorem dX6_calledAhead_10 : decode cX6_calledAhead 10 = .ok (.invokevirtual 165, 3) := by decide +kernel
theorem dX6_calledAhead_13 : decode cX6_calledAhead 13 = .ok (.iconst (-1), 1) := by decide +kernel
theorem dX6_calledAhead_14 : decode cX6_calledAhead 14 = .ok (.if_icmp .eq 5, 3) := by decide +kernel
theorem dX6_calledAhead_17 : decode cX6_calledAhead 17 = .ok (.iconst 0, 1) := by decide +kernel
theorem dX6_calledAhead_18 : decode cX6_calledAhead 18 = .ok (.ireturn, 1) := by decide +kernel
theorem dX6_calledAhead_19 : decode cX6_calledAhead 19 = .ok (.iconst 0, 1) := by decide +kernel
theorem dX6_calledAhead_20 : decode cX6_calledAhead 20 = .ok (.istore_n 2, 1) := by decide +kernel
theorem dX6_calledAhead_21 : decode cX6_calledAhead 21 = .ok (.iconst 0, 1) := by decide +kernel
theorem dX6_calledAhead_22 : decode cX6_calledAhead 22 = .ok (.istore_n 3, 1) := by decide +kernel
theorem dX6_calledAhead_23 : decode cX6_calledAhead 23 = .ok (.iload_n 3, 1) := by decide +kernel
theorem dX6_calledAhead_24 : decode cX6_calledAhead 24 = .ok (.aload_n 0, 1) := by decide +kernel
theorem dX6_calledAhead_25 : decode cX6_calledAhead 25 = .ok (.getfield 10, 3) := by decide +kernel
theorem dX6_calledAhead_28 : decode cX6_calledAhead 28 = .ok (.getfield 176, 3) := by decide +kernel
theorem dX6_calledAhead_31 : decode cX6_calledAhead 31 = .ok (.if_icmp .ge 48, 3) := by decide +kernel
theorem dX6_calledAhead_34 : decode cX6_calledAhead 34 = .ok (.aload_n 0, 1) := by decide +kernel
theorem dX6_calledAhead_35 : decode cX6_calledAhead 35 = .ok (.getfield 10, 3) := by decide +kernel
theorem dX6_calledAhead_38 : decode cX6_calledAhead 38 = .ok (.getfield 181, 3) := by decide +kernel
theorem dX6_calledAhead_41 : decode cX6_calledAhead 41 = .ok (.iload_n 3, 1) := by decide +kernel
theorem dX6_calledAhead_42 : decode cX6_calledAhead 42 = .ok (.iaload, 1) := by decide +kernel
theorem dX6_calledAhead_43 : decode cX6_calledAhead 43 = .ok (.iload_n 1, 1) := by decide +kernel
theorem dX6_calledAhead_44 : decode cX6_calledAhead 44 = .ok (.if_icmp .eq 35, 3) := by decide +kernel
theorem dX6_calledAhead_47 : decode cX6_calledAhead 47 = .ok (.aload_n 0, 1) := by decide +kernel
theorem dX6_calledAhead_48 : decode cX6_calledAhead 48 = .ok (.getfield 10, 3) := by decide +kernel
theorem dX6_calledAhead_51 : decode cX6_calledAhead 51 = .ok (.getfield 132, 3) := by decide +kernel
theorem dX6_calledAhead_54 : decode cX6_calledAhead 54 = .ok (.aload_n 0, 1) := by decide +kernel
theorem dX6_calledAhead_55 : decode cX6_calledAhead 55 = .ok (.getfield 10, 3) := by decide +kernel
theorem dX6_calledAhead_58 : decode cX6_calledAhead 58 = .ok (.getfield 181, 3) := by decide +kernel
theorem dX6_calledAhead_61 : decode cX6_calledAhead 61 = .ok (.iload_n 3, 1) := by decide +kernel
theorem dX6_calledAhead_62 : decode cX6_calledAhead 62 = .ok (.iaload, 1) := by decide +kernel
theorem dX6_calledAhead_63 : decode cX6_calledAhead 63 = .ok (.aaload, 1) := by decide +kernel
theorem dX6_calledAhead_64 : decode cX6_calledAhead 64 = .ok (.getfield 153, 3) := by decide +kernel
theorem dX6_calledAhead_67 : decode cX6_calledAhead 67 = .ok (.ifCond .eq 6, 3) := by decide +kernel
theorem dX6_calledAhead_70 : decode cX6_calledAhead 70 = .ok (.iinc 2 1, 3) := by decide +kernel
theorem dX6_calledAhead_73 : decode cX6_calledAhead 73 = .ok (.iinc 3 1, 3) := by decide +kernel
theorem dX6_calledAhead_76 : decode cX6_calledAhead 76 = .ok (.goto (-53), 3) := by decide +kernel
theorem dX6_calledAhead_79 : decode cX6_calledAhead 79 = .ok (.iload_n 2, 1) := by decide +kernel
theorem dX6_calledAhead_80 : decode cX6_calledAhead 80 = .ok (.ireturn, 1) := by decide +kernel
set_option maxRecDepth 20000 in
theorem ggX6_calledAheadByPositions_X6_requireCustomer : GoodIn wsX6_calledAheadByPositions wsX6_requireCustomer := goodIn_ca (goodIn_rr _ [(9, 3), (1, 1), (12, 6), (24, 25)] rfl (by decide +kernel)) (goodIn_sub (fun _ h => List.mem_cons_of_mem _ (List.mem_append_left _ (List.mem_append_right _ h))) (by decide +kernel))
set_option maxRecDepth 20000 in
theorem gX6_calledAheadByPositions_X6_requireCustomer : GoodIn wsX6_calledAheadByPositions (wsV RX6 129 RX6 yX6_requireCustomer wsX6_requireCustomer) := goodIn_app (goodIn_of _ (by decide +kernel)) ggX6_calledAheadByPositions_X6_requireCustomer
set_option maxRecDepth 20000 in
theorem ggX6_calledAheadByPositions_X3_positionOf : GoodIn wsX6_calledAheadByPositions wsX3_positionOf := goodIn_ca (goodIn_rr _ [(21, 3), (35, 14)] rfl (by decide +kernel)) (goodIn_sub (fun _ h => List.mem_cons_of_mem _ (List.mem_append_right _ h)) (by decide +kernel))
set_option maxRecDepth 20000 in
theorem gX6_calledAheadByPositions_X3_positionOf : GoodIn wsX6_calledAheadByPositions (wsV RX6 160 RX3 yX3_positionOf wsX3_positionOf) := goodIn_app (goodIn_of _ (by decide +kernel)) ggX6_calledAheadByPositions_X3_positionOf
theorem dX6_calledAheadByPositions_0 : decode cX6_calledAheadByPositions 0 = .ok (.aload_n 0, 1) := by decide +kernel
theorem dX6_calledAheadByPositions_1 : decode cX6_calledAheadByPositions 1 = .ok (.iload_n 1, 1) := by decide +kernel
theorem dX6_calledAheadByPositions_2 : decode cX6_calledAheadByPositions 2 = .ok (.invokevirtual 129, 3) := by decide +kernel
theorem dX6_calledAheadByPositions_5 : decode cX6_calledAheadByPositions 5 = .ok (.aload_n 0, 1) := by decide +kernel
theorem dX6_calledAheadByPositions_6 : decode cX6_calledAheadByPositions 6 = .ok (.getfield 10, 3) := by decide +kernel
theorem dX6_calledAheadByPositions_9 : decode cX6_calledAheadByPositions 9 = .ok (.iload_n 1, 1) := by decide +kernel
theorem dX6_calledAheadByPositions_10 : decode cX6_calledAheadByPositions 10 = .ok (.invokevirtual 160, 3) := by decide +kernel
theorem dX6_calledAheadByPositions_13 : decode cX6_calledAheadByPositions 13 = .ok (.istore_n 2, 1) := by decide +kernel
theorem dX6_calledAheadByPositions_14 : decode cX6_calledAheadByPositions 14 = .ok (.iconst 0, 1) := by decide +kernel
theorem dX6_calledAheadByPositions_15 : decode cX6_calledAheadByPositions 15 = .ok (.istore_n 3, 1) := by decide +kernel
theorem dX6_calledAheadByPositions_16 : decode cX6_calledAheadByPositions 16 = .ok (.iconst 0, 1) := by decide +kernel
theorem dX6_calledAheadByPositions_17 : decode cX6_calledAheadByPositions 17 = .ok (.istore 4, 2) := by decide +kernel
theorem dX6_calledAheadByPositions_19 : decode cX6_calledAheadByPositions 19 = .ok (.iload 4, 2) := by decide +kernel
theorem dX6_calledAheadByPositions_21 : decode cX6_calledAheadByPositions 21 = .ok (.aload_n 0, 1) := by decide +kernel
theorem dX6_calledAheadByPositions_22 : decode cX6_calledAheadByPositions 22 = .ok (.getfield 10, 3) := by decide +kernel
theorem dX6_calledAheadByPositions_25 : decode cX6_calledAheadByPositions 25 = .ok (.getfield 126, 3) := by decide +kernel
theorem dX6_calledAheadByPositions_28 : decode cX6_calledAheadByPositions 28 = .ok (.if_icmp .ge 51, 3) := by decide +kernel
theorem dX6_calledAheadByPositions_31 : decode cX6_calledAheadByPositions 31 = .ok (.aload_n 0, 1) := by decide +kernel
theorem dX6_calledAheadByPositions_32 : decode cX6_calledAheadByPositions 32 = .ok (.getfield 10, 3) := by decide +kernel
theorem dX6_calledAheadByPositions_35 : decode cX6_calledAheadByPositions 35 = .ok (.iload 4, 2) := by decide +kernel
theorem dX6_calledAheadByPositions_37 : decode cX6_calledAheadByPositions 37 = .ok (.invokevirtual 160, 3) := by decide +kernel
theorem dX6_calledAheadByPositions_40 : decode cX6_calledAheadByPositions 40 = .ok (.istore 5, 2) := by decide +kernel
theorem dX6_calledAheadByPositions_42 : decode cX6_calledAheadByPositions 42 = .ok (.iload 5, 2) := by decide +kernel
theorem dX6_calledAheadByPositions_44 : decode cX6_calledAheadByPositions 44 = .ok (.iconst (-1), 1) := by decide +kernel
theorem dX6_calledAheadByPositions_45 : decode cX6_calledAheadByPositions 45 = .ok (.if_icmp .eq 28, 3) := by decide +kernel
theorem dX6_calledAheadByPositions_48 : decode cX6_calledAheadByPositions 48 = .ok (.iload 5, 2) := by decide +kernel
theorem dX6_calledAheadByPositions_50 : decode cX6_calledAheadByPositions 50 = .ok (.iload_n 2, 1) := by decide +kernel
theorem dX6_calledAheadByPositions_51 : decode cX6_calledAheadByPositions 51 = .ok (.if_icmp .ge 22, 3) := by decide +kernel
theorem dX6_calledAheadByPositions_54 : decode cX6_calledAheadByPositions 54 = .ok (.aload_n 0, 1) := by decide +kernel
theorem dX6_calledAheadByPositions_55 : decode cX6_calledAheadByPositions 55 = .ok (.getfield 10, 3) := by decide +kernel
theorem dX6_calledAheadByPositions_58 : decode cX6_calledAheadByPositions 58 = .ok (.getfield 132, 3) := by decide +kernel
theorem dX6_calledAheadByPositions_61 : decode cX6_calledAheadByPositions 61 = .ok (.iload 4, 2) := by decide +kernel
theorem dX6_calledAheadByPositions_63 : decode cX6_calledAheadByPositions 63 = .ok (.aaload, 1) := by decide +kernel
theorem dX6_calledAheadByPositions_64 : decode cX6_calledAheadByPositions 64 = .ok (.getfield 153, 3) := by decide +kernel
theorem dX6_calledAheadByPositions_67 : decode cX6_calledAheadByPositions 67 = .ok (.ifCond .eq 6, 3) := by decide +kernel
theorem dX6_calledAheadByPositions_70 : decode cX6_calledAheadByPositions 70 = .ok (.iinc 3 1, 3) := by decide +kernel
theorem dX6_calledAheadByPositions_73 : decode cX6_calledAheadByPositions 73 = .ok (.iinc 4 1, 3) := by decide +kernel
theorem dX6_calledAheadByPositions_76 : decode cX6_calledAheadByPositions 76 = .ok (.goto (-57), 3) := by decide +kernel
theorem dX6_calledAheadByPositions_79 : decode cX6_calledAheadByPositions 79 = .ok (.iload_n 3, 1) := by decide +kernel
theorem dX6_calledAheadByPositions_80 : decode cX6_calledAheadByPositions 80 = .ok (.ireturn, 1) := by decide +kernel
set_option maxRecDepth 20000 in
theorem ggX6_inversions_X3_ticketAt : GoodIn wsX6_inversions wsX3_ticketAt := goodIn_ca (goodIn_rr _ [(7, 4), (22, 21)] rfl (by decide +kernel)) (goodIn_sub (fun _ h => List.mem_cons_of_mem _ (List.mem_append_right _ h)) (by decide +kernel))
set_option maxRecDepth 20000 in
theorem gX6_inversions_X3_ticketAt : GoodIn wsX6_inversions (wsV RX6 221 RX3 yX3_ticketAt wsX3_ticketAt) := goodIn_app (goodIn_of _ (by decide +kernel)) ggX6_inversions_X3_ticketAt
theorem dX6_inversions_0 : decode cX6_inversions 0 = .ok (.iconst 0, 1) := by decide +kernel
theorem dX6_inversions_1 : decode cX6_inversions 1 = .ok (.istore_n 1, 1) := by decide +kernel
theorem dX6_inversions_2 : decode cX6_inversions 2 = .ok (.iconst 0, 1) := by decide +kernel
theorem dX6_inversions_3 : decode cX6_inversions 3 = .ok (.istore_n 2, 1) := by decide +kernel
theorem dX6_inversions_4 : decode cX6_inversions 4 = .ok (.iload_n 2, 1) := by decide +kernel
theorem dX6_inversions_5 : decode cX6_inversions 5 = .ok (.aload_n 0, 1) := by decide +kernel
theorem dX6_inversions_6 : decode cX6_inversions 6 = .ok (.getfield 10, 3) := by decide +kernel
theorem dX6_inversions_9 : decode cX6_inversions 9 = .ok (.getfield 176, 3) := by decide +kernel
theorem dX6_inversions_12 : decode cX6_inversions 12 = .ok (.if_icmp .ge 52, 3) := by decide +kernel
theorem dX6_inversions_15 : decode cX6_inversions 15 = .ok (.iload_n 2, 1) := by decide +kernel
theorem dX6_inversions_16 : decode cX6_inversions 16 = .ok (.iconst 1, 1) := by decide +kernel
theorem dX6_inversions_17 : decode cX6_inversions 17 = .ok (.iadd, 1) := by decide +kernel
theorem dX6_inversions_18 : decode cX6_inversions 18 = .ok (.istore_n 3, 1) := by decide +kernel
theorem dX6_inversions_19 : decode cX6_inversions 19 = .ok (.iload_n 3, 1) := by decide +kernel
theorem dX6_inversions_20 : decode cX6_inversions 20 = .ok (.aload_n 0, 1) := by decide +kernel
theorem dX6_inversions_21 : decode cX6_inversions 21 = .ok (.getfield 10, 3) := by decide +kernel
theorem dX6_inversions_24 : decode cX6_inversions 24 = .ok (.getfield 176, 3) := by decide +kernel
theorem dX6_inversions_27 : decode cX6_inversions 27 = .ok (.if_icmp .ge 31, 3) := by decide +kernel
theorem dX6_inversions_30 : decode cX6_inversions 30 = .ok (.aload_n 0, 1) := by decide +kernel
theorem dX6_inversions_31 : decode cX6_inversions 31 = .ok (.getfield 10, 3) := by decide +kernel
theorem dX6_inversions_34 : decode cX6_inversions 34 = .ok (.iload_n 2, 1) := by decide +kernel
theorem dX6_inversions_35 : decode cX6_inversions 35 = .ok (.invokevirtual 221, 3) := by decide +kernel
theorem dX6_inversions_38 : decode cX6_inversions 38 = .ok (.aload_n 0, 1) := by decide +kernel
theorem dX6_inversions_39 : decode cX6_inversions 39 = .ok (.getfield 10, 3) := by decide +kernel
theorem dX6_inversions_42 : decode cX6_inversions 42 = .ok (.iload_n 3, 1) := by decide +kernel
theorem dX6_inversions_43 : decode cX6_inversions 43 = .ok (.invokevirtual 221, 3) := by decide +kernel
theorem dX6_inversions_46 : decode cX6_inversions 46 = .ok (.if_icmp .le 6, 3) := by decide +kernel
theorem dX6_inversions_49 : decode cX6_inversions 49 = .ok (.iinc 1 1, 3) := by decide +kernel
theorem dX6_inversions_52 : decode cX6_inversions 52 = .ok (.iinc 3 1, 3) := by decide +kernel
theorem dX6_inversions_55 : decode cX6_inversions 55 = .ok (.goto (-36), 3) := by decide +kernel
theorem dX6_inversions_58 : decode cX6_inversions 58 = .ok (.iinc 2 1, 3) := by decide +kernel
theorem dX6_inversions_61 : decode cX6_inversions 61 = .ok (.goto (-57), 3) := by decide +kernel
theorem dX6_inversions_64 : decode cX6_inversions 64 = .ok (.iload_n 1, 1) := by decide +kernel
theorem dX6_inversions_65 : decode cX6_inversions 65 = .ok (.ireturn, 1) := by decide +kernel
set_option maxRecDepth 20000 in
theorem ggX6_inversionsByBubbleSort_X3_ticketAt : GoodIn wsX6_inversionsByBubbleSort wsX3_ticketAt := goodIn_ca (goodIn_rr _ [(8, 4), (28, 21)] rfl (by decide +kernel)) (goodIn_sub (fun _ h => List.mem_cons_of_mem _ (List.mem_append_right _ h)) (by decide +kernel))
set_option maxRecDepth 20000 in
theorem gX6_inversionsByBubbleSort_X3_ticketAt : GoodIn wsX6_inversionsByBubbleSort (wsV RX6 221 RX3 yX3_ticketAt wsX3_ticketAt) := goodIn_app (goodIn_of _ (by decide +kernel)) ggX6_inversionsByBubbleSort_X3_ticketAt
set_option maxRecDepth 20000 in
theorem ggX6_inversionsByBubbleSort_X6_bubbleUp : GoodIn wsX6_inversionsByBubbleSort wsX6_bubbleUp := goodIn_ca (goodIn_rr _ [(16, 1), (3, 1), (17, 11)] rfl (by decide +kernel)) (goodIn_sub (fun _ h => List.mem_cons_of_mem _ (List.mem_append_right _ h)) (by decide +kernel))
set_option maxRecDepth 20000 in
theorem gX6_inversionsByBubbleSort_X6_bubbleUp : GoodIn wsX6_inversionsByBubbleSort (wsV RX6 224 RX6 yX6_bubbleUp wsX6_bubbleUp) := goodIn_app (goodIn_of _ (by decide +kernel)) ggX6_inversionsByBubbleSort_X6_bubbleUp
theorem dX6_inversionsByBubbleSort_0 : decode cX6_inversionsByBubbleSort 0 = .ok (.iconst 0, 1) := by decide +kernel
theorem dX6_inversionsByBubbleSort_1 : decode cX6_inversionsByBubbleSort 1 = .ok (.istore_n 1, 1) := by decide +kernel
theorem dX6_inversionsByBubbleSort_2 : decode cX6_inversionsByBubbleSort 2 = .ok (.iload_n 1, 1) := by decide +kernel
theorem dX6_inversionsByBubbleSort_3 : decode cX6_inversionsByBubbleSort 3 = .ok (.aload_n 0, 1) := by decide +kernel
theorem dX6_inversionsByBubbleSort_4 : decode cX6_inversionsByBubbleSort 4 = .ok (.getfield 10, 3) := by decide +kernel
theorem dX6_inversionsByBubbleSort_7 : decode cX6_inversionsByBubbleSort 7 = .ok (.getfield 176, 3) := by decide +kernel
theorem dX6_inversionsByBubbleSort_10 : decode cX6_inversionsByBubbleSort 10 = .ok (.if_icmp .ge 23, 3) := by decide +kernel
theorem dX6_inversionsByBubbleSort_13 : decode cX6_inversionsByBubbleSort 13 = .ok (.aload_n 0, 1) := by decide +kernel
theorem dX6_inversionsByBubbleSort_14 : decode cX6_inversionsByBubbleSort 14 = .ok (.getfield 47, 3) := by decide +kernel
theorem dX6_inversionsByBubbleSort_17 : decode cX6_inversionsByBubbleSort 17 = .ok (.iload_n 1, 1) := by decide +kernel
theorem dX6_inversionsByBubbleSort_18 : decode cX6_inversionsByBubbleSort 18 = .ok (.aload_n 0, 1) := by decide +kernel
theorem dX6_inversionsByBubbleSort_19 : decode cX6_inversionsByBubbleSort 19 = .ok (.getfield 10, 3) := by decide +kernel
theorem dX6_inversionsByBubbleSort_22 : decode cX6_inversionsByBubbleSort 22 = .ok (.iload_n 1, 1) := by decide +kernel
theorem dX6_inversionsByBubbleSort_23 : decode cX6_inversionsByBubbleSort 23 = .ok (.invokevirtual 221, 3) := by decide +kernel
theorem dX6_inversionsByBubbleSort_26 : decode cX6_inversionsByBubbleSort 26 = .ok (.iastore, 1) := by decide +kernel
theorem dX6_inversionsByBubbleSort_27 : decode cX6_inversionsByBubbleSort 27 = .ok (.iinc 1 1, 3) := by decide +kernel
theorem dX6_inversionsByBubbleSort_30 : decode cX6_inversionsByBubbleSort 30 = .ok (.goto (-28), 3) := by decide +kernel
theorem dX6_inversionsByBubbleSort_33 : decode cX6_inversionsByBubbleSort 33 = .ok (.iconst 0, 1) := by decide +kernel
theorem dX6_inversionsByBubbleSort_34 : decode cX6_inversionsByBubbleSort 34 = .ok (.istore_n 1, 1) := by decide +kernel
theorem dX6_inversionsByBubbleSort_35 : decode cX6_inversionsByBubbleSort 35 = .ok (.aload_n 0, 1) := by decide +kernel
theorem dX6_inversionsByBubbleSort_36 : decode cX6_inversionsByBubbleSort 36 = .ok (.getfield 10, 3) := by decide +kernel
theorem dX6_inversionsByBubbleSort_39 : decode cX6_inversionsByBubbleSort 39 = .ok (.getfield 176, 3) := by decide +kernel
theorem dX6_inversionsByBubbleSort_42 : decode cX6_inversionsByBubbleSort 42 = .ok (.istore_n 2, 1) := by decide +kernel
theorem dX6_inversionsByBubbleSort_43 : decode cX6_inversionsByBubbleSort 43 = .ok (.iload_n 2, 1) := by decide +kernel
theorem dX6_inversionsByBubbleSort_44 : decode cX6_inversionsByBubbleSort 44 = .ok (.iconst 1, 1) := by decide +kernel
theorem dX6_inversionsByBubbleSort_45 : decode cX6_inversionsByBubbleSort 45 = .ok (.if_icmp .le 17, 3) := by decide +kernel
theorem dX6_inversionsByBubbleSort_48 : decode cX6_inversionsByBubbleSort 48 = .ok (.iload_n 1, 1) := by decide +kernel
theorem dX6_inversionsByBubbleSort_49 : decode cX6_inversionsByBubbleSort 49 = .ok (.aload_n 0, 1) := by decide +kernel
theorem dX6_inversionsByBubbleSort_50 : decode cX6_inversionsByBubbleSort 50 = .ok (.iload_n 2, 1) := by decide +kernel
theorem dX6_inversionsByBubbleSort_51 : decode cX6_inversionsByBubbleSort 51 = .ok (.invokevirtual 224, 3) := by decide +kernel
theorem dX6_inversionsByBubbleSort_54 : decode cX6_inversionsByBubbleSort 54 = .ok (.iadd, 1) := by decide +kernel
theorem dX6_inversionsByBubbleSort_55 : decode cX6_inversionsByBubbleSort 55 = .ok (.istore_n 1, 1) := by decide +kernel
theorem dX6_inversionsByBubbleSort_56 : decode cX6_inversionsByBubbleSort 56 = .ok (.iinc 2 (-1), 3) := by decide +kernel
theorem dX6_inversionsByBubbleSort_59 : decode cX6_inversionsByBubbleSort 59 = .ok (.goto (-16), 3) := by decide +kernel
theorem dX6_inversionsByBubbleSort_62 : decode cX6_inversionsByBubbleSort 62 = .ok (.iload_n 1, 1) := by decide +kernel
theorem dX6_inversionsByBubbleSort_63 : decode cX6_inversionsByBubbleSort 63 = .ok (.ireturn, 1) := by decide +kernel
theorem dX6_bubbleUp_0 : decode cX6_bubbleUp 0 = .ok (.iconst 0, 1) := by decide +kernel
theorem dX6_bubbleUp_1 : decode cX6_bubbleUp 1 = .ok (.istore_n 2, 1) := by decide +kernel
theorem dX6_bubbleUp_2 : decode cX6_bubbleUp 2 = .ok (.iconst 1, 1) := by decide +kernel
theorem dX6_bubbleUp_3 : decode cX6_bubbleUp 3 = .ok (.istore_n 3, 1) := by decide +kernel
theorem dX6_bubbleUp_4 : decode cX6_bubbleUp 4 = .ok (.iload_n 3, 1) := by decide +kernel
theorem dX6_bubbleUp_5 : decode cX6_bubbleUp 5 = .ok (.iload_n 1, 1) := by decide +kernel
theorem dX6_bubbleUp_6 : decode cX6_bubbleUp 6 = .ok (.if_icmp .ge 55, 3) := by decide +kernel
theorem dX6_bubbleUp_9 : decode cX6_bubbleUp 9 = .ok (.aload_n 0, 1) := by decide +kernel
theorem dX6_bubbleUp_10 : decode cX6_bubbleUp 10 = .ok (.getfield 47, 3) := by decide +kernel
theorem dX6_bubbleUp_13 : decode cX6_bubbleUp 13 = .ok (.iload_n 3, 1) := by decide +kernel
theorem dX6_bubbleUp_14 : decode cX6_bubbleUp 14 = .ok (.iconst 1, 1) := by decide +kernel
theorem dX6_bubbleUp_15 : decode cX6_bubbleUp 15 = .ok (.isub, 1) := by decide +kernel
theorem dX6_bubbleUp_16 : decode cX6_bubbleUp 16 = .ok (.iaload, 1) := by decide +kernel
theorem dX6_bubbleUp_17 : decode cX6_bubbleUp 17 = .ok (.istore 4, 2) := by decide +kernel
theorem dX6_bubbleUp_19 : decode cX6_bubbleUp 19 = .ok (.iload 4, 2) := by decide +kernel
theorem dX6_bubbleUp_21 : decode cX6_bubbleUp 21 = .ok (.aload_n 0, 1) := by decide +kernel
theorem dX6_bubbleUp_22 : decode cX6_bubbleUp 22 = .ok (.getfield 47, 3) := by decide +kernel
theorem dX6_bubbleUp_25 : decode cX6_bubbleUp 25 = .ok (.iload_n 3, 1) := by decide +kernel
theorem dX6_bubbleUp_26 : decode cX6_bubbleUp 26 = .ok (.iaload, 1) := by decide +kernel
theorem dX6_bubbleUp_27 : decode cX6_bubbleUp 27 = .ok (.if_icmp .le 28, 3) := by decide +kernel
theorem dX6_bubbleUp_30 : decode cX6_bubbleUp 30 = .ok (.aload_n 0, 1) := by decide +kernel
theorem dX6_bubbleUp_31 : decode cX6_bubbleUp 31 = .ok (.getfield 47, 3) := by decide +kernel
theorem dX6_bubbleUp_34 : decode cX6_bubbleUp 34 = .ok (.iload_n 3, 1) := by decide +kernel
theorem dX6_bubbleUp_35 : decode cX6_bubbleUp 35 = .ok (.iconst 1, 1) := by decide +kernel
theorem dX6_bubbleUp_36 : decode cX6_bubbleUp 36 = .ok (.isub, 1) := by decide +kernel
theorem dX6_bubbleUp_37 : decode cX6_bubbleUp 37 = .ok (.aload_n 0, 1) := by decide +kernel
theorem dX6_bubbleUp_38 : decode cX6_bubbleUp 38 = .ok (.getfield 47, 3) := by decide +kernel
theorem dX6_bubbleUp_41 : decode cX6_bubbleUp 41 = .ok (.iload_n 3, 1) := by decide +kernel
theorem dX6_bubbleUp_42 : decode cX6_bubbleUp 42 = .ok (.iaload, 1) := by decide +kernel
theorem dX6_bubbleUp_43 : decode cX6_bubbleUp 43 = .ok (.iastore, 1) := by decide +kernel
theorem dX6_bubbleUp_44 : decode cX6_bubbleUp 44 = .ok (.aload_n 0, 1) := by decide +kernel
theorem dX6_bubbleUp_45 : decode cX6_bubbleUp 45 = .ok (.getfield 47, 3) := by decide +kernel
theorem dX6_bubbleUp_48 : decode cX6_bubbleUp 48 = .ok (.iload_n 3, 1) := by decide +kernel
theorem dX6_bubbleUp_49 : decode cX6_bubbleUp 49 = .ok (.iload 4, 2) := by decide +kernel
theorem dX6_bubbleUp_51 : decode cX6_bubbleUp 51 = .ok (.iastore, 1) := by decide +kernel
theorem dX6_bubbleUp_52 : decode cX6_bubbleUp 52 = .ok (.iinc 2 1, 3) := by decide +kernel
theorem dX6_bubbleUp_55 : decode cX6_bubbleUp 55 = .ok (.iinc 3 1, 3) := by decide +kernel
theorem dX6_bubbleUp_58 : decode cX6_bubbleUp 58 = .ok (.goto (-54), 3) := by decide +kernel
theorem dX6_bubbleUp_61 : decode cX6_bubbleUp 61 = .ok (.iload_n 2, 1) := by decide +kernel
theorem dX6_bubbleUp_62 : decode cX6_bubbleUp 62 = .ok (.ireturn, 1) := by decide +kernel
set_option maxRecDepth 20000 in
theorem ggX6_minutesUntilWindow_X6_requireCustomer : GoodIn wsX6_minutesUntilWindow wsX6_requireCustomer := goodIn_ca (goodIn_rr _ [(7, 10), (139, 25)] rfl (by decide +kernel)) (goodIn_sub (fun _ h => List.mem_cons_of_mem _ (List.mem_append_left _ (List.mem_append_right _ h))) (by decide +kernel))
set_option maxRecDepth 20000 in
theorem gX6_minutesUntilWindow_X6_requireCustomer : GoodIn wsX6_minutesUntilWindow (wsV RX6 129 RX6 yX6_requireCustomer wsX6_requireCustomer) := goodIn_app (goodIn_of _ (by decide +kernel)) ggX6_minutesUntilWindow_X6_requireCustomer
set_option maxRecDepth 20000 in
theorem ggX6_minutesUntilWindow_X6_predictMinutesUntilWindow : GoodIn wsX6_minutesUntilWindow wsX6_predictMinutesUntilWindow := goodIn_ca (goodIn_rr _ [(20, 1), (10, 1), (21, 6), (14, 1), (27, 6), (16, 1), (33, 142)] rfl (by decide +kernel)) (goodIn_sub (fun _ h => List.mem_cons_of_mem _ (List.mem_append_right _ h)) (by decide +kernel))
set_option maxRecDepth 20000 in
theorem gX6_minutesUntilWindow_X6_predictMinutesUntilWindow : GoodIn wsX6_minutesUntilWindow (wsV RX6 227 RX6 yX6_predictMinutesUntilWindow wsX6_predictMinutesUntilWindow) := goodIn_app (goodIn_of _ (by decide +kernel)) ggX6_minutesUntilWindow_X6_predictMinutesUntilWindow
theorem dX6_minutesUntilWindow_0 : decode cX6_minutesUntilWindow 0 = .ok (.aload_n 0, 1) := by decide +kernel
theorem dX6_minutesUntilWindow_1 : decode cX6_minutesUntilWindow 1 = .ok (.iload_n 1, 1) := by decide +kernel
theorem dX6_minutesUntilWindow_2 : decode cX6_minutesUntilWindow 2 = .ok (.invokevirtual 129, 3) := by decide +kernel
theorem dX6_minutesUntilWindow_5 : decode cX6_minutesUntilWindow 5 = .ok (.aload_n 0, 1) := by decide +kernel
theorem dX6_minutesUntilWindow_6 : decode cX6_minutesUntilWindow 6 = .ok (.iload_n 1, 1) := by decide +kernel
theorem dX6_minutesUntilWindow_7 : decode cX6_minutesUntilWindow 7 = .ok (.invokevirtual 227, 3) := by decide +kernel
theorem dX6_minutesUntilWindow_10 : decode cX6_minutesUntilWindow 10 = .ok (.istore_n 2, 1) := by decide +kernel
theorem dX6_minutesUntilWindow_11 : decode cX6_minutesUntilWindow 11 = .ok (.iload_n 2, 1) := by decide +kernel
theorem dX6_minutesUntilWindow_12 : decode cX6_minutesUntilWindow 12 = .ok (.iconst (-1), 1) := by decide +kernel
theorem dX6_minutesUntilWindow_13 : decode cX6_minutesUntilWindow 13 = .ok (.if_icmp .ne 13, 3) := by decide +kernel
theorem dX6_minutesUntilWindow_16 : decode cX6_minutesUntilWindow 16 = .ok (.new 121, 3) := by decide +kernel
theorem dX6_minutesUntilWindow_19 : decode cX6_minutesUntilWindow 19 = .ok (.dup, 1) := by decide +kernel
theorem dX6_minutesUntilWindow_20 : decode cX6_minutesUntilWindow 20 = .ok (.ldc 230, 2) := by decide +kernel
theorem dX6_minutesUntilWindow_22 : decode cX6_minutesUntilWindow 22 = .ok (.invokespecial 125, 3) := by decide +kernel
theorem dX6_minutesUntilWindow_25 : decode cX6_minutesUntilWindow 25 = .ok (.athrow, 1) := by decide +kernel
theorem dX6_minutesUntilWindow_26 : decode cX6_minutesUntilWindow 26 = .ok (.iload_n 2, 1) := by decide +kernel
theorem dX6_minutesUntilWindow_27 : decode cX6_minutesUntilWindow 27 = .ok (.ireturn, 1) := by decide +kernel
set_option maxRecDepth 20000 in
theorem ggX6_predictMinutesUntilWindow_X3_copyFrom : GoodIn wsX6_predictMinutesUntilWindow wsX3_copyFrom := goodIn_ca (goodIn_rr _ [(9, 36), (133, 25)] rfl (by decide +kernel)) (goodIn_sub (fun _ h => List.mem_cons_of_mem _ (List.mem_append_right _ h)) (by decide +kernel))
set_option maxRecDepth 20000 in
theorem gX6_predictMinutesUntilWindow_X3_copyFrom : GoodIn wsX6_predictMinutesUntilWindow (wsV RX6 51 RX3 yX3_copyFrom wsX3_copyFrom) := goodIn_app (goodIn_of _ (by decide +kernel)) ggX6_predictMinutesUntilWindow_X3_copyFrom
set_option maxRecDepth 20000 in
theorem ggX6_predictMinutesUntilWindow_X3_customerWithTicket : GoodIn wsX6_predictMinutesUntilWindow wsX3_customerWithTicket := goodIn_rr _ [(48, 1), (15, 1), (10, 1), (49, 1), (133, 21)] rfl (by decide +kernel)
set_option maxRecDepth 20000 in
theorem gX6_predictMinutesUntilWindow_X3_customerWithTicket : GoodIn wsX6_predictMinutesUntilWindow (wsV RX6 232 RX3 yX3_customerWithTicket wsX3_customerWithTicket) := goodIn_app (goodIn_of _ (by decide +kernel)) ggX6_predictMinutesUntilWindow_X3_customerWithTicket
set_option maxRecDepth 20000 in
theorem ggX6_predictMinutesUntilWindow_X3_windowOf : GoodIn wsX6_predictMinutesUntilWindow wsX3_windowOf := goodIn_rr _ [(53, 1), (12, 1), (54, 1), (133, 14), (154, 4)] rfl (by decide +kernel)
set_option maxRecDepth 20000 in
theorem gX6_predictMinutesUntilWindow_X3_windowOf : GoodIn wsX6_predictMinutesUntilWindow (wsV RX6 165 RX3 yX3_windowOf wsX3_windowOf) := goodIn_app (goodIn_of _ (by decide +kernel)) ggX6_predictMinutesUntilWindow_X3_windowOf
set_option maxRecDepth 20000 in
theorem ggX6_predictMinutesUntilWindow_X3_passMinute : GoodIn wsX6_predictMinutesUntilWindow wsX3_passMinute := goodIn_ca (goodIn_rr _ [(58, 1), (12, 1), (54, 1), (17, 1), (59, 3), (39, 1), (62, 1), (41, 1), (63, 3), (8, 1), (66, 2), (10, 1), (68, 5), (13, 2), (49, 1), (73, 1), (19, 1), (74, 1), (20, 1), (75, 4), (15, 1), (79, 4), (16, 1), (11, 1), (83, 5), (51, 3), (88, 16), (23, 1), (21, 1), (104, 3), (27, 1), (107, 1), (33, 1), (35, 1), (32, 1), (108, 7), (30, 2), (115, 7), (133, 14), (154, 4), (147, 7)] rfl (by decide +kernel)) (goodIn_sub (fun _ h => List.mem_cons_of_mem _ (List.mem_append_right _ h)) (by decide +kernel))
set_option maxRecDepth 20000 in
theorem gX6_predictMinutesUntilWindow_X3_passMinute : GoodIn wsX6_predictMinutesUntilWindow (wsV RX6 235 RX3 yX3_passMinute wsX3_passMinute) := goodIn_app (goodIn_of _ (by decide +kernel)) ggX6_predictMinutesUntilWindow_X3_passMinute
theorem dX6_predictMinutesUntilWindow_0 : decode cX6_predictMinutesUntilWindow 0 = .ok (.aload_n 0, 1) := by decide +kernel
theorem dX6_predictMinutesUntilWindow_1 : decode cX6_predictMinutesUntilWindow 1 = .ok (.getfield 10, 3) := by decide +kernel
theorem dX6_predictMinutesUntilWindow_4 : decode cX6_predictMinutesUntilWindow 4 = .ok (.getfield 132, 3) := by decide +kernel
theorem dX6_predictMinutesUntilWindow_7 : decode cX6_predictMinutesUntilWindow 7 = .ok (.iload_n 1, 1) := by decide +kernel
theorem dX6_predictMinutesUntilWindow_8 : decode cX6_predictMinutesUntilWindow 8 = .ok (.aaload, 1) := by decide +kernel
theorem dX6_predictMinutesUntilWindow_9 : decode cX6_predictMinutesUntilWindow 9 = .ok (.getfield 136, 3) := by decide +kernel
theorem dX6_predictMinutesUntilWindow_12 : decode cX6_predictMinutesUntilWindow 12 = .ok (.istore_n 2, 1) := by decide +kernel
theorem dX6_predictMinutesUntilWindow_13 : decode cX6_predictMinutesUntilWindow 13 = .ok (.aload_n 0, 1) := by decide +kernel
theorem dX6_predictMinutesUntilWindow_14 : decode cX6_predictMinutesUntilWindow 14 = .ok (.getfield 16, 3) := by decide +kernel
theorem dX6_predictMinutesUntilWindow_17 : decode cX6_predictMinutesUntilWindow 17 = .ok (.aload_n 0, 1) := by decide +kernel
theorem dX6_predictMinutesUntilWindow_18 : decode cX6_predictMinutesUntilWindow 18 = .ok (.getfield 10, 3) := by decide +kernel
theorem dX6_predictMinutesUntilWindow_21 : decode cX6_predictMinutesUntilWindow 21 = .ok (.invokevirtual 51, 3) := by decide +kernel
theorem dX6_predictMinutesUntilWindow_24 : decode cX6_predictMinutesUntilWindow 24 = .ok (.iconst 0, 1) := by decide +kernel
theorem dX6_predictMinutesUntilWindow_25 : decode cX6_predictMinutesUntilWindow 25 = .ok (.istore_n 3, 1) := by decide +kernel
theorem dX6_predictMinutesUntilWindow_26 : decode cX6_predictMinutesUntilWindow 26 = .ok (.iload_n 3, 1) := by decide +kernel
theorem dX6_predictMinutesUntilWindow_27 : decode cX6_predictMinutesUntilWindow 27 = .ok (.bipush 60, 2) := by decide +kernel
theorem dX6_predictMinutesUntilWindow_29 : decode cX6_predictMinutesUntilWindow 29 = .ok (.if_icmp .gt 49, 3) := by decide +kernel
theorem dX6_predictMinutesUntilWindow_32 : decode cX6_predictMinutesUntilWindow 32 = .ok (.aload_n 0, 1) := by decide +kernel
theorem dX6_predictMinutesUntilWindow_33 : decode cX6_predictMinutesUntilWindow 33 = .ok (.getfield 16, 3) := by decide +kernel
theorem dX6_predictMinutesUntilWindow_36 : decode cX6_predictMinutesUntilWindow 36 = .ok (.iload_n 2, 1) := by decide +kernel
theorem dX6_predictMinutesUntilWindow_37 : decode cX6_predictMinutesUntilWindow 37 = .ok (.invokevirtual 232, 3) := by decide +kernel
theorem dX6_predictMinutesUntilWindow_40 : decode cX6_predictMinutesUntilWindow 40 = .ok (.istore 4, 2) := by decide +kernel
theorem dX6_predictMinutesUntilWindow_42 : decode cX6_predictMinutesUntilWindow 42 = .ok (.iload 4, 2) := by decide +kernel
theorem dX6_predictMinutesUntilWindow_44 : decode cX6_predictMinutesUntilWindow 44 = .ok (.iconst (-1), 1) := by decide +kernel
theorem dX6_predictMinutesUntilWindow_45 : decode cX6_predictMinutesUntilWindow 45 = .ok (.if_icmp .ne 5, 3) := by decide +kernel
theorem dX6_predictMinutesUntilWindow_48 : decode cX6_predictMinutesUntilWindow 48 = .ok (.iconst (-1), 1) := by decide +kernel
theorem dX6_predictMinutesUntilWindow_49 : decode cX6_predictMinutesUntilWindow 49 = .ok (.ireturn, 1) := by decide +kernel
theorem dX6_predictMinutesUntilWindow_50 : decode cX6_predictMinutesUntilWindow 50 = .ok (.aload_n 0, 1) := by decide +kernel
theorem dX6_predictMinutesUntilWindow_51 : decode cX6_predictMinutesUntilWindow 51 = .ok (.getfield 16, 3) := by decide +kernel
theorem dX6_predictMinutesUntilWindow_54 : decode cX6_predictMinutesUntilWindow 54 = .ok (.iload 4, 2) := by decide +kernel
theorem dX6_predictMinutesUntilWindow_56 : decode cX6_predictMinutesUntilWindow 56 = .ok (.invokevirtual 165, 3) := by decide +kernel
theorem dX6_predictMinutesUntilWindow_59 : decode cX6_predictMinutesUntilWindow 59 = .ok (.iconst (-1), 1) := by decide +kernel
theorem dX6_predictMinutesUntilWindow_60 : decode cX6_predictMinutesUntilWindow 60 = .ok (.if_icmp .eq 5, 3) := by decide +kernel
theorem dX6_predictMinutesUntilWindow_63 : decode cX6_predictMinutesUntilWindow 63 = .ok (.iload_n 3, 1) := by decide +kernel
theorem dX6_predictMinutesUntilWindow_64 : decode cX6_predictMinutesUntilWindow 64 = .ok (.ireturn, 1) := by decide +kernel
theorem dX6_predictMinutesUntilWindow_65 : decode cX6_predictMinutesUntilWindow 65 = .ok (.aload_n 0, 1) := by decide +kernel
theorem dX6_predictMinutesUntilWindow_66 : decode cX6_predictMinutesUntilWindow 66 = .ok (.getfield 16, 3) := by decide +kernel
theorem dX6_predictMinutesUntilWindow_69 : decode cX6_predictMinutesUntilWindow 69 = .ok (.invokevirtual 235, 3) := by decide +kernel
theorem dX6_predictMinutesUntilWindow_72 : decode cX6_predictMinutesUntilWindow 72 = .ok (.iinc 3 1, 3) := by decide +kernel
theorem dX6_predictMinutesUntilWindow_75 : decode cX6_predictMinutesUntilWindow 75 = .ok (.goto (-49), 3) := by decide +kernel
theorem dX6_predictMinutesUntilWindow_78 : decode cX6_predictMinutesUntilWindow 78 = .ok (.iconst (-1), 1) := by decide +kernel
theorem dX6_predictMinutesUntilWindow_79 : decode cX6_predictMinutesUntilWindow 79 = .ok (.ireturn, 1) := by decide +kernel
set_option maxRecDepth 20000 in
theorem ggX6_patienceAfter_X6_requireCustomer : GoodIn wsX6_patienceAfter wsX6_requireCustomer := goodIn_ca (goodIn_rr _ [(12, 3), (4, 1), (15, 6), (144, 25)] rfl (by decide +kernel)) (goodIn_sub (fun _ h => List.mem_cons_of_mem _ (List.mem_append_left _ (List.mem_append_left _ (List.mem_append_right _ h)))) (by decide +kernel))
set_option maxRecDepth 20000 in
theorem gX6_patienceAfter_X6_requireCustomer : GoodIn wsX6_patienceAfter (wsV RX6 129 RX6 yX6_requireCustomer wsX6_requireCustomer) := goodIn_app (goodIn_of _ (by decide +kernel)) ggX6_patienceAfter_X6_requireCustomer
set_option maxRecDepth 20000 in
theorem ggX6_patienceAfter_X6_requirePredictable : GoodIn wsX6_patienceAfter wsX6_requirePredictable := goodIn_ca (goodIn_rr _ [(23, 3)] rfl (by decide +kernel)) (goodIn_sub (fun _ h => List.mem_cons_of_mem _ (List.mem_append_left _ (List.mem_append_right _ h))) (by decide +kernel))
set_option maxRecDepth 20000 in
theorem gX6_patienceAfter_X6_requirePredictable : GoodIn wsX6_patienceAfter (va_wsS RX6 238 yX6_requirePredictable wsX6_requirePredictable) := goodIn_app (goodIn_of _ (by decide +kernel)) ggX6_patienceAfter_X6_requirePredictable
set_option maxRecDepth 20000 in
theorem ggX6_patienceAfter_X6_predict : GoodIn wsX6_patienceAfter wsX6_predict := goodIn_ca (goodIn_rr _ [(29, 1), (3, 2), (30, 3), (18, 1), (33, 6), (20, 1), (39, 101), (144, 36)] rfl (by decide +kernel)) (goodIn_sub (fun _ h => List.mem_cons_of_mem _ (List.mem_append_right _ h)) (by decide +kernel))
set_option maxRecDepth 20000 in
theorem gX6_patienceAfter_X6_predict : GoodIn wsX6_patienceAfter (wsV RX6 241 RX6 yX6_predict wsX6_predict) := goodIn_app (goodIn_of _ (by decide +kernel)) ggX6_patienceAfter_X6_predict
set_option maxRecDepth 20000 in
theorem ggX6_patienceAfter_X3_customerWithTicket : GoodIn wsX6_patienceAfter wsX3_customerWithTicket := goodIn_rr _ [(143, 1), (20, 1), (34, 1), (87, 1), (155, 21)] rfl (by decide +kernel)
set_option maxRecDepth 20000 in
theorem gX6_patienceAfter_X3_customerWithTicket : GoodIn wsX6_patienceAfter (wsV RX6 232 RX3 yX3_customerWithTicket wsX3_customerWithTicket) := goodIn_app (goodIn_of _ (by decide +kernel)) ggX6_patienceAfter_X3_customerWithTicket
theorem dX6_patienceAfter_0 : decode cX6_patienceAfter 0 = .ok (.aload_n 0, 1) := by decide +kernel
theorem dX6_patienceAfter_1 : decode cX6_patienceAfter 1 = .ok (.iload_n 1, 1) := by decide +kernel
theorem dX6_patienceAfter_2 : decode cX6_patienceAfter 2 = .ok (.invokevirtual 129, 3) := by decide +kernel
theorem dX6_patienceAfter_5 : decode cX6_patienceAfter 5 = .ok (.iload_n 2, 1) := by decide +kernel
theorem dX6_patienceAfter_6 : decode cX6_patienceAfter 6 = .ok (.invokestatic 238, 3) := by decide +kernel
theorem dX6_patienceAfter_9 : decode cX6_patienceAfter 9 = .ok (.aload_n 0, 1) := by decide +kernel
theorem dX6_patienceAfter_10 : decode cX6_patienceAfter 10 = .ok (.iload_n 2, 1) := by decide +kernel
theorem dX6_patienceAfter_11 : decode cX6_patienceAfter 11 = .ok (.invokevirtual 241, 3) := by decide +kernel
theorem dX6_patienceAfter_14 : decode cX6_patienceAfter 14 = .ok (.aload_n 0, 1) := by decide +kernel
theorem dX6_patienceAfter_15 : decode cX6_patienceAfter 15 = .ok (.getfield 16, 3) := by decide +kernel
theorem dX6_patienceAfter_18 : decode cX6_patienceAfter 18 = .ok (.aload_n 0, 1) := by decide +kernel
theorem dX6_patienceAfter_19 : decode cX6_patienceAfter 19 = .ok (.getfield 10, 3) := by decide +kernel
theorem dX6_patienceAfter_22 : decode cX6_patienceAfter 22 = .ok (.getfield 132, 3) := by decide +kernel
theorem dX6_patienceAfter_25 : decode cX6_patienceAfter 25 = .ok (.iload_n 1, 1) := by decide +kernel
theorem dX6_patienceAfter_26 : decode cX6_patienceAfter 26 = .ok (.aaload, 1) := by decide +kernel
theorem dX6_patienceAfter_27 : decode cX6_patienceAfter 27 = .ok (.getfield 136, 3) := by decide +kernel
theorem dX6_patienceAfter_30 : decode cX6_patienceAfter 30 = .ok (.invokevirtual 232, 3) := by decide +kernel
theorem dX6_patienceAfter_33 : decode cX6_patienceAfter 33 = .ok (.istore_n 3, 1) := by decide +kernel
theorem dX6_patienceAfter_34 : decode cX6_patienceAfter 34 = .ok (.iload_n 3, 1) := by decide +kernel
theorem dX6_patienceAfter_35 : decode cX6_patienceAfter 35 = .ok (.iconst (-1), 1) := by decide +kernel
theorem dX6_patienceAfter_36 : decode cX6_patienceAfter 36 = .ok (.if_icmp .ne 13, 3) := by decide +kernel
theorem dX6_patienceAfter_39 : decode cX6_patienceAfter 39 = .ok (.new 121, 3) := by decide +kernel
theorem dX6_patienceAfter_42 : decode cX6_patienceAfter 42 = .ok (.dup, 1) := by decide +kernel
theorem dX6_patienceAfter_43 : decode cX6_patienceAfter 43 = .ok (.ldc 244, 2) := by decide +kernel
theorem dX6_patienceAfter_45 : decode cX6_patienceAfter 45 = .ok (.invokespecial 125, 3) := by decide +kernel
theorem dX6_patienceAfter_48 : decode cX6_patienceAfter 48 = .ok (.athrow, 1) := by decide +kernel
theorem dX6_patienceAfter_49 : decode cX6_patienceAfter 49 = .ok (.aload_n 0, 1) := by decide +kernel
theorem dX6_patienceAfter_50 : decode cX6_patienceAfter 50 = .ok (.getfield 16, 3) := by decide +kernel
theorem dX6_patienceAfter_53 : decode cX6_patienceAfter 53 = .ok (.getfield 132, 3) := by decide +kernel
theorem dX6_patienceAfter_56 : decode cX6_patienceAfter 56 = .ok (.iload_n 3, 1) := by decide +kernel
theorem dX6_patienceAfter_57 : decode cX6_patienceAfter 57 = .ok (.aaload, 1) := by decide +kernel
theorem dX6_patienceAfter_58 : decode cX6_patienceAfter 58 = .ok (.getfield 141, 3) := by decide +kernel
theorem dX6_patienceAfter_61 : decode cX6_patienceAfter 61 = .ok (.ireturn, 1) := by decide +kernel
set_option maxRecDepth 20000 in
theorem ggX6_sighsWithin_X6_requirePredictable : GoodIn wsX6_sighsWithin wsX6_requirePredictable := goodIn_ca (goodIn_rr _ [(7, 3)] rfl (by decide +kernel)) (goodIn_sub (fun _ h => List.mem_cons_of_mem _ (List.mem_append_left _ (List.mem_append_right _ h))) (by decide +kernel))
set_option maxRecDepth 20000 in
theorem gX6_sighsWithin_X6_requirePredictable : GoodIn wsX6_sighsWithin (va_wsS RX6 238 yX6_requirePredictable wsX6_requirePredictable) := goodIn_app (goodIn_of _ (by decide +kernel)) ggX6_sighsWithin_X6_requirePredictable
set_option maxRecDepth 20000 in
theorem ggX6_sighsWithin_X6_predict : GoodIn wsX6_sighsWithin wsX6_predict := goodIn_ca (goodIn_rr _ [(13, 1), (1, 1), (3, 1), (14, 148)] rfl (by decide +kernel)) (goodIn_sub (fun _ h => List.mem_cons_of_mem _ (List.mem_append_right _ h)) (by decide +kernel))
set_option maxRecDepth 20000 in
theorem gX6_sighsWithin_X6_predict : GoodIn wsX6_sighsWithin (wsV RX6 241 RX6 yX6_predict wsX6_predict) := goodIn_app (goodIn_of _ (by decide +kernel)) ggX6_sighsWithin_X6_predict
theorem dX6_sighsWithin_0 : decode cX6_sighsWithin 0 = .ok (.iload_n 1, 1) := by decide +kernel
theorem dX6_sighsWithin_1 : decode cX6_sighsWithin 1 = .ok (.invokestatic 238, 3) := by decide +kernel
theorem dX6_sighsWithin_4 : decode cX6_sighsWithin 4 = .ok (.aload_n 0, 1) := by decide +kernel
theorem dX6_sighsWithin_5 : decode cX6_sighsWithin 5 = .ok (.iload_n 1, 1) := by decide +kernel
theorem dX6_sighsWithin_6 : decode cX6_sighsWithin 6 = .ok (.invokevirtual 241, 3) := by decide +kernel
theorem dX6_sighsWithin_9 : decode cX6_sighsWithin 9 = .ok (.aload_n 0, 1) := by decide +kernel
theorem dX6_sighsWithin_10 : decode cX6_sighsWithin 10 = .ok (.getfield 16, 3) := by decide +kernel
theorem dX6_sighsWithin_13 : decode cX6_sighsWithin 13 = .ok (.getfield 246, 3) := by decide +kernel
theorem dX6_sighsWithin_16 : decode cX6_sighsWithin 16 = .ok (.aload_n 0, 1) := by decide +kernel
theorem dX6_sighsWithin_17 : decode cX6_sighsWithin 17 = .ok (.getfield 10, 3) := by decide +kernel
theorem dX6_sighsWithin_20 : decode cX6_sighsWithin 20 = .ok (.getfield 246, 3) := by decide +kernel
theorem dX6_sighsWithin_23 : decode cX6_sighsWithin 23 = .ok (.isub, 1) := by decide +kernel
theorem dX6_sighsWithin_24 : decode cX6_sighsWithin 24 = .ok (.ireturn, 1) := by decide +kernel
theorem dX6_requirePredictable_0 : decode cX6_requirePredictable 0 = .ok (.iload_n 0, 1) := by decide +kernel
theorem dX6_requirePredictable_1 : decode cX6_requirePredictable 1 = .ok (.ifCond .lt 9, 3) := by decide +kernel
theorem dX6_requirePredictable_4 : decode cX6_requirePredictable 4 = .ok (.iload_n 0, 1) := by decide +kernel
theorem dX6_requirePredictable_5 : decode cX6_requirePredictable 5 = .ok (.bipush 60, 2) := by decide +kernel
theorem dX6_requirePredictable_7 : decode cX6_requirePredictable 7 = .ok (.if_icmp .le 13, 3) := by decide +kernel
theorem dX6_requirePredictable_10 : decode cX6_requirePredictable 10 = .ok (.new 106, 3) := by decide +kernel
theorem dX6_requirePredictable_13 : decode cX6_requirePredictable 13 = .ok (.dup, 1) := by decide +kernel
theorem dX6_requirePredictable_14 : decode cX6_requirePredictable 14 = .ok (.ldc 249, 2) := by decide +kernel
theorem dX6_requirePredictable_16 : decode cX6_requirePredictable 16 = .ok (.invokespecial 110, 3) := by decide +kernel
theorem dX6_requirePredictable_19 : decode cX6_requirePredictable 19 = .ok (.athrow, 1) := by decide +kernel
theorem dX6_requirePredictable_20 : decode cX6_requirePredictable 20 = .ok (.return_, 1) := by decide +kernel
set_option maxRecDepth 20000 in
theorem ggX6_predict_X3_copyFrom : GoodIn wsX6_predict wsX3_copyFrom := goodIn_ca (goodIn_rr _ [(7, 36), (126, 25)] rfl (by decide +kernel)) (goodIn_sub (fun _ h => List.mem_cons_of_mem _ (List.mem_append_right _ h)) (by decide +kernel))
set_option maxRecDepth 20000 in
theorem gX6_predict_X3_copyFrom : GoodIn wsX6_predict (wsV RX6 51 RX3 yX3_copyFrom wsX3_copyFrom) := goodIn_app (goodIn_of _ (by decide +kernel)) ggX6_predict_X3_copyFrom
set_option maxRecDepth 20000 in
theorem ggX6_predict_X3_passMinute : GoodIn wsX6_predict wsX3_passMinute := goodIn_ca (goodIn_rr _ [(46, 1), (10, 1), (47, 1), (15, 1), (48, 3), (37, 1), (51, 1), (39, 1), (52, 3), (6, 1), (55, 2), (8, 1), (57, 5), (11, 2), (62, 2), (17, 1), (64, 1), (18, 1), (65, 4), (13, 1), (69, 4), (14, 1), (9, 1), (73, 24), (21, 1), (19, 1), (97, 3), (25, 1), (100, 1), (31, 1), (33, 1), (30, 1), (101, 7), (28, 2), (108, 7), (126, 14), (147, 4), (140, 7)] rfl (by decide +kernel)) (goodIn_sub (fun _ h => List.mem_cons_of_mem _ (List.mem_append_right _ h)) (by decide +kernel))
set_option maxRecDepth 20000 in
theorem gX6_predict_X3_passMinute : GoodIn wsX6_predict (wsV RX6 235 RX3 yX3_passMinute wsX3_passMinute) := goodIn_app (goodIn_of _ (by decide +kernel)) ggX6_predict_X3_passMinute
theorem dX6_predict_0 : decode cX6_predict 0 = .ok (.aload_n 0, 1) := by decide +kernel
theorem dX6_predict_1 : decode cX6_predict 1 = .ok (.getfield 16, 3) := by decide +kernel
theorem dX6_predict_4 : decode cX6_predict 4 = .ok (.aload_n 0, 1) := by decide +kernel
theorem dX6_predict_5 : decode cX6_predict 5 = .ok (.getfield 10, 3) := by decide +kernel
theorem dX6_predict_8 : decode cX6_predict 8 = .ok (.invokevirtual 51, 3) := by decide +kernel
theorem dX6_predict_11 : decode cX6_predict 11 = .ok (.iconst 0, 1) := by decide +kernel
theorem dX6_predict_12 : decode cX6_predict 12 = .ok (.istore_n 2, 1) := by decide +kernel
theorem dX6_predict_13 : decode cX6_predict 13 = .ok (.iload_n 2, 1) := by decide +kernel
theorem dX6_predict_14 : decode cX6_predict 14 = .ok (.iload_n 1, 1) := by decide +kernel
theorem dX6_predict_15 : decode cX6_predict 15 = .ok (.if_icmp .ge 16, 3) := by decide +kernel
theorem dX6_predict_18 : decode cX6_predict 18 = .ok (.aload_n 0, 1) := by decide +kernel
theorem dX6_predict_19 : decode cX6_predict 19 = .ok (.getfield 16, 3) := by decide +kernel
theorem dX6_predict_22 : decode cX6_predict 22 = .ok (.invokevirtual 235, 3) := by decide +kernel
theorem dX6_predict_25 : decode cX6_predict 25 = .ok (.iinc 2 1, 3) := by decide +kernel
theorem dX6_predict_28 : decode cX6_predict 28 = .ok (.goto (-15), 3) := by decide +kernel
theorem dX6_predict_31 : decode cX6_predict 31 = .ok (.return_, 1) := by decide +kernel
set_option maxRecDepth 20000 in
theorem ggX6_servedTicket_X6_requireRemembered : GoodIn wsX6_servedTicket wsX6_requireRemembered := goodIn_ca (goodIn_rr _ [(7, 3), (1, 1), (10, 30)] rfl (by decide +kernel)) (goodIn_sub (fun _ h => List.mem_cons_of_mem _ (List.mem_append_right _ h)) (by decide +kernel))
set_option maxRecDepth 20000 in
theorem gX6_servedTicket_X6_requireRemembered : GoodIn wsX6_servedTicket (wsV RX6 251 RX6 yX6_requireRemembered wsX6_requireRemembered) := goodIn_app (goodIn_of _ (by decide +kernel)) ggX6_servedTicket_X6_requireRemembered
theorem dX6_servedTicket_0 : decode cX6_servedTicket 0 = .ok (.aload_n 0, 1) := by decide +kernel
theorem dX6_servedTicket_1 : decode cX6_servedTicket 1 = .ok (.iload_n 1, 1) := by decide +kernel
theorem dX6_servedTicket_2 : decode cX6_servedTicket 2 = .ok (.invokevirtual 251, 3) := by decide +kernel
theorem dX6_servedTicket_5 : decode cX6_servedTicket 5 = .ok (.aload_n 0, 1) := by decide +kernel
theorem dX6_servedTicket_6 : decode cX6_servedTicket 6 = .ok (.getfield 10, 3) := by decide +kernel
theorem dX6_servedTicket_9 : decode cX6_servedTicket 9 = .ok (.getfield 254, 3) := by decide +kernel
theorem dX6_servedTicket_12 : decode cX6_servedTicket 12 = .ok (.iload_n 1, 1) := by decide +kernel
theorem dX6_servedTicket_13 : decode cX6_servedTicket 13 = .ok (.iaload, 1) := by decide +kernel
theorem dX6_servedTicket_14 : decode cX6_servedTicket 14 = .ok (.ireturn, 1) := by decide +kernel
set_option maxRecDepth 20000 in
theorem ggX6_servedWaitingTime_X6_requireRemembered : GoodIn wsX6_servedWaitingTime wsX6_requireRemembered := goodIn_ca (goodIn_rr _ [(7, 3), (1, 1), (10, 30)] rfl (by decide +kernel)) (goodIn_sub (fun _ h => List.mem_cons_of_mem _ (List.mem_append_right _ h)) (by decide +kernel))
set_option maxRecDepth 20000 in
theorem gX6_servedWaitingTime_X6_requireRemembered : GoodIn wsX6_servedWaitingTime (wsV RX6 251 RX6 yX6_requireRemembered wsX6_requireRemembered) := goodIn_app (goodIn_of _ (by decide +kernel)) ggX6_servedWaitingTime_X6_requireRemembered
theorem dX6_servedWaitingTime_0 : decode cX6_servedWaitingTime 0 = .ok (.aload_n 0, 1) := by decide +kernel
theorem dX6_servedWaitingTime_1 : decode cX6_servedWaitingTime 1 = .ok (.iload_n 1, 1) := by decide +kernel
theorem dX6_servedWaitingTime_2 : decode cX6_servedWaitingTime 2 = .ok (.invokevirtual 251, 3) := by decide +kernel
theorem dX6_servedWaitingTime_5 : decode cX6_servedWaitingTime 5 = .ok (.aload_n 0, 1) := by decide +kernel
theorem dX6_servedWaitingTime_6 : decode cX6_servedWaitingTime 6 = .ok (.getfield 10, 3) := by decide +kernel
theorem dX6_servedWaitingTime_9 : decode cX6_servedWaitingTime 9 = .ok (.getfield 257, 3) := by decide +kernel
theorem dX6_servedWaitingTime_12 : decode cX6_servedWaitingTime 12 = .ok (.iload_n 1, 1) := by decide +kernel
theorem dX6_servedWaitingTime_13 : decode cX6_servedWaitingTime 13 = .ok (.iaload, 1) := by decide +kernel
theorem dX6_servedWaitingTime_14 : decode cX6_servedWaitingTime 14 = .ok (.ireturn, 1) := by decide +kernel
theorem dX6_requireRemembered_0 : decode cX6_requireRemembered 0 = .ok (.iload_n 1, 1) := by decide +kernel
theorem dX6_requireRemembered_1 : decode cX6_requireRemembered 1 = .ok (.ifCond .lt 19, 3) := by decide +kernel
theorem dX6_requireRemembered_4 : decode cX6_requireRemembered 4 = .ok (.iload_n 1, 1) := by decide +kernel
theorem dX6_requireRemembered_5 : decode cX6_requireRemembered 5 = .ok (.aload_n 0, 1) := by decide +kernel
theorem dX6_requireRemembered_6 : decode cX6_requireRemembered 6 = .ok (.getfield 10, 3) := by decide +kernel
theorem dX6_requireRemembered_9 : decode cX6_requireRemembered 9 = .ok (.getfield 260, 3) := by decide +kernel
theorem dX6_requireRemembered_12 : decode cX6_requireRemembered 12 = .ok (.bipush 6, 2) := by decide +kernel
theorem dX6_requireRemembered_14 : decode cX6_requireRemembered 14 = .ok (.invokestatic 263, 3) := by decide +kernel
theorem dX6_requireRemembered_17 : decode cX6_requireRemembered 17 = .ok (.if_icmp .lt 14, 3) := by decide +kernel
theorem dX6_requireRemembered_20 : decode cX6_requireRemembered 20 = .ok (.new 121, 3) := by decide +kernel
theorem dX6_requireRemembered_23 : decode cX6_requireRemembered 23 = .ok (.dup, 1) := by decide +kernel
theorem dX6_requireRemembered_24 : decode cX6_requireRemembered 24 = .ok (.ldc_w 268, 3) := by decide +kernel
theorem dX6_requireRemembered_27 : decode cX6_requireRemembered 27 = .ok (.invokespecial 125, 3) := by decide +kernel
theorem dX6_requireRemembered_30 : decode cX6_requireRemembered 30 = .ok (.athrow, 1) := by decide +kernel
theorem dX6_requireRemembered_31 : decode cX6_requireRemembered 31 = .ok (.return_, 1) := by decide +kernel
set_option maxRecDepth 20000 in
theorem ggX6_customerBySighs_X6_requireRank : GoodIn wsX6_customerBySighs wsX6_requireRank := goodIn_ca (goodIn_rr _ [(7, 3), (1, 1), (10, 6), (28, 25)] rfl (by decide +kernel)) (goodIn_sub (fun _ h => List.mem_cons_of_mem _ (List.mem_append_right _ h)) (by decide +kernel))
set_option maxRecDepth 20000 in
theorem gX6_customerBySighs_X6_requireRank : GoodIn wsX6_customerBySighs (wsV RX6 270 RX6 yX6_requireRank wsX6_requireRank) := goodIn_app (goodIn_of _ (by decide +kernel)) ggX6_customerBySighs_X6_requireRank
set_option maxRecDepth 20000 in
theorem ggX6_customerBySighs_X3_rankBySighs : GoodIn wsX6_customerBySighs wsX3_rankBySighs := goodIn_rr _ [(19, 1), (15, 1), (20, 8), (39, 21)] rfl (by decide +kernel)
set_option maxRecDepth 20000 in
theorem gX6_customerBySighs_X3_rankBySighs : GoodIn wsX6_customerBySighs (wsV RX6 273 RX3 yX3_rankBySighs wsX3_rankBySighs) := goodIn_app (goodIn_of _ (by decide +kernel)) ggX6_customerBySighs_X3_rankBySighs
theorem dX6_customerBySighs_0 : decode cX6_customerBySighs 0 = .ok (.aload_n 0, 1) := by decide +kernel
theorem dX6_customerBySighs_1 : decode cX6_customerBySighs 1 = .ok (.iload_n 1, 1) := by decide +kernel
theorem dX6_customerBySighs_2 : decode cX6_customerBySighs 2 = .ok (.invokevirtual 270, 3) := by decide +kernel
theorem dX6_customerBySighs_5 : decode cX6_customerBySighs 5 = .ok (.iconst 0, 1) := by decide +kernel
theorem dX6_customerBySighs_6 : decode cX6_customerBySighs 6 = .ok (.istore_n 2, 1) := by decide +kernel
theorem dX6_customerBySighs_7 : decode cX6_customerBySighs 7 = .ok (.iconst 0, 1) := by decide +kernel
theorem dX6_customerBySighs_8 : decode cX6_customerBySighs 8 = .ok (.istore_n 3, 1) := by decide +kernel
theorem dX6_customerBySighs_9 : decode cX6_customerBySighs 9 = .ok (.iload_n 3, 1) := by decide +kernel
theorem dX6_customerBySighs_10 : decode cX6_customerBySighs 10 = .ok (.aload_n 0, 1) := by decide +kernel
theorem dX6_customerBySighs_11 : decode cX6_customerBySighs 11 = .ok (.getfield 10, 3) := by decide +kernel
theorem dX6_customerBySighs_14 : decode cX6_customerBySighs 14 = .ok (.getfield 126, 3) := by decide +kernel
theorem dX6_customerBySighs_17 : decode cX6_customerBySighs 17 = .ok (.if_icmp .ge 23, 3) := by decide +kernel
theorem dX6_customerBySighs_20 : decode cX6_customerBySighs 20 = .ok (.aload_n 0, 1) := by decide +kernel
theorem dX6_customerBySighs_21 : decode cX6_customerBySighs 21 = .ok (.getfield 10, 3) := by decide +kernel
theorem dX6_customerBySighs_24 : decode cX6_customerBySighs 24 = .ok (.iload_n 3, 1) := by decide +kernel
theorem dX6_customerBySighs_25 : decode cX6_customerBySighs 25 = .ok (.invokevirtual 273, 3) := by decide +kernel
theorem dX6_customerBySighs_28 : decode cX6_customerBySighs 28 = .ok (.iload_n 1, 1) := by decide +kernel
theorem dX6_customerBySighs_29 : decode cX6_customerBySighs 29 = .ok (.if_icmp .ne 5, 3) := by decide +kernel
theorem dX6_customerBySighs_32 : decode cX6_customerBySighs 32 = .ok (.iload_n 3, 1) := by decide +kernel
theorem dX6_customerBySighs_33 : decode cX6_customerBySighs 33 = .ok (.istore_n 2, 1) := by decide +kernel
theorem dX6_customerBySighs_34 : decode cX6_customerBySighs 34 = .ok (.iinc 3 1, 3) := by decide +kernel
theorem dX6_customerBySighs_37 : decode cX6_customerBySighs 37 = .ok (.goto (-28), 3) := by decide +kernel
theorem dX6_customerBySighs_40 : decode cX6_customerBySighs 40 = .ok (.iload_n 2, 1) := by decide +kernel
theorem dX6_customerBySighs_41 : decode cX6_customerBySighs 41 = .ok (.ireturn, 1) := by decide +kernel
set_option maxRecDepth 20000 in
theorem ggX6_customerByWaitingTime_X6_requireRank : GoodIn wsX6_customerByWaitingTime wsX6_requireRank := goodIn_ca (goodIn_rr _ [(7, 3), (1, 1), (10, 6), (28, 25)] rfl (by decide +kernel)) (goodIn_sub (fun _ h => List.mem_cons_of_mem _ (List.mem_append_right _ h)) (by decide +kernel))
set_option maxRecDepth 20000 in
theorem gX6_customerByWaitingTime_X6_requireRank : GoodIn wsX6_customerByWaitingTime (wsV RX6 270 RX6 yX6_requireRank wsX6_requireRank) := goodIn_app (goodIn_of _ (by decide +kernel)) ggX6_customerByWaitingTime_X6_requireRank
set_option maxRecDepth 20000 in
theorem ggX6_customerByWaitingTime_X3_rankByWaitingTime : GoodIn wsX6_customerByWaitingTime wsX3_rankByWaitingTime := goodIn_rr _ [(19, 1), (15, 1), (20, 8), (39, 21)] rfl (by decide +kernel)
set_option maxRecDepth 20000 in
theorem gX6_customerByWaitingTime_X3_rankByWaitingTime : GoodIn wsX6_customerByWaitingTime (wsV RX6 276 RX3 yX3_rankByWaitingTime wsX3_rankByWaitingTime) := goodIn_app (goodIn_of _ (by decide +kernel)) ggX6_customerByWaitingTime_X3_rankByWaitingTime
theorem dX6_customerByWaitingTime_0 : decode cX6_customerByWaitingTime 0 = .ok (.aload_n 0, 1) := by decide +kernel
theorem dX6_customerByWaitingTime_1 : decode cX6_customerByWaitingTime 1 = .ok (.iload_n 1, 1) := by decide +kernel
theorem dX6_customerByWaitingTime_2 : decode cX6_customerByWaitingTime 2 = .ok (.invokevirtual 270, 3) := by decide +kernel
theorem dX6_customerByWaitingTime_5 : decode cX6_customerByWaitingTime 5 = .ok (.iconst 0, 1) := by decide +kernel
theorem dX6_customerByWaitingTime_6 : decode cX6_customerByWaitingTime 6 = .ok (.istore_n 2, 1) := by decide +kernel
theorem dX6_customerByWaitingTime_7 : decode cX6_customerByWaitingTime 7 = .ok (.iconst 0, 1) := by decide +kernel
theorem dX6_customerByWaitingTime_8 : decode cX6_customerByWaitingTime 8 = .ok (.istore_n 3, 1) := by decide +kernel
theorem dX6_customerByWaitingTime_9 : decode cX6_customerByWaitingTime 9 = .ok (.iload_n 3, 1) := by decide +kernel
theorem dX6_customerByWaitingTime_10 : decode cX6_customerByWaitingTime 10 = .ok (.aload_n 0, 1) := by decide +kernel
theorem dX6_customerByWaitingTime_11 : decode cX6_customerByWaitingTime 11 = .ok (.getfield 10, 3) := by decide +kernel
theorem dX6_customerByWaitingTime_14 : decode cX6_customerByWaitingTime 14 = .ok (.getfield 126, 3) := by decide +kernel
theorem dX6_customerByWaitingTime_17 : decode cX6_customerByWaitingTime 17 = .ok (.if_icmp .ge 23, 3) := by decide +kernel
theorem dX6_customerByWaitingTime_20 : decode cX6_customerByWaitingTime 20 = .ok (.aload_n 0, 1) := by decide +kernel
theorem dX6_customerByWaitingTime_21 : decode cX6_customerByWaitingTime 21 = .ok (.getfield 10, 3) := by decide +kernel
theorem dX6_customerByWaitingTime_24 : decode cX6_customerByWaitingTime 24 = .ok (.iload_n 3, 1) := by decide +kernel
theorem dX6_customerByWaitingTime_25 : decode cX6_customerByWaitingTime 25 = .ok (.invokevirtual 276, 3) := by decide +kernel
theorem dX6_customerByWaitingTime_28 : decode cX6_customerByWaitingTime 28 = .ok (.iload_n 1, 1) := by decide +kernel
theorem dX6_customerByWaitingTime_29 : decode cX6_customerByWaitingTime 29 = .ok (.if_icmp .ne 5, 3) := by decide +kernel
theorem dX6_customerByWaitingTime_32 : decode cX6_customerByWaitingTime 32 = .ok (.iload_n 3, 1) := by decide +kernel
theorem dX6_customerByWaitingTime_33 : decode cX6_customerByWaitingTime 33 = .ok (.istore_n 2, 1) := by decide +kernel
theorem dX6_customerByWaitingTime_34 : decode cX6_customerByWaitingTime 34 = .ok (.iinc 3 1, 3) := by decide +kernel
theorem dX6_customerByWaitingTime_37 : decode cX6_customerByWaitingTime 37 = .ok (.goto (-28), 3) := by decide +kernel
theorem dX6_customerByWaitingTime_40 : decode cX6_customerByWaitingTime 40 = .ok (.iload_n 2, 1) := by decide +kernel
theorem dX6_customerByWaitingTime_41 : decode cX6_customerByWaitingTime 41 = .ok (.ireturn, 1) := by decide +kernel
set_option maxRecDepth 20000 in
theorem ggX6_requireRank_X3_hasCustomer : GoodIn wsX6_requireRank wsX3_hasCustomer := goodIn_rr _ [(8, 2), (21, 14)] rfl (by decide +kernel)
set_option maxRecDepth 20000 in
theorem gX6_requireRank_X3_hasCustomer : GoodIn wsX6_requireRank (wsV RX6 170 RX3 yX3_hasCustomer wsX3_hasCustomer) := goodIn_app (goodIn_of _ (by decide +kernel)) ggX6_requireRank_X3_hasCustomer
theorem dX6_requireRank_0 : decode cX6_requireRank 0 = .ok (.aload_n 0, 1) := by decide +kernel
theorem dX6_requireRank_1 : decode cX6_requireRank 1 = .ok (.getfield 10, 3) := by decide +kernel
theorem dX6_requireRank_4 : decode cX6_requireRank 4 = .ok (.iload_n 1, 1) := by decide +kernel
theorem dX6_requireRank_5 : decode cX6_requireRank 5 = .ok (.invokevirtual 170, 3) := by decide +kernel
theorem dX6_requireRank_8 : decode cX6_requireRank 8 = .ok (.ifCond .ne 14, 3) := by decide +kernel
theorem dX6_requireRank_11 : decode cX6_requireRank 11 = .ok (.new 121, 3) := by decide +kernel
theorem dX6_requireRank_14 : decode cX6_requireRank 14 = .ok (.dup, 1) := by decide +kernel
theorem dX6_requireRank_15 : decode cX6_requireRank 15 = .ok (.ldc_w 279, 3) := by decide +kernel
theorem dX6_requireRank_18 : decode cX6_requireRank 18 = .ok (.invokespecial 125, 3) := by decide +kernel
theorem dX6_requireRank_21 : decode cX6_requireRank 21 = .ok (.athrow, 1) := by decide +kernel
theorem dX6_requireRank_22 : decode cX6_requireRank 22 = .ok (.return_, 1) := by decide +kernel
theorem dX6_minute_0 : decode cX6_minute 0 = .ok (.aload_n 0, 1) := by decide +kernel
theorem dX6_minute_1 : decode cX6_minute 1 = .ok (.getfield 10, 3) := by decide +kernel
theorem dX6_minute_4 : decode cX6_minute 4 = .ok (.getfield 281, 3) := by decide +kernel
theorem dX6_minute_7 : decode cX6_minute 7 = .ok (.ireturn, 1) := by decide +kernel
theorem dX6_addedTotal_0 : decode cX6_addedTotal 0 = .ok (.aload_n 0, 1) := by decide +kernel
theorem dX6_addedTotal_1 : decode cX6_addedTotal 1 = .ok (.getfield 10, 3) := by decide +kernel
theorem dX6_addedTotal_4 : decode cX6_addedTotal 4 = .ok (.getfield 284, 3) := by decide +kernel
theorem dX6_addedTotal_7 : decode cX6_addedTotal 7 = .ok (.ireturn, 1) := by decide +kernel
theorem dX6_servedTotal_0 : decode cX6_servedTotal 0 = .ok (.aload_n 0, 1) := by decide +kernel
theorem dX6_servedTotal_1 : decode cX6_servedTotal 1 = .ok (.getfield 10, 3) := by decide +kernel
theorem dX6_servedTotal_4 : decode cX6_servedTotal 4 = .ok (.getfield 260, 3) := by decide +kernel
theorem dX6_servedTotal_7 : decode cX6_servedTotal 7 = .ok (.ireturn, 1) := by decide +kernel
theorem dX6_walkedOutTotal_0 : decode cX6_walkedOutTotal 0 = .ok (.aload_n 0, 1) := by decide +kernel
theorem dX6_walkedOutTotal_1 : decode cX6_walkedOutTotal 1 = .ok (.getfield 10, 3) := by decide +kernel
theorem dX6_walkedOutTotal_4 : decode cX6_walkedOutTotal 4 = .ok (.getfield 287, 3) := by decide +kernel
theorem dX6_walkedOutTotal_7 : decode cX6_walkedOutTotal 7 = .ok (.ireturn, 1) := by decide +kernel
theorem dX6_sighTotal_0 : decode cX6_sighTotal 0 = .ok (.aload_n 0, 1) := by decide +kernel
theorem dX6_sighTotal_1 : decode cX6_sighTotal 1 = .ok (.getfield 10, 3) := by decide +kernel
theorem dX6_sighTotal_4 : decode cX6_sighTotal 4 = .ok (.getfield 246, 3) := by decide +kernel
theorem dX6_sighTotal_7 : decode cX6_sighTotal 7 = .ok (.ireturn, 1) := by decide +kernel
theorem dX6_meanPatience_0 : decode cX6_meanPatience 0 = .ok (.aload_n 0, 1) := by decide +kernel
theorem dX6_meanPatience_1 : decode cX6_meanPatience 1 = .ok (.getfield 10, 3) := by decide +kernel
theorem dX6_meanPatience_4 : decode cX6_meanPatience 4 = .ok (.getfield 126, 3) := by decide +kernel
theorem dX6_meanPatience_7 : decode cX6_meanPatience 7 = .ok (.ifCond .ne 14, 3) := by decide +kernel
theorem dX6_meanPatience_10 : decode cX6_meanPatience 10 = .ok (.new 290, 3) := by decide +kernel
theorem dX6_meanPatience_13 : decode cX6_meanPatience 13 = .ok (.dup, 1) := by decide +kernel
theorem dX6_meanPatience_14 : decode cX6_meanPatience 14 = .ok (.ldc_w 292, 3) := by decide +kernel
theorem dX6_meanPatience_17 : decode cX6_meanPatience 17 = .ok (.invokespecial 294, 3) := by decide +kernel
theorem dX6_meanPatience_20 : decode cX6_meanPatience 20 = .ok (.athrow, 1) := by decide +kernel
theorem dX6_meanPatience_21 : decode cX6_meanPatience 21 = .ok (.iconst 0, 1) := by decide +kernel
theorem dX6_meanPatience_22 : decode cX6_meanPatience 22 = .ok (.istore_n 1, 1) := by decide +kernel
theorem dX6_meanPatience_23 : decode cX6_meanPatience 23 = .ok (.iconst 0, 1) := by decide +kernel
theorem dX6_meanPatience_24 : decode cX6_meanPatience 24 = .ok (.istore_n 2, 1) := by decide +kernel
theorem dX6_meanPatience_25 : decode cX6_meanPatience 25 = .ok (.iload_n 2, 1) := by decide +kernel
theorem dX6_meanPatience_26 : decode cX6_meanPatience 26 = .ok (.aload_n 0, 1) := by decide +kernel
theorem dX6_meanPatience_27 : decode cX6_meanPatience 27 = .ok (.getfield 10, 3) := by decide +kernel
theorem dX6_meanPatience_30 : decode cX6_meanPatience 30 = .ok (.getfield 126, 3) := by decide +kernel
theorem dX6_meanPatience_33 : decode cX6_meanPatience 33 = .ok (.if_icmp .ge 24, 3) := by decide +kernel
theorem dX6_meanPatience_36 : decode cX6_meanPatience 36 = .ok (.iload_n 1, 1) := by decide +kernel
theorem dX6_meanPatience_37 : decode cX6_meanPatience 37 = .ok (.aload_n 0, 1) := by decide +kernel
theorem dX6_meanPatience_38 : decode cX6_meanPatience 38 = .ok (.getfield 10, 3) := by decide +kernel
theorem dX6_meanPatience_41 : decode cX6_meanPatience 41 = .ok (.getfield 132, 3) := by decide +kernel
theorem dX6_meanPatience_44 : decode cX6_meanPatience 44 = .ok (.iload_n 2, 1) := by decide +kernel
theorem dX6_meanPatience_45 : decode cX6_meanPatience 45 = .ok (.aaload, 1) := by decide +kernel
theorem dX6_meanPatience_46 : decode cX6_meanPatience 46 = .ok (.getfield 141, 3) := by decide +kernel
theorem dX6_meanPatience_49 : decode cX6_meanPatience 49 = .ok (.iadd, 1) := by decide +kernel
theorem dX6_meanPatience_50 : decode cX6_meanPatience 50 = .ok (.istore_n 1, 1) := by decide +kernel
theorem dX6_meanPatience_51 : decode cX6_meanPatience 51 = .ok (.iinc 2 1, 3) := by decide +kernel
theorem dX6_meanPatience_54 : decode cX6_meanPatience 54 = .ok (.goto (-29), 3) := by decide +kernel
theorem dX6_meanPatience_57 : decode cX6_meanPatience 57 = .ok (.iload_n 1, 1) := by decide +kernel
theorem dX6_meanPatience_58 : decode cX6_meanPatience 58 = .ok (.i2d, 1) := by decide +kernel
theorem dX6_meanPatience_59 : decode cX6_meanPatience 59 = .ok (.aload_n 0, 1) := by decide +kernel
theorem dX6_meanPatience_60 : decode cX6_meanPatience 60 = .ok (.getfield 10, 3) := by decide +kernel
theorem dX6_meanPatience_63 : decode cX6_meanPatience 63 = .ok (.getfield 126, 3) := by decide +kernel
theorem dX6_meanPatience_66 : decode cX6_meanPatience 66 = .ok (.i2d, 1) := by decide +kernel
theorem dX6_meanPatience_67 : decode cX6_meanPatience 67 = .ok (.ddiv, 1) := by decide +kernel
theorem dX6_meanPatience_68 : decode cX6_meanPatience 68 = .ok (.dreturn, 1) := by decide +kernel
theorem dX6_calmShare_0 : decode cX6_calmShare 0 = .ok (.aload_n 0, 1) := by decide +kernel
theorem dX6_calmShare_1 : decode cX6_calmShare 1 = .ok (.getfield 10, 3) := by decide +kernel
theorem dX6_calmShare_4 : decode cX6_calmShare 4 = .ok (.getfield 260, 3) := by decide +kernel
theorem dX6_calmShare_7 : decode cX6_calmShare 7 = .ok (.ifCond .ne 14, 3) := by decide +kernel
theorem dX6_calmShare_10 : decode cX6_calmShare 10 = .ok (.new 290, 3) := by decide +kernel
theorem dX6_calmShare_13 : decode cX6_calmShare 13 = .ok (.dup, 1) := by decide +kernel
theorem dX6_calmShare_14 : decode cX6_calmShare 14 = .ok (.ldc_w 295, 3) := by decide +kernel
theorem dX6_calmShare_17 : decode cX6_calmShare 17 = .ok (.invokespecial 294, 3) := by decide +kernel
theorem dX6_calmShare_20 : decode cX6_calmShare 20 = .ok (.athrow, 1) := by decide +kernel
theorem dX6_calmShare_21 : decode cX6_calmShare 21 = .ok (.aload_n 0, 1) := by decide +kernel
theorem dX6_calmShare_22 : decode cX6_calmShare 22 = .ok (.getfield 10, 3) := by decide +kernel
theorem dX6_calmShare_25 : decode cX6_calmShare 25 = .ok (.getfield 297, 3) := by decide +kernel
theorem dX6_calmShare_28 : decode cX6_calmShare 28 = .ok (.i2f, 1) := by decide +kernel
theorem dX6_calmShare_29 : decode cX6_calmShare 29 = .ok (.aload_n 0, 1) := by decide +kernel
theorem dX6_calmShare_30 : decode cX6_calmShare 30 = .ok (.getfield 10, 3) := by decide +kernel
theorem dX6_calmShare_33 : decode cX6_calmShare 33 = .ok (.getfield 260, 3) := by decide +kernel
theorem dX6_calmShare_36 : decode cX6_calmShare 36 = .ok (.i2f, 1) := by decide +kernel
theorem dX6_calmShare_37 : decode cX6_calmShare 37 = .ok (.fdiv, 1) := by decide +kernel
theorem dX6_calmShare_38 : decode cX6_calmShare 38 = .ok (.freturn, 1) := by decide +kernel
set_option maxRecDepth 20000 in
theorem ggX6_isConsistent_X3_positionOf : GoodIn wsX6_isConsistent wsX3_positionOf := goodIn_ca (goodIn_rr _ [(11, 3), (74, 14)] rfl (by decide +kernel)) (goodIn_sub (fun _ h => List.mem_cons_of_mem _ (List.mem_append_left _ (List.mem_append_right _ h))) (by decide +kernel))
set_option maxRecDepth 20000 in
theorem gX6_isConsistent_X3_positionOf : GoodIn wsX6_isConsistent (wsV RX6 160 RX3 yX3_positionOf wsX3_positionOf) := goodIn_app (goodIn_of _ (by decide +kernel)) ggX6_isConsistent_X3_positionOf
set_option maxRecDepth 20000 in
theorem ggX6_isConsistent_X3_windowOf : GoodIn wsX6_isConsistent wsX3_windowOf := goodIn_rr _ [(17, 3), (74, 18)] rfl (by decide +kernel)
set_option maxRecDepth 20000 in
theorem gX6_isConsistent_X3_windowOf : GoodIn wsX6_isConsistent (wsV RX6 165 RX3 yX3_windowOf wsX3_windowOf) := goodIn_app (goodIn_of _ (by decide +kernel)) ggX6_isConsistent_X3_windowOf
set_option maxRecDepth 20000 in
theorem ggX6_isConsistent_X6_calledAhead : GoodIn wsX6_isConsistent wsX6_calledAhead := goodIn_ca (goodIn_ca (goodIn_rr _ [(24, 1), (1, 1), (25, 7), (23, 1), (32, 6), (10, 1), (38, 2), (14, 6), (63, 25), (92, 7), (88, 4)] rfl (by decide +kernel)) (goodIn_sub (fun _ h => List.mem_cons_of_mem _ (List.mem_append_left _ (List.mem_append_right _ h))) (by decide +kernel))) (goodIn_sub (fun _ h => List.mem_cons_of_mem _ (List.mem_append_right _ h)) (by decide +kernel))
set_option maxRecDepth 20000 in
theorem gX6_isConsistent_X6_calledAhead : GoodIn wsX6_isConsistent (wsV RX6 300 RX6 yX6_calledAhead wsX6_calledAhead) := goodIn_app (goodIn_of _ (by decide +kernel)) ggX6_isConsistent_X6_calledAhead
set_option maxRecDepth 20000 in
theorem ggX6_isConsistent_X6_calledAheadByPositions : GoodIn wsX6_isConsistent wsX6_calledAheadByPositions := goodIn_ca (goodIn_ca (goodIn_rr _ [(43, 1), (1, 2), (27, 5), (23, 1), (32, 6), (10, 1), (38, 2), (7, 3), (11, 3), (63, 25), (92, 7)] rfl (by decide +kernel)) (goodIn_sub (fun _ h => List.mem_cons_of_mem _ (List.mem_append_right _ h)) (by decide +kernel))) (goodIn_sub (fun _ h => List.mem_cons_of_mem _ (List.mem_append_left _ (List.mem_append_right _ h))) (by decide +kernel))
set_option maxRecDepth 20000 in
theorem gX6_isConsistent_X6_calledAheadByPositions : GoodIn wsX6_isConsistent (wsV RX6 303 RX6 yX6_calledAheadByPositions wsX6_calledAheadByPositions) := goodIn_app (goodIn_of _ (by decide +kernel)) ggX6_isConsistent_X6_calledAheadByPositions
set_option maxRecDepth 20000 in
theorem ggX6_isConsistent_X6_inversions : GoodIn wsX6_isConsistent wsX6_inversions := goodIn_ca (goodIn_rr _ [(47, 1), (1, 1), (25, 1), (48, 3), (10, 1), (51, 2), (13, 1), (53, 1), (63, 25), (92, 7)] rfl (by decide +kernel)) (goodIn_sub (fun _ h => List.mem_cons_of_mem _ (List.mem_append_left _ (List.mem_append_right _ h))) (by decide +kernel))
set_option maxRecDepth 20000 in
theorem gX6_isConsistent_X6_inversions : GoodIn wsX6_isConsistent (wsV RX6 306 RX6 yX6_inversions wsX6_inversions) := goodIn_app (goodIn_of _ (by decide +kernel)) ggX6_isConsistent_X6_inversions
set_option maxRecDepth 20000 in
theorem ggX6_isConsistent_X6_inversionsByBubbleSort : GoodIn wsX6_isConsistent wsX6_inversionsByBubbleSort := goodIn_ca (goodIn_rr _ [(57, 1), (1, 1), (25, 1), (58, 1), (48, 3), (10, 1), (51, 2), (13, 1), (53, 1), (59, 3), (23, 1), (62, 26), (92, 7)] rfl (by decide +kernel)) (goodIn_sub (fun _ h => List.mem_cons_of_mem _ (List.mem_append_left _ (List.mem_append_right _ h))) (by decide +kernel))
set_option maxRecDepth 20000 in
theorem gX6_isConsistent_X6_inversionsByBubbleSort : GoodIn wsX6_isConsistent (wsV RX6 309 RX6 yX6_inversionsByBubbleSort wsX6_inversionsByBubbleSort) := goodIn_app (goodIn_of _ (by decide +kernel)) ggX6_isConsistent_X6_inversionsByBubbleSort
theorem dX6_isConsistent_0 : decode cX6_isConsistent 0 = .ok (.iconst 0, 1) := by decide +kernel
theorem dX6_isConsistent_1 : decode cX6_isConsistent 1 = .ok (.istore_n 1, 1) := by decide +kernel
theorem dX6_isConsistent_2 : decode cX6_isConsistent 2 = .ok (.iload_n 1, 1) := by decide +kernel
theorem dX6_isConsistent_3 : decode cX6_isConsistent 3 = .ok (.aload_n 0, 1) := by decide +kernel
theorem dX6_isConsistent_4 : decode cX6_isConsistent 4 = .ok (.getfield 10, 3) := by decide +kernel
theorem dX6_isConsistent_7 : decode cX6_isConsistent 7 = .ok (.getfield 126, 3) := by decide +kernel
theorem dX6_isConsistent_10 : decode cX6_isConsistent 10 = .ok (.if_icmp .ge 65, 3) := by decide +kernel
theorem dX6_isConsistent_13 : decode cX6_isConsistent 13 = .ok (.aload_n 0, 1) := by decide +kernel
theorem dX6_isConsistent_14 : decode cX6_isConsistent 14 = .ok (.getfield 10, 3) := by decide +kernel
theorem dX6_isConsistent_17 : decode cX6_isConsistent 17 = .ok (.iload_n 1, 1) := by decide +kernel
theorem dX6_isConsistent_18 : decode cX6_isConsistent 18 = .ok (.invokevirtual 160, 3) := by decide +kernel
theorem dX6_isConsistent_21 : decode cX6_isConsistent 21 = .ok (.iconst (-1), 1) := by decide +kernel
theorem dX6_isConsistent_22 : decode cX6_isConsistent 22 = .ok (.if_icmp .eq 7, 3) := by decide +kernel
theorem dX6_isConsistent_25 : decode cX6_isConsistent 25 = .ok (.iconst 1, 1) := by decide +kernel
theorem dX6_isConsistent_26 : decode cX6_isConsistent 26 = .ok (.goto 4, 3) := by decide +kernel
theorem dX6_isConsistent_29 : decode cX6_isConsistent 29 = .ok (.iconst 0, 1) := by decide +kernel
theorem dX6_isConsistent_30 : decode cX6_isConsistent 30 = .ok (.istore_n 2, 1) := by decide +kernel
theorem dX6_isConsistent_31 : decode cX6_isConsistent 31 = .ok (.aload_n 0, 1) := by decide +kernel
theorem dX6_isConsistent_32 : decode cX6_isConsistent 32 = .ok (.getfield 10, 3) := by decide +kernel
theorem dX6_isConsistent_35 : decode cX6_isConsistent 35 = .ok (.iload_n 1, 1) := by decide +kernel
theorem dX6_isConsistent_36 : decode cX6_isConsistent 36 = .ok (.invokevirtual 165, 3) := by decide +kernel
theorem dX6_isConsistent_39 : decode cX6_isConsistent 39 = .ok (.iconst (-1), 1) := by decide +kernel
theorem dX6_isConsistent_40 : decode cX6_isConsistent 40 = .ok (.if_icmp .eq 7, 3) := by decide +kernel
theorem dX6_isConsistent_43 : decode cX6_isConsistent 43 = .ok (.iconst 1, 1) := by decide +kernel
theorem dX6_isConsistent_44 : decode cX6_isConsistent 44 = .ok (.goto 4, 3) := by decide +kernel
theorem dX6_isConsistent_47 : decode cX6_isConsistent 47 = .ok (.iconst 0, 1) := by decide +kernel
theorem dX6_isConsistent_48 : decode cX6_isConsistent 48 = .ok (.istore_n 3, 1) := by decide +kernel
theorem dX6_isConsistent_49 : decode cX6_isConsistent 49 = .ok (.iload_n 2, 1) := by decide +kernel
theorem dX6_isConsistent_50 : decode cX6_isConsistent 50 = .ok (.iload_n 3, 1) := by decide +kernel
theorem dX6_isConsistent_51 : decode cX6_isConsistent 51 = .ok (.if_icmp .eq 16, 3) := by decide +kernel
theorem dX6_isConsistent_54 : decode cX6_isConsistent 54 = .ok (.aload_n 0, 1) := by decide +kernel
theorem dX6_isConsistent_55 : decode cX6_isConsistent 55 = .ok (.iload_n 1, 1) := by decide +kernel
theorem dX6_isConsistent_56 : decode cX6_isConsistent 56 = .ok (.invokevirtual 300, 3) := by decide +kernel
theorem dX6_isConsistent_59 : decode cX6_isConsistent 59 = .ok (.aload_n 0, 1) := by decide +kernel
theorem dX6_isConsistent_60 : decode cX6_isConsistent 60 = .ok (.iload_n 1, 1) := by decide +kernel
theorem dX6_isConsistent_61 : decode cX6_isConsistent 61 = .ok (.invokevirtual 303, 3) := by decide +kernel
theorem dX6_isConsistent_64 : decode cX6_isConsistent 64 = .ok (.if_icmp .eq 5, 3) := by decide +kernel
theorem dX6_isConsistent_67 : decode cX6_isConsistent 67 = .ok (.iconst 0, 1) := by decide +kernel
theorem dX6_isConsistent_68 : decode cX6_isConsistent 68 = .ok (.ireturn, 1) := by decide +kernel
theorem dX6_isConsistent_69 : decode cX6_isConsistent 69 = .ok (.iinc 1 1, 3) := by decide +kernel
theorem dX6_isConsistent_72 : decode cX6_isConsistent 72 = .ok (.goto (-70), 3) := by decide +kernel
theorem dX6_isConsistent_75 : decode cX6_isConsistent 75 = .ok (.aload_n 0, 1) := by decide +kernel
theorem dX6_isConsistent_76 : decode cX6_isConsistent 76 = .ok (.invokevirtual 306, 3) := by decide +kernel
theorem dX6_isConsistent_79 : decode cX6_isConsistent 79 = .ok (.aload_n 0, 1) := by decide +kernel
theorem dX6_isConsistent_80 : decode cX6_isConsistent 80 = .ok (.invokevirtual 309, 3) := by decide +kernel
theorem dX6_isConsistent_83 : decode cX6_isConsistent 83 = .ok (.if_icmp .ne 48, 3) := by decide +kernel
theorem dX6_isConsistent_86 : decode cX6_isConsistent 86 = .ok (.aload_n 0, 1) := by decide +kernel
theorem dX6_isConsistent_87 : decode cX6_isConsistent 87 = .ok (.getfield 10, 3) := by decide +kernel
theorem dX6_isConsistent_90 : decode cX6_isConsistent 90 = .ok (.getfield 284, 3) := by decide +kernel
theorem dX6_isConsistent_93 : decode cX6_isConsistent 93 = .ok (.aload_n 0, 1) := by decide +kernel
theorem dX6_isConsistent_94 : decode cX6_isConsistent 94 = .ok (.getfield 10, 3) := by decide +kernel
theorem dX6_isConsistent_97 : decode cX6_isConsistent 97 = .ok (.getfield 126, 3) := by decide +kernel
theorem dX6_isConsistent_100 : decode cX6_isConsistent 100 = .ok (.aload_n 0, 1) := by decide +kernel
theorem dX6_isConsistent_101 : decode cX6_isConsistent 101 = .ok (.getfield 10, 3) := by decide +kernel
theorem dX6_isConsistent_104 : decode cX6_isConsistent 104 = .ok (.getfield 260, 3) := by decide +kernel
theorem dX6_isConsistent_107 : decode cX6_isConsistent 107 = .ok (.iadd, 1) := by decide +kernel
theorem dX6_isConsistent_108 : decode cX6_isConsistent 108 = .ok (.aload_n 0, 1) := by decide +kernel
theorem dX6_isConsistent_109 : decode cX6_isConsistent 109 = .ok (.getfield 10, 3) := by decide +kernel
theorem dX6_isConsistent_112 : decode cX6_isConsistent 112 = .ok (.getfield 312, 3) := by decide +kernel
theorem dX6_isConsistent_115 : decode cX6_isConsistent 115 = .ok (.iadd, 1) := by decide +kernel
theorem dX6_isConsistent_116 : decode cX6_isConsistent 116 = .ok (.aload_n 0, 1) := by decide +kernel
theorem dX6_isConsistent_117 : decode cX6_isConsistent 117 = .ok (.getfield 10, 3) := by decide +kernel
theorem dX6_isConsistent_120 : decode cX6_isConsistent 120 = .ok (.getfield 287, 3) := by decide +kernel
theorem dX6_isConsistent_123 : decode cX6_isConsistent 123 = .ok (.iadd, 1) := by decide +kernel
theorem dX6_isConsistent_124 : decode cX6_isConsistent 124 = .ok (.if_icmp .ne 7, 3) := by decide +kernel
theorem dX6_isConsistent_127 : decode cX6_isConsistent 127 = .ok (.iconst 1, 1) := by decide +kernel
theorem dX6_isConsistent_128 : decode cX6_isConsistent 128 = .ok (.goto 4, 3) := by decide +kernel
theorem dX6_isConsistent_131 : decode cX6_isConsistent 131 = .ok (.iconst 0, 1) := by decide +kernel
theorem dX6_isConsistent_132 : decode cX6_isConsistent 132 = .ok (.ireturn, 1) := by decide +kernel
set_option maxRecDepth 20000 in
theorem ggX6_renderQueue_J4_setLength_d00df : GoodIn wsX6_renderQueue wsJ4_setLength_d00df := goodIn_rr _ [(10, 73), (9, 1), (83, 8), (228, 16)] rfl (by decide +kernel)
set_option maxRecDepth 20000 in
theorem gX6_renderQueue_J4_setLength_d00df : GoodIn wsX6_renderQueue (wsV RX6 315 RJ4 yJ4_setLength_d00df wsJ4_setLength_d00df) := goodIn_app (goodIn_of _ (by decide +kernel)) ggX6_renderQueue_J4_setLength_d00df
set_option maxRecDepth 20000 in
theorem ggX6_renderQueue_J4_append_cf468 : GoodIn wsX6_renderQueue wsJ4_append_cf468 := goodIn_rr _ [(94, 3), (13, 1), (97, 1), (15, 1), (98, 1), (20, 2), (23, 48), (99, 2), (73, 1), (101, 8), (88, 1), (109, 44), (234, 4)] rfl (by decide +kernel)
set_option maxRecDepth 20000 in
theorem gX6_renderQueue_J4_append_cf468 : GoodIn wsX6_renderQueue (wsV RX6 318 RJ4 yJ4_append_cf468 wsJ4_append_cf468) := goodIn_app (goodIn_of _ (by decide +kernel)) ggX6_renderQueue_J4_append_cf468
set_option maxRecDepth 20000 in
theorem ggX6_renderQueue_X6_writeQueued : GoodIn wsX6_renderQueue wsX6_writeQueued := goodIn_rr _ [(157, 1), (1, 1), (158, 6), (9, 1), (164, 3), (13, 1), (167, 1), (15, 1), (168, 1), (20, 2), (169, 4), (23, 48), (173, 7), (88, 1), (180, 1), (138, 1), (181, 3), (123, 3), (184, 2), (128, 1), (186, 1), (130, 1), (187, 2), (133, 1), (189, 6), (135, 3), (139, 2), (91, 10), (73, 1), (101, 22), (126, 2), (129, 1), (131, 2), (134, 1), (141, 12), (203, 11), (244, 7), (234, 4)] rfl (by decide +kernel)
set_option maxRecDepth 20000 in
theorem gX6_renderQueue_X6_writeQueued : GoodIn wsX6_renderQueue (wsV RX6 322 RX6 yX6_writeQueued wsX6_writeQueued) := goodIn_app (goodIn_of _ (by decide +kernel)) ggX6_renderQueue_X6_writeQueued
set_option maxRecDepth 20000 in
theorem ggX6_renderQueue_J4_length_8abf5 : GoodIn wsX6_renderQueue wsJ4_length_8abf5 := goodIn_rr _ [(198, 3), (13, 1), (201, 1), (15, 1), (202, 1), (20, 1), (234, 4)] rfl (by decide +kernel)
set_option maxRecDepth 20000 in
theorem gX6_renderQueue_J4_length_8abf5 : GoodIn wsX6_renderQueue (wsV RX6 326 RJ4 yJ4_length_8abf5 wsJ4_length_8abf5) := goodIn_app (goodIn_of _ (by decide +kernel)) ggX6_renderQueue_J4_length_8abf5
theorem dX6_renderQueue_0 : decode cX6_renderQueue 0 = .ok (.aload_n 0, 1) := by decide +kernel
theorem dX6_renderQueue_1 : decode cX6_renderQueue 1 = .ok (.getfield 43, 3) := by decide +kernel
theorem dX6_renderQueue_4 : decode cX6_renderQueue 4 = .ok (.iconst 0, 1) := by decide +kernel
theorem dX6_renderQueue_5 : decode cX6_renderQueue 5 = .ok (.invokevirtual 315, 3) := by decide +kernel
theorem dX6_renderQueue_8 : decode cX6_renderQueue 8 = .ok (.iconst 0, 1) := by decide +kernel
theorem dX6_renderQueue_9 : decode cX6_renderQueue 9 = .ok (.istore_n 1, 1) := by decide +kernel
theorem dX6_renderQueue_10 : decode cX6_renderQueue 10 = .ok (.iload_n 1, 1) := by decide +kernel
theorem dX6_renderQueue_11 : decode cX6_renderQueue 11 = .ok (.aload_n 0, 1) := by decide +kernel
theorem dX6_renderQueue_12 : decode cX6_renderQueue 12 = .ok (.getfield 10, 3) := by decide +kernel
theorem dX6_renderQueue_15 : decode cX6_renderQueue 15 = .ok (.getfield 176, 3) := by decide +kernel
theorem dX6_renderQueue_18 : decode cX6_renderQueue 18 = .ok (.if_icmp .ge 44, 3) := by decide +kernel
theorem dX6_renderQueue_21 : decode cX6_renderQueue 21 = .ok (.iload_n 1, 1) := by decide +kernel
theorem dX6_renderQueue_22 : decode cX6_renderQueue 22 = .ok (.ifCond .le 13, 3) := by decide +kernel
theorem dX6_renderQueue_25 : decode cX6_renderQueue 25 = .ok (.aload_n 0, 1) := by decide +kernel
theorem dX6_renderQueue_26 : decode cX6_renderQueue 26 = .ok (.getfield 43, 3) := by decide +kernel
theorem dX6_renderQueue_29 : decode cX6_renderQueue 29 = .ok (.bipush 32, 2) := by decide +kernel
theorem dX6_renderQueue_31 : decode cX6_renderQueue 31 = .ok (.invokevirtual 318, 3) := by decide +kernel
theorem dX6_renderQueue_34 : decode cX6_renderQueue 34 = .ok (.pop, 1) := by decide +kernel
theorem dX6_renderQueue_35 : decode cX6_renderQueue 35 = .ok (.aload_n 0, 1) := by decide +kernel
theorem dX6_renderQueue_36 : decode cX6_renderQueue 36 = .ok (.aload_n 0, 1) := by decide +kernel
theorem dX6_renderQueue_37 : decode cX6_renderQueue 37 = .ok (.getfield 10, 3) := by decide +kernel
theorem dX6_renderQueue_40 : decode cX6_renderQueue 40 = .ok (.getfield 132, 3) := by decide +kernel
theorem dX6_renderQueue_43 : decode cX6_renderQueue 43 = .ok (.aload_n 0, 1) := by decide +kernel
theorem dX6_renderQueue_44 : decode cX6_renderQueue 44 = .ok (.getfield 10, 3) := by decide +kernel
theorem dX6_renderQueue_47 : decode cX6_renderQueue 47 = .ok (.getfield 181, 3) := by decide +kernel
theorem dX6_renderQueue_50 : decode cX6_renderQueue 50 = .ok (.iload_n 1, 1) := by decide +kernel
theorem dX6_renderQueue_51 : decode cX6_renderQueue 51 = .ok (.iaload, 1) := by decide +kernel
theorem dX6_renderQueue_52 : decode cX6_renderQueue 52 = .ok (.aaload, 1) := by decide +kernel
theorem dX6_renderQueue_53 : decode cX6_renderQueue 53 = .ok (.invokevirtual 322, 3) := by decide +kernel
theorem dX6_renderQueue_56 : decode cX6_renderQueue 56 = .ok (.iinc 1 1, 3) := by decide +kernel
theorem dX6_renderQueue_59 : decode cX6_renderQueue 59 = .ok (.goto (-49), 3) := by decide +kernel
theorem dX6_renderQueue_62 : decode cX6_renderQueue 62 = .ok (.aload_n 0, 1) := by decide +kernel
theorem dX6_renderQueue_63 : decode cX6_renderQueue 63 = .ok (.getfield 43, 3) := by decide +kernel
theorem dX6_renderQueue_66 : decode cX6_renderQueue 66 = .ok (.invokevirtual 326, 3) := by decide +kernel
theorem dX6_renderQueue_69 : decode cX6_renderQueue 69 = .ok (.ireturn, 1) := by decide +kernel
set_option maxRecDepth 20000 in
theorem ggX6_writeQueued_J4_append_bf812 : GoodIn wsX6_writeQueued wsJ4_append_bf812 := goodIn_rr _ [(9, 96), (174, 4)] rfl (by decide +kernel)
set_option maxRecDepth 20000 in
theorem gX6_writeQueued_J4_append_bf812 : GoodIn wsX6_writeQueued (wsV RX6 329 RJ4 yJ4_append_bf812 wsJ4_append_bf812) := goodIn_app (goodIn_of _ (by decide +kernel)) ggX6_writeQueued_J4_append_bf812
set_option maxRecDepth 20000 in
theorem ggX6_writeQueued_J4_append_cf468 : GoodIn wsX6_writeQueued wsJ4_append_cf468 := goodIn_rr _ [(108, 3), (12, 1), (111, 1), (14, 1), (112, 1), (16, 2), (22, 48), (113, 11), (77, 1), (124, 14), (83, 3), (138, 2), (88, 1), (140, 1), (90, 1), (141, 2), (93, 1), (143, 1), (100, 3), (79, 1), (103, 2), (144, 12), (174, 4)] rfl (by decide +kernel)
set_option maxRecDepth 20000 in
theorem gX6_writeQueued_J4_append_cf468 : GoodIn wsX6_writeQueued (wsV RX6 318 RJ4 yJ4_append_cf468 wsJ4_append_cf468) := goodIn_app (goodIn_of _ (by decide +kernel)) ggX6_writeQueued_J4_append_cf468
theorem dX6_writeQueued_0 : decode cX6_writeQueued 0 = .ok (.aload_n 0, 1) := by decide +kernel
theorem dX6_writeQueued_1 : decode cX6_writeQueued 1 = .ok (.getfield 43, 3) := by decide +kernel
theorem dX6_writeQueued_4 : decode cX6_writeQueued 4 = .ok (.aload_n 1, 1) := by decide +kernel
theorem dX6_writeQueued_5 : decode cX6_writeQueued 5 = .ok (.getfield 136, 3) := by decide +kernel
theorem dX6_writeQueued_8 : decode cX6_writeQueued 8 = .ok (.invokevirtual 329, 3) := by decide +kernel
theorem dX6_writeQueued_11 : decode cX6_writeQueued 11 = .ok (.pop, 1) := by decide +kernel
theorem dX6_writeQueued_12 : decode cX6_writeQueued 12 = .ok (.aload_n 1, 1) := by decide +kernel
theorem dX6_writeQueued_13 : decode cX6_writeQueued 13 = .ok (.getfield 153, 3) := by decide +kernel
theorem dX6_writeQueued_16 : decode cX6_writeQueued 16 = .ok (.ifCond .eq 13, 3) := by decide +kernel
theorem dX6_writeQueued_19 : decode cX6_writeQueued 19 = .ok (.aload_n 0, 1) := by decide +kernel
theorem dX6_writeQueued_20 : decode cX6_writeQueued 20 = .ok (.getfield 43, 3) := by decide +kernel
theorem dX6_writeQueued_23 : decode cX6_writeQueued 23 = .ok (.bipush 33, 2) := by decide +kernel
theorem dX6_writeQueued_25 : decode cX6_writeQueued 25 = .ok (.invokevirtual 318, 3) := by decide +kernel
theorem dX6_writeQueued_28 : decode cX6_writeQueued 28 = .ok (.pop, 1) := by decide +kernel
theorem dX6_writeQueued_29 : decode cX6_writeQueued 29 = .ok (.aload_n 1, 1) := by decide +kernel
theorem dX6_writeQueued_30 : decode cX6_writeQueued 30 = .ok (.getfield 157, 3) := by decide +kernel
theorem dX6_writeQueued_33 : decode cX6_writeQueued 33 = .ok (.ifCond .eq 13, 3) := by decide +kernel
theorem dX6_writeQueued_36 : decode cX6_writeQueued 36 = .ok (.aload_n 0, 1) := by decide +kernel
theorem dX6_writeQueued_37 : decode cX6_writeQueued 37 = .ok (.getfield 43, 3) := by decide +kernel
theorem dX6_writeQueued_40 : decode cX6_writeQueued 40 = .ok (.bipush 95, 2) := by decide +kernel
theorem dX6_writeQueued_42 : decode cX6_writeQueued 42 = .ok (.invokevirtual 318, 3) := by decide +kernel
theorem dX6_writeQueued_45 : decode cX6_writeQueued 45 = .ok (.pop, 1) := by decide +kernel
theorem dX6_writeQueued_46 : decode cX6_writeQueued 46 = .ok (.return_, 1) := by decide +kernel
set_option maxRecDepth 20000 in
theorem ggX6_renderWindows_J4_setLength_d00df : GoodIn wsX6_renderWindows wsJ4_setLength_d00df := goodIn_rr _ [(8, 73), (7, 1), (81, 8), (233, 16)] rfl (by decide +kernel)
set_option maxRecDepth 20000 in
theorem gX6_renderWindows_J4_setLength_d00df : GoodIn wsX6_renderWindows (wsV RX6 315 RJ4 yJ4_setLength_d00df wsJ4_setLength_d00df) := goodIn_app (goodIn_of _ (by decide +kernel)) ggX6_renderWindows_J4_setLength_d00df
set_option maxRecDepth 20000 in
theorem ggX6_renderWindows_J4_append_cf468 : GoodIn wsX6_renderWindows wsJ4_append_cf468 := goodIn_rr _ [(92, 3), (11, 1), (95, 1), (13, 1), (96, 1), (18, 2), (21, 48), (97, 2), (71, 1), (99, 8), (86, 1), (107, 44), (239, 4)] rfl (by decide +kernel)
set_option maxRecDepth 20000 in
theorem gX6_renderWindows_J4_append_cf468 : GoodIn wsX6_renderWindows (wsV RX6 318 RJ4 yJ4_append_cf468 wsJ4_append_cf468) := goodIn_app (goodIn_of _ (by decide +kernel)) ggX6_renderWindows_J4_append_cf468
set_option maxRecDepth 20000 in
theorem ggX6_renderWindows_J4_append_bf812 : GoodIn wsX6_renderWindows wsJ4_append_bf812 := goodIn_rr _ [(154, 3), (11, 1), (157, 1), (13, 1), (158, 1), (18, 2), (159, 4), (21, 48), (163, 7), (86, 1), (170, 1), (136, 1), (171, 3), (121, 3), (174, 2), (126, 1), (176, 1), (128, 1), (177, 2), (131, 1), (179, 6), (133, 3), (137, 2), (239, 4)] rfl (by decide +kernel)
set_option maxRecDepth 20000 in
theorem gX6_renderWindows_J4_append_bf812 : GoodIn wsX6_renderWindows (wsV RX6 329 RJ4 yJ4_append_bf812 wsJ4_append_bf812) := goodIn_app (goodIn_of _ (by decide +kernel)) ggX6_renderWindows_J4_append_bf812
set_option maxRecDepth 20000 in
theorem ggX6_renderWindows_X6_writeWindow : GoodIn wsX6_renderWindows wsX6_writeWindow := goodIn_rr _ [(189, 1), (1, 1), (190, 1), (2, 1), (191, 9), (89, 3), (7, 1), (92, 3), (11, 1), (95, 1), (13, 1), (96, 1), (18, 2), (21, 48), (97, 2), (71, 1), (99, 8), (86, 1), (107, 78), (208, 11), (249, 4), (219, 14), (253, 7), (239, 4)] rfl (by decide +kernel)
set_option maxRecDepth 20000 in
theorem gX6_renderWindows_X6_writeWindow : GoodIn wsX6_renderWindows (wsV RX6 332 RX6 yX6_writeWindow wsX6_writeWindow) := goodIn_app (goodIn_of _ (by decide +kernel)) ggX6_renderWindows_X6_writeWindow
set_option maxRecDepth 20000 in
theorem ggX6_renderWindows_J4_length_8abf5 : GoodIn wsX6_renderWindows wsJ4_length_8abf5 := goodIn_rr _ [(203, 3), (11, 1), (206, 1), (13, 1), (207, 1), (18, 1), (239, 4)] rfl (by decide +kernel)
set_option maxRecDepth 20000 in
theorem gX6_renderWindows_J4_length_8abf5 : GoodIn wsX6_renderWindows (wsV RX6 326 RJ4 yJ4_length_8abf5 wsJ4_length_8abf5) := goodIn_app (goodIn_of _ (by decide +kernel)) ggX6_renderWindows_J4_length_8abf5
theorem dX6_renderWindows_0 : decode cX6_renderWindows 0 = .ok (.aload_n 0, 1) := by decide +kernel
theorem dX6_renderWindows_1 : decode cX6_renderWindows 1 = .ok (.getfield 43, 3) := by decide +kernel
theorem dX6_renderWindows_4 : decode cX6_renderWindows 4 = .ok (.iconst 0, 1) := by decide +kernel
theorem dX6_renderWindows_5 : decode cX6_renderWindows 5 = .ok (.invokevirtual 315, 3) := by decide +kernel
theorem dX6_renderWindows_8 : decode cX6_renderWindows 8 = .ok (.iconst 0, 1) := by decide +kernel
theorem dX6_renderWindows_9 : decode cX6_renderWindows 9 = .ok (.istore_n 1, 1) := by decide +kernel
theorem dX6_renderWindows_10 : decode cX6_renderWindows 10 = .ok (.iload_n 1, 1) := by decide +kernel
theorem dX6_renderWindows_11 : decode cX6_renderWindows 11 = .ok (.iconst 3, 1) := by decide +kernel
theorem dX6_renderWindows_12 : decode cX6_renderWindows 12 = .ok (.if_icmp .ge 55, 3) := by decide +kernel
theorem dX6_renderWindows_15 : decode cX6_renderWindows 15 = .ok (.iload_n 1, 1) := by decide +kernel
theorem dX6_renderWindows_16 : decode cX6_renderWindows 16 = .ok (.ifCond .le 13, 3) := by decide +kernel
theorem dX6_renderWindows_19 : decode cX6_renderWindows 19 = .ok (.aload_n 0, 1) := by decide +kernel
theorem dX6_renderWindows_20 : decode cX6_renderWindows 20 = .ok (.getfield 43, 3) := by decide +kernel
theorem dX6_renderWindows_23 : decode cX6_renderWindows 23 = .ok (.bipush 32, 2) := by decide +kernel
theorem dX6_renderWindows_25 : decode cX6_renderWindows 25 = .ok (.invokevirtual 318, 3) := by decide +kernel
theorem dX6_renderWindows_28 : decode cX6_renderWindows 28 = .ok (.pop, 1) := by decide +kernel
theorem dX6_renderWindows_29 : decode cX6_renderWindows 29 = .ok (.aload_n 0, 1) := by decide +kernel
theorem dX6_renderWindows_30 : decode cX6_renderWindows 30 = .ok (.getfield 43, 3) := by decide +kernel
theorem dX6_renderWindows_33 : decode cX6_renderWindows 33 = .ok (.iload_n 1, 1) := by decide +kernel
theorem dX6_renderWindows_34 : decode cX6_renderWindows 34 = .ok (.invokevirtual 329, 3) := by decide +kernel
theorem dX6_renderWindows_37 : decode cX6_renderWindows 37 = .ok (.pop, 1) := by decide +kernel
theorem dX6_renderWindows_38 : decode cX6_renderWindows 38 = .ok (.aload_n 0, 1) := by decide +kernel
theorem dX6_renderWindows_39 : decode cX6_renderWindows 39 = .ok (.getfield 43, 3) := by decide +kernel
theorem dX6_renderWindows_42 : decode cX6_renderWindows 42 = .ok (.bipush 58, 2) := by decide +kernel
theorem dX6_renderWindows_44 : decode cX6_renderWindows 44 = .ok (.invokevirtual 318, 3) := by decide +kernel
theorem dX6_renderWindows_47 : decode cX6_renderWindows 47 = .ok (.pop, 1) := by decide +kernel
theorem dX6_renderWindows_48 : decode cX6_renderWindows 48 = .ok (.aload_n 0, 1) := by decide +kernel
theorem dX6_renderWindows_49 : decode cX6_renderWindows 49 = .ok (.aload_n 0, 1) := by decide +kernel
theorem dX6_renderWindows_50 : decode cX6_renderWindows 50 = .ok (.getfield 10, 3) := by decide +kernel
theorem dX6_renderWindows_53 : decode cX6_renderWindows 53 = .ok (.getfield 187, 3) := by decide +kernel
theorem dX6_renderWindows_56 : decode cX6_renderWindows 56 = .ok (.iload_n 1, 1) := by decide +kernel
theorem dX6_renderWindows_57 : decode cX6_renderWindows 57 = .ok (.aaload, 1) := by decide +kernel
theorem dX6_renderWindows_58 : decode cX6_renderWindows 58 = .ok (.invokevirtual 332, 3) := by decide +kernel
theorem dX6_renderWindows_61 : decode cX6_renderWindows 61 = .ok (.iinc 1 1, 3) := by decide +kernel
theorem dX6_renderWindows_64 : decode cX6_renderWindows 64 = .ok (.goto (-54), 3) := by decide +kernel
theorem dX6_renderWindows_67 : decode cX6_renderWindows 67 = .ok (.aload_n 0, 1) := by decide +kernel
theorem dX6_renderWindows_68 : decode cX6_renderWindows 68 = .ok (.getfield 43, 3) := by decide +kernel
theorem dX6_renderWindows_71 : decode cX6_renderWindows 71 = .ok (.invokevirtual 326, 3) := by decide +kernel
theorem dX6_renderWindows_74 : decode cX6_renderWindows 74 = .ok (.ireturn, 1) := by decide +kernel
set_option maxRecDepth 20000 in
theorem ggX6_writeWindow_X5_isOpen : GoodIn wsX6_writeWindow wsX5_isOpen := goodIn_rr _ [(11, 2), (175, 4)] rfl (by decide +kernel)
set_option maxRecDepth 20000 in
theorem gX6_writeWindow_X5_isOpen : GoodIn wsX6_writeWindow (wsV RX6 196 RX5 yX5_isOpen wsX5_isOpen) := goodIn_app (goodIn_of _ (by decide +kernel)) ggX6_writeWindow_X5_isOpen
set_option maxRecDepth 20000 in
theorem ggX6_writeWindow_J4_append_cf468 : GoodIn wsX6_writeWindow wsJ4_append_cf468 := goodIn_rr _ [(17, 113), (200, 4)] rfl (by decide +kernel)
set_option maxRecDepth 20000 in
theorem gX6_writeWindow_J4_append_cf468 : GoodIn wsX6_writeWindow (wsV RX6 318 RJ4 yJ4_append_cf468 wsJ4_append_cf468) := goodIn_app (goodIn_of _ (by decide +kernel)) ggX6_writeWindow_J4_append_cf468
set_option maxRecDepth 20000 in
theorem ggX6_writeWindow_J4_append_bf812 : GoodIn wsX6_writeWindow wsJ4_append_bf812 := goodIn_rr _ [(133, 3), (20, 1), (136, 1), (22, 1), (137, 1), (24, 2), (138, 4), (26, 48), (142, 7), (85, 1), (149, 1), (115, 1), (150, 3), (100, 3), (153, 2), (105, 1), (155, 1), (107, 1), (156, 2), (110, 1), (158, 6), (112, 3), (116, 2), (200, 4)] rfl (by decide +kernel)
set_option maxRecDepth 20000 in
theorem gX6_writeWindow_J4_append_bf812 : GoodIn wsX6_writeWindow (wsV RX6 329 RJ4 yJ4_append_bf812 wsJ4_append_bf812) := goodIn_app (goodIn_of _ (by decide +kernel)) ggX6_writeWindow_J4_append_bf812
theorem dX6_writeWindow_0 : decode cX6_writeWindow 0 = .ok (.aload_n 1, 1) := by decide +kernel
theorem dX6_writeWindow_1 : decode cX6_writeWindow 1 = .ok (.invokevirtual 196, 3) := by decide +kernel
theorem dX6_writeWindow_4 : decode cX6_writeWindow 4 = .ok (.ifCond .ne 16, 3) := by decide +kernel
theorem dX6_writeWindow_7 : decode cX6_writeWindow 7 = .ok (.aload_n 0, 1) := by decide +kernel
theorem dX6_writeWindow_8 : decode cX6_writeWindow 8 = .ok (.getfield 43, 3) := by decide +kernel
theorem dX6_writeWindow_11 : decode cX6_writeWindow 11 = .ok (.bipush 120, 2) := by decide +kernel
theorem dX6_writeWindow_13 : decode cX6_writeWindow 13 = .ok (.invokevirtual 318, 3) := by decide +kernel
theorem dX6_writeWindow_16 : decode cX6_writeWindow 16 = .ok (.pop, 1) := by decide +kernel
theorem dX6_writeWindow_17 : decode cX6_writeWindow 17 = .ok (.goto 69, 3) := by decide +kernel
theorem dX6_writeWindow_20 : decode cX6_writeWindow 20 = .ok (.aload_n 1, 1) := by decide +kernel
theorem dX6_writeWindow_21 : decode cX6_writeWindow 21 = .ok (.getfield 208, 3) := by decide +kernel
theorem dX6_writeWindow_24 : decode cX6_writeWindow 24 = .ok (.iconst (-1), 1) := by decide +kernel
theorem dX6_writeWindow_25 : decode cX6_writeWindow 25 = .ok (.if_icmp .ne 16, 3) := by decide +kernel
theorem dX6_writeWindow_28 : decode cX6_writeWindow 28 = .ok (.aload_n 0, 1) := by decide +kernel
theorem dX6_writeWindow_29 : decode cX6_writeWindow 29 = .ok (.getfield 43, 3) := by decide +kernel
theorem dX6_writeWindow_32 : decode cX6_writeWindow 32 = .ok (.bipush 45, 2) := by decide +kernel
theorem dX6_writeWindow_34 : decode cX6_writeWindow 34 = .ok (.invokevirtual 318, 3) := by decide +kernel
theorem dX6_writeWindow_37 : decode cX6_writeWindow 37 = .ok (.pop, 1) := by decide +kernel
theorem dX6_writeWindow_38 : decode cX6_writeWindow 38 = .ok (.goto 48, 3) := by decide +kernel
theorem dX6_writeWindow_41 : decode cX6_writeWindow 41 = .ok (.aload_n 0, 1) := by decide +kernel
theorem dX6_writeWindow_42 : decode cX6_writeWindow 42 = .ok (.getfield 43, 3) := by decide +kernel
theorem dX6_writeWindow_45 : decode cX6_writeWindow 45 = .ok (.aload_n 0, 1) := by decide +kernel
theorem dX6_writeWindow_46 : decode cX6_writeWindow 46 = .ok (.getfield 10, 3) := by decide +kernel
theorem dX6_writeWindow_49 : decode cX6_writeWindow 49 = .ok (.getfield 132, 3) := by decide +kernel
theorem dX6_writeWindow_52 : decode cX6_writeWindow 52 = .ok (.aload_n 1, 1) := by decide +kernel
theorem dX6_writeWindow_53 : decode cX6_writeWindow 53 = .ok (.getfield 208, 3) := by decide +kernel
theorem dX6_writeWindow_56 : decode cX6_writeWindow 56 = .ok (.aaload, 1) := by decide +kernel
theorem dX6_writeWindow_57 : decode cX6_writeWindow 57 = .ok (.getfield 136, 3) := by decide +kernel
theorem dX6_writeWindow_60 : decode cX6_writeWindow 60 = .ok (.invokevirtual 329, 3) := by decide +kernel
theorem dX6_writeWindow_63 : decode cX6_writeWindow 63 = .ok (.pop, 1) := by decide +kernel
theorem dX6_writeWindow_64 : decode cX6_writeWindow 64 = .ok (.aload_n 0, 1) := by decide +kernel
theorem dX6_writeWindow_65 : decode cX6_writeWindow 65 = .ok (.getfield 43, 3) := by decide +kernel
theorem dX6_writeWindow_68 : decode cX6_writeWindow 68 = .ok (.bipush 47, 2) := by decide +kernel
theorem dX6_writeWindow_70 : decode cX6_writeWindow 70 = .ok (.invokevirtual 318, 3) := by decide +kernel
theorem dX6_writeWindow_73 : decode cX6_writeWindow 73 = .ok (.pop, 1) := by decide +kernel
theorem dX6_writeWindow_74 : decode cX6_writeWindow 74 = .ok (.aload_n 0, 1) := by decide +kernel
theorem dX6_writeWindow_75 : decode cX6_writeWindow 75 = .ok (.getfield 43, 3) := by decide +kernel
theorem dX6_writeWindow_78 : decode cX6_writeWindow 78 = .ok (.aload_n 1, 1) := by decide +kernel
theorem dX6_writeWindow_79 : decode cX6_writeWindow 79 = .ok (.getfield 211, 3) := by decide +kernel
theorem dX6_writeWindow_82 : decode cX6_writeWindow 82 = .ok (.invokevirtual 329, 3) := by decide +kernel
theorem dX6_writeWindow_85 : decode cX6_writeWindow 85 = .ok (.pop, 1) := by decide +kernel
theorem dX6_writeWindow_86 : decode cX6_writeWindow 86 = .ok (.return_, 1) := by decide +kernel
set_option maxRecDepth 20000 in
theorem ggX6_outputAt_J4_length_8abf5 : GoodIn wsX6_outputAt wsJ4_length_8abf5 := goodIn_rr _ [(8, 8), (60, 4)] rfl (by decide +kernel)
set_option maxRecDepth 20000 in
theorem gX6_outputAt_J4_length_8abf5 : GoodIn wsX6_outputAt (wsV RX6 326 RJ4 yJ4_length_8abf5 wsJ4_length_8abf5) := goodIn_app (goodIn_of _ (by decide +kernel)) ggX6_outputAt_J4_length_8abf5
set_option maxRecDepth 20000 in
theorem ggX6_outputAt_J4_charAt_5068e : GoodIn wsX6_outputAt wsJ4_charAt_5068e := goodIn_rr _ [(19, 3), (11, 1), (22, 1), (13, 1), (23, 3), (15, 1), (26, 23), (60, 4)] rfl (by decide +kernel)
set_option maxRecDepth 20000 in
theorem gX6_outputAt_J4_charAt_5068e : GoodIn wsX6_outputAt (wsV RX6 338 RJ4 yJ4_charAt_5068e wsJ4_charAt_5068e) := goodIn_app (goodIn_of _ (by decide +kernel)) ggX6_outputAt_J4_charAt_5068e
theorem dX6_outputAt_0 : decode cX6_outputAt 0 = .ok (.iload_n 1, 1) := by decide +kernel
theorem dX6_outputAt_1 : decode cX6_outputAt 1 = .ok (.ifCond .lt 14, 3) := by decide +kernel
theorem dX6_outputAt_4 : decode cX6_outputAt 4 = .ok (.iload_n 1, 1) := by decide +kernel
theorem dX6_outputAt_5 : decode cX6_outputAt 5 = .ok (.aload_n 0, 1) := by decide +kernel
theorem dX6_outputAt_6 : decode cX6_outputAt 6 = .ok (.getfield 43, 3) := by decide +kernel
theorem dX6_outputAt_9 : decode cX6_outputAt 9 = .ok (.invokevirtual 326, 3) := by decide +kernel
theorem dX6_outputAt_12 : decode cX6_outputAt 12 = .ok (.if_icmp .lt 14, 3) := by decide +kernel
theorem dX6_outputAt_15 : decode cX6_outputAt 15 = .ok (.new 99, 3) := by decide +kernel
theorem dX6_outputAt_18 : decode cX6_outputAt 18 = .ok (.dup, 1) := by decide +kernel
theorem dX6_outputAt_19 : decode cX6_outputAt 19 = .ok (.ldc_w 336, 3) := by decide +kernel
theorem dX6_outputAt_22 : decode cX6_outputAt 22 = .ok (.invokespecial 103, 3) := by decide +kernel
theorem dX6_outputAt_25 : decode cX6_outputAt 25 = .ok (.athrow, 1) := by decide +kernel
theorem dX6_outputAt_26 : decode cX6_outputAt 26 = .ok (.aload_n 0, 1) := by decide +kernel
theorem dX6_outputAt_27 : decode cX6_outputAt 27 = .ok (.getfield 43, 3) := by decide +kernel
theorem dX6_outputAt_30 : decode cX6_outputAt 30 = .ok (.iload_n 1, 1) := by decide +kernel
theorem dX6_outputAt_31 : decode cX6_outputAt 31 = .ok (.invokevirtual 338, 3) := by decide +kernel
theorem dX6_outputAt_34 : decode cX6_outputAt 34 = .ok (.ireturn, 1) := by decide +kernel
set_option maxRecDepth 20000 in
theorem ggX6_type_J4_length_8abf5 : GoodIn wsX6_type wsJ4_length_8abf5 := goodIn_rr _ [(11, 8), (146, 4)] rfl (by decide +kernel)
set_option maxRecDepth 20000 in
theorem gX6_type_J4_length_8abf5 : GoodIn wsX6_type (wsV RX6 326 RJ4 yJ4_length_8abf5 wsJ4_length_8abf5) := goodIn_app (goodIn_of _ (by decide +kernel)) ggX6_type_J4_length_8abf5
set_option maxRecDepth 20000 in
theorem ggX6_type_J4_append_cf468 : GoodIn wsX6_type wsJ4_append_cf468 := goodIn_rr _ [(22, 3), (14, 1), (25, 1), (16, 1), (26, 1), (18, 1), (27, 105), (146, 4)] rfl (by decide +kernel)
set_option maxRecDepth 20000 in
theorem gX6_type_J4_append_cf468 : GoodIn wsX6_type (wsV RX6 318 RJ4 yJ4_append_cf468 wsJ4_append_cf468) := goodIn_app (goodIn_of _ (by decide +kernel)) ggX6_type_J4_append_cf468
theorem dX6_type_0 : decode cX6_type 0 = .ok (.iload_n 1, 1) := by decide +kernel
theorem dX6_type_1 : decode cX6_type 1 = .ok (.bipush 32, 2) := by decide +kernel
theorem dX6_type_3 : decode cX6_type 3 = .ok (.if_icmp .lt 9, 3) := by decide +kernel
theorem dX6_type_6 : decode cX6_type 6 = .ok (.iload_n 1, 1) := by decide +kernel
theorem dX6_type_7 : decode cX6_type 7 = .ok (.bipush 126, 2) := by decide +kernel
theorem dX6_type_9 : decode cX6_type 9 = .ok (.if_icmp .le 14, 3) := by decide +kernel
theorem dX6_type_12 : decode cX6_type 12 = .ok (.new 106, 3) := by decide +kernel
theorem dX6_type_15 : decode cX6_type 15 = .ok (.dup, 1) := by decide +kernel
theorem dX6_type_16 : decode cX6_type 16 = .ok (.ldc_w 342, 3) := by decide +kernel
theorem dX6_type_19 : decode cX6_type 19 = .ok (.invokespecial 110, 3) := by decide +kernel
theorem dX6_type_22 : decode cX6_type 22 = .ok (.athrow, 1) := by decide +kernel
theorem dX6_type_23 : decode cX6_type 23 = .ok (.aload_n 0, 1) := by decide +kernel
theorem dX6_type_24 : decode cX6_type 24 = .ok (.getfield 29, 3) := by decide +kernel
theorem dX6_type_27 : decode cX6_type 27 = .ok (.getfield 344, 3) := by decide +kernel
theorem dX6_type_30 : decode cX6_type 30 = .ok (.invokevirtual 326, 3) := by decide +kernel
theorem dX6_type_33 : decode cX6_type 33 = .ok (.bipush 60, 2) := by decide +kernel
theorem dX6_type_35 : decode cX6_type 35 = .ok (.if_icmp .lt 14, 3) := by decide +kernel
theorem dX6_type_38 : decode cX6_type 38 = .ok (.new 111, 3) := by decide +kernel
theorem dX6_type_41 : decode cX6_type 41 = .ok (.dup, 1) := by decide +kernel
theorem dX6_type_42 : decode cX6_type 42 = .ok (.ldc_w 347, 3) := by decide +kernel
theorem dX6_type_45 : decode cX6_type 45 = .ok (.invokespecial 115, 3) := by decide +kernel
theorem dX6_type_48 : decode cX6_type 48 = .ok (.athrow, 1) := by decide +kernel
theorem dX6_type_49 : decode cX6_type 49 = .ok (.aload_n 0, 1) := by decide +kernel
theorem dX6_type_50 : decode cX6_type 50 = .ok (.getfield 29, 3) := by decide +kernel
theorem dX6_type_53 : decode cX6_type 53 = .ok (.getfield 344, 3) := by decide +kernel
theorem dX6_type_56 : decode cX6_type 56 = .ok (.iload_n 1, 1) := by decide +kernel
theorem dX6_type_57 : decode cX6_type 57 = .ok (.invokevirtual 318, 3) := by decide +kernel
theorem dX6_type_60 : decode cX6_type 60 = .ok (.pop, 1) := by decide +kernel
theorem dX6_type_61 : decode cX6_type 61 = .ok (.aload_n 0, 1) := by decide +kernel
theorem dX6_type_62 : decode cX6_type 62 = .ok (.getfield 29, 3) := by decide +kernel
theorem dX6_type_65 : decode cX6_type 65 = .ok (.getfield 344, 3) := by decide +kernel
theorem dX6_type_68 : decode cX6_type 68 = .ok (.invokevirtual 326, 3) := by decide +kernel
theorem dX6_type_71 : decode cX6_type 71 = .ok (.ireturn, 1) := by decide +kernel
set_option maxRecDepth 20000 in
theorem ggX6_runScript_X4_countCommands : GoodIn wsX6_runScript wsX4_countCommands := goodIn_ca (goodIn_rr _ [(16, 6), (15, 1), (22, 99), (408, 11)] rfl (by decide +kernel)) (goodIn_sub (fun _ h => List.mem_cons_of_mem _ (List.mem_append_left _ (List.mem_append_left _ (List.mem_append_left _ (List.mem_append_right _ h))))) (by decide +kernel))
set_option maxRecDepth 20000 in
theorem gX6_runScript_X4_countCommands : GoodIn wsX6_runScript (wsV RX6 349 RX4 yX4_countCommands wsX4_countCommands) := goodIn_app (goodIn_of _ (by decide +kernel)) ggX6_runScript_X4_countCommands
set_option maxRecDepth 20000 in
theorem ggX6_runScript_J4_setLength_d00df : GoodIn wsX6_runScript wsJ4_setLength_d00df := goodIn_rr _ [(124, 3), (97, 1), (127, 1), (99, 1), (128, 4), (101, 1), (111, 1), (132, 6), (110, 1), (138, 11), (25, 3), (149, 16), (113, 2), (165, 12), (54, 1), (177, 9), (93, 1), (186, 5), (66, 1), (191, 2), (419, 6), (415, 4), (425, 6)] rfl (by decide +kernel)
set_option maxRecDepth 20000 in
theorem gX6_runScript_J4_setLength_d00df : GoodIn wsX6_runScript (wsV RX6 315 RJ4 yJ4_setLength_d00df wsJ4_setLength_d00df) := goodIn_app (goodIn_of _ (by decide +kernel)) ggX6_runScript_J4_setLength_d00df
set_option maxRecDepth 20000 in
theorem ggX6_runScript_X3_copyFrom : GoodIn wsX6_runScript wsX3_copyFrom := goodIn_ca (goodIn_rr _ [(197, 36), (431, 25)] rfl (by decide +kernel)) (goodIn_sub (fun _ h => List.mem_cons_of_mem _ (List.mem_append_left _ (List.mem_append_left _ (List.mem_append_left _ (List.mem_append_right _ h))))) (by decide +kernel))
set_option maxRecDepth 20000 in
theorem gX6_runScript_X3_copyFrom : GoodIn wsX6_runScript (wsV RX6 51 RX3 yX3_copyFrom wsX3_copyFrom) := goodIn_app (goodIn_of _ (by decide +kernel)) ggX6_runScript_X3_copyFrom
set_option maxRecDepth 20000 in
theorem ggX6_runScript_X6_tryCommands : GoodIn wsX6_runScript wsX6_tryCommands := goodIn_ca (goodIn_rr _ [(237, 1), (5, 2), (238, 1), (20, 2), (15, 1), (22, 2), (17, 1), (24, 8), (18, 1), (32, 89), (239, 3), (236, 1), (242, 3), (9, 1), (245, 10), (196, 1), (255, 1), (203, 2), (206, 1), (198, 2), (256, 3), (215, 1), (259, 1), (217, 7), (260, 4), (200, 1), (264, 8), (227, 1), (272, 1), (229, 1), (273, 60), (210, 1), (333, 16), (207, 1), (349, 4), (205, 1), (353, 9), (201, 2), (362, 2), (208, 1), (364, 4), (211, 1), (209, 1), (368, 10), (397, 22), (431, 25)] rfl (by decide +kernel)) (goodIn_sub (fun _ h => List.mem_cons_of_mem _ (List.mem_append_left _ (List.mem_append_left _ (List.mem_append_left _ (List.mem_append_right _ h))))) (by decide +kernel))
set_option maxRecDepth 20000 in
theorem gX6_runScript_X6_tryCommands : GoodIn wsX6_runScript (wsV RX6 357 RX6 yX6_tryCommands wsX6_tryCommands) := goodIn_app (goodIn_of _ (by decide +kernel)) ggX6_runScript_X6_tryCommands
set_option maxRecDepth 20000 in
theorem ggX6_runScript_X6_commit : GoodIn wsX6_runScript wsX6_commit := goodIn_ca (goodIn_ca (goodIn_ca (goodIn_ca (goodIn_ca (goodIn_rr _ [(381, 3), (10, 1), (9, 1), (384, 2), (236, 1), (386, 3), (1, 4), (389, 19)] rfl (by decide +kernel)) (goodIn_sub (fun _ h => List.mem_cons_of_mem _ (List.mem_append_left _ (List.mem_append_left _ (List.mem_append_right _ h)))) (by decide +kernel))) (goodIn_sub (fun _ h => List.mem_cons_of_mem _ (List.mem_append_left _ (List.mem_append_left _ (List.mem_append_left _ (List.mem_append_left _ (List.mem_append_left _ (List.mem_append_right _ h))))))) (by decide +kernel))) (goodIn_sub (fun _ h => List.mem_cons_of_mem _ (List.mem_append_left _ (List.mem_append_left _ (List.mem_append_left _ (List.mem_append_left _ (List.mem_append_right _ h)))))) (by decide +kernel))) (goodIn_sub (fun _ h => List.mem_cons_of_mem _ (List.mem_append_left _ (List.mem_append_right _ h))) (by decide +kernel))) (goodIn_sub (fun _ h => List.mem_cons_of_mem _ (List.mem_append_right _ h)) (by decide +kernel))
set_option maxRecDepth 20000 in
theorem gX6_runScript_X6_commit : GoodIn wsX6_runScript (wsV RX6 59 RX6 yX6_commit wsX6_commit) := goodIn_app (goodIn_of _ (by decide +kernel)) ggX6_runScript_X6_commit
theorem dX6_runScript_0 : decode cX6_runScript 0 = .ok (.aload_n 0, 1) := by decide +kernel
theorem dX6_runScript_1 : decode cX6_runScript 1 = .ok (.getfield 29, 3) := by decide +kernel
theorem dX6_runScript_4 : decode cX6_runScript 4 = .ok (.invokevirtual 349, 3) := by decide +kernel
theorem dX6_runScript_7 : decode cX6_runScript 7 = .ok (.istore_n 1, 1) := by decide +kernel
theorem dX6_runScript_8 : decode cX6_runScript 8 = .ok (.iload_n 1, 1) := by decide +kernel
theorem dX6_runScript_9 : decode cX6_runScript 9 = .ok (.iconst (-1), 1) := by decide +kernel
theorem dX6_runScript_10 : decode cX6_runScript 10 = .ok (.if_icmp .ne 36, 3) := by decide +kernel
theorem dX6_runScript_13 : decode cX6_runScript 13 = .ok (.aload_n 0, 1) := by decide +kernel
theorem dX6_runScript_14 : decode cX6_runScript 14 = .ok (.aload_n 0, 1) := by decide +kernel
theorem dX6_runScript_15 : decode cX6_runScript 15 = .ok (.getfield 29, 3) := by decide +kernel
theorem dX6_runScript_18 : decode cX6_runScript 18 = .ok (.getfield 352, 3) := by decide +kernel
theorem dX6_runScript_21 : decode cX6_runScript 21 = .ok (.putfield 33, 3) := by decide +kernel
theorem dX6_runScript_24 : decode cX6_runScript 24 = .ok (.aload_n 0, 1) := by decide +kernel
theorem dX6_runScript_25 : decode cX6_runScript 25 = .ok (.getfield 29, 3) := by decide +kernel
theorem dX6_runScript_28 : decode cX6_runScript 28 = .ok (.getfield 344, 3) := by decide +kernel
theorem dX6_runScript_31 : decode cX6_runScript 31 = .ok (.iconst 0, 1) := by decide +kernel
theorem dX6_runScript_32 : decode cX6_runScript 32 = .ok (.invokevirtual 315, 3) := by decide +kernel
theorem dX6_runScript_35 : decode cX6_runScript 35 = .ok (.new 106, 3) := by decide +kernel
theorem dX6_runScript_38 : decode cX6_runScript 38 = .ok (.dup, 1) := by decide +kernel
theorem dX6_runScript_39 : decode cX6_runScript 39 = .ok (.ldc_w 355, 3) := by decide +kernel
theorem dX6_runScript_42 : decode cX6_runScript 42 = .ok (.invokespecial 110, 3) := by decide +kernel
theorem dX6_runScript_45 : decode cX6_runScript 45 = .ok (.athrow, 1) := by decide +kernel
theorem dX6_runScript_46 : decode cX6_runScript 46 = .ok (.aload_n 0, 1) := by decide +kernel
theorem dX6_runScript_47 : decode cX6_runScript 47 = .ok (.getfield 16, 3) := by decide +kernel
theorem dX6_runScript_50 : decode cX6_runScript 50 = .ok (.aload_n 0, 1) := by decide +kernel
theorem dX6_runScript_51 : decode cX6_runScript 51 = .ok (.getfield 10, 3) := by decide +kernel
theorem dX6_runScript_54 : decode cX6_runScript 54 = .ok (.invokevirtual 51, 3) := by decide +kernel
theorem dX6_runScript_57 : decode cX6_runScript 57 = .ok (.aload_n 0, 1) := by decide +kernel
theorem dX6_runScript_58 : decode cX6_runScript 58 = .ok (.iload_n 1, 1) := by decide +kernel
theorem dX6_runScript_59 : decode cX6_runScript 59 = .ok (.invokevirtual 357, 3) := by decide +kernel
theorem dX6_runScript_62 : decode cX6_runScript 62 = .ok (.istore_n 2, 1) := by decide +kernel
theorem dX6_runScript_63 : decode cX6_runScript 63 = .ok (.aload_n 0, 1) := by decide +kernel
theorem dX6_runScript_64 : decode cX6_runScript 64 = .ok (.getfield 29, 3) := by decide +kernel
theorem dX6_runScript_67 : decode cX6_runScript 67 = .ok (.getfield 344, 3) := by decide +kernel
theorem dX6_runScript_70 : decode cX6_runScript 70 = .ok (.iconst 0, 1) := by decide +kernel
theorem dX6_runScript_71 : decode cX6_runScript 71 = .ok (.invokevirtual 315, 3) := by decide +kernel
theorem dX6_runScript_74 : decode cX6_runScript 74 = .ok (.iload_n 2, 1) := by decide +kernel
theorem dX6_runScript_75 : decode cX6_runScript 75 = .ok (.iconst (-1), 1) := by decide +kernel
theorem dX6_runScript_76 : decode cX6_runScript 76 = .ok (.if_icmp .eq 19, 3) := by decide +kernel
theorem dX6_runScript_79 : decode cX6_runScript 79 = .ok (.aload_n 0, 1) := by decide +kernel
theorem dX6_runScript_80 : decode cX6_runScript 80 = .ok (.iload_n 2, 1) := by decide +kernel
theorem dX6_runScript_81 : decode cX6_runScript 81 = .ok (.putfield 37, 3) := by decide +kernel
theorem dX6_runScript_84 : decode cX6_runScript 84 = .ok (.new 111, 3) := by decide +kernel
theorem dX6_runScript_87 : decode cX6_runScript 87 = .ok (.dup, 1) := by decide +kernel
theorem dX6_runScript_88 : decode cX6_runScript 88 = .ok (.ldc_w 360, 3) := by decide +kernel
theorem dX6_runScript_91 : decode cX6_runScript 91 = .ok (.invokespecial 115, 3) := by decide +kernel
theorem dX6_runScript_94 : decode cX6_runScript 94 = .ok (.athrow, 1) := by decide +kernel
theorem dX6_runScript_95 : decode cX6_runScript 95 = .ok (.aload_n 0, 1) := by decide +kernel
theorem dX6_runScript_96 : decode cX6_runScript 96 = .ok (.iload_n 1, 1) := by decide +kernel
theorem dX6_runScript_97 : decode cX6_runScript 97 = .ok (.invokevirtual 59, 3) := by decide +kernel
theorem dX6_runScript_100 : decode cX6_runScript 100 = .ok (.ireturn, 1) := by decide +kernel
set_option maxRecDepth 20000 in
theorem ggX6_tryCommands_X4_commandAt : GoodIn wsX6_tryCommands wsX4_commandAt := goodIn_ca (goodIn_rr _ [(7, 10), (6, 1), (17, 91), (285, 11)] rfl (by decide +kernel)) (goodIn_sub (fun _ h => List.mem_cons_of_mem _ (List.mem_append_right _ h)) (by decide +kernel))
set_option maxRecDepth 20000 in
theorem gX6_tryCommands_X4_commandAt : GoodIn wsX6_tryCommands (wsV RX6 362 RX4 yX4_commandAt wsX4_commandAt) := goodIn_app (goodIn_of _ (by decide +kernel)) ggX6_tryCommands_X4_commandAt
set_option maxRecDepth 20000 in
theorem ggX6_tryCommands_X6_perform : GoodIn wsX6_tryCommands wsX6_perform := goodIn_ca (goodIn_rr _ [(112, 1), (1, 1), (113, 78), (12, 1), (191, 78), (100, 2), (269, 1), (11, 1), (13, 1), (270, 18), (296, 25)] rfl (by decide +kernel)) (goodIn_sub (fun _ h => List.mem_cons_of_mem _ (List.mem_append_right _ h)) (by decide +kernel))
set_option maxRecDepth 20000 in
theorem gX6_tryCommands_X6_perform : GoodIn wsX6_tryCommands (wsV RX6 366 RX6 yX6_perform wsX6_perform) := goodIn_app (goodIn_of _ (by decide +kernel)) ggX6_tryCommands_X6_perform
theorem dX6_tryCommands_0 : decode cX6_tryCommands 0 = .ok (.iconst 0, 1) := by decide +kernel
theorem dX6_tryCommands_1 : decode cX6_tryCommands 1 = .ok (.istore_n 2, 1) := by decide +kernel
theorem dX6_tryCommands_2 : decode cX6_tryCommands 2 = .ok (.iconst 0, 1) := by decide +kernel
theorem dX6_tryCommands_3 : decode cX6_tryCommands 3 = .ok (.istore_n 3, 1) := by decide +kernel
theorem dX6_tryCommands_4 : decode cX6_tryCommands 4 = .ok (.iload_n 3, 1) := by decide +kernel
theorem dX6_tryCommands_5 : decode cX6_tryCommands 5 = .ok (.iload_n 1, 1) := by decide +kernel
theorem dX6_tryCommands_6 : decode cX6_tryCommands 6 = .ok (.if_icmp .ge 45, 3) := by decide +kernel
theorem dX6_tryCommands_9 : decode cX6_tryCommands 9 = .ok (.aload_n 0, 1) := by decide +kernel
theorem dX6_tryCommands_10 : decode cX6_tryCommands 10 = .ok (.getfield 29, 3) := by decide +kernel
theorem dX6_tryCommands_13 : decode cX6_tryCommands 13 = .ok (.iload_n 2, 1) := by decide +kernel
theorem dX6_tryCommands_14 : decode cX6_tryCommands 14 = .ok (.invokevirtual 362, 3) := by decide +kernel
theorem dX6_tryCommands_17 : decode cX6_tryCommands 17 = .ok (.astore 4, 2) := by decide +kernel
theorem dX6_tryCommands_19 : decode cX6_tryCommands 19 = .ok (.aload 4, 2) := by decide +kernel
theorem dX6_tryCommands_21 : decode cX6_tryCommands 21 = .ok (.ifnull 12, 3) := by decide +kernel
theorem dX6_tryCommands_24 : decode cX6_tryCommands 24 = .ok (.aload_n 0, 1) := by decide +kernel
theorem dX6_tryCommands_25 : decode cX6_tryCommands 25 = .ok (.aload 4, 2) := by decide +kernel
theorem dX6_tryCommands_27 : decode cX6_tryCommands 27 = .ok (.invokevirtual 366, 3) := by decide +kernel
theorem dX6_tryCommands_30 : decode cX6_tryCommands 30 = .ok (.ifCond .ge 5, 3) := by decide +kernel
theorem dX6_tryCommands_33 : decode cX6_tryCommands 33 = .ok (.iload_n 3, 1) := by decide +kernel
theorem dX6_tryCommands_34 : decode cX6_tryCommands 34 = .ok (.ireturn, 1) := by decide +kernel
theorem dX6_tryCommands_35 : decode cX6_tryCommands 35 = .ok (.aload_n 0, 1) := by decide +kernel
theorem dX6_tryCommands_36 : decode cX6_tryCommands 36 = .ok (.getfield 29, 3) := by decide +kernel
theorem dX6_tryCommands_39 : decode cX6_tryCommands 39 = .ok (.getfield 352, 3) := by decide +kernel
theorem dX6_tryCommands_42 : decode cX6_tryCommands 42 = .ok (.iconst 1, 1) := by decide +kernel
theorem dX6_tryCommands_43 : decode cX6_tryCommands 43 = .ok (.iadd, 1) := by decide +kernel
theorem dX6_tryCommands_44 : decode cX6_tryCommands 44 = .ok (.istore_n 2, 1) := by decide +kernel
theorem dX6_tryCommands_45 : decode cX6_tryCommands 45 = .ok (.iinc 3 1, 3) := by decide +kernel
theorem dX6_tryCommands_48 : decode cX6_tryCommands 48 = .ok (.goto (-44), 3) := by decide +kernel
theorem dX6_tryCommands_51 : decode cX6_tryCommands 51 = .ok (.iconst (-1), 1) := by decide +kernel
theorem dX6_tryCommands_52 : decode cX6_tryCommands 52 = .ok (.ireturn, 1) := by decide +kernel
set_option maxRecDepth 20000 in
theorem ggX6_perform_Jx29ce0_ordinal_8abf5 : GoodIn wsX6_perform wsJx29ce0_ordinal_8abf5 := goodIn_rr _ [(10, 2)] rfl (by decide +kernel)
set_option maxRecDepth 20000 in
set_option maxRecDepth 20000 in
theorem ggX6_perform_X3_admit : GoodIn wsX6_perform wsX3_admit := goodIn_ca (goodIn_rr _ [(16, 18), (182, 21)] rfl (by decide +kernel)) (goodIn_sub (fun _ h => List.mem_cons_of_mem _ (List.mem_append_right _ h)) (by decide +kernel))
set_option maxRecDepth 20000 in
theorem gX6_perform_X3_admit : GoodIn wsX6_perform (wsV RX6 55 RX3 yX3_admit wsX3_admit) := goodIn_app (goodIn_of _ (by decide +kernel)) ggX6_perform_X3_admit
set_option maxRecDepth 20000 in
theorem ggX6_perform_X3_open : GoodIn wsX6_perform wsX3_open := goodIn_rr _ [(37, 6), (15, 1), (43, 11), (182, 14), (203, 4)] rfl (by decide +kernel)
set_option maxRecDepth 20000 in
theorem gX6_perform_X3_open : GoodIn wsX6_perform (wsV RX6 62 RX3 yX3_open wsX3_open) := goodIn_app (goodIn_of _ (by decide +kernel)) ggX6_perform_X3_open
set_option maxRecDepth 20000 in
theorem ggX6_perform_X3_close : GoodIn wsX6_perform wsX3_close := goodIn_ca (goodIn_rr _ [(57, 1), (38, 1), (41, 2), (15, 1), (43, 7), (58, 4), (39, 1), (62, 5), (18, 1), (21, 1), (50, 4), (182, 14), (203, 4)] rfl (by decide +kernel)) (goodIn_sub (fun _ h => List.mem_cons_of_mem _ (List.mem_append_right _ h)) (by decide +kernel))
set_option maxRecDepth 20000 in
theorem gX6_perform_X3_close : GoodIn wsX6_perform (wsV RX6 66 RX3 yX3_close wsX3_close) := goodIn_app (goodIn_of _ (by decide +kernel)) ggX6_perform_X3_close
set_option maxRecDepth 20000 in
theorem ggX6_perform_X3_callLowestTicket : GoodIn wsX6_perform wsX3_callLowestTicket := goodIn_rr _ [(70, 1), (17, 1), (20, 1), (71, 2), (182, 21)] rfl (by decide +kernel)
set_option maxRecDepth 20000 in
theorem gX6_perform_X3_callLowestTicket : GoodIn wsX6_perform (wsV RX6 69 RX3 yX3_callLowestTicket wsX3_callLowestTicket) := goodIn_app (goodIn_of _ (by decide +kernel)) ggX6_perform_X3_callLowestTicket
set_option maxRecDepth 20000 in
theorem ggX6_perform_X3_exchange : GoodIn wsX6_perform wsX3_exchange := goodIn_ca (goodIn_rr _ [(76, 1), (20, 1), (77, 1), (21, 1), (78, 7), (15, 1), (85, 1), (17, 1), (86, 4), (18, 1), (182, 21)] rfl (by decide +kernel)) (goodIn_sub (fun _ h => List.mem_cons_of_mem _ (List.mem_append_right _ h)) (by decide +kernel))
set_option maxRecDepth 20000 in
theorem gX6_perform_X3_exchange : GoodIn wsX6_perform (wsV RX6 73 RX3 yX3_exchange wsX3_exchange) := goodIn_app (goodIn_of _ (by decide +kernel)) ggX6_perform_X3_exchange
set_option maxRecDepth 20000 in
theorem ggX6_perform_X3_seat : GoodIn wsX6_perform wsX3_seat := goodIn_rr _ [(93, 1), (20, 1), (94, 1), (82, 3), (15, 1), (85, 1), (17, 1), (95, 4), (38, 1), (62, 1), (99, 4), (182, 25)] rfl (by decide +kernel)
set_option maxRecDepth 20000 in
theorem gX6_perform_X3_seat : GoodIn wsX6_perform (wsV RX6 77 RX3 yX3_seat wsX3_seat) := goodIn_app (goodIn_of _ (by decide +kernel)) ggX6_perform_X3_seat
set_option maxRecDepth 20000 in
theorem ggX6_perform_X3_unseat : GoodIn wsX6_perform wsX3_unseat := goodIn_rr _ [(106, 1), (20, 1), (94, 1), (82, 3), (15, 1), (85, 1), (17, 1), (99, 4), (182, 21)] rfl (by decide +kernel)
set_option maxRecDepth 20000 in
theorem gX6_perform_X3_unseat : GoodIn wsX6_perform (wsV RX6 80 RX3 yX3_unseat wsX3_unseat) := goodIn_app (goodIn_of _ (by decide +kernel)) ggX6_perform_X3_unseat
set_option maxRecDepth 20000 in
theorem ggX6_perform_X3_dismiss : GoodIn wsX6_perform wsX3_dismiss := goodIn_ca (goodIn_rr _ [(110, 2), (17, 1), (82, 3), (15, 1), (85, 1), (112, 4), (38, 1), (62, 1), (20, 1), (86, 4), (18, 1), (21, 1), (116, 4), (95, 4), (120, 4), (182, 14), (203, 4)] rfl (by decide +kernel)) (goodIn_sub (fun _ h => List.mem_cons_of_mem _ (List.mem_append_right _ h)) (by decide +kernel))
set_option maxRecDepth 20000 in
theorem gX6_perform_X3_dismiss : GoodIn wsX6_perform (wsV RX6 83 RX3 yX3_dismiss wsX3_dismiss) := goodIn_app (goodIn_of _ (by decide +kernel)) ggX6_perform_X3_dismiss
set_option maxRecDepth 20000 in
theorem ggX6_perform_X3_pass : GoodIn wsX6_perform wsX3_pass := goodIn_ca (goodIn_rr _ [(127, 5), (15, 1), (132, 1), (38, 1), (62, 1), (133, 1), (44, 6), (134, 5), (20, 1), (39, 1), (139, 6), (72, 1), (145, 3), (112, 4), (17, 1), (86, 4), (18, 1), (21, 1), (116, 4), (95, 4), (120, 4), (58, 4), (63, 4), (148, 9), (25, 1), (157, 1), (31, 1), (33, 1), (30, 1), (158, 2), (80, 1), (160, 4), (28, 2), (164, 4), (71, 1), (94, 1), (40, 1), (182, 14), (203, 4), (196, 7)] rfl (by decide +kernel)) (goodIn_sub (fun _ h => List.mem_cons_of_mem _ (List.mem_append_right _ h)) (by decide +kernel))
set_option maxRecDepth 20000 in
theorem gX6_perform_X3_pass : GoodIn wsX6_perform (wsV RX6 86 RX3 yX3_pass wsX3_pass) := goodIn_app (goodIn_of _ (by decide +kernel)) ggX6_perform_X3_pass
theorem dX6_perform_0 : decode cX6_perform 0 = .ok (.aload_n 0, 1) := by decide +kernel
theorem dX6_perform_1 : decode cX6_perform 1 = .ok (.getfield 29, 3) := by decide +kernel
theorem dX6_perform_4 : decode cX6_perform 4 = .ok (.getfield 370, 3) := by decide +kernel
theorem dX6_perform_7 : decode cX6_perform 7 = .ok (.iconst 0, 1) := by decide +kernel
theorem dX6_perform_8 : decode cX6_perform 8 = .ok (.iaload, 1) := by decide +kernel
theorem dX6_perform_9 : decode cX6_perform 9 = .ok (.istore_n 2, 1) := by decide +kernel
theorem dX6_perform_10 : decode cX6_perform 10 = .ok (.aload_n 0, 1) := by decide +kernel
theorem dX6_perform_11 : decode cX6_perform 11 = .ok (.getfield 29, 3) := by decide +kernel
theorem dX6_perform_14 : decode cX6_perform 14 = .ok (.getfield 370, 3) := by decide +kernel
theorem dX6_perform_17 : decode cX6_perform 17 = .ok (.iconst 1, 1) := by decide +kernel
theorem dX6_perform_18 : decode cX6_perform 18 = .ok (.iaload, 1) := by decide +kernel
theorem dX6_perform_19 : decode cX6_perform 19 = .ok (.istore_n 3, 1) := by decide +kernel
theorem dX6_perform_20 : decode cX6_perform 20 = .ok (.aload_n 0, 1) := by decide +kernel
theorem dX6_perform_21 : decode cX6_perform 21 = .ok (.getfield 29, 3) := by decide +kernel
theorem dX6_perform_24 : decode cX6_perform 24 = .ok (.getfield 370, 3) := by decide +kernel
theorem dX6_perform_27 : decode cX6_perform 27 = .ok (.iconst 2, 1) := by decide +kernel
theorem dX6_perform_28 : decode cX6_perform 28 = .ok (.iaload, 1) := by decide +kernel
theorem dX6_perform_29 : decode cX6_perform 29 = .ok (.istore 4, 2) := by decide +kernel
theorem dX6_perform_31 : decode cX6_perform 31 = .ok (.getstatic 373, 3) := by decide +kernel
theorem dX6_perform_34 : decode cX6_perform 34 = .ok (.aload_n 1, 1) := by decide +kernel
theorem dX6_perform_35 : decode cX6_perform 35 = .ok (.invokevirtual 378, 3) := by decide +kernel
theorem dX6_perform_38 : decode cX6_perform 38 = .ok (.iaload, 1) := by decide +kernel
theorem dX6_perform_39 : decode cX6_perform 39 = .ok (.tableswitch 146 1 10 #[53, 62, 74, 83, 91, 101, 110, 119, 128, 137], 53) := by decide +kernel
theorem dX6_perform_92 : decode cX6_perform 92 = .ok (.aload_n 0, 1) := by decide +kernel
theorem dX6_perform_93 : decode cX6_perform 93 = .ok (.getfield 16, 3) := by decide +kernel
theorem dX6_perform_96 : decode cX6_perform 96 = .ok (.iload_n 2, 1) := by decide +kernel
theorem dX6_perform_97 : decode cX6_perform 97 = .ok (.invokevirtual 55, 3) := by decide +kernel
theorem dX6_perform_100 : decode cX6_perform 100 = .ok (.ireturn, 1) := by decide +kernel
theorem dX6_perform_101 : decode cX6_perform 101 = .ok (.aload_n 0, 1) := by decide +kernel
theorem dX6_perform_102 : decode cX6_perform 102 = .ok (.getfield 16, 3) := by decide +kernel
theorem dX6_perform_105 : decode cX6_perform 105 = .ok (.iload_n 2, 1) := by decide +kernel
theorem dX6_perform_106 : decode cX6_perform 106 = .ok (.iload_n 3, 1) := by decide +kernel
theorem dX6_perform_107 : decode cX6_perform 107 = .ok (.iload 4, 2) := by decide +kernel
theorem dX6_perform_109 : decode cX6_perform 109 = .ok (.invokevirtual 62, 3) := by decide +kernel
theorem dX6_perform_112 : decode cX6_perform 112 = .ok (.ireturn, 1) := by decide +kernel
theorem dX6_perform_113 : decode cX6_perform 113 = .ok (.aload_n 0, 1) := by decide +kernel
theorem dX6_perform_114 : decode cX6_perform 114 = .ok (.getfield 16, 3) := by decide +kernel
theorem dX6_perform_117 : decode cX6_perform 117 = .ok (.iload_n 2, 1) := by decide +kernel
theorem dX6_perform_118 : decode cX6_perform 118 = .ok (.invokevirtual 66, 3) := by decide +kernel
theorem dX6_perform_121 : decode cX6_perform 121 = .ok (.ireturn, 1) := by decide +kernel
theorem dX6_perform_122 : decode cX6_perform 122 = .ok (.aload_n 0, 1) := by decide +kernel
theorem dX6_perform_123 : decode cX6_perform 123 = .ok (.getfield 16, 3) := by decide +kernel
theorem dX6_perform_126 : decode cX6_perform 126 = .ok (.invokevirtual 69, 3) := by decide +kernel
theorem dX6_perform_129 : decode cX6_perform 129 = .ok (.ireturn, 1) := by decide +kernel
theorem dX6_perform_130 : decode cX6_perform 130 = .ok (.aload_n 0, 1) := by decide +kernel
theorem dX6_perform_131 : decode cX6_perform 131 = .ok (.getfield 16, 3) := by decide +kernel
theorem dX6_perform_134 : decode cX6_perform 134 = .ok (.iload_n 2, 1) := by decide +kernel
theorem dX6_perform_135 : decode cX6_perform 135 = .ok (.iload_n 3, 1) := by decide +kernel
theorem dX6_perform_136 : decode cX6_perform 136 = .ok (.invokevirtual 73, 3) := by decide +kernel
theorem dX6_perform_139 : decode cX6_perform 139 = .ok (.ireturn, 1) := by decide +kernel
theorem dX6_perform_140 : decode cX6_perform 140 = .ok (.aload_n 0, 1) := by decide +kernel
theorem dX6_perform_141 : decode cX6_perform 141 = .ok (.getfield 16, 3) := by decide +kernel
theorem dX6_perform_144 : decode cX6_perform 144 = .ok (.iload_n 2, 1) := by decide +kernel
theorem dX6_perform_145 : decode cX6_perform 145 = .ok (.invokevirtual 77, 3) := by decide +kernel
theorem dX6_perform_148 : decode cX6_perform 148 = .ok (.ireturn, 1) := by decide +kernel
theorem dX6_perform_149 : decode cX6_perform 149 = .ok (.aload_n 0, 1) := by decide +kernel
theorem dX6_perform_150 : decode cX6_perform 150 = .ok (.getfield 16, 3) := by decide +kernel
theorem dX6_perform_153 : decode cX6_perform 153 = .ok (.iload_n 2, 1) := by decide +kernel
theorem dX6_perform_154 : decode cX6_perform 154 = .ok (.invokevirtual 80, 3) := by decide +kernel
theorem dX6_perform_157 : decode cX6_perform 157 = .ok (.ireturn, 1) := by decide +kernel
theorem dX6_perform_158 : decode cX6_perform 158 = .ok (.aload_n 0, 1) := by decide +kernel
theorem dX6_perform_159 : decode cX6_perform 159 = .ok (.getfield 16, 3) := by decide +kernel
theorem dX6_perform_162 : decode cX6_perform 162 = .ok (.iload_n 2, 1) := by decide +kernel
theorem dX6_perform_163 : decode cX6_perform 163 = .ok (.invokevirtual 83, 3) := by decide +kernel
theorem dX6_perform_166 : decode cX6_perform 166 = .ok (.ireturn, 1) := by decide +kernel
theorem dX6_perform_167 : decode cX6_perform 167 = .ok (.aload_n 0, 1) := by decide +kernel
theorem dX6_perform_168 : decode cX6_perform 168 = .ok (.getfield 16, 3) := by decide +kernel
theorem dX6_perform_171 : decode cX6_perform 171 = .ok (.iload_n 2, 1) := by decide +kernel
theorem dX6_perform_172 : decode cX6_perform 172 = .ok (.invokevirtual 86, 3) := by decide +kernel
theorem dX6_perform_175 : decode cX6_perform 175 = .ok (.ireturn, 1) := by decide +kernel
theorem dX6_perform_176 : decode cX6_perform 176 = .ok (.aload_n 0, 1) := by decide +kernel
theorem dX6_perform_177 : decode cX6_perform 177 = .ok (.getfield 16, 3) := by decide +kernel
theorem dX6_perform_180 : decode cX6_perform 180 = .ok (.iconst 1, 1) := by decide +kernel
theorem dX6_perform_181 : decode cX6_perform 181 = .ok (.invokevirtual 86, 3) := by decide +kernel
theorem dX6_perform_184 : decode cX6_perform 184 = .ok (.ireturn, 1) := by decide +kernel
theorem dX6_perform_185 : decode cX6_perform 185 = .ok (.bipush (-3), 2) := by decide +kernel
theorem dX6_perform_187 : decode cX6_perform 187 = .ok (.ireturn, 1) := by decide +kernel
theorem dX6_errorPosition_0 : decode cX6_errorPosition 0 = .ok (.aload_n 0, 1) := by decide +kernel
theorem dX6_errorPosition_1 : decode cX6_errorPosition 1 = .ok (.getfield 33, 3) := by decide +kernel
theorem dX6_errorPosition_4 : decode cX6_errorPosition 4 = .ok (.iconst (-1), 1) := by decide +kernel
theorem dX6_errorPosition_5 : decode cX6_errorPosition 5 = .ok (.if_icmp .ne 14, 3) := by decide +kernel
theorem dX6_errorPosition_8 : decode cX6_errorPosition 8 = .ok (.new 121, 3) := by decide +kernel
theorem dX6_errorPosition_11 : decode cX6_errorPosition 11 = .ok (.dup, 1) := by decide +kernel
theorem dX6_errorPosition_12 : decode cX6_errorPosition 12 = .ok (.ldc_w 383, 3) := by decide +kernel
theorem dX6_errorPosition_15 : decode cX6_errorPosition 15 = .ok (.invokespecial 125, 3) := by decide +kernel
theorem dX6_errorPosition_18 : decode cX6_errorPosition 18 = .ok (.athrow, 1) := by decide +kernel
theorem dX6_errorPosition_19 : decode cX6_errorPosition 19 = .ok (.aload_n 0, 1) := by decide +kernel
theorem dX6_errorPosition_20 : decode cX6_errorPosition 20 = .ok (.getfield 33, 3) := by decide +kernel
theorem dX6_errorPosition_23 : decode cX6_errorPosition 23 = .ok (.ireturn, 1) := by decide +kernel
theorem dX6_failedCommand_0 : decode cX6_failedCommand 0 = .ok (.aload_n 0, 1) := by decide +kernel
theorem dX6_failedCommand_1 : decode cX6_failedCommand 1 = .ok (.getfield 37, 3) := by decide +kernel
theorem dX6_failedCommand_4 : decode cX6_failedCommand 4 = .ok (.iconst (-1), 1) := by decide +kernel
theorem dX6_failedCommand_5 : decode cX6_failedCommand 5 = .ok (.if_icmp .ne 14, 3) := by decide +kernel
theorem dX6_failedCommand_8 : decode cX6_failedCommand 8 = .ok (.new 121, 3) := by decide +kernel
theorem dX6_failedCommand_11 : decode cX6_failedCommand 11 = .ok (.dup, 1) := by decide +kernel
theorem dX6_failedCommand_12 : decode cX6_failedCommand 12 = .ok (.ldc_w 385, 3) := by decide +kernel
theorem dX6_failedCommand_15 : decode cX6_failedCommand 15 = .ok (.invokespecial 125, 3) := by decide +kernel
theorem dX6_failedCommand_18 : decode cX6_failedCommand 18 = .ok (.athrow, 1) := by decide +kernel
theorem dX6_failedCommand_19 : decode cX6_failedCommand 19 = .ok (.aload_n 0, 1) := by decide +kernel
theorem dX6_failedCommand_20 : decode cX6_failedCommand 20 = .ok (.getfield 37, 3) := by decide +kernel
theorem dX6_failedCommand_23 : decode cX6_failedCommand 23 = .ok (.ireturn, 1) := by decide +kernel
theorem dX6_undo_0 : decode cX6_undo 0 = .ok (.aload_n 0, 1) := by decide +kernel
theorem dX6_undo_1 : decode cX6_undo 1 = .ok (.getfield 93, 3) := by decide +kernel
theorem dX6_undo_4 : decode cX6_undo 4 = .ok (.ifCond .ne 14, 3) := by decide +kernel
theorem dX6_undo_7 : decode cX6_undo 7 = .ok (.new 121, 3) := by decide +kernel
theorem dX6_undo_10 : decode cX6_undo 10 = .ok (.dup, 1) := by decide +kernel
theorem dX6_undo_11 : decode cX6_undo 11 = .ok (.ldc_w 387, 3) := by decide +kernel
theorem dX6_undo_14 : decode cX6_undo 14 = .ok (.invokespecial 125, 3) := by decide +kernel
theorem dX6_undo_17 : decode cX6_undo 17 = .ok (.athrow, 1) := by decide +kernel
theorem dX6_undo_18 : decode cX6_undo 18 = .ok (.aload_n 0, 1) := by decide +kernel
theorem dX6_undo_19 : decode cX6_undo 19 = .ok (.dup, 1) := by decide +kernel
theorem dX6_undo_20 : decode cX6_undo 20 = .ok (.getfield 93, 3) := by decide +kernel
theorem dX6_undo_23 : decode cX6_undo 23 = .ok (.iconst 1, 1) := by decide +kernel
theorem dX6_undo_24 : decode cX6_undo 24 = .ok (.isub, 1) := by decide +kernel
theorem dX6_undo_25 : decode cX6_undo 25 = .ok (.putfield 93, 3) := by decide +kernel
theorem dX6_undo_28 : decode cX6_undo 28 = .ok (.aload_n 0, 1) := by decide +kernel
theorem dX6_undo_29 : decode cX6_undo 29 = .ok (.getfield 10, 3) := by decide +kernel
theorem dX6_undo_32 : decode cX6_undo 32 = .ok (.astore_n 1, 1) := by decide +kernel
theorem dX6_undo_33 : decode cX6_undo 33 = .ok (.aload_n 0, 1) := by decide +kernel
theorem dX6_undo_34 : decode cX6_undo 34 = .ok (.aload_n 0, 1) := by decide +kernel
theorem dX6_undo_35 : decode cX6_undo 35 = .ok (.getfield 22, 3) := by decide +kernel
theorem dX6_undo_38 : decode cX6_undo 38 = .ok (.aload_n 0, 1) := by decide +kernel
theorem dX6_undo_39 : decode cX6_undo 39 = .ok (.getfield 93, 3) := by decide +kernel
theorem dX6_undo_42 : decode cX6_undo 42 = .ok (.aaload, 1) := by decide +kernel
theorem dX6_undo_43 : decode cX6_undo 43 = .ok (.putfield 10, 3) := by decide +kernel
theorem dX6_undo_46 : decode cX6_undo 46 = .ok (.aload_n 0, 1) := by decide +kernel
theorem dX6_undo_47 : decode cX6_undo 47 = .ok (.getfield 22, 3) := by decide +kernel
theorem dX6_undo_50 : decode cX6_undo 50 = .ok (.aload_n 0, 1) := by decide +kernel
theorem dX6_undo_51 : decode cX6_undo 51 = .ok (.getfield 93, 3) := by decide +kernel
theorem dX6_undo_54 : decode cX6_undo 54 = .ok (.aload_n 1, 1) := by decide +kernel
theorem dX6_undo_55 : decode cX6_undo 55 = .ok (.aastore, 1) := by decide +kernel
theorem dX6_undo_56 : decode cX6_undo 56 = .ok (.aload_n 0, 1) := by decide +kernel
theorem dX6_undo_57 : decode cX6_undo 57 = .ok (.getfield 93, 3) := by decide +kernel
theorem dX6_undo_60 : decode cX6_undo 60 = .ok (.ireturn, 1) := by decide +kernel
set_option maxRecDepth 20000 in
theorem ggX6_save_X3_copyFrom : GoodIn wsX6_save wsX3_copyFrom := goodIn_ca (goodIn_rr _ [(9, 36), (56, 25)] rfl (by decide +kernel)) (goodIn_sub (fun _ h => List.mem_cons_of_mem _ (List.mem_append_right _ h)) (by decide +kernel))
set_option maxRecDepth 20000 in
theorem gX6_save_X3_copyFrom : GoodIn wsX6_save (wsV RX6 51 RX3 yX3_copyFrom wsX3_copyFrom) := goodIn_app (goodIn_of _ (by decide +kernel)) ggX6_save_X3_copyFrom
theorem dX6_save_0 : decode cX6_save 0 = .ok (.aload_n 0, 1) := by decide +kernel
theorem dX6_save_1 : decode cX6_save 1 = .ok (.getfield 19, 3) := by decide +kernel
theorem dX6_save_4 : decode cX6_save 4 = .ok (.aload_n 0, 1) := by decide +kernel
theorem dX6_save_5 : decode cX6_save 5 = .ok (.getfield 10, 3) := by decide +kernel
theorem dX6_save_8 : decode cX6_save 8 = .ok (.invokevirtual 51, 3) := by decide +kernel
theorem dX6_save_11 : decode cX6_save 11 = .ok (.aload_n 0, 1) := by decide +kernel
theorem dX6_save_12 : decode cX6_save 12 = .ok (.iconst 1, 1) := by decide +kernel
theorem dX6_save_13 : decode cX6_save 13 = .ok (.putfield 389, 3) := by decide +kernel
theorem dX6_save_16 : decode cX6_save 16 = .ok (.aload_n 0, 1) := by decide +kernel
theorem dX6_save_17 : decode cX6_save 17 = .ok (.getfield 10, 3) := by decide +kernel
theorem dX6_save_20 : decode cX6_save 20 = .ok (.getfield 126, 3) := by decide +kernel
theorem dX6_save_23 : decode cX6_save 23 = .ok (.ireturn, 1) := by decide +kernel
set_option maxRecDepth 20000 in
theorem ggX6_restore_X3_copyFrom : GoodIn wsX6_restore wsX3_copyFrom := goodIn_ca (goodIn_rr _ [(12, 36), (59, 25)] rfl (by decide +kernel)) (goodIn_sub (fun _ h => List.mem_cons_of_mem _ (List.mem_append_right _ h)) (by decide +kernel))
set_option maxRecDepth 20000 in
theorem gX6_restore_X3_copyFrom : GoodIn wsX6_restore (wsV RX6 51 RX3 yX3_copyFrom wsX3_copyFrom) := goodIn_app (goodIn_of _ (by decide +kernel)) ggX6_restore_X3_copyFrom
theorem dX6_restore_0 : decode cX6_restore 0 = .ok (.aload_n 0, 1) := by decide +kernel
theorem dX6_restore_1 : decode cX6_restore 1 = .ok (.getfield 389, 3) := by decide +kernel
theorem dX6_restore_4 : decode cX6_restore 4 = .ok (.ifCond .ne 14, 3) := by decide +kernel
theorem dX6_restore_7 : decode cX6_restore 7 = .ok (.new 111, 3) := by decide +kernel
theorem dX6_restore_10 : decode cX6_restore 10 = .ok (.dup, 1) := by decide +kernel
theorem dX6_restore_11 : decode cX6_restore 11 = .ok (.ldc_w 392, 3) := by decide +kernel
theorem dX6_restore_14 : decode cX6_restore 14 = .ok (.invokespecial 115, 3) := by decide +kernel
theorem dX6_restore_17 : decode cX6_restore 17 = .ok (.athrow, 1) := by decide +kernel
theorem dX6_restore_18 : decode cX6_restore 18 = .ok (.aload_n 0, 1) := by decide +kernel
theorem dX6_restore_19 : decode cX6_restore 19 = .ok (.getfield 10, 3) := by decide +kernel
theorem dX6_restore_22 : decode cX6_restore 22 = .ok (.aload_n 0, 1) := by decide +kernel
theorem dX6_restore_23 : decode cX6_restore 23 = .ok (.getfield 19, 3) := by decide +kernel
theorem dX6_restore_26 : decode cX6_restore 26 = .ok (.invokevirtual 51, 3) := by decide +kernel
theorem dX6_restore_29 : decode cX6_restore 29 = .ok (.aload_n 0, 1) := by decide +kernel
theorem dX6_restore_30 : decode cX6_restore 30 = .ok (.iconst 0, 1) := by decide +kernel
theorem dX6_restore_31 : decode cX6_restore 31 = .ok (.putfield 93, 3) := by decide +kernel
theorem dX6_restore_34 : decode cX6_restore 34 = .ok (.aload_n 0, 1) := by decide +kernel
theorem dX6_restore_35 : decode cX6_restore 35 = .ok (.getfield 10, 3) := by decide +kernel
theorem dX6_restore_38 : decode cX6_restore 38 = .ok (.getfield 126, 3) := by decide +kernel
theorem dX6_restore_41 : decode cX6_restore 41 = .ok (.ireturn, 1) := by decide +kernel
