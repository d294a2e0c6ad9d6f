set_option maxRecDepth 20000 in
theorem ggL_addCustomer_X6_addCustomer : GoodIn wsL_addCustomer wsX6_addCustomer := goodIn_ca (goodIn_ca (goodIn_ca (goodIn_ca (goodIn_ca (goodIn_ca (goodIn_rr _ [(6, 54), (5, 1), (60, 56)] rfl (by decide +kernel)) (goodIn_sub (fun _ h => List.mem_cons_of_mem _ (List.mem_append_left _ (List.mem_append_left _ (List.mem_append_left _ (List.mem_append_left _ (List.mem_append_left _ (List.mem_append_right _ h))))))) (by decide +kernel))) (goodIn_sub (fun _ h => List.mem_cons_of_mem _ (List.mem_append_left _ (List.mem_append_left _ (List.mem_append_left _ (List.mem_append_left _ (List.mem_append_right _ h)))))) (by decide +kernel))) (goodIn_sub (fun _ h => List.mem_cons_of_mem _ (List.mem_append_left _ (List.mem_append_left _ (List.mem_append_left _ (List.mem_append_right _ h))))) (by decide +kernel))) (goodIn_sub (fun _ h => List.mem_cons_of_mem _ (List.mem_append_left _ (List.mem_append_left _ (List.mem_append_right _ h)))) (by decide +kernel))) (goodIn_sub (fun _ h => List.mem_cons_of_mem _ (List.mem_append_left _ (List.mem_append_right _ h))) (by decide +kernel))) (goodIn_sub (fun _ h => List.mem_cons_of_mem _ (List.mem_append_right _ h)) (by decide +kernel))
set_option maxRecDepth 20000 in
theorem gL_addCustomer_X6_addCustomer : GoodIn wsL_addCustomer (wsV RL 7 RX6 yX6_addCustomer wsX6_addCustomer) := goodIn_app (goodIn_of _ (by decide +kernel)) ggL_addCustomer_X6_addCustomer
theorem dL_addCustomer_0 : decode cL_addCustomer 0 = .ok (.aload_n 2, 1) := by decide +kernel
theorem dL_addCustomer_1 : decode cL_addCustomer 1 = .ok (.iconst 0, 1) := by decide +kernel
theorem dL_addCustomer_2 : decode cL_addCustomer 2 = .ok (.aload_n 0, 1) := by decide +kernel
theorem dL_addCustomer_3 : decode cL_addCustomer 3 = .ok (.iload_n 1, 1) := by decide +kernel
theorem dL_addCustomer_4 : decode cL_addCustomer 4 = .ok (.invokevirtual 7, 3) := by decide +kernel
theorem dL_addCustomer_7 : decode cL_addCustomer 7 = .ok (.i2l, 1) := by decide +kernel
theorem dL_addCustomer_8 : decode cL_addCustomer 8 = .ok (.lastore, 1) := by decide +kernel
theorem dL_addCustomer_9 : decode cL_addCustomer 9 = .ok (.goto 9, 3) := by decide +kernel
theorem dL_addCustomer_12 : decode cL_addCustomer 12 = .ok (.astore_n 3, 1) := by decide +kernel
theorem dL_addCustomer_13 : decode cL_addCustomer 13 = .ok (.iconst 1, 1) := by decide +kernel
theorem dL_addCustomer_14 : decode cL_addCustomer 14 = .ok (.ireturn, 1) := by decide +kernel
theorem dL_addCustomer_15 : decode cL_addCustomer 15 = .ok (.astore_n 3, 1) := by decide +kernel
theorem dL_addCustomer_16 : decode cL_addCustomer 16 = .ok (.iconst 2, 1) := by decide +kernel
theorem dL_addCustomer_17 : decode cL_addCustomer 17 = .ok (.ireturn, 1) := by decide +kernel
theorem dL_addCustomer_18 : decode cL_addCustomer 18 = .ok (.iconst 0, 1) := by decide +kernel
theorem dL_addCustomer_19 : decode cL_addCustomer 19 = .ok (.ireturn, 1) := by decide +kernel
set_option maxRecDepth 20000 in
theorem ggL_openWindow_X6_openWindow : GoodIn wsL_openWindow wsX6_openWindow := goodIn_ca (goodIn_ca (goodIn_ca (goodIn_ca (goodIn_ca (goodIn_ca (goodIn_rr _ [(6, 63), (5, 1), (69, 56)] rfl (by decide +kernel)) (goodIn_sub (fun _ h => List.mem_cons_of_mem _ (List.mem_append_left _ (List.mem_append_left _ (List.mem_append_left _ (List.mem_append_left _ (List.mem_append_left _ (List.mem_append_right _ h))))))) (by decide +kernel))) (goodIn_sub (fun _ h => List.mem_cons_of_mem _ (List.mem_append_left _ (List.mem_append_left _ (List.mem_append_left _ (List.mem_append_left _ (List.mem_append_right _ h)))))) (by decide +kernel))) (goodIn_sub (fun _ h => List.mem_cons_of_mem _ (List.mem_append_left _ (List.mem_append_left _ (List.mem_append_left _ (List.mem_append_right _ h))))) (by decide +kernel))) (goodIn_sub (fun _ h => List.mem_cons_of_mem _ (List.mem_append_left _ (List.mem_append_left _ (List.mem_append_right _ h)))) (by decide +kernel))) (goodIn_sub (fun _ h => List.mem_cons_of_mem _ (List.mem_append_left _ (List.mem_append_right _ h))) (by decide +kernel))) (goodIn_sub (fun _ h => List.mem_cons_of_mem _ (List.mem_append_right _ h)) (by decide +kernel))
set_option maxRecDepth 20000 in
theorem gL_openWindow_X6_openWindow : GoodIn wsL_openWindow (wsV RL 17 RX6 yX6_openWindow wsX6_openWindow) := goodIn_app (goodIn_of _ (by decide +kernel)) ggL_openWindow_X6_openWindow
theorem dL_openWindow_0 : decode cL_openWindow 0 = .ok (.aload 4, 2) := by decide +kernel
theorem dL_openWindow_2 : decode cL_openWindow 2 = .ok (.iconst 0, 1) := by decide +kernel
theorem dL_openWindow_3 : decode cL_openWindow 3 = .ok (.aload_n 0, 1) := by decide +kernel
theorem dL_openWindow_4 : decode cL_openWindow 4 = .ok (.iload_n 1, 1) := by decide +kernel
theorem dL_openWindow_5 : decode cL_openWindow 5 = .ok (.iload_n 2, 1) := by decide +kernel
theorem dL_openWindow_6 : decode cL_openWindow 6 = .ok (.iload_n 3, 1) := by decide +kernel
theorem dL_openWindow_7 : decode cL_openWindow 7 = .ok (.invokevirtual 17, 3) := by decide +kernel
theorem dL_openWindow_10 : decode cL_openWindow 10 = .ok (.i2l, 1) := by decide +kernel
theorem dL_openWindow_11 : decode cL_openWindow 11 = .ok (.lastore, 1) := by decide +kernel
theorem dL_openWindow_12 : decode cL_openWindow 12 = .ok (.goto 15, 3) := by decide +kernel
theorem dL_openWindow_15 : decode cL_openWindow 15 = .ok (.astore 5, 2) := by decide +kernel
theorem dL_openWindow_17 : decode cL_openWindow 17 = .ok (.iconst 1, 1) := by decide +kernel
theorem dL_openWindow_18 : decode cL_openWindow 18 = .ok (.ireturn, 1) := by decide +kernel
theorem dL_openWindow_19 : decode cL_openWindow 19 = .ok (.astore 5, 2) := by decide +kernel
theorem dL_openWindow_21 : decode cL_openWindow 21 = .ok (.iconst 2, 1) := by decide +kernel
theorem dL_openWindow_22 : decode cL_openWindow 22 = .ok (.ireturn, 1) := by decide +kernel
theorem dL_openWindow_23 : decode cL_openWindow 23 = .ok (.astore 5, 2) := by decide +kernel
theorem dL_openWindow_25 : decode cL_openWindow 25 = .ok (.iconst 3, 1) := by decide +kernel
theorem dL_openWindow_26 : decode cL_openWindow 26 = .ok (.ireturn, 1) := by decide +kernel
theorem dL_openWindow_27 : decode cL_openWindow 27 = .ok (.iconst 0, 1) := by decide +kernel
theorem dL_openWindow_28 : decode cL_openWindow 28 = .ok (.ireturn, 1) := by decide +kernel
set_option maxRecDepth 20000 in
theorem ggL_closeWindow_X6_closeWindow : GoodIn wsL_closeWindow wsX6_closeWindow := goodIn_ca (goodIn_ca (goodIn_ca (goodIn_ca (goodIn_ca (goodIn_ca (goodIn_rr _ [(6, 71), (5, 1), (77, 56)] rfl (by decide +kernel)) (goodIn_sub (fun _ h => List.mem_cons_of_mem _ (List.mem_append_left _ (List.mem_append_left _ (List.mem_append_left _ (List.mem_append_left _ (List.mem_append_left _ (List.mem_append_right _ h))))))) (by decide +kernel))) (goodIn_sub (fun _ h => List.mem_cons_of_mem _ (List.mem_append_left _ (List.mem_append_left _ (List.mem_append_left _ (List.mem_append_left _ (List.mem_append_right _ h)))))) (by decide +kernel))) (goodIn_sub (fun _ h => List.mem_cons_of_mem _ (List.mem_append_left _ (List.mem_append_left _ (List.mem_append_left _ (List.mem_append_right _ h))))) (by decide +kernel))) (goodIn_sub (fun _ h => List.mem_cons_of_mem _ (List.mem_append_left _ (List.mem_append_left _ (List.mem_append_right _ h)))) (by decide +kernel))) (goodIn_sub (fun _ h => List.mem_cons_of_mem _ (List.mem_append_left _ (List.mem_append_right _ h))) (by decide +kernel))) (goodIn_sub (fun _ h => List.mem_cons_of_mem _ (List.mem_append_right _ h)) (by decide +kernel))
set_option maxRecDepth 20000 in
theorem gL_closeWindow_X6_closeWindow : GoodIn wsL_closeWindow (wsV RL 23 RX6 yX6_closeWindow wsX6_closeWindow) := goodIn_app (goodIn_of _ (by decide +kernel)) ggL_closeWindow_X6_closeWindow
theorem dL_closeWindow_0 : decode cL_closeWindow 0 = .ok (.aload_n 2, 1) := by decide +kernel
theorem dL_closeWindow_1 : decode cL_closeWindow 1 = .ok (.iconst 0, 1) := by decide +kernel
theorem dL_closeWindow_2 : decode cL_closeWindow 2 = .ok (.aload_n 0, 1) := by decide +kernel
theorem dL_closeWindow_3 : decode cL_closeWindow 3 = .ok (.iload_n 1, 1) := by decide +kernel
theorem dL_closeWindow_4 : decode cL_closeWindow 4 = .ok (.invokevirtual 23, 3) := by decide +kernel
theorem dL_closeWindow_7 : decode cL_closeWindow 7 = .ok (.i2l, 1) := by decide +kernel
theorem dL_closeWindow_8 : decode cL_closeWindow 8 = .ok (.lastore, 1) := by decide +kernel
theorem dL_closeWindow_9 : decode cL_closeWindow 9 = .ok (.goto 9, 3) := by decide +kernel
theorem dL_closeWindow_12 : decode cL_closeWindow 12 = .ok (.astore_n 3, 1) := by decide +kernel
theorem dL_closeWindow_13 : decode cL_closeWindow 13 = .ok (.iconst 1, 1) := by decide +kernel
theorem dL_closeWindow_14 : decode cL_closeWindow 14 = .ok (.ireturn, 1) := by decide +kernel
theorem dL_closeWindow_15 : decode cL_closeWindow 15 = .ok (.astore_n 3, 1) := by decide +kernel
theorem dL_closeWindow_16 : decode cL_closeWindow 16 = .ok (.iconst 2, 1) := by decide +kernel
theorem dL_closeWindow_17 : decode cL_closeWindow 17 = .ok (.ireturn, 1) := by decide +kernel
theorem dL_closeWindow_18 : decode cL_closeWindow 18 = .ok (.iconst 0, 1) := by decide +kernel
theorem dL_closeWindow_19 : decode cL_closeWindow 19 = .ok (.ireturn, 1) := by decide +kernel
set_option maxRecDepth 20000 in
theorem ggL_callNext_X6_callNext : GoodIn wsL_callNext wsX6_callNext := goodIn_ca (goodIn_ca (goodIn_ca (goodIn_ca (goodIn_ca (goodIn_ca (goodIn_rr _ [(6, 52), (5, 1), (58, 56)] rfl (by decide +kernel)) (goodIn_sub (fun _ h => List.mem_cons_of_mem _ (List.mem_append_left _ (List.mem_append_left _ (List.mem_append_left _ (List.mem_append_left _ (List.mem_append_left _ (List.mem_append_right _ h))))))) (by decide +kernel))) (goodIn_sub (fun _ h => List.mem_cons_of_mem _ (List.mem_append_left _ (List.mem_append_left _ (List.mem_append_left _ (List.mem_append_left _ (List.mem_append_right _ h)))))) (by decide +kernel))) (goodIn_sub (fun _ h => List.mem_cons_of_mem _ (List.mem_append_left _ (List.mem_append_left _ (List.mem_append_left _ (List.mem_append_right _ h))))) (by decide +kernel))) (goodIn_sub (fun _ h => List.mem_cons_of_mem _ (List.mem_append_left _ (List.mem_append_left _ (List.mem_append_right _ h)))) (by decide +kernel))) (goodIn_sub (fun _ h => List.mem_cons_of_mem _ (List.mem_append_left _ (List.mem_append_right _ h))) (by decide +kernel))) (goodIn_sub (fun _ h => List.mem_cons_of_mem _ (List.mem_append_right _ h)) (by decide +kernel))
set_option maxRecDepth 20000 in
theorem gL_callNext_X6_callNext : GoodIn wsL_callNext (wsV RL 26 RX6 yX6_callNext wsX6_callNext) := goodIn_app (goodIn_of _ (by decide +kernel)) ggL_callNext_X6_callNext
theorem dL_callNext_0 : decode cL_callNext 0 = .ok (.aload_n 1, 1) := by decide +kernel
theorem dL_callNext_1 : decode cL_callNext 1 = .ok (.iconst 0, 1) := by decide +kernel
theorem dL_callNext_2 : decode cL_callNext 2 = .ok (.aload_n 0, 1) := by decide +kernel
theorem dL_callNext_3 : decode cL_callNext 3 = .ok (.invokevirtual 26, 3) := by decide +kernel
theorem dL_callNext_6 : decode cL_callNext 6 = .ok (.i2l, 1) := by decide +kernel
theorem dL_callNext_7 : decode cL_callNext 7 = .ok (.lastore, 1) := by decide +kernel
theorem dL_callNext_8 : decode cL_callNext 8 = .ok (.goto 6, 3) := by decide +kernel
theorem dL_callNext_11 : decode cL_callNext 11 = .ok (.astore_n 2, 1) := by decide +kernel
theorem dL_callNext_12 : decode cL_callNext 12 = .ok (.iconst 1, 1) := by decide +kernel
theorem dL_callNext_13 : decode cL_callNext 13 = .ok (.ireturn, 1) := by decide +kernel
theorem dL_callNext_14 : decode cL_callNext 14 = .ok (.iconst 0, 1) := by decide +kernel
theorem dL_callNext_15 : decode cL_callNext 15 = .ok (.ireturn, 1) := by decide +kernel
set_option maxRecDepth 20000 in
theorem ggL_swap_X6_swap : GoodIn wsL_swap wsX6_swap := goodIn_ca (goodIn_ca (goodIn_ca (goodIn_ca (goodIn_ca (goodIn_ca (goodIn_rr _ [(6, 63), (5, 1), (69, 56)] rfl (by decide +kernel)) (goodIn_sub (fun _ h => List.mem_cons_of_mem _ (List.mem_append_left _ (List.mem_append_left _ (List.mem_append_left _ (List.mem_append_left _ (List.mem_append_left _ (List.mem_append_right _ h))))))) (by decide +kernel))) (goodIn_sub (fun _ h => List.mem_cons_of_mem _ (List.mem_append_left _ (List.mem_append_left _ (List.mem_append_left _ (List.mem_append_left _ (List.mem_append_right _ h)))))) (by decide +kernel))) (goodIn_sub (fun _ h => List.mem_cons_of_mem _ (List.mem_append_left _ (List.mem_append_left _ (List.mem_append_left _ (List.mem_append_right _ h))))) (by decide +kernel))) (goodIn_sub (fun _ h => List.mem_cons_of_mem _ (List.mem_append_left _ (List.mem_append_left _ (List.mem_append_right _ h)))) (by decide +kernel))) (goodIn_sub (fun _ h => List.mem_cons_of_mem _ (List.mem_append_left _ (List.mem_append_right _ h))) (by decide +kernel))) (goodIn_sub (fun _ h => List.mem_cons_of_mem _ (List.mem_append_right _ h)) (by decide +kernel))
set_option maxRecDepth 20000 in
theorem gL_swap_X6_swap : GoodIn wsL_swap (wsV RL 32 RX6 yX6_swap wsX6_swap) := goodIn_app (goodIn_of _ (by decide +kernel)) ggL_swap_X6_swap
theorem dL_swap_0 : decode cL_swap 0 = .ok (.aload_n 3, 1) := by decide +kernel
theorem dL_swap_1 : decode cL_swap 1 = .ok (.iconst 0, 1) := by decide +kernel
theorem dL_swap_2 : decode cL_swap 2 = .ok (.aload_n 0, 1) := by decide +kernel
theorem dL_swap_3 : decode cL_swap 3 = .ok (.iload_n 1, 1) := by decide +kernel
theorem dL_swap_4 : decode cL_swap 4 = .ok (.iload_n 2, 1) := by decide +kernel
theorem dL_swap_5 : decode cL_swap 5 = .ok (.invokevirtual 32, 3) := by decide +kernel
theorem dL_swap_8 : decode cL_swap 8 = .ok (.i2l, 1) := by decide +kernel
theorem dL_swap_9 : decode cL_swap 9 = .ok (.lastore, 1) := by decide +kernel
theorem dL_swap_10 : decode cL_swap 10 = .ok (.goto 19, 3) := by decide +kernel
theorem dL_swap_13 : decode cL_swap 13 = .ok (.astore 4, 2) := by decide +kernel
theorem dL_swap_15 : decode cL_swap 15 = .ok (.iconst 1, 1) := by decide +kernel
theorem dL_swap_16 : decode cL_swap 16 = .ok (.ireturn, 1) := by decide +kernel
theorem dL_swap_17 : decode cL_swap 17 = .ok (.astore 4, 2) := by decide +kernel
theorem dL_swap_19 : decode cL_swap 19 = .ok (.iconst 2, 1) := by decide +kernel
theorem dL_swap_20 : decode cL_swap 20 = .ok (.ireturn, 1) := by decide +kernel
theorem dL_swap_21 : decode cL_swap 21 = .ok (.astore 4, 2) := by decide +kernel
theorem dL_swap_23 : decode cL_swap 23 = .ok (.iconst 3, 1) := by decide +kernel
theorem dL_swap_24 : decode cL_swap 24 = .ok (.ireturn, 1) := by decide +kernel
theorem dL_swap_25 : decode cL_swap 25 = .ok (.astore 4, 2) := by decide +kernel
theorem dL_swap_27 : decode cL_swap 27 = .ok (.iconst 4, 1) := by decide +kernel
theorem dL_swap_28 : decode cL_swap 28 = .ok (.ireturn, 1) := by decide +kernel
theorem dL_swap_29 : decode cL_swap 29 = .ok (.iconst 0, 1) := by decide +kernel
theorem dL_swap_30 : decode cL_swap 30 = .ok (.ireturn, 1) := by decide +kernel
set_option maxRecDepth 20000 in
theorem ggL_sit_X6_sit : GoodIn wsL_sit wsX6_sit := goodIn_ca (goodIn_ca (goodIn_ca (goodIn_ca (goodIn_ca (goodIn_ca (goodIn_rr _ [(6, 64), (5, 1), (70, 56)] rfl (by decide +kernel)) (goodIn_sub (fun _ h => List.mem_cons_of_mem _ (List.mem_append_left _ (List.mem_append_left _ (List.mem_append_left _ (List.mem_append_left _ (List.mem_append_left _ (List.mem_append_right _ h))))))) (by decide +kernel))) (goodIn_sub (fun _ h => List.mem_cons_of_mem _ (List.mem_append_left _ (List.mem_append_left _ (List.mem_append_left _ (List.mem_append_left _ (List.mem_append_right _ h)))))) (by decide +kernel))) (goodIn_sub (fun _ h => List.mem_cons_of_mem _ (List.mem_append_left _ (List.mem_append_left _ (List.mem_append_left _ (List.mem_append_right _ h))))) (by decide +kernel))) (goodIn_sub (fun _ h => List.mem_cons_of_mem _ (List.mem_append_left _ (List.mem_append_left _ (List.mem_append_right _ h)))) (by decide +kernel))) (goodIn_sub (fun _ h => List.mem_cons_of_mem _ (List.mem_append_left _ (List.mem_append_right _ h))) (by decide +kernel))) (goodIn_sub (fun _ h => List.mem_cons_of_mem _ (List.mem_append_right _ h)) (by decide +kernel))
set_option maxRecDepth 20000 in
theorem gL_sit_X6_sit : GoodIn wsL_sit (wsV RL 38 RX6 yX6_sit wsX6_sit) := goodIn_app (goodIn_of _ (by decide +kernel)) ggL_sit_X6_sit
theorem dL_sit_0 : decode cL_sit 0 = .ok (.aload_n 2, 1) := by decide +kernel
theorem dL_sit_1 : decode cL_sit 1 = .ok (.iconst 0, 1) := by decide +kernel
theorem dL_sit_2 : decode cL_sit 2 = .ok (.aload_n 0, 1) := by decide +kernel
theorem dL_sit_3 : decode cL_sit 3 = .ok (.iload_n 1, 1) := by decide +kernel
theorem dL_sit_4 : decode cL_sit 4 = .ok (.invokevirtual 38, 3) := by decide +kernel
theorem dL_sit_7 : decode cL_sit 7 = .ok (.i2l, 1) := by decide +kernel
theorem dL_sit_8 : decode cL_sit 8 = .ok (.lastore, 1) := by decide +kernel
theorem dL_sit_9 : decode cL_sit 9 = .ok (.goto 12, 3) := by decide +kernel
theorem dL_sit_12 : decode cL_sit 12 = .ok (.astore_n 3, 1) := by decide +kernel
theorem dL_sit_13 : decode cL_sit 13 = .ok (.iconst 1, 1) := by decide +kernel
theorem dL_sit_14 : decode cL_sit 14 = .ok (.ireturn, 1) := by decide +kernel
theorem dL_sit_15 : decode cL_sit 15 = .ok (.astore_n 3, 1) := by decide +kernel
theorem dL_sit_16 : decode cL_sit 16 = .ok (.iconst 2, 1) := by decide +kernel
theorem dL_sit_17 : decode cL_sit 17 = .ok (.ireturn, 1) := by decide +kernel
theorem dL_sit_18 : decode cL_sit 18 = .ok (.astore_n 3, 1) := by decide +kernel
theorem dL_sit_19 : decode cL_sit 19 = .ok (.iconst 3, 1) := by decide +kernel
theorem dL_sit_20 : decode cL_sit 20 = .ok (.ireturn, 1) := by decide +kernel
theorem dL_sit_21 : decode cL_sit 21 = .ok (.iconst 0, 1) := by decide +kernel
theorem dL_sit_22 : decode cL_sit 22 = .ok (.ireturn, 1) := by decide +kernel
set_option maxRecDepth 20000 in
theorem ggL_standUp_X6_standUp : GoodIn wsL_standUp wsX6_standUp := goodIn_ca (goodIn_ca (goodIn_ca (goodIn_ca (goodIn_ca (goodIn_ca (goodIn_rr _ [(6, 59), (5, 1), (65, 56)] rfl (by decide +kernel)) (goodIn_sub (fun _ h => List.mem_cons_of_mem _ (List.mem_append_left _ (List.mem_append_left _ (List.mem_append_left _ (List.mem_append_left _ (List.mem_append_left _ (List.mem_append_right _ h))))))) (by decide +kernel))) (goodIn_sub (fun _ h => List.mem_cons_of_mem _ (List.mem_append_left _ (List.mem_append_left _ (List.mem_append_left _ (List.mem_append_left _ (List.mem_append_right _ h)))))) (by decide +kernel))) (goodIn_sub (fun _ h => List.mem_cons_of_mem _ (List.mem_append_left _ (List.mem_append_left _ (List.mem_append_left _ (List.mem_append_right _ h))))) (by decide +kernel))) (goodIn_sub (fun _ h => List.mem_cons_of_mem _ (List.mem_append_left _ (List.mem_append_left _ (List.mem_append_right _ h)))) (by decide +kernel))) (goodIn_sub (fun _ h => List.mem_cons_of_mem _ (List.mem_append_left _ (List.mem_append_right _ h))) (by decide +kernel))) (goodIn_sub (fun _ h => List.mem_cons_of_mem _ (List.mem_append_right _ h)) (by decide +kernel))
set_option maxRecDepth 20000 in
theorem gL_standUp_X6_standUp : GoodIn wsL_standUp (wsV RL 41 RX6 yX6_standUp wsX6_standUp) := goodIn_app (goodIn_of _ (by decide +kernel)) ggL_standUp_X6_standUp
theorem dL_standUp_0 : decode cL_standUp 0 = .ok (.aload_n 2, 1) := by decide +kernel
theorem dL_standUp_1 : decode cL_standUp 1 = .ok (.iconst 0, 1) := by decide +kernel
theorem dL_standUp_2 : decode cL_standUp 2 = .ok (.aload_n 0, 1) := by decide +kernel
theorem dL_standUp_3 : decode cL_standUp 3 = .ok (.iload_n 1, 1) := by decide +kernel
theorem dL_standUp_4 : decode cL_standUp 4 = .ok (.invokevirtual 41, 3) := by decide +kernel
theorem dL_standUp_7 : decode cL_standUp 7 = .ok (.i2l, 1) := by decide +kernel
theorem dL_standUp_8 : decode cL_standUp 8 = .ok (.lastore, 1) := by decide +kernel
theorem dL_standUp_9 : decode cL_standUp 9 = .ok (.goto 9, 3) := by decide +kernel
theorem dL_standUp_12 : decode cL_standUp 12 = .ok (.astore_n 3, 1) := by decide +kernel
theorem dL_standUp_13 : decode cL_standUp 13 = .ok (.iconst 1, 1) := by decide +kernel
theorem dL_standUp_14 : decode cL_standUp 14 = .ok (.ireturn, 1) := by decide +kernel
theorem dL_standUp_15 : decode cL_standUp 15 = .ok (.astore_n 3, 1) := by decide +kernel
theorem dL_standUp_16 : decode cL_standUp 16 = .ok (.iconst 2, 1) := by decide +kernel
theorem dL_standUp_17 : decode cL_standUp 17 = .ok (.ireturn, 1) := by decide +kernel
theorem dL_standUp_18 : decode cL_standUp 18 = .ok (.iconst 0, 1) := by decide +kernel
theorem dL_standUp_19 : decode cL_standUp 19 = .ok (.ireturn, 1) := by decide +kernel
set_option maxRecDepth 20000 in
theorem ggL_remove_X6_remove : GoodIn wsL_remove wsX6_remove := goodIn_ca (goodIn_ca (goodIn_ca (goodIn_ca (goodIn_ca (goodIn_ca (goodIn_rr _ [(6, 75), (5, 1), (81, 56)] rfl (by decide +kernel)) (goodIn_sub (fun _ h => List.mem_cons_of_mem _ (List.mem_append_left _ (List.mem_append_left _ (List.mem_append_left _ (List.mem_append_left _ (List.mem_append_left _ (List.mem_append_right _ h))))))) (by decide +kernel))) (goodIn_sub (fun _ h => List.mem_cons_of_mem _ (List.mem_append_left _ (List.mem_append_left _ (List.mem_append_left _ (List.mem_append_left _ (List.mem_append_right _ h)))))) (by decide +kernel))) (goodIn_sub (fun _ h => List.mem_cons_of_mem _ (List.mem_append_left _ (List.mem_append_left _ (List.mem_append_left _ (List.mem_append_right _ h))))) (by decide +kernel))) (goodIn_sub (fun _ h => List.mem_cons_of_mem _ (List.mem_append_left _ (List.mem_append_left _ (List.mem_append_right _ h)))) (by decide +kernel))) (goodIn_sub (fun _ h => List.mem_cons_of_mem _ (List.mem_append_left _ (List.mem_append_right _ h))) (by decide +kernel))) (goodIn_sub (fun _ h => List.mem_cons_of_mem _ (List.mem_append_right _ h)) (by decide +kernel))
set_option maxRecDepth 20000 in
theorem gL_remove_X6_remove : GoodIn wsL_remove (wsV RL 44 RX6 yX6_remove wsX6_remove) := goodIn_app (goodIn_of _ (by decide +kernel)) ggL_remove_X6_remove
theorem dL_remove_0 : decode cL_remove 0 = .ok (.aload_n 2, 1) := by decide +kernel
theorem dL_remove_1 : decode cL_remove 1 = .ok (.iconst 0, 1) := by decide +kernel
theorem dL_remove_2 : decode cL_remove 2 = .ok (.aload_n 0, 1) := by decide +kernel
theorem dL_remove_3 : decode cL_remove 3 = .ok (.iload_n 1, 1) := by decide +kernel
theorem dL_remove_4 : decode cL_remove 4 = .ok (.invokevirtual 44, 3) := by decide +kernel
theorem dL_remove_7 : decode cL_remove 7 = .ok (.i2l, 1) := by decide +kernel
theorem dL_remove_8 : decode cL_remove 8 = .ok (.lastore, 1) := by decide +kernel
theorem dL_remove_9 : decode cL_remove 9 = .ok (.goto 6, 3) := by decide +kernel
theorem dL_remove_12 : decode cL_remove 12 = .ok (.astore_n 3, 1) := by decide +kernel
theorem dL_remove_13 : decode cL_remove 13 = .ok (.iconst 1, 1) := by decide +kernel
theorem dL_remove_14 : decode cL_remove 14 = .ok (.ireturn, 1) := by decide +kernel
theorem dL_remove_15 : decode cL_remove 15 = .ok (.iconst 0, 1) := by decide +kernel
theorem dL_remove_16 : decode cL_remove 16 = .ok (.ireturn, 1) := by decide +kernel
set_option maxRecDepth 20000 in
theorem ggL_advance_X6_advance : GoodIn wsL_advance wsX6_advance := goodIn_ca (goodIn_ca (goodIn_ca (goodIn_ca (goodIn_ca (goodIn_ca (goodIn_rr _ [(6, 122), (5, 1), (128, 56)] rfl (by decide +kernel)) (goodIn_sub (fun _ h => List.mem_cons_of_mem _ (List.mem_append_left _ (List.mem_append_left _ (List.mem_append_left _ (List.mem_append_left _ (List.mem_append_left _ (List.mem_append_right _ h))))))) (by decide +kernel))) (goodIn_sub (fun _ h => List.mem_cons_of_mem _ (List.mem_append_left _ (List.mem_append_left _ (List.mem_append_left _ (List.mem_append_left _ (List.mem_append_right _ h)))))) (by decide +kernel))) (goodIn_sub (fun _ h => List.mem_cons_of_mem _ (List.mem_append_left _ (List.mem_append_left _ (List.mem_append_left _ (List.mem_append_right _ h))))) (by decide +kernel))) (goodIn_sub (fun _ h => List.mem_cons_of_mem _ (List.mem_append_left _ (List.mem_append_left _ (List.mem_append_right _ h)))) (by decide +kernel))) (goodIn_sub (fun _ h => List.mem_cons_of_mem _ (List.mem_append_left _ (List.mem_append_right _ h))) (by decide +kernel))) (goodIn_sub (fun _ h => List.mem_cons_of_mem _ (List.mem_append_right _ h)) (by decide +kernel))
set_option maxRecDepth 20000 in
theorem gL_advance_X6_advance : GoodIn wsL_advance (wsV RL 47 RX6 yX6_advance wsX6_advance) := goodIn_app (goodIn_of _ (by decide +kernel)) ggL_advance_X6_advance
theorem dL_advance_0 : decode cL_advance 0 = .ok (.aload_n 2, 1) := by decide +kernel
theorem dL_advance_1 : decode cL_advance 1 = .ok (.iconst 0, 1) := by decide +kernel
theorem dL_advance_2 : decode cL_advance 2 = .ok (.aload_n 0, 1) := by decide +kernel
theorem dL_advance_3 : decode cL_advance 3 = .ok (.iload_n 1, 1) := by decide +kernel
theorem dL_advance_4 : decode cL_advance 4 = .ok (.invokevirtual 47, 3) := by decide +kernel
theorem dL_advance_7 : decode cL_advance 7 = .ok (.i2l, 1) := by decide +kernel
theorem dL_advance_8 : decode cL_advance 8 = .ok (.lastore, 1) := by decide +kernel
theorem dL_advance_9 : decode cL_advance 9 = .ok (.goto 6, 3) := by decide +kernel
theorem dL_advance_12 : decode cL_advance 12 = .ok (.astore_n 3, 1) := by decide +kernel
theorem dL_advance_13 : decode cL_advance 13 = .ok (.iconst 1, 1) := by decide +kernel
theorem dL_advance_14 : decode cL_advance 14 = .ok (.ireturn, 1) := by decide +kernel
theorem dL_advance_15 : decode cL_advance 15 = .ok (.iconst 0, 1) := by decide +kernel
theorem dL_advance_16 : decode cL_advance 16 = .ok (.ireturn, 1) := by decide +kernel
set_option maxRecDepth 20000 in
theorem ggL_ticket_X6_ticket : GoodIn wsL_ticket wsX6_ticket := goodIn_ca (goodIn_rr _ [(6, 7), (5, 1), (13, 41)] rfl (by decide +kernel)) (goodIn_sub (fun _ h => List.mem_cons_of_mem _ (List.mem_append_right _ h)) (by decide +kernel))
set_option maxRecDepth 20000 in
theorem gL_ticket_X6_ticket : GoodIn wsL_ticket (wsV RL 50 RX6 yX6_ticket wsX6_ticket) := goodIn_app (goodIn_of _ (by decide +kernel)) ggL_ticket_X6_ticket
theorem dL_ticket_0 : decode cL_ticket 0 = .ok (.aload_n 2, 1) := by decide +kernel
theorem dL_ticket_1 : decode cL_ticket 1 = .ok (.iconst 0, 1) := by decide +kernel
theorem dL_ticket_2 : decode cL_ticket 2 = .ok (.aload_n 0, 1) := by decide +kernel
theorem dL_ticket_3 : decode cL_ticket 3 = .ok (.iload_n 1, 1) := by decide +kernel
theorem dL_ticket_4 : decode cL_ticket 4 = .ok (.invokevirtual 50, 3) := by decide +kernel
theorem dL_ticket_7 : decode cL_ticket 7 = .ok (.i2l, 1) := by decide +kernel
theorem dL_ticket_8 : decode cL_ticket 8 = .ok (.lastore, 1) := by decide +kernel
theorem dL_ticket_9 : decode cL_ticket 9 = .ok (.goto 6, 3) := by decide +kernel
theorem dL_ticket_12 : decode cL_ticket 12 = .ok (.astore_n 3, 1) := by decide +kernel
theorem dL_ticket_13 : decode cL_ticket 13 = .ok (.iconst 1, 1) := by decide +kernel
theorem dL_ticket_14 : decode cL_ticket 14 = .ok (.ireturn, 1) := by decide +kernel
theorem dL_ticket_15 : decode cL_ticket 15 = .ok (.iconst 0, 1) := by decide +kernel
theorem dL_ticket_16 : decode cL_ticket 16 = .ok (.ireturn, 1) := by decide +kernel
set_option maxRecDepth 20000 in
theorem ggL_patience_X6_patience : GoodIn wsL_patience wsX6_patience := goodIn_ca (goodIn_rr _ [(6, 7), (5, 1), (13, 41)] rfl (by decide +kernel)) (goodIn_sub (fun _ h => List.mem_cons_of_mem _ (List.mem_append_right _ h)) (by decide +kernel))
set_option maxRecDepth 20000 in
theorem gL_patience_X6_patience : GoodIn wsL_patience (wsV RL 53 RX6 yX6_patience wsX6_patience) := goodIn_app (goodIn_of _ (by decide +kernel)) ggL_patience_X6_patience
theorem dL_patience_0 : decode cL_patience 0 = .ok (.aload_n 2, 1) := by decide +kernel
theorem dL_patience_1 : decode cL_patience 1 = .ok (.iconst 0, 1) := by decide +kernel
theorem dL_patience_2 : decode cL_patience 2 = .ok (.aload_n 0, 1) := by decide +kernel
theorem dL_patience_3 : decode cL_patience 3 = .ok (.iload_n 1, 1) := by decide +kernel
theorem dL_patience_4 : decode cL_patience 4 = .ok (.invokevirtual 53, 3) := by decide +kernel
theorem dL_patience_7 : decode cL_patience 7 = .ok (.i2l, 1) := by decide +kernel
theorem dL_patience_8 : decode cL_patience 8 = .ok (.lastore, 1) := by decide +kernel
theorem dL_patience_9 : decode cL_patience 9 = .ok (.goto 6, 3) := by decide +kernel
theorem dL_patience_12 : decode cL_patience 12 = .ok (.astore_n 3, 1) := by decide +kernel
theorem dL_patience_13 : decode cL_patience 13 = .ok (.iconst 1, 1) := by decide +kernel
theorem dL_patience_14 : decode cL_patience 14 = .ok (.ireturn, 1) := by decide +kernel
theorem dL_patience_15 : decode cL_patience 15 = .ok (.iconst 0, 1) := by decide +kernel
theorem dL_patience_16 : decode cL_patience 16 = .ok (.ireturn, 1) := by decide +kernel
set_option maxRecDepth 20000 in
theorem ggL_sighs_X6_sighs : GoodIn wsL_sighs wsX6_sighs := goodIn_ca (goodIn_rr _ [(6, 7), (5, 1), (13, 41)] rfl (by decide +kernel)) (goodIn_sub (fun _ h => List.mem_cons_of_mem _ (List.mem_append_right _ h)) (by decide +kernel))
set_option maxRecDepth 20000 in
theorem gL_sighs_X6_sighs : GoodIn wsL_sighs (wsV RL 56 RX6 yX6_sighs wsX6_sighs) := goodIn_app (goodIn_of _ (by decide +kernel)) ggL_sighs_X6_sighs
theorem dL_sighs_0 : decode cL_sighs 0 = .ok (.aload_n 2, 1) := by decide +kernel
theorem dL_sighs_1 : decode cL_sighs 1 = .ok (.iconst 0, 1) := by decide +kernel
theorem dL_sighs_2 : decode cL_sighs 2 = .ok (.aload_n 0, 1) := by decide +kernel
theorem dL_sighs_3 : decode cL_sighs 3 = .ok (.iload_n 1, 1) := by decide +kernel
theorem dL_sighs_4 : decode cL_sighs 4 = .ok (.invokevirtual 56, 3) := by decide +kernel
theorem dL_sighs_7 : decode cL_sighs 7 = .ok (.i2l, 1) := by decide +kernel
theorem dL_sighs_8 : decode cL_sighs 8 = .ok (.lastore, 1) := by decide +kernel
theorem dL_sighs_9 : decode cL_sighs 9 = .ok (.goto 6, 3) := by decide +kernel
theorem dL_sighs_12 : decode cL_sighs 12 = .ok (.astore_n 3, 1) := by decide +kernel
theorem dL_sighs_13 : decode cL_sighs 13 = .ok (.iconst 1, 1) := by decide +kernel
theorem dL_sighs_14 : decode cL_sighs 14 = .ok (.ireturn, 1) := by decide +kernel
theorem dL_sighs_15 : decode cL_sighs 15 = .ok (.iconst 0, 1) := by decide +kernel
theorem dL_sighs_16 : decode cL_sighs 16 = .ok (.ireturn, 1) := by decide +kernel
set_option maxRecDepth 20000 in
theorem ggL_ache_X6_ache : GoodIn wsL_ache wsX6_ache := goodIn_ca (goodIn_rr _ [(6, 7), (5, 1), (13, 41)] rfl (by decide +kernel)) (goodIn_sub (fun _ h => List.mem_cons_of_mem _ (List.mem_append_right _ h)) (by decide +kernel))
set_option maxRecDepth 20000 in
theorem gL_ache_X6_ache : GoodIn wsL_ache (wsV RL 59 RX6 yX6_ache wsX6_ache) := goodIn_app (goodIn_of _ (by decide +kernel)) ggL_ache_X6_ache
theorem dL_ache_0 : decode cL_ache 0 = .ok (.aload_n 2, 1) := by decide +kernel
theorem dL_ache_1 : decode cL_ache 1 = .ok (.iconst 0, 1) := by decide +kernel
theorem dL_ache_2 : decode cL_ache 2 = .ok (.aload_n 0, 1) := by decide +kernel
theorem dL_ache_3 : decode cL_ache 3 = .ok (.iload_n 1, 1) := by decide +kernel
theorem dL_ache_4 : decode cL_ache 4 = .ok (.invokevirtual 59, 3) := by decide +kernel
theorem dL_ache_7 : decode cL_ache 7 = .ok (.i2l, 1) := by decide +kernel
theorem dL_ache_8 : decode cL_ache 8 = .ok (.lastore, 1) := by decide +kernel
theorem dL_ache_9 : decode cL_ache 9 = .ok (.goto 6, 3) := by decide +kernel
theorem dL_ache_12 : decode cL_ache 12 = .ok (.astore_n 3, 1) := by decide +kernel
theorem dL_ache_13 : decode cL_ache 13 = .ok (.iconst 1, 1) := by decide +kernel
theorem dL_ache_14 : decode cL_ache 14 = .ok (.ireturn, 1) := by decide +kernel
theorem dL_ache_15 : decode cL_ache 15 = .ok (.iconst 0, 1) := by decide +kernel
theorem dL_ache_16 : decode cL_ache 16 = .ok (.ireturn, 1) := by decide +kernel
set_option maxRecDepth 20000 in
theorem ggL_waitingTime_X6_waitingTime : GoodIn wsL_waitingTime wsX6_waitingTime := goodIn_ca (goodIn_rr _ [(6, 7), (5, 1), (13, 41)] rfl (by decide +kernel)) (goodIn_sub (fun _ h => List.mem_cons_of_mem _ (List.mem_append_right _ h)) (by decide +kernel))
set_option maxRecDepth 20000 in
theorem gL_waitingTime_X6_waitingTime : GoodIn wsL_waitingTime (wsV RL 62 RX6 yX6_waitingTime wsX6_waitingTime) := goodIn_app (goodIn_of _ (by decide +kernel)) ggL_waitingTime_X6_waitingTime
theorem dL_waitingTime_0 : decode cL_waitingTime 0 = .ok (.aload_n 2, 1) := by decide +kernel
theorem dL_waitingTime_1 : decode cL_waitingTime 1 = .ok (.iconst 0, 1) := by decide +kernel
theorem dL_waitingTime_2 : decode cL_waitingTime 2 = .ok (.aload_n 0, 1) := by decide +kernel
theorem dL_waitingTime_3 : decode cL_waitingTime 3 = .ok (.iload_n 1, 1) := by decide +kernel
theorem dL_waitingTime_4 : decode cL_waitingTime 4 = .ok (.invokevirtual 62, 3) := by decide +kernel
theorem dL_waitingTime_7 : decode cL_waitingTime 7 = .ok (.i2l, 1) := by decide +kernel
theorem dL_waitingTime_8 : decode cL_waitingTime 8 = .ok (.lastore, 1) := by decide +kernel
theorem dL_waitingTime_9 : decode cL_waitingTime 9 = .ok (.goto 6, 3) := by decide +kernel
theorem dL_waitingTime_12 : decode cL_waitingTime 12 = .ok (.astore_n 3, 1) := by decide +kernel
theorem dL_waitingTime_13 : decode cL_waitingTime 13 = .ok (.iconst 1, 1) := by decide +kernel
theorem dL_waitingTime_14 : decode cL_waitingTime 14 = .ok (.ireturn, 1) := by decide +kernel
theorem dL_waitingTime_15 : decode cL_waitingTime 15 = .ok (.iconst 0, 1) := by decide +kernel
theorem dL_waitingTime_16 : decode cL_waitingTime 16 = .ok (.ireturn, 1) := by decide +kernel
set_option maxRecDepth 20000 in
theorem ggL_isCalled_X6_isCalled : GoodIn wsL_isCalled wsX6_isCalled := goodIn_ca (goodIn_rr _ [(6, 7), (5, 1), (13, 41)] rfl (by decide +kernel)) (goodIn_sub (fun _ h => List.mem_cons_of_mem _ (List.mem_append_right _ h)) (by decide +kernel))
set_option maxRecDepth 20000 in
theorem gL_isCalled_X6_isCalled : GoodIn wsL_isCalled (wsV RL 65 RX6 yX6_isCalled wsX6_isCalled) := goodIn_app (goodIn_of _ (by decide +kernel)) ggL_isCalled_X6_isCalled
theorem dL_isCalled_0 : decode cL_isCalled 0 = .ok (.aload_n 2, 1) := by decide +kernel
theorem dL_isCalled_1 : decode cL_isCalled 1 = .ok (.iconst 0, 1) := by decide +kernel
theorem dL_isCalled_2 : decode cL_isCalled 2 = .ok (.aload_n 0, 1) := by decide +kernel
theorem dL_isCalled_3 : decode cL_isCalled 3 = .ok (.iload_n 1, 1) := by decide +kernel
theorem dL_isCalled_4 : decode cL_isCalled 4 = .ok (.invokevirtual 65, 3) := by decide +kernel
theorem dL_isCalled_7 : decode cL_isCalled 7 = .ok (.ifCond .eq 7, 3) := by decide +kernel
theorem dL_isCalled_10 : decode cL_isCalled 10 = .ok (.lconst 1, 1) := by decide +kernel
theorem dL_isCalled_11 : decode cL_isCalled 11 = .ok (.goto 4, 3) := by decide +kernel
theorem dL_isCalled_14 : decode cL_isCalled 14 = .ok (.lconst 0, 1) := by decide +kernel
theorem dL_isCalled_15 : decode cL_isCalled 15 = .ok (.lastore, 1) := by decide +kernel
theorem dL_isCalled_16 : decode cL_isCalled 16 = .ok (.goto 6, 3) := by decide +kernel
theorem dL_isCalled_19 : decode cL_isCalled 19 = .ok (.astore_n 3, 1) := by decide +kernel
theorem dL_isCalled_20 : decode cL_isCalled 20 = .ok (.iconst 1, 1) := by decide +kernel
theorem dL_isCalled_21 : decode cL_isCalled 21 = .ok (.ireturn, 1) := by decide +kernel
theorem dL_isCalled_22 : decode cL_isCalled 22 = .ok (.iconst 0, 1) := by decide +kernel
theorem dL_isCalled_23 : decode cL_isCalled 23 = .ok (.ireturn, 1) := by decide +kernel
set_option maxRecDepth 20000 in
theorem ggL_isSitting_X6_isSitting : GoodIn wsL_isSitting wsX6_isSitting := goodIn_ca (goodIn_rr _ [(6, 7), (5, 1), (13, 41)] rfl (by decide +kernel)) (goodIn_sub (fun _ h => List.mem_cons_of_mem _ (List.mem_append_right _ h)) (by decide +kernel))
set_option maxRecDepth 20000 in
theorem gL_isSitting_X6_isSitting : GoodIn wsL_isSitting (wsV RL 69 RX6 yX6_isSitting wsX6_isSitting) := goodIn_app (goodIn_of _ (by decide +kernel)) ggL_isSitting_X6_isSitting
theorem dL_isSitting_0 : decode cL_isSitting 0 = .ok (.aload_n 2, 1) := by decide +kernel
theorem dL_isSitting_1 : decode cL_isSitting 1 = .ok (.iconst 0, 1) := by decide +kernel
theorem dL_isSitting_2 : decode cL_isSitting 2 = .ok (.aload_n 0, 1) := by decide +kernel
theorem dL_isSitting_3 : decode cL_isSitting 3 = .ok (.iload_n 1, 1) := by decide +kernel
theorem dL_isSitting_4 : decode cL_isSitting 4 = .ok (.invokevirtual 69, 3) := by decide +kernel
theorem dL_isSitting_7 : decode cL_isSitting 7 = .ok (.ifCond .eq 7, 3) := by decide +kernel
theorem dL_isSitting_10 : decode cL_isSitting 10 = .ok (.lconst 1, 1) := by decide +kernel
theorem dL_isSitting_11 : decode cL_isSitting 11 = .ok (.goto 4, 3) := by decide +kernel
theorem dL_isSitting_14 : decode cL_isSitting 14 = .ok (.lconst 0, 1) := by decide +kernel
theorem dL_isSitting_15 : decode cL_isSitting 15 = .ok (.lastore, 1) := by decide +kernel
theorem dL_isSitting_16 : decode cL_isSitting 16 = .ok (.goto 6, 3) := by decide +kernel
theorem dL_isSitting_19 : decode cL_isSitting 19 = .ok (.astore_n 3, 1) := by decide +kernel
theorem dL_isSitting_20 : decode cL_isSitting 20 = .ok (.iconst 1, 1) := by decide +kernel
theorem dL_isSitting_21 : decode cL_isSitting 21 = .ok (.ireturn, 1) := by decide +kernel
theorem dL_isSitting_22 : decode cL_isSitting 22 = .ok (.iconst 0, 1) := by decide +kernel
theorem dL_isSitting_23 : decode cL_isSitting 23 = .ok (.ireturn, 1) := by decide +kernel
set_option maxRecDepth 20000 in
theorem ggL_position_X6_position : GoodIn wsL_position wsX6_position := goodIn_ca (goodIn_ca (goodIn_ca (goodIn_rr _ [(6, 7), (5, 1), (13, 40)] rfl (by decide +kernel)) (goodIn_sub (fun _ h => List.mem_cons_of_mem _ (List.mem_append_left _ (List.mem_append_right _ h))) (by decide +kernel))) (goodIn_sub (fun _ h => List.mem_cons_of_mem _ (List.mem_append_right _ h)) (by decide +kernel))) (goodIn_sub (fun _ h => List.mem_cons_of_mem _ (List.mem_append_left _ (List.mem_append_left _ (List.mem_append_right _ h)))) (by decide +kernel))
set_option maxRecDepth 20000 in
theorem gL_position_X6_position : GoodIn wsL_position (wsV RL 72 RX6 yX6_position wsX6_position) := goodIn_app (goodIn_of _ (by decide +kernel)) ggL_position_X6_position
theorem dL_position_0 : decode cL_position 0 = .ok (.aload_n 2, 1) := by decide +kernel
theorem dL_position_1 : decode cL_position 1 = .ok (.iconst 0, 1) := by decide +kernel
theorem dL_position_2 : decode cL_position 2 = .ok (.aload_n 0, 1) := by decide +kernel
theorem dL_position_3 : decode cL_position 3 = .ok (.iload_n 1, 1) := by decide +kernel
theorem dL_position_4 : decode cL_position 4 = .ok (.invokevirtual 72, 3) := by decide +kernel
theorem dL_position_7 : decode cL_position 7 = .ok (.i2l, 1) := by decide +kernel
theorem dL_position_8 : decode cL_position 8 = .ok (.lastore, 1) := by decide +kernel
theorem dL_position_9 : decode cL_position 9 = .ok (.goto 9, 3) := by decide +kernel
theorem dL_position_12 : decode cL_position 12 = .ok (.astore_n 3, 1) := by decide +kernel
theorem dL_position_13 : decode cL_position 13 = .ok (.iconst 1, 1) := by decide +kernel
theorem dL_position_14 : decode cL_position 14 = .ok (.ireturn, 1) := by decide +kernel
theorem dL_position_15 : decode cL_position 15 = .ok (.astore_n 3, 1) := by decide +kernel
theorem dL_position_16 : decode cL_position 16 = .ok (.iconst 2, 1) := by decide +kernel
theorem dL_position_17 : decode cL_position 17 = .ok (.ireturn, 1) := by decide +kernel
theorem dL_position_18 : decode cL_position 18 = .ok (.iconst 0, 1) := by decide +kernel
theorem dL_position_19 : decode cL_position 19 = .ok (.ireturn, 1) := by decide +kernel
set_option maxRecDepth 20000 in
theorem ggL_windowOfCustomer_X6_windowOfCustomer : GoodIn wsL_windowOfCustomer wsX6_windowOfCustomer := goodIn_ca (goodIn_ca (goodIn_rr _ [(6, 7), (5, 1), (13, 44)] rfl (by decide +kernel)) (goodIn_sub (fun _ h => List.mem_cons_of_mem _ (List.mem_append_left _ (List.mem_append_right _ h))) (by decide +kernel))) (goodIn_sub (fun _ h => List.mem_cons_of_mem _ (List.mem_append_right _ h)) (by decide +kernel))
set_option maxRecDepth 20000 in
theorem gL_windowOfCustomer_X6_windowOfCustomer : GoodIn wsL_windowOfCustomer (wsV RL 75 RX6 yX6_windowOfCustomer wsX6_windowOfCustomer) := goodIn_app (goodIn_of _ (by decide +kernel)) ggL_windowOfCustomer_X6_windowOfCustomer
theorem dL_windowOfCustomer_0 : decode cL_windowOfCustomer 0 = .ok (.aload_n 2, 1) := by decide +kernel
theorem dL_windowOfCustomer_1 : decode cL_windowOfCustomer 1 = .ok (.iconst 0, 1) := by decide +kernel
theorem dL_windowOfCustomer_2 : decode cL_windowOfCustomer 2 = .ok (.aload_n 0, 1) := by decide +kernel
theorem dL_windowOfCustomer_3 : decode cL_windowOfCustomer 3 = .ok (.iload_n 1, 1) := by decide +kernel
theorem dL_windowOfCustomer_4 : decode cL_windowOfCustomer 4 = .ok (.invokevirtual 75, 3) := by decide +kernel
theorem dL_windowOfCustomer_7 : decode cL_windowOfCustomer 7 = .ok (.i2l, 1) := by decide +kernel
theorem dL_windowOfCustomer_8 : decode cL_windowOfCustomer 8 = .ok (.lastore, 1) := by decide +kernel
theorem dL_windowOfCustomer_9 : decode cL_windowOfCustomer 9 = .ok (.goto 9, 3) := by decide +kernel
theorem dL_windowOfCustomer_12 : decode cL_windowOfCustomer 12 = .ok (.astore_n 3, 1) := by decide +kernel
theorem dL_windowOfCustomer_13 : decode cL_windowOfCustomer 13 = .ok (.iconst 1, 1) := by decide +kernel
theorem dL_windowOfCustomer_14 : decode cL_windowOfCustomer 14 = .ok (.ireturn, 1) := by decide +kernel
theorem dL_windowOfCustomer_15 : decode cL_windowOfCustomer 15 = .ok (.astore_n 3, 1) := by decide +kernel
theorem dL_windowOfCustomer_16 : decode cL_windowOfCustomer 16 = .ok (.iconst 2, 1) := by decide +kernel
theorem dL_windowOfCustomer_17 : decode cL_windowOfCustomer 17 = .ok (.ireturn, 1) := by decide +kernel
theorem dL_windowOfCustomer_18 : decode cL_windowOfCustomer 18 = .ok (.iconst 0, 1) := by decide +kernel
theorem dL_windowOfCustomer_19 : decode cL_windowOfCustomer 19 = .ok (.ireturn, 1) := by decide +kernel
set_option maxRecDepth 20000 in
theorem ggL_customerAtPosition_X6_customerAtPosition : GoodIn wsL_customerAtPosition wsX6_customerAtPosition := goodIn_ca (goodIn_ca (goodIn_rr _ [(6, 31)] rfl (by decide +kernel)) (goodIn_sub (fun _ h => List.mem_cons_of_mem _ (List.mem_append_right _ h)) (by decide +kernel))) (goodIn_sub (fun _ h => List.mem_cons_of_mem _ (List.mem_append_left _ (List.mem_append_right _ h))) (by decide +kernel))
set_option maxRecDepth 20000 in
theorem gL_customerAtPosition_X6_customerAtPosition : GoodIn wsL_customerAtPosition (wsV RL 78 RX6 yX6_customerAtPosition wsX6_customerAtPosition) := goodIn_app (goodIn_of _ (by decide +kernel)) ggL_customerAtPosition_X6_customerAtPosition
theorem dL_customerAtPosition_0 : decode cL_customerAtPosition 0 = .ok (.aload_n 2, 1) := by decide +kernel
theorem dL_customerAtPosition_1 : decode cL_customerAtPosition 1 = .ok (.iconst 0, 1) := by decide +kernel
theorem dL_customerAtPosition_2 : decode cL_customerAtPosition 2 = .ok (.aload_n 0, 1) := by decide +kernel
theorem dL_customerAtPosition_3 : decode cL_customerAtPosition 3 = .ok (.iload_n 1, 1) := by decide +kernel
theorem dL_customerAtPosition_4 : decode cL_customerAtPosition 4 = .ok (.invokevirtual 78, 3) := by decide +kernel
theorem dL_customerAtPosition_7 : decode cL_customerAtPosition 7 = .ok (.i2l, 1) := by decide +kernel
theorem dL_customerAtPosition_8 : decode cL_customerAtPosition 8 = .ok (.lastore, 1) := by decide +kernel
theorem dL_customerAtPosition_9 : decode cL_customerAtPosition 9 = .ok (.goto 6, 3) := by decide +kernel
theorem dL_customerAtPosition_12 : decode cL_customerAtPosition 12 = .ok (.astore_n 3, 1) := by decide +kernel
theorem dL_customerAtPosition_13 : decode cL_customerAtPosition 13 = .ok (.iconst 1, 1) := by decide +kernel
theorem dL_customerAtPosition_14 : decode cL_customerAtPosition 14 = .ok (.ireturn, 1) := by decide +kernel
theorem dL_customerAtPosition_15 : decode cL_customerAtPosition 15 = .ok (.iconst 0, 1) := by decide +kernel
theorem dL_customerAtPosition_16 : decode cL_customerAtPosition 16 = .ok (.ireturn, 1) := by decide +kernel
set_option maxRecDepth 20000 in
theorem ggL_openingTimeLeft_X6_openingTimeLeft : GoodIn wsL_openingTimeLeft wsX6_openingTimeLeft := goodIn_ca (goodIn_rr _ [(6, 6), (5, 1), (12, 36)] rfl (by decide +kernel)) (goodIn_sub (fun _ h => List.mem_cons_of_mem _ (List.mem_append_right _ h)) (by decide +kernel))
set_option maxRecDepth 20000 in
theorem gL_openingTimeLeft_X6_openingTimeLeft : GoodIn wsL_openingTimeLeft (wsV RL 81 RX6 yX6_openingTimeLeft wsX6_openingTimeLeft) := goodIn_app (goodIn_of _ (by decide +kernel)) ggL_openingTimeLeft_X6_openingTimeLeft
theorem dL_openingTimeLeft_0 : decode cL_openingTimeLeft 0 = .ok (.aload_n 2, 1) := by decide +kernel
theorem dL_openingTimeLeft_1 : decode cL_openingTimeLeft 1 = .ok (.iconst 0, 1) := by decide +kernel
theorem dL_openingTimeLeft_2 : decode cL_openingTimeLeft 2 = .ok (.aload_n 0, 1) := by decide +kernel
theorem dL_openingTimeLeft_3 : decode cL_openingTimeLeft 3 = .ok (.iload_n 1, 1) := by decide +kernel
theorem dL_openingTimeLeft_4 : decode cL_openingTimeLeft 4 = .ok (.invokevirtual 81, 3) := by decide +kernel
theorem dL_openingTimeLeft_7 : decode cL_openingTimeLeft 7 = .ok (.i2l, 1) := by decide +kernel
theorem dL_openingTimeLeft_8 : decode cL_openingTimeLeft 8 = .ok (.lastore, 1) := by decide +kernel
theorem dL_openingTimeLeft_9 : decode cL_openingTimeLeft 9 = .ok (.goto 6, 3) := by decide +kernel
theorem dL_openingTimeLeft_12 : decode cL_openingTimeLeft 12 = .ok (.astore_n 3, 1) := by decide +kernel
theorem dL_openingTimeLeft_13 : decode cL_openingTimeLeft 13 = .ok (.iconst 1, 1) := by decide +kernel
theorem dL_openingTimeLeft_14 : decode cL_openingTimeLeft 14 = .ok (.ireturn, 1) := by decide +kernel
theorem dL_openingTimeLeft_15 : decode cL_openingTimeLeft 15 = .ok (.iconst 0, 1) := by decide +kernel
theorem dL_openingTimeLeft_16 : decode cL_openingTimeLeft 16 = .ok (.ireturn, 1) := by decide +kernel
set_option maxRecDepth 20000 in
theorem ggL_pace_X6_pace : GoodIn wsL_pace wsX6_pace := goodIn_ca (goodIn_ca (goodIn_rr _ [(6, 8), (5, 1), (14, 42)] rfl (by decide +kernel)) (goodIn_sub (fun _ h => List.mem_cons_of_mem _ (List.mem_append_left _ (List.mem_append_right _ h))) (by decide +kernel))) (goodIn_sub (fun _ h => List.mem_cons_of_mem _ (List.mem_append_right _ h)) (by decide +kernel))
set_option maxRecDepth 20000 in
theorem gL_pace_X6_pace : GoodIn wsL_pace (wsV RL 84 RX6 yX6_pace wsX6_pace) := goodIn_app (goodIn_of _ (by decide +kernel)) ggL_pace_X6_pace
theorem dL_pace_0 : decode cL_pace 0 = .ok (.aload_n 2, 1) := by decide +kernel
theorem dL_pace_1 : decode cL_pace 1 = .ok (.iconst 0, 1) := by decide +kernel
theorem dL_pace_2 : decode cL_pace 2 = .ok (.aload_n 0, 1) := by decide +kernel
theorem dL_pace_3 : decode cL_pace 3 = .ok (.iload_n 1, 1) := by decide +kernel
theorem dL_pace_4 : decode cL_pace 4 = .ok (.invokevirtual 84, 3) := by decide +kernel
theorem dL_pace_7 : decode cL_pace 7 = .ok (.i2l, 1) := by decide +kernel
theorem dL_pace_8 : decode cL_pace 8 = .ok (.lastore, 1) := by decide +kernel
theorem dL_pace_9 : decode cL_pace 9 = .ok (.goto 9, 3) := by decide +kernel
theorem dL_pace_12 : decode cL_pace 12 = .ok (.astore_n 3, 1) := by decide +kernel
theorem dL_pace_13 : decode cL_pace 13 = .ok (.iconst 1, 1) := by decide +kernel
theorem dL_pace_14 : decode cL_pace 14 = .ok (.ireturn, 1) := by decide +kernel
theorem dL_pace_15 : decode cL_pace 15 = .ok (.astore_n 3, 1) := by decide +kernel
theorem dL_pace_16 : decode cL_pace 16 = .ok (.iconst 2, 1) := by decide +kernel
theorem dL_pace_17 : decode cL_pace 17 = .ok (.ireturn, 1) := by decide +kernel
theorem dL_pace_18 : decode cL_pace 18 = .ok (.iconst 0, 1) := by decide +kernel
theorem dL_pace_19 : decode cL_pace 19 = .ok (.ireturn, 1) := by decide +kernel
set_option maxRecDepth 20000 in
theorem ggL_customerAtWindow_X6_customerAtWindow : GoodIn wsL_customerAtWindow wsX6_customerAtWindow := goodIn_ca (goodIn_ca (goodIn_rr _ [(6, 6), (5, 1), (12, 42)] rfl (by decide +kernel)) (goodIn_sub (fun _ h => List.mem_cons_of_mem _ (List.mem_append_left _ (List.mem_append_right _ h))) (by decide +kernel))) (goodIn_sub (fun _ h => List.mem_cons_of_mem _ (List.mem_append_right _ h)) (by decide +kernel))
set_option maxRecDepth 20000 in
theorem gL_customerAtWindow_X6_customerAtWindow : GoodIn wsL_customerAtWindow (wsV RL 87 RX6 yX6_customerAtWindow wsX6_customerAtWindow) := goodIn_app (goodIn_of _ (by decide +kernel)) ggL_customerAtWindow_X6_customerAtWindow
theorem dL_customerAtWindow_0 : decode cL_customerAtWindow 0 = .ok (.aload_n 2, 1) := by decide +kernel
theorem dL_customerAtWindow_1 : decode cL_customerAtWindow 1 = .ok (.iconst 0, 1) := by decide +kernel
theorem dL_customerAtWindow_2 : decode cL_customerAtWindow 2 = .ok (.aload_n 0, 1) := by decide +kernel
theorem dL_customerAtWindow_3 : decode cL_customerAtWindow 3 = .ok (.iload_n 1, 1) := by decide +kernel
theorem dL_customerAtWindow_4 : decode cL_customerAtWindow 4 = .ok (.invokevirtual 87, 3) := by decide +kernel
theorem dL_customerAtWindow_7 : decode cL_customerAtWindow 7 = .ok (.i2l, 1) := by decide +kernel
theorem dL_customerAtWindow_8 : decode cL_customerAtWindow 8 = .ok (.lastore, 1) := by decide +kernel
theorem dL_customerAtWindow_9 : decode cL_customerAtWindow 9 = .ok (.goto 9, 3) := by decide +kernel
theorem dL_customerAtWindow_12 : decode cL_customerAtWindow 12 = .ok (.astore_n 3, 1) := by decide +kernel
theorem dL_customerAtWindow_13 : decode cL_customerAtWindow 13 = .ok (.iconst 1, 1) := by decide +kernel
theorem dL_customerAtWindow_14 : decode cL_customerAtWindow 14 = .ok (.ireturn, 1) := by decide +kernel
theorem dL_customerAtWindow_15 : decode cL_customerAtWindow 15 = .ok (.astore_n 3, 1) := by decide +kernel
theorem dL_customerAtWindow_16 : decode cL_customerAtWindow 16 = .ok (.iconst 2, 1) := by decide +kernel
theorem dL_customerAtWindow_17 : decode cL_customerAtWindow 17 = .ok (.ireturn, 1) := by decide +kernel
theorem dL_customerAtWindow_18 : decode cL_customerAtWindow 18 = .ok (.iconst 0, 1) := by decide +kernel
theorem dL_customerAtWindow_19 : decode cL_customerAtWindow 19 = .ok (.ireturn, 1) := by decide +kernel
set_option maxRecDepth 20000 in
theorem ggL_serviceTimeLeft_X6_serviceTimeLeft : GoodIn wsL_serviceTimeLeft wsX6_serviceTimeLeft := goodIn_ca (goodIn_ca (goodIn_rr _ [(6, 6), (5, 1), (12, 43)] rfl (by decide +kernel)) (goodIn_sub (fun _ h => List.mem_cons_of_mem _ (List.mem_append_left _ (List.mem_append_right _ h))) (by decide +kernel))) (goodIn_sub (fun _ h => List.mem_cons_of_mem _ (List.mem_append_right _ h)) (by decide +kernel))
set_option maxRecDepth 20000 in
theorem gL_serviceTimeLeft_X6_serviceTimeLeft : GoodIn wsL_serviceTimeLeft (wsV RL 90 RX6 yX6_serviceTimeLeft wsX6_serviceTimeLeft) := goodIn_app (goodIn_of _ (by decide +kernel)) ggL_serviceTimeLeft_X6_serviceTimeLeft
theorem dL_serviceTimeLeft_0 : decode cL_serviceTimeLeft 0 = .ok (.aload_n 2, 1) := by decide +kernel
theorem dL_serviceTimeLeft_1 : decode cL_serviceTimeLeft 1 = .ok (.iconst 0, 1) := by decide +kernel
theorem dL_serviceTimeLeft_2 : decode cL_serviceTimeLeft 2 = .ok (.aload_n 0, 1) := by decide +kernel
theorem dL_serviceTimeLeft_3 : decode cL_serviceTimeLeft 3 = .ok (.iload_n 1, 1) := by decide +kernel
theorem dL_serviceTimeLeft_4 : decode cL_serviceTimeLeft 4 = .ok (.invokevirtual 90, 3) := by decide +kernel
theorem dL_serviceTimeLeft_7 : decode cL_serviceTimeLeft 7 = .ok (.i2l, 1) := by decide +kernel
theorem dL_serviceTimeLeft_8 : decode cL_serviceTimeLeft 8 = .ok (.lastore, 1) := by decide +kernel
theorem dL_serviceTimeLeft_9 : decode cL_serviceTimeLeft 9 = .ok (.goto 9, 3) := by decide +kernel
theorem dL_serviceTimeLeft_12 : decode cL_serviceTimeLeft 12 = .ok (.astore_n 3, 1) := by decide +kernel
theorem dL_serviceTimeLeft_13 : decode cL_serviceTimeLeft 13 = .ok (.iconst 1, 1) := by decide +kernel
theorem dL_serviceTimeLeft_14 : decode cL_serviceTimeLeft 14 = .ok (.ireturn, 1) := by decide +kernel
theorem dL_serviceTimeLeft_15 : decode cL_serviceTimeLeft 15 = .ok (.astore_n 3, 1) := by decide +kernel
theorem dL_serviceTimeLeft_16 : decode cL_serviceTimeLeft 16 = .ok (.iconst 2, 1) := by decide +kernel
theorem dL_serviceTimeLeft_17 : decode cL_serviceTimeLeft 17 = .ok (.ireturn, 1) := by decide +kernel
theorem dL_serviceTimeLeft_18 : decode cL_serviceTimeLeft 18 = .ok (.iconst 0, 1) := by decide +kernel
theorem dL_serviceTimeLeft_19 : decode cL_serviceTimeLeft 19 = .ok (.ireturn, 1) := by decide +kernel
set_option maxRecDepth 20000 in
theorem ggL_calledAhead_X6_calledAhead : GoodIn wsL_calledAhead wsX6_calledAhead := goodIn_ca (goodIn_ca (goodIn_rr _ [(6, 9), (5, 1), (15, 51)] rfl (by decide +kernel)) (goodIn_sub (fun _ h => List.mem_cons_of_mem _ (List.mem_append_left _ (List.mem_append_right _ h))) (by decide +kernel))) (goodIn_sub (fun _ h => List.mem_cons_of_mem _ (List.mem_append_right _ h)) (by decide +kernel))
set_option maxRecDepth 20000 in
theorem gL_calledAhead_X6_calledAhead : GoodIn wsL_calledAhead (wsV RL 93 RX6 yX6_calledAhead wsX6_calledAhead) := goodIn_app (goodIn_of _ (by decide +kernel)) ggL_calledAhead_X6_calledAhead
theorem dL_calledAhead_0 : decode cL_calledAhead 0 = .ok (.aload_n 2, 1) := by decide +kernel
theorem dL_calledAhead_1 : decode cL_calledAhead 1 = .ok (.iconst 0, 1) := by decide +kernel
theorem dL_calledAhead_2 : decode cL_calledAhead 2 = .ok (.aload_n 0, 1) := by decide +kernel
theorem dL_calledAhead_3 : decode cL_calledAhead 3 = .ok (.iload_n 1, 1) := by decide +kernel
theorem dL_calledAhead_4 : decode cL_calledAhead 4 = .ok (.invokevirtual 93, 3) := by decide +kernel
theorem dL_calledAhead_7 : decode cL_calledAhead 7 = .ok (.i2l, 1) := by decide +kernel
theorem dL_calledAhead_8 : decode cL_calledAhead 8 = .ok (.lastore, 1) := by decide +kernel
theorem dL_calledAhead_9 : decode cL_calledAhead 9 = .ok (.goto 6, 3) := by decide +kernel
theorem dL_calledAhead_12 : decode cL_calledAhead 12 = .ok (.astore_n 3, 1) := by decide +kernel
theorem dL_calledAhead_13 : decode cL_calledAhead 13 = .ok (.iconst 1, 1) := by decide +kernel
theorem dL_calledAhead_14 : decode cL_calledAhead 14 = .ok (.ireturn, 1) := by decide +kernel
theorem dL_calledAhead_15 : decode cL_calledAhead 15 = .ok (.iconst 0, 1) := by decide +kernel
theorem dL_calledAhead_16 : decode cL_calledAhead 16 = .ok (.ireturn, 1) := by decide +kernel
set_option maxRecDepth 20000 in
theorem ggL_calledAheadByPositions_X6_calledAheadByPositions : GoodIn wsL_calledAheadByPositions wsX6_calledAheadByPositions := goodIn_ca (goodIn_ca (goodIn_rr _ [(6, 8), (5, 1), (14, 47)] rfl (by decide +kernel)) (goodIn_sub (fun _ h => List.mem_cons_of_mem _ (List.mem_append_right _ h)) (by decide +kernel))) (goodIn_sub (fun _ h => List.mem_cons_of_mem _ (List.mem_append_left _ (List.mem_append_right _ h))) (by decide +kernel))
set_option maxRecDepth 20000 in
theorem gL_calledAheadByPositions_X6_calledAheadByPositions : GoodIn wsL_calledAheadByPositions (wsV RL 96 RX6 yX6_calledAheadByPositions wsX6_calledAheadByPositions) := goodIn_app (goodIn_of _ (by decide +kernel)) ggL_calledAheadByPositions_X6_calledAheadByPositions
theorem dL_calledAheadByPositions_0 : decode cL_calledAheadByPositions 0 = .ok (.aload_n 2, 1) := by decide +kernel
theorem dL_calledAheadByPositions_1 : decode cL_calledAheadByPositions 1 = .ok (.iconst 0, 1) := by decide +kernel
theorem dL_calledAheadByPositions_2 : decode cL_calledAheadByPositions 2 = .ok (.aload_n 0, 1) := by decide +kernel
theorem dL_calledAheadByPositions_3 : decode cL_calledAheadByPositions 3 = .ok (.iload_n 1, 1) := by decide +kernel
theorem dL_calledAheadByPositions_4 : decode cL_calledAheadByPositions 4 = .ok (.invokevirtual 96, 3) := by decide +kernel
theorem dL_calledAheadByPositions_7 : decode cL_calledAheadByPositions 7 = .ok (.i2l, 1) := by decide +kernel
theorem dL_calledAheadByPositions_8 : decode cL_calledAheadByPositions 8 = .ok (.lastore, 1) := by decide +kernel
theorem dL_calledAheadByPositions_9 : decode cL_calledAheadByPositions 9 = .ok (.goto 6, 3) := by decide +kernel
theorem dL_calledAheadByPositions_12 : decode cL_calledAheadByPositions 12 = .ok (.astore_n 3, 1) := by decide +kernel
theorem dL_calledAheadByPositions_13 : decode cL_calledAheadByPositions 13 = .ok (.iconst 1, 1) := by decide +kernel
theorem dL_calledAheadByPositions_14 : decode cL_calledAheadByPositions 14 = .ok (.ireturn, 1) := by decide +kernel
theorem dL_calledAheadByPositions_15 : decode cL_calledAheadByPositions 15 = .ok (.iconst 0, 1) := by decide +kernel
theorem dL_calledAheadByPositions_16 : decode cL_calledAheadByPositions 16 = .ok (.ireturn, 1) := by decide +kernel
set_option maxRecDepth 20000 in
theorem ggL_minutesUntilWindow_X6_minutesUntilWindow : GoodIn wsL_minutesUntilWindow wsX6_minutesUntilWindow := goodIn_ca (goodIn_ca (goodIn_ca (goodIn_rr _ [(6, 6), (5, 1), (12, 168)] rfl (by decide +kernel)) (goodIn_sub (fun _ h => List.mem_cons_of_mem _ (List.mem_append_left _ (List.mem_append_right _ h))) (by decide +kernel))) (goodIn_sub (fun _ h => List.mem_cons_of_mem _ (List.mem_append_right _ h)) (by decide +kernel))) (goodIn_sub (fun _ h => List.mem_cons_of_mem _ (List.mem_append_left _ (List.mem_append_left _ (List.mem_append_right _ h)))) (by decide +kernel))
set_option maxRecDepth 20000 in
theorem gL_minutesUntilWindow_X6_minutesUntilWindow : GoodIn wsL_minutesUntilWindow (wsV RL 99 RX6 yX6_minutesUntilWindow wsX6_minutesUntilWindow) := goodIn_app (goodIn_of _ (by decide +kernel)) ggL_minutesUntilWindow_X6_minutesUntilWindow
theorem dL_minutesUntilWindow_0 : decode cL_minutesUntilWindow 0 = .ok (.aload_n 2, 1) := by decide +kernel
theorem dL_minutesUntilWindow_1 : decode cL_minutesUntilWindow 1 = .ok (.iconst 0, 1) := by decide +kernel
theorem dL_minutesUntilWindow_2 : decode cL_minutesUntilWindow 2 = .ok (.aload_n 0, 1) := by decide +kernel
theorem dL_minutesUntilWindow_3 : decode cL_minutesUntilWindow 3 = .ok (.iload_n 1, 1) := by decide +kernel
theorem dL_minutesUntilWindow_4 : decode cL_minutesUntilWindow 4 = .ok (.invokevirtual 99, 3) := by decide +kernel
theorem dL_minutesUntilWindow_7 : decode cL_minutesUntilWindow 7 = .ok (.i2l, 1) := by decide +kernel
theorem dL_minutesUntilWindow_8 : decode cL_minutesUntilWindow 8 = .ok (.lastore, 1) := by decide +kernel
theorem dL_minutesUntilWindow_9 : decode cL_minutesUntilWindow 9 = .ok (.goto 9, 3) := by decide +kernel
theorem dL_minutesUntilWindow_12 : decode cL_minutesUntilWindow 12 = .ok (.astore_n 3, 1) := by decide +kernel
theorem dL_minutesUntilWindow_13 : decode cL_minutesUntilWindow 13 = .ok (.iconst 1, 1) := by decide +kernel
theorem dL_minutesUntilWindow_14 : decode cL_minutesUntilWindow 14 = .ok (.ireturn, 1) := by decide +kernel
theorem dL_minutesUntilWindow_15 : decode cL_minutesUntilWindow 15 = .ok (.astore_n 3, 1) := by decide +kernel
theorem dL_minutesUntilWindow_16 : decode cL_minutesUntilWindow 16 = .ok (.iconst 2, 1) := by decide +kernel
theorem dL_minutesUntilWindow_17 : decode cL_minutesUntilWindow 17 = .ok (.ireturn, 1) := by decide +kernel
theorem dL_minutesUntilWindow_18 : decode cL_minutesUntilWindow 18 = .ok (.iconst 0, 1) := by decide +kernel
theorem dL_minutesUntilWindow_19 : decode cL_minutesUntilWindow 19 = .ok (.ireturn, 1) := by decide +kernel
set_option maxRecDepth 20000 in
theorem ggL_patienceAfter_X6_patienceAfter : GoodIn wsL_patienceAfter wsX6_patienceAfter := goodIn_ca (goodIn_ca (goodIn_ca (goodIn_ca (goodIn_rr _ [(6, 11), (5, 1), (17, 168)] rfl (by decide +kernel)) (goodIn_sub (fun _ h => List.mem_cons_of_mem _ (List.mem_append_left _ (List.mem_append_left _ (List.mem_append_right _ h)))) (by decide +kernel))) (goodIn_sub (fun _ h => List.mem_cons_of_mem _ (List.mem_append_left _ (List.mem_append_right _ h))) (by decide +kernel))) (goodIn_sub (fun _ h => List.mem_cons_of_mem _ (List.mem_append_right _ h)) (by decide +kernel))) (goodIn_sub (fun _ h => List.mem_cons_of_mem _ (List.mem_append_left _ (List.mem_append_left _ (List.mem_append_left _ (List.mem_append_right _ h))))) (by decide +kernel))
set_option maxRecDepth 20000 in
theorem gL_patienceAfter_X6_patienceAfter : GoodIn wsL_patienceAfter (wsV RL 102 RX6 yX6_patienceAfter wsX6_patienceAfter) := goodIn_app (goodIn_of _ (by decide +kernel)) ggL_patienceAfter_X6_patienceAfter
theorem dL_patienceAfter_0 : decode cL_patienceAfter 0 = .ok (.aload_n 3, 1) := by decide +kernel
theorem dL_patienceAfter_1 : decode cL_patienceAfter 1 = .ok (.iconst 0, 1) := by decide +kernel
theorem dL_patienceAfter_2 : decode cL_patienceAfter 2 = .ok (.aload_n 0, 1) := by decide +kernel
theorem dL_patienceAfter_3 : decode cL_patienceAfter 3 = .ok (.iload_n 1, 1) := by decide +kernel
theorem dL_patienceAfter_4 : decode cL_patienceAfter 4 = .ok (.iload_n 2, 1) := by decide +kernel
theorem dL_patienceAfter_5 : decode cL_patienceAfter 5 = .ok (.invokevirtual 102, 3) := by decide +kernel
theorem dL_patienceAfter_8 : decode cL_patienceAfter 8 = .ok (.i2l, 1) := by decide +kernel
theorem dL_patienceAfter_9 : decode cL_patienceAfter 9 = .ok (.lastore, 1) := by decide +kernel
theorem dL_patienceAfter_10 : decode cL_patienceAfter 10 = .ok (.goto 15, 3) := by decide +kernel
theorem dL_patienceAfter_13 : decode cL_patienceAfter 13 = .ok (.astore 4, 2) := by decide +kernel
theorem dL_patienceAfter_15 : decode cL_patienceAfter 15 = .ok (.iconst 1, 1) := by decide +kernel
theorem dL_patienceAfter_16 : decode cL_patienceAfter 16 = .ok (.ireturn, 1) := by decide +kernel
theorem dL_patienceAfter_17 : decode cL_patienceAfter 17 = .ok (.astore 4, 2) := by decide +kernel
theorem dL_patienceAfter_19 : decode cL_patienceAfter 19 = .ok (.iconst 2, 1) := by decide +kernel
theorem dL_patienceAfter_20 : decode cL_patienceAfter 20 = .ok (.ireturn, 1) := by decide +kernel
theorem dL_patienceAfter_21 : decode cL_patienceAfter 21 = .ok (.astore 4, 2) := by decide +kernel
theorem dL_patienceAfter_23 : decode cL_patienceAfter 23 = .ok (.iconst 3, 1) := by decide +kernel
theorem dL_patienceAfter_24 : decode cL_patienceAfter 24 = .ok (.ireturn, 1) := by decide +kernel
theorem dL_patienceAfter_25 : decode cL_patienceAfter 25 = .ok (.iconst 0, 1) := by decide +kernel
theorem dL_patienceAfter_26 : decode cL_patienceAfter 26 = .ok (.ireturn, 1) := by decide +kernel
set_option maxRecDepth 20000 in
theorem ggL_sighsWithin_X6_sighsWithin : GoodIn wsL_sighsWithin wsX6_sighsWithin := goodIn_ca (goodIn_ca (goodIn_rr _ [(6, 6), (5, 1), (12, 155)] rfl (by decide +kernel)) (goodIn_sub (fun _ h => List.mem_cons_of_mem _ (List.mem_append_right _ h)) (by decide +kernel))) (goodIn_sub (fun _ h => List.mem_cons_of_mem _ (List.mem_append_left _ (List.mem_append_right _ h))) (by decide +kernel))
set_option maxRecDepth 20000 in
theorem gL_sighsWithin_X6_sighsWithin : GoodIn wsL_sighsWithin (wsV RL 105 RX6 yX6_sighsWithin wsX6_sighsWithin) := goodIn_app (goodIn_of _ (by decide +kernel)) ggL_sighsWithin_X6_sighsWithin
theorem dL_sighsWithin_0 : decode cL_sighsWithin 0 = .ok (.aload_n 2, 1) := by decide +kernel
theorem dL_sighsWithin_1 : decode cL_sighsWithin 1 = .ok (.iconst 0, 1) := by decide +kernel
theorem dL_sighsWithin_2 : decode cL_sighsWithin 2 = .ok (.aload_n 0, 1) := by decide +kernel
theorem dL_sighsWithin_3 : decode cL_sighsWithin 3 = .ok (.iload_n 1, 1) := by decide +kernel
theorem dL_sighsWithin_4 : decode cL_sighsWithin 4 = .ok (.invokevirtual 105, 3) := by decide +kernel
theorem dL_sighsWithin_7 : decode cL_sighsWithin 7 = .ok (.i2l, 1) := by decide +kernel
theorem dL_sighsWithin_8 : decode cL_sighsWithin 8 = .ok (.lastore, 1) := by decide +kernel
theorem dL_sighsWithin_9 : decode cL_sighsWithin 9 = .ok (.goto 6, 3) := by decide +kernel
theorem dL_sighsWithin_12 : decode cL_sighsWithin 12 = .ok (.astore_n 3, 1) := by decide +kernel
theorem dL_sighsWithin_13 : decode cL_sighsWithin 13 = .ok (.iconst 1, 1) := by decide +kernel
theorem dL_sighsWithin_14 : decode cL_sighsWithin 14 = .ok (.ireturn, 1) := by decide +kernel
theorem dL_sighsWithin_15 : decode cL_sighsWithin 15 = .ok (.iconst 0, 1) := by decide +kernel
theorem dL_sighsWithin_16 : decode cL_sighsWithin 16 = .ok (.ireturn, 1) := by decide +kernel
set_option maxRecDepth 20000 in
theorem ggL_servedTicket_X6_servedTicket : GoodIn wsL_servedTicket wsX6_servedTicket := goodIn_ca (goodIn_ca (goodIn_rr _ [(6, 6), (5, 1), (12, 33)] rfl (by decide +kernel)) (goodIn_sub (fun _ h => List.mem_cons_of_mem _ (List.mem_append_left _ (List.mem_append_right _ h))) (by decide +kernel))) (goodIn_sub (fun _ h => List.mem_cons_of_mem _ (List.mem_append_right _ h)) (by decide +kernel))
set_option maxRecDepth 20000 in
theorem gL_servedTicket_X6_servedTicket : GoodIn wsL_servedTicket (wsV RL 108 RX6 yX6_servedTicket wsX6_servedTicket) := goodIn_app (goodIn_of _ (by decide +kernel)) ggL_servedTicket_X6_servedTicket
theorem dL_servedTicket_0 : decode cL_servedTicket 0 = .ok (.aload_n 2, 1) := by decide +kernel
theorem dL_servedTicket_1 : decode cL_servedTicket 1 = .ok (.iconst 0, 1) := by decide +kernel
theorem dL_servedTicket_2 : decode cL_servedTicket 2 = .ok (.aload_n 0, 1) := by decide +kernel
theorem dL_servedTicket_3 : decode cL_servedTicket 3 = .ok (.iload_n 1, 1) := by decide +kernel
theorem dL_servedTicket_4 : decode cL_servedTicket 4 = .ok (.invokevirtual 108, 3) := by decide +kernel
theorem dL_servedTicket_7 : decode cL_servedTicket 7 = .ok (.i2l, 1) := by decide +kernel
theorem dL_servedTicket_8 : decode cL_servedTicket 8 = .ok (.lastore, 1) := by decide +kernel
theorem dL_servedTicket_9 : decode cL_servedTicket 9 = .ok (.goto 6, 3) := by decide +kernel
theorem dL_servedTicket_12 : decode cL_servedTicket 12 = .ok (.astore_n 3, 1) := by decide +kernel
theorem dL_servedTicket_13 : decode cL_servedTicket 13 = .ok (.iconst 1, 1) := by decide +kernel
theorem dL_servedTicket_14 : decode cL_servedTicket 14 = .ok (.ireturn, 1) := by decide +kernel
theorem dL_servedTicket_15 : decode cL_servedTicket 15 = .ok (.iconst 0, 1) := by decide +kernel
theorem dL_servedTicket_16 : decode cL_servedTicket 16 = .ok (.ireturn, 1) := by decide +kernel
set_option maxRecDepth 20000 in
theorem ggL_servedWaitingTime_X6_servedWaitingTime : GoodIn wsL_servedWaitingTime wsX6_servedWaitingTime := goodIn_ca (goodIn_ca (goodIn_rr _ [(6, 6), (5, 1), (12, 33)] rfl (by decide +kernel)) (goodIn_sub (fun _ h => List.mem_cons_of_mem _ (List.mem_append_left _ (List.mem_append_right _ h))) (by decide +kernel))) (goodIn_sub (fun _ h => List.mem_cons_of_mem _ (List.mem_append_right _ h)) (by decide +kernel))
set_option maxRecDepth 20000 in
theorem gL_servedWaitingTime_X6_servedWaitingTime : GoodIn wsL_servedWaitingTime (wsV RL 111 RX6 yX6_servedWaitingTime wsX6_servedWaitingTime) := goodIn_app (goodIn_of _ (by decide +kernel)) ggL_servedWaitingTime_X6_servedWaitingTime
theorem dL_servedWaitingTime_0 : decode cL_servedWaitingTime 0 = .ok (.aload_n 2, 1) := by decide +kernel
theorem dL_servedWaitingTime_1 : decode cL_servedWaitingTime 1 = .ok (.iconst 0, 1) := by decide +kernel
theorem dL_servedWaitingTime_2 : decode cL_servedWaitingTime 2 = .ok (.aload_n 0, 1) := by decide +kernel
theorem dL_servedWaitingTime_3 : decode cL_servedWaitingTime 3 = .ok (.iload_n 1, 1) := by decide +kernel
theorem dL_servedWaitingTime_4 : decode cL_servedWaitingTime 4 = .ok (.invokevirtual 111, 3) := by decide +kernel
theorem dL_servedWaitingTime_7 : decode cL_servedWaitingTime 7 = .ok (.i2l, 1) := by decide +kernel
theorem dL_servedWaitingTime_8 : decode cL_servedWaitingTime 8 = .ok (.lastore, 1) := by decide +kernel
theorem dL_servedWaitingTime_9 : decode cL_servedWaitingTime 9 = .ok (.goto 6, 3) := by decide +kernel
theorem dL_servedWaitingTime_12 : decode cL_servedWaitingTime 12 = .ok (.astore_n 3, 1) := by decide +kernel
theorem dL_servedWaitingTime_13 : decode cL_servedWaitingTime 13 = .ok (.iconst 1, 1) := by decide +kernel
theorem dL_servedWaitingTime_14 : decode cL_servedWaitingTime 14 = .ok (.ireturn, 1) := by decide +kernel
theorem dL_servedWaitingTime_15 : decode cL_servedWaitingTime 15 = .ok (.iconst 0, 1) := by decide +kernel
theorem dL_servedWaitingTime_16 : decode cL_servedWaitingTime 16 = .ok (.ireturn, 1) := by decide +kernel
set_option maxRecDepth 20000 in
theorem ggL_customerBySighs_X6_customerBySighs : GoodIn wsL_customerBySighs wsX6_customerBySighs := goodIn_ca (goodIn_rr _ [(6, 6), (5, 1), (12, 53)] rfl (by decide +kernel)) (goodIn_sub (fun _ h => List.mem_cons_of_mem _ (List.mem_append_right _ h)) (by decide +kernel))
set_option maxRecDepth 20000 in
theorem gL_customerBySighs_X6_customerBySighs : GoodIn wsL_customerBySighs (wsV RL 114 RX6 yX6_customerBySighs wsX6_customerBySighs) := goodIn_app (goodIn_of _ (by decide +kernel)) ggL_customerBySighs_X6_customerBySighs
theorem dL_customerBySighs_0 : decode cL_customerBySighs 0 = .ok (.aload_n 2, 1) := by decide +kernel
theorem dL_customerBySighs_1 : decode cL_customerBySighs 1 = .ok (.iconst 0, 1) := by decide +kernel
theorem dL_customerBySighs_2 : decode cL_customerBySighs 2 = .ok (.aload_n 0, 1) := by decide +kernel
theorem dL_customerBySighs_3 : decode cL_customerBySighs 3 = .ok (.iload_n 1, 1) := by decide +kernel
theorem dL_customerBySighs_4 : decode cL_customerBySighs 4 = .ok (.invokevirtual 114, 3) := by decide +kernel
theorem dL_customerBySighs_7 : decode cL_customerBySighs 7 = .ok (.i2l, 1) := by decide +kernel
theorem dL_customerBySighs_8 : decode cL_customerBySighs 8 = .ok (.lastore, 1) := by decide +kernel
theorem dL_customerBySighs_9 : decode cL_customerBySighs 9 = .ok (.goto 6, 3) := by decide +kernel
theorem dL_customerBySighs_12 : decode cL_customerBySighs 12 = .ok (.astore_n 3, 1) := by decide +kernel
theorem dL_customerBySighs_13 : decode cL_customerBySighs 13 = .ok (.iconst 1, 1) := by decide +kernel
theorem dL_customerBySighs_14 : decode cL_customerBySighs 14 = .ok (.ireturn, 1) := by decide +kernel
theorem dL_customerBySighs_15 : decode cL_customerBySighs 15 = .ok (.iconst 0, 1) := by decide +kernel
theorem dL_customerBySighs_16 : decode cL_customerBySighs 16 = .ok (.ireturn, 1) := by decide +kernel
set_option maxRecDepth 20000 in
theorem ggL_customerByWaitingTime_X6_customerByWaitingTime : GoodIn wsL_customerByWaitingTime wsX6_customerByWaitingTime := goodIn_ca (goodIn_rr _ [(6, 6), (5, 1), (12, 53)] rfl (by decide +kernel)) (goodIn_sub (fun _ h => List.mem_cons_of_mem _ (List.mem_append_right _ h)) (by decide +kernel))
set_option maxRecDepth 20000 in
theorem gL_customerByWaitingTime_X6_customerByWaitingTime : GoodIn wsL_customerByWaitingTime (wsV RL 117 RX6 yX6_customerByWaitingTime wsX6_customerByWaitingTime) := goodIn_app (goodIn_of _ (by decide +kernel)) ggL_customerByWaitingTime_X6_customerByWaitingTime
theorem dL_customerByWaitingTime_0 : decode cL_customerByWaitingTime 0 = .ok (.aload_n 2, 1) := by decide +kernel
theorem dL_customerByWaitingTime_1 : decode cL_customerByWaitingTime 1 = .ok (.iconst 0, 1) := by decide +kernel
theorem dL_customerByWaitingTime_2 : decode cL_customerByWaitingTime 2 = .ok (.aload_n 0, 1) := by decide +kernel
theorem dL_customerByWaitingTime_3 : decode cL_customerByWaitingTime 3 = .ok (.iload_n 1, 1) := by decide +kernel
theorem dL_customerByWaitingTime_4 : decode cL_customerByWaitingTime 4 = .ok (.invokevirtual 117, 3) := by decide +kernel
theorem dL_customerByWaitingTime_7 : decode cL_customerByWaitingTime 7 = .ok (.i2l, 1) := by decide +kernel
theorem dL_customerByWaitingTime_8 : decode cL_customerByWaitingTime 8 = .ok (.lastore, 1) := by decide +kernel
theorem dL_customerByWaitingTime_9 : decode cL_customerByWaitingTime 9 = .ok (.goto 6, 3) := by decide +kernel
theorem dL_customerByWaitingTime_12 : decode cL_customerByWaitingTime 12 = .ok (.astore_n 3, 1) := by decide +kernel
theorem dL_customerByWaitingTime_13 : decode cL_customerByWaitingTime 13 = .ok (.iconst 1, 1) := by decide +kernel
theorem dL_customerByWaitingTime_14 : decode cL_customerByWaitingTime 14 = .ok (.ireturn, 1) := by decide +kernel
theorem dL_customerByWaitingTime_15 : decode cL_customerByWaitingTime 15 = .ok (.iconst 0, 1) := by decide +kernel
theorem dL_customerByWaitingTime_16 : decode cL_customerByWaitingTime 16 = .ok (.ireturn, 1) := by decide +kernel
set_option maxRecDepth 20000 in
theorem ggL_meanPatience_X6_meanPatience : GoodIn wsL_meanPatience wsX6_meanPatience := goodIn_ca (goodIn_rr _ [(6, 39)] rfl (by decide +kernel)) (goodIn_sub (fun _ h => List.mem_cons_of_mem _ (List.mem_append_right _ h)) (by decide +kernel))
set_option maxRecDepth 20000 in
theorem gL_meanPatience_X6_meanPatience : GoodIn wsL_meanPatience (wsV RL 120 RX6 yX6_meanPatience wsX6_meanPatience) := goodIn_app (goodIn_of _ (by decide +kernel)) ggL_meanPatience_X6_meanPatience
theorem dL_meanPatience_0 : decode cL_meanPatience 0 = .ok (.aload_n 1, 1) := by decide +kernel
theorem dL_meanPatience_1 : decode cL_meanPatience 1 = .ok (.iconst 0, 1) := by decide +kernel
theorem dL_meanPatience_2 : decode cL_meanPatience 2 = .ok (.aload_n 0, 1) := by decide +kernel
theorem dL_meanPatience_3 : decode cL_meanPatience 3 = .ok (.invokevirtual 120, 3) := by decide +kernel
theorem dL_meanPatience_6 : decode cL_meanPatience 6 = .ok (.dastore, 1) := by decide +kernel
theorem dL_meanPatience_7 : decode cL_meanPatience 7 = .ok (.goto 6, 3) := by decide +kernel
theorem dL_meanPatience_10 : decode cL_meanPatience 10 = .ok (.astore_n 2, 1) := by decide +kernel
theorem dL_meanPatience_11 : decode cL_meanPatience 11 = .ok (.iconst 1, 1) := by decide +kernel
theorem dL_meanPatience_12 : decode cL_meanPatience 12 = .ok (.ireturn, 1) := by decide +kernel
theorem dL_meanPatience_13 : decode cL_meanPatience 13 = .ok (.iconst 0, 1) := by decide +kernel
theorem dL_meanPatience_14 : decode cL_meanPatience 14 = .ok (.ireturn, 1) := by decide +kernel
set_option maxRecDepth 20000 in
theorem ggL_calmShare_X6_calmShare : GoodIn wsL_calmShare wsX6_calmShare := goodIn_ca (goodIn_rr _ [(6, 31)] rfl (by decide +kernel)) (goodIn_sub (fun _ h => List.mem_cons_of_mem _ (List.mem_append_right _ h)) (by decide +kernel))
set_option maxRecDepth 20000 in
theorem gL_calmShare_X6_calmShare : GoodIn wsL_calmShare (wsV RL 126 RX6 yX6_calmShare wsX6_calmShare) := goodIn_app (goodIn_of _ (by decide +kernel)) ggL_calmShare_X6_calmShare
theorem dL_calmShare_0 : decode cL_calmShare 0 = .ok (.aload_n 1, 1) := by decide +kernel
theorem dL_calmShare_1 : decode cL_calmShare 1 = .ok (.iconst 0, 1) := by decide +kernel
theorem dL_calmShare_2 : decode cL_calmShare 2 = .ok (.aload_n 0, 1) := by decide +kernel
theorem dL_calmShare_3 : decode cL_calmShare 3 = .ok (.invokevirtual 126, 3) := by decide +kernel
theorem dL_calmShare_6 : decode cL_calmShare 6 = .ok (.f2d, 1) := by decide +kernel
theorem dL_calmShare_7 : decode cL_calmShare 7 = .ok (.dastore, 1) := by decide +kernel
theorem dL_calmShare_8 : decode cL_calmShare 8 = .ok (.goto 6, 3) := by decide +kernel
theorem dL_calmShare_11 : decode cL_calmShare 11 = .ok (.astore_n 2, 1) := by decide +kernel
theorem dL_calmShare_12 : decode cL_calmShare 12 = .ok (.iconst 1, 1) := by decide +kernel
theorem dL_calmShare_13 : decode cL_calmShare 13 = .ok (.ireturn, 1) := by decide +kernel
theorem dL_calmShare_14 : decode cL_calmShare 14 = .ok (.iconst 0, 1) := by decide +kernel
theorem dL_calmShare_15 : decode cL_calmShare 15 = .ok (.ireturn, 1) := by decide +kernel
set_option maxRecDepth 20000 in
theorem ggL_outputAt_X6_outputAt : GoodIn wsL_outputAt wsX6_outputAt := goodIn_ca (goodIn_rr _ [(6, 64)] rfl (by decide +kernel)) (goodIn_sub (fun _ h => List.mem_cons_of_mem _ (List.mem_append_right _ h)) (by decide +kernel))
set_option maxRecDepth 20000 in
theorem gL_outputAt_X6_outputAt : GoodIn wsL_outputAt (wsV RL 130 RX6 yX6_outputAt wsX6_outputAt) := goodIn_app (goodIn_of _ (by decide +kernel)) ggL_outputAt_X6_outputAt
theorem dL_outputAt_0 : decode cL_outputAt 0 = .ok (.aload_n 2, 1) := by decide +kernel
theorem dL_outputAt_1 : decode cL_outputAt 1 = .ok (.iconst 0, 1) := by decide +kernel
theorem dL_outputAt_2 : decode cL_outputAt 2 = .ok (.aload_n 0, 1) := by decide +kernel
theorem dL_outputAt_3 : decode cL_outputAt 3 = .ok (.iload_n 1, 1) := by decide +kernel
theorem dL_outputAt_4 : decode cL_outputAt 4 = .ok (.invokevirtual 130, 3) := by decide +kernel
theorem dL_outputAt_7 : decode cL_outputAt 7 = .ok (.i2l, 1) := by decide +kernel
theorem dL_outputAt_8 : decode cL_outputAt 8 = .ok (.lastore, 1) := by decide +kernel
theorem dL_outputAt_9 : decode cL_outputAt 9 = .ok (.goto 6, 3) := by decide +kernel
theorem dL_outputAt_12 : decode cL_outputAt 12 = .ok (.astore_n 3, 1) := by decide +kernel
theorem dL_outputAt_13 : decode cL_outputAt 13 = .ok (.iconst 1, 1) := by decide +kernel
theorem dL_outputAt_14 : decode cL_outputAt 14 = .ok (.ireturn, 1) := by decide +kernel
theorem dL_outputAt_15 : decode cL_outputAt 15 = .ok (.iconst 0, 1) := by decide +kernel
theorem dL_outputAt_16 : decode cL_outputAt 16 = .ok (.ireturn, 1) := by decide +kernel
set_option maxRecDepth 20000 in
theorem ggL_type_X6_type : GoodIn wsL_type wsX6_type := goodIn_ca (goodIn_ca (goodIn_rr _ [(6, 150)] rfl (by decide +kernel)) (goodIn_sub (fun _ h => List.mem_cons_of_mem _ (List.mem_append_left _ (List.mem_append_right _ h))) (by decide +kernel))) (goodIn_sub (fun _ h => List.mem_cons_of_mem _ (List.mem_append_right _ h)) (by decide +kernel))
set_option maxRecDepth 20000 in
theorem gL_type_X6_type : GoodIn wsL_type (wsV RL 134 RX6 yX6_type wsX6_type) := goodIn_app (goodIn_of _ (by decide +kernel)) ggL_type_X6_type
theorem dL_type_0 : decode cL_type 0 = .ok (.aload_n 2, 1) := by decide +kernel
theorem dL_type_1 : decode cL_type 1 = .ok (.iconst 0, 1) := by decide +kernel
theorem dL_type_2 : decode cL_type 2 = .ok (.aload_n 0, 1) := by decide +kernel
theorem dL_type_3 : decode cL_type 3 = .ok (.iload_n 1, 1) := by decide +kernel
theorem dL_type_4 : decode cL_type 4 = .ok (.invokevirtual 134, 3) := by decide +kernel
theorem dL_type_7 : decode cL_type 7 = .ok (.i2l, 1) := by decide +kernel
theorem dL_type_8 : decode cL_type 8 = .ok (.lastore, 1) := by decide +kernel
theorem dL_type_9 : decode cL_type 9 = .ok (.goto 9, 3) := by decide +kernel
theorem dL_type_12 : decode cL_type 12 = .ok (.astore_n 3, 1) := by decide +kernel
theorem dL_type_13 : decode cL_type 13 = .ok (.iconst 1, 1) := by decide +kernel
theorem dL_type_14 : decode cL_type 14 = .ok (.ireturn, 1) := by decide +kernel
theorem dL_type_15 : decode cL_type 15 = .ok (.astore_n 3, 1) := by decide +kernel
theorem dL_type_16 : decode cL_type 16 = .ok (.iconst 2, 1) := by decide +kernel
theorem dL_type_17 : decode cL_type 17 = .ok (.ireturn, 1) := by decide +kernel
theorem dL_type_18 : decode cL_type 18 = .ok (.iconst 0, 1) := by decide +kernel
theorem dL_type_19 : decode cL_type 19 = .ok (.ireturn, 1) := by decide +kernel
set_option maxRecDepth 20000 in
theorem ggL_runScript_X6_runScript : GoodIn wsL_runScript wsX6_runScript := goodIn_ca (goodIn_ca (goodIn_ca (goodIn_ca (goodIn_ca (goodIn_ca (goodIn_rr _ [(6, 236), (5, 1), (242, 219)] rfl (by decide +kernel)) (goodIn_sub (fun _ h => List.mem_cons_of_mem _ (List.mem_append_left _ (List.mem_append_left _ (List.mem_append_left _ (List.mem_append_left _ (List.mem_append_right _ h)))))) (by decide +kernel))) (goodIn_sub (fun _ h => List.mem_cons_of_mem _ (List.mem_append_left _ (List.mem_append_left _ (List.mem_append_left _ (List.mem_append_right _ h))))) (by decide +kernel))) (goodIn_sub (fun _ h => List.mem_cons_of_mem _ (List.mem_append_left _ (List.mem_append_left _ (List.mem_append_left _ (List.mem_append_left _ (List.mem_append_left _ (List.mem_append_right _ h))))))) (by decide +kernel))) (goodIn_sub (fun _ h => List.mem_cons_of_mem _ (List.mem_append_left _ (List.mem_append_left _ (List.mem_append_right _ h)))) (by decide +kernel))) (goodIn_sub (fun _ h => List.mem_cons_of_mem _ (List.mem_append_left _ (List.mem_append_right _ h))) (by decide +kernel))) (goodIn_sub (fun _ h => List.mem_cons_of_mem _ (List.mem_append_right _ h)) (by decide +kernel))
set_option maxRecDepth 20000 in
theorem gL_runScript_X6_runScript : GoodIn wsL_runScript (wsV RL 138 RX6 yX6_runScript wsX6_runScript) := goodIn_app (goodIn_of _ (by decide +kernel)) ggL_runScript_X6_runScript
theorem dL_runScript_0 : decode cL_runScript 0 = .ok (.aload_n 1, 1) := by decide +kernel
theorem dL_runScript_1 : decode cL_runScript 1 = .ok (.iconst 0, 1) := by decide +kernel
theorem dL_runScript_2 : decode cL_runScript 2 = .ok (.aload_n 0, 1) := by decide +kernel
theorem dL_runScript_3 : decode cL_runScript 3 = .ok (.invokevirtual 138, 3) := by decide +kernel
theorem dL_runScript_6 : decode cL_runScript 6 = .ok (.i2l, 1) := by decide +kernel
theorem dL_runScript_7 : decode cL_runScript 7 = .ok (.lastore, 1) := by decide +kernel
theorem dL_runScript_8 : decode cL_runScript 8 = .ok (.goto 9, 3) := by decide +kernel
theorem dL_runScript_11 : decode cL_runScript 11 = .ok (.astore_n 2, 1) := by decide +kernel
theorem dL_runScript_12 : decode cL_runScript 12 = .ok (.iconst 1, 1) := by decide +kernel
theorem dL_runScript_13 : decode cL_runScript 13 = .ok (.ireturn, 1) := by decide +kernel
theorem dL_runScript_14 : decode cL_runScript 14 = .ok (.astore_n 2, 1) := by decide +kernel
theorem dL_runScript_15 : decode cL_runScript 15 = .ok (.iconst 2, 1) := by decide +kernel
theorem dL_runScript_16 : decode cL_runScript 16 = .ok (.ireturn, 1) := by decide +kernel
theorem dL_runScript_17 : decode cL_runScript 17 = .ok (.iconst 0, 1) := by decide +kernel
theorem dL_runScript_18 : decode cL_runScript 18 = .ok (.ireturn, 1) := by decide +kernel
set_option maxRecDepth 20000 in
theorem ggL_errorPosition_X6_errorPosition : GoodIn wsL_errorPosition wsX6_errorPosition := goodIn_ca (goodIn_rr _ [(6, 15)] rfl (by decide +kernel)) (goodIn_sub (fun _ h => List.mem_cons_of_mem _ (List.mem_append_right _ h)) (by decide +kernel))
set_option maxRecDepth 20000 in
theorem gL_errorPosition_X6_errorPosition : GoodIn wsL_errorPosition (wsV RL 141 RX6 yX6_errorPosition wsX6_errorPosition) := goodIn_app (goodIn_of _ (by decide +kernel)) ggL_errorPosition_X6_errorPosition
theorem dL_errorPosition_0 : decode cL_errorPosition 0 = .ok (.aload_n 1, 1) := by decide +kernel
theorem dL_errorPosition_1 : decode cL_errorPosition 1 = .ok (.iconst 0, 1) := by decide +kernel
theorem dL_errorPosition_2 : decode cL_errorPosition 2 = .ok (.aload_n 0, 1) := by decide +kernel
theorem dL_errorPosition_3 : decode cL_errorPosition 3 = .ok (.invokevirtual 141, 3) := by decide +kernel
theorem dL_errorPosition_6 : decode cL_errorPosition 6 = .ok (.i2l, 1) := by decide +kernel
theorem dL_errorPosition_7 : decode cL_errorPosition 7 = .ok (.lastore, 1) := by decide +kernel
theorem dL_errorPosition_8 : decode cL_errorPosition 8 = .ok (.goto 6, 3) := by decide +kernel
theorem dL_errorPosition_11 : decode cL_errorPosition 11 = .ok (.astore_n 2, 1) := by decide +kernel
theorem dL_errorPosition_12 : decode cL_errorPosition 12 = .ok (.iconst 1, 1) := by decide +kernel
theorem dL_errorPosition_13 : decode cL_errorPosition 13 = .ok (.ireturn, 1) := by decide +kernel
theorem dL_errorPosition_14 : decode cL_errorPosition 14 = .ok (.iconst 0, 1) := by decide +kernel
theorem dL_errorPosition_15 : decode cL_errorPosition 15 = .ok (.ireturn, 1) := by decide +kernel
set_option maxRecDepth 20000 in
theorem ggL_failedCommand_X6_failedCommand : GoodIn wsL_failedCommand wsX6_failedCommand := goodIn_ca (goodIn_rr _ [(6, 15)] rfl (by decide +kernel)) (goodIn_sub (fun _ h => List.mem_cons_of_mem _ (List.mem_append_right _ h)) (by decide +kernel))
set_option maxRecDepth 20000 in
theorem gL_failedCommand_X6_failedCommand : GoodIn wsL_failedCommand (wsV RL 144 RX6 yX6_failedCommand wsX6_failedCommand) := goodIn_app (goodIn_of _ (by decide +kernel)) ggL_failedCommand_X6_failedCommand
theorem dL_failedCommand_0 : decode cL_failedCommand 0 = .ok (.aload_n 1, 1) := by decide +kernel
theorem dL_failedCommand_1 : decode cL_failedCommand 1 = .ok (.iconst 0, 1) := by decide +kernel
theorem dL_failedCommand_2 : decode cL_failedCommand 2 = .ok (.aload_n 0, 1) := by decide +kernel
theorem dL_failedCommand_3 : decode cL_failedCommand 3 = .ok (.invokevirtual 144, 3) := by decide +kernel
theorem dL_failedCommand_6 : decode cL_failedCommand 6 = .ok (.i2l, 1) := by decide +kernel
theorem dL_failedCommand_7 : decode cL_failedCommand 7 = .ok (.lastore, 1) := by decide +kernel
theorem dL_failedCommand_8 : decode cL_failedCommand 8 = .ok (.goto 6, 3) := by decide +kernel
theorem dL_failedCommand_11 : decode cL_failedCommand 11 = .ok (.astore_n 2, 1) := by decide +kernel
theorem dL_failedCommand_12 : decode cL_failedCommand 12 = .ok (.iconst 1, 1) := by decide +kernel
theorem dL_failedCommand_13 : decode cL_failedCommand 13 = .ok (.ireturn, 1) := by decide +kernel
theorem dL_failedCommand_14 : decode cL_failedCommand 14 = .ok (.iconst 0, 1) := by decide +kernel
theorem dL_failedCommand_15 : decode cL_failedCommand 15 = .ok (.ireturn, 1) := by decide +kernel
set_option maxRecDepth 20000 in
theorem ggL_undo_X6_undo : GoodIn wsL_undo wsX6_undo := goodIn_ca (goodIn_rr _ [(6, 17)] rfl (by decide +kernel)) (goodIn_sub (fun _ h => List.mem_cons_of_mem _ (List.mem_append_right _ h)) (by decide +kernel))
set_option maxRecDepth 20000 in
theorem gL_undo_X6_undo : GoodIn wsL_undo (wsV RL 147 RX6 yX6_undo wsX6_undo) := goodIn_app (goodIn_of _ (by decide +kernel)) ggL_undo_X6_undo
theorem dL_undo_0 : decode cL_undo 0 = .ok (.aload_n 1, 1) := by decide +kernel
theorem dL_undo_1 : decode cL_undo 1 = .ok (.iconst 0, 1) := by decide +kernel
theorem dL_undo_2 : decode cL_undo 2 = .ok (.aload_n 0, 1) := by decide +kernel
theorem dL_undo_3 : decode cL_undo 3 = .ok (.invokevirtual 147, 3) := by decide +kernel
theorem dL_undo_6 : decode cL_undo 6 = .ok (.i2l, 1) := by decide +kernel
theorem dL_undo_7 : decode cL_undo 7 = .ok (.lastore, 1) := by decide +kernel
theorem dL_undo_8 : decode cL_undo 8 = .ok (.goto 6, 3) := by decide +kernel
theorem dL_undo_11 : decode cL_undo 11 = .ok (.astore_n 2, 1) := by decide +kernel
theorem dL_undo_12 : decode cL_undo 12 = .ok (.iconst 1, 1) := by decide +kernel
theorem dL_undo_13 : decode cL_undo 13 = .ok (.ireturn, 1) := by decide +kernel
theorem dL_undo_14 : decode cL_undo 14 = .ok (.iconst 0, 1) := by decide +kernel
theorem dL_undo_15 : decode cL_undo 15 = .ok (.ireturn, 1) := by decide +kernel
set_option maxRecDepth 20000 in
theorem ggL_restore_X6_restore : GoodIn wsL_restore wsX6_restore := goodIn_ca (goodIn_ca (goodIn_rr _ [(6, 84)] rfl (by decide +kernel)) (goodIn_sub (fun _ h => List.mem_cons_of_mem _ (List.mem_append_right _ h)) (by decide +kernel))) (goodIn_sub (fun _ h => List.mem_cons_of_mem _ (List.mem_append_left _ (List.mem_append_right _ h))) (by decide +kernel))
set_option maxRecDepth 20000 in
theorem gL_restore_X6_restore : GoodIn wsL_restore (wsV RL 150 RX6 yX6_restore wsX6_restore) := goodIn_app (goodIn_of _ (by decide +kernel)) ggL_restore_X6_restore
theorem dL_restore_0 : decode cL_restore 0 = .ok (.aload_n 1, 1) := by decide +kernel
theorem dL_restore_1 : decode cL_restore 1 = .ok (.iconst 0, 1) := by decide +kernel
theorem dL_restore_2 : decode cL_restore 2 = .ok (.aload_n 0, 1) := by decide +kernel
theorem dL_restore_3 : decode cL_restore 3 = .ok (.invokevirtual 150, 3) := by decide +kernel
theorem dL_restore_6 : decode cL_restore 6 = .ok (.i2l, 1) := by decide +kernel
theorem dL_restore_7 : decode cL_restore 7 = .ok (.lastore, 1) := by decide +kernel
theorem dL_restore_8 : decode cL_restore 8 = .ok (.goto 6, 3) := by decide +kernel
theorem dL_restore_11 : decode cL_restore 11 = .ok (.astore_n 2, 1) := by decide +kernel
theorem dL_restore_12 : decode cL_restore 12 = .ok (.iconst 1, 1) := by decide +kernel
theorem dL_restore_13 : decode cL_restore 13 = .ok (.ireturn, 1) := by decide +kernel
theorem dL_restore_14 : decode cL_restore 14 = .ok (.iconst 0, 1) := by decide +kernel
theorem dL_restore_15 : decode cL_restore 15 = .ok (.ireturn, 1) := by decide +kernel
