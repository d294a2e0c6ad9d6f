set_option maxRecDepth 20000 in
theorem ggX4_init_J4_init_da8c8 : GoodIn wsX4_init wsJ4_init_da8c8 := goodIn_rr _ [(12, 6), (2, 2), (18, 16)] rfl (by decide +kernel)
set_option maxRecDepth 20000 in
theorem gX4_init_J4_init_da8c8 : GoodIn wsX4_init (wsJ4_init_da8c8) := ggX4_init_J4_init_da8c8
theorem dX4_init_0 : decode cX4_init 0 = .ok (.aload_n 0, 1) := by decide +kernel
theorem dX4_init_1 : decode cX4_init 1 = .ok (.invokespecial 3, 3) := by decide +kernel
theorem dX4_init_4 : decode cX4_init 4 = .ok (.aload_n 0, 1) := by decide +kernel
theorem dX4_init_5 : decode cX4_init 5 = .ok (.new 9, 3) := by decide +kernel
theorem dX4_init_8 : decode cX4_init 8 = .ok (.dup, 1) := by decide +kernel
theorem dX4_init_9 : decode cX4_init 9 = .ok (.invokespecial 11, 3) := by decide +kernel
theorem dX4_init_12 : decode cX4_init 12 = .ok (.putfield 12, 3) := by decide +kernel
theorem dX4_init_15 : decode cX4_init 15 = .ok (.aload_n 0, 1) := by decide +kernel
theorem dX4_init_16 : decode cX4_init 16 = .ok (.iconst 3, 1) := by decide +kernel
theorem dX4_init_17 : decode cX4_init 17 = .ok (.newarray .int, 2) := by decide +kernel
theorem dX4_init_19 : decode cX4_init 19 = .ok (.putfield 18, 3) := by decide +kernel
theorem dX4_init_22 : decode cX4_init 22 = .ok (.return_, 1) := by decide +kernel
set_option maxRecDepth 20000 in
theorem ggX4_countCommands_X4_commandAt : GoodIn wsX4_countCommands wsX4_commandAt := goodIn_ca (goodIn_rr _ [(7, 2), (1, 1), (9, 7), (6, 1), (16, 1), (2, 1), (17, 100)] rfl (by decide +kernel)) (goodIn_sub (fun _ h => List.mem_cons_of_mem _ (List.mem_append_right _ h)) (by decide +kernel))
set_option maxRecDepth 20000 in
theorem gX4_countCommands_X4_commandAt : GoodIn wsX4_countCommands (wsV RX4 22 RX4 yX4_commandAt wsX4_commandAt) := goodIn_app (goodIn_of _ (by decide +kernel)) ggX4_countCommands_X4_commandAt
set_option maxRecDepth 20000 in
theorem ggX4_countCommands_J4_length_8abf5 : GoodIn wsX4_countCommands wsJ4_length_8abf5 := goodIn_rr _ [(79, 8), (113, 4)] rfl (by decide +kernel)
set_option maxRecDepth 20000 in
theorem gX4_countCommands_J4_length_8abf5 : GoodIn wsX4_countCommands (wsV RX4 30 RJ4 yJ4_length_8abf5 wsJ4_length_8abf5) := goodIn_app (goodIn_of _ (by decide +kernel)) ggX4_countCommands_J4_length_8abf5
theorem dX4_countCommands_0 : decode cX4_countCommands 0 = .ok (.iconst 0, 1) := by decide +kernel
theorem dX4_countCommands_1 : decode cX4_countCommands 1 = .ok (.istore_n 1, 1) := by decide +kernel
theorem dX4_countCommands_2 : decode cX4_countCommands 2 = .ok (.iconst 1, 1) := by decide +kernel
theorem dX4_countCommands_3 : decode cX4_countCommands 3 = .ok (.istore_n 2, 1) := by decide +kernel
theorem dX4_countCommands_4 : decode cX4_countCommands 4 = .ok (.iload_n 2, 1) := by decide +kernel
theorem dX4_countCommands_5 : decode cX4_countCommands 5 = .ok (.bipush 60, 2) := by decide +kernel
theorem dX4_countCommands_7 : decode cX4_countCommands 7 = .ok (.if_icmp .gt 42, 3) := by decide +kernel
theorem dX4_countCommands_10 : decode cX4_countCommands 10 = .ok (.aload_n 0, 1) := by decide +kernel
theorem dX4_countCommands_11 : decode cX4_countCommands 11 = .ok (.iload_n 1, 1) := by decide +kernel
theorem dX4_countCommands_12 : decode cX4_countCommands 12 = .ok (.invokevirtual 22, 3) := by decide +kernel
theorem dX4_countCommands_15 : decode cX4_countCommands 15 = .ok (.ifnonnull 5, 3) := by decide +kernel
theorem dX4_countCommands_18 : decode cX4_countCommands 18 = .ok (.iconst (-1), 1) := by decide +kernel
theorem dX4_countCommands_19 : decode cX4_countCommands 19 = .ok (.ireturn, 1) := by decide +kernel
theorem dX4_countCommands_20 : decode cX4_countCommands 20 = .ok (.aload_n 0, 1) := by decide +kernel
theorem dX4_countCommands_21 : decode cX4_countCommands 21 = .ok (.getfield 26, 3) := by decide +kernel
theorem dX4_countCommands_24 : decode cX4_countCommands 24 = .ok (.aload_n 0, 1) := by decide +kernel
theorem dX4_countCommands_25 : decode cX4_countCommands 25 = .ok (.getfield 12, 3) := by decide +kernel
theorem dX4_countCommands_28 : decode cX4_countCommands 28 = .ok (.invokevirtual 30, 3) := by decide +kernel
theorem dX4_countCommands_31 : decode cX4_countCommands 31 = .ok (.if_icmp .lt 5, 3) := by decide +kernel
theorem dX4_countCommands_34 : decode cX4_countCommands 34 = .ok (.iload_n 2, 1) := by decide +kernel
theorem dX4_countCommands_35 : decode cX4_countCommands 35 = .ok (.ireturn, 1) := by decide +kernel
theorem dX4_countCommands_36 : decode cX4_countCommands 36 = .ok (.aload_n 0, 1) := by decide +kernel
theorem dX4_countCommands_37 : decode cX4_countCommands 37 = .ok (.getfield 26, 3) := by decide +kernel
theorem dX4_countCommands_40 : decode cX4_countCommands 40 = .ok (.iconst 1, 1) := by decide +kernel
theorem dX4_countCommands_41 : decode cX4_countCommands 41 = .ok (.iadd, 1) := by decide +kernel
theorem dX4_countCommands_42 : decode cX4_countCommands 42 = .ok (.istore_n 1, 1) := by decide +kernel
theorem dX4_countCommands_43 : decode cX4_countCommands 43 = .ok (.iinc 2 1, 3) := by decide +kernel
theorem dX4_countCommands_46 : decode cX4_countCommands 46 = .ok (.goto (-42), 3) := by decide +kernel
theorem dX4_countCommands_49 : decode cX4_countCommands 49 = .ok (.iconst (-1), 1) := by decide +kernel
theorem dX4_countCommands_50 : decode cX4_countCommands 50 = .ok (.ireturn, 1) := by decide +kernel
set_option maxRecDepth 20000 in
theorem ggX4_commandAt_X4_matches : GoodIn wsX4_commandAt wsX4_matches := goodIn_ca (goodIn_rr _ [(11, 1), (2, 1), (12, 53), (10, 1), (65, 30), (5, 1), (95, 18)] rfl (by decide +kernel)) (goodIn_sub (fun _ h => List.mem_cons_of_mem _ (List.mem_append_right _ h)) (by decide +kernel))
set_option maxRecDepth 20000 in
theorem gX4_commandAt_X4_matches : GoodIn wsX4_commandAt (wsV RX4 44 RX4 yX4_matches wsX4_matches) := goodIn_app (goodIn_of _ (by decide +kernel)) ggX4_commandAt_X4_matches
theorem dX4_commandAt_0 : decode cX4_commandAt 0 = .ok (.iload_n 1, 1) := by decide +kernel
theorem dX4_commandAt_1 : decode cX4_commandAt 1 = .ok (.istore_n 2, 1) := by decide +kernel
theorem dX4_commandAt_2 : decode cX4_commandAt 2 = .ok (.getstatic 34, 3) := by decide +kernel
theorem dX4_commandAt_5 : decode cX4_commandAt 5 = .ok (.astore_n 3, 1) := by decide +kernel
theorem dX4_commandAt_6 : decode cX4_commandAt 6 = .ok (.aload_n 3, 1) := by decide +kernel
theorem dX4_commandAt_7 : decode cX4_commandAt 7 = .ok (.arraylength, 1) := by decide +kernel
theorem dX4_commandAt_8 : decode cX4_commandAt 8 = .ok (.istore 4, 2) := by decide +kernel
theorem dX4_commandAt_10 : decode cX4_commandAt 10 = .ok (.iconst 0, 1) := by decide +kernel
theorem dX4_commandAt_11 : decode cX4_commandAt 11 = .ok (.istore 5, 2) := by decide +kernel
theorem dX4_commandAt_13 : decode cX4_commandAt 13 = .ok (.iload 5, 2) := by decide +kernel
theorem dX4_commandAt_15 : decode cX4_commandAt 15 = .ok (.iload 4, 2) := by decide +kernel
theorem dX4_commandAt_17 : decode cX4_commandAt 17 = .ok (.if_icmp .ge 40, 3) := by decide +kernel
theorem dX4_commandAt_20 : decode cX4_commandAt 20 = .ok (.aload_n 3, 1) := by decide +kernel
theorem dX4_commandAt_21 : decode cX4_commandAt 21 = .ok (.iload 5, 2) := by decide +kernel
theorem dX4_commandAt_23 : decode cX4_commandAt 23 = .ok (.aaload, 1) := by decide +kernel
theorem dX4_commandAt_24 : decode cX4_commandAt 24 = .ok (.astore 6, 2) := by decide +kernel
theorem dX4_commandAt_26 : decode cX4_commandAt 26 = .ok (.aload_n 0, 1) := by decide +kernel
theorem dX4_commandAt_27 : decode cX4_commandAt 27 = .ok (.aload 6, 2) := by decide +kernel
theorem dX4_commandAt_29 : decode cX4_commandAt 29 = .ok (.getfield 38, 3) := by decide +kernel
theorem dX4_commandAt_32 : decode cX4_commandAt 32 = .ok (.iload_n 1, 1) := by decide +kernel
theorem dX4_commandAt_33 : decode cX4_commandAt 33 = .ok (.invokevirtual 44, 3) := by decide +kernel
theorem dX4_commandAt_36 : decode cX4_commandAt 36 = .ok (.ifCond .eq 6, 3) := by decide +kernel
theorem dX4_commandAt_39 : decode cX4_commandAt 39 = .ok (.aload 6, 2) := by decide +kernel
theorem dX4_commandAt_41 : decode cX4_commandAt 41 = .ok (.areturn, 1) := by decide +kernel
theorem dX4_commandAt_42 : decode cX4_commandAt 42 = .ok (.iload_n 2, 1) := by decide +kernel
theorem dX4_commandAt_43 : decode cX4_commandAt 43 = .ok (.aload_n 0, 1) := by decide +kernel
theorem dX4_commandAt_44 : decode cX4_commandAt 44 = .ok (.getfield 26, 3) := by decide +kernel
theorem dX4_commandAt_47 : decode cX4_commandAt 47 = .ok (.invokestatic 48, 3) := by decide +kernel
theorem dX4_commandAt_50 : decode cX4_commandAt 50 = .ok (.istore_n 2, 1) := by decide +kernel
theorem dX4_commandAt_51 : decode cX4_commandAt 51 = .ok (.iinc 5 1, 3) := by decide +kernel
theorem dX4_commandAt_54 : decode cX4_commandAt 54 = .ok (.goto (-41), 3) := by decide +kernel
theorem dX4_commandAt_57 : decode cX4_commandAt 57 = .ok (.aload_n 0, 1) := by decide +kernel
theorem dX4_commandAt_58 : decode cX4_commandAt 58 = .ok (.iload_n 2, 1) := by decide +kernel
theorem dX4_commandAt_59 : decode cX4_commandAt 59 = .ok (.putfield 26, 3) := by decide +kernel
theorem dX4_commandAt_62 : decode cX4_commandAt 62 = .ok (.aconst_null, 1) := by decide +kernel
theorem dX4_commandAt_63 : decode cX4_commandAt 63 = .ok (.areturn, 1) := by decide +kernel
set_option maxRecDepth 20000 in
theorem ggX4_matches_J0_length_8abf5 : GoodIn wsX4_matches wsJ0_length_8abf5 := goodIn_rr _ [(7, 5), (6, 1), (12, 3), (97, 4)] rfl (by decide +kernel)
set_option maxRecDepth 20000 in
theorem gX4_matches_J0_length_8abf5 : GoodIn wsX4_matches (wsV RX4 54 RJ0 yJ0_length_8abf5 wsJ0_length_8abf5) := goodIn_app (goodIn_of _ (by decide +kernel)) ggX4_matches_J0_length_8abf5
set_option maxRecDepth 20000 in
theorem ggX4_matches_J0_charAt_5068e : GoodIn wsX4_matches wsJ0_charAt_5068e := goodIn_rr _ [(18, 1), (8, 1), (19, 3), (6, 1), (22, 1), (13, 2), (23, 29), (97, 4)] rfl (by decide +kernel)
set_option maxRecDepth 20000 in
theorem gX4_matches_J0_charAt_5068e : GoodIn wsX4_matches (wsV RX4 57 RJ0 yJ0_charAt_5068e wsJ0_charAt_5068e) := goodIn_app (goodIn_of _ (by decide +kernel)) ggX4_matches_J0_charAt_5068e
set_option maxRecDepth 20000 in
theorem ggX4_matches_X4_readNumber : GoodIn wsX4_matches wsX4_readNumber := goodIn_ca (goodIn_rr _ [(56, 1), (2, 1), (1, 1), (57, 4), (55, 1), (61, 28), (28, 1), (6, 1), (29, 6), (89, 1), (47, 1), (37, 1), (48, 4), (42, 3), (94, 3), (101, 4)] rfl (by decide +kernel)) (goodIn_sub (fun _ h => List.mem_cons_of_mem _ (List.mem_append_right _ h)) (by decide +kernel))
set_option maxRecDepth 20000 in
theorem gX4_matches_X4_readNumber : GoodIn wsX4_matches (wsV RX4 61 RX4 yX4_readNumber wsX4_readNumber) := goodIn_app (goodIn_of _ (by decide +kernel)) ggX4_matches_X4_readNumber
set_option maxRecDepth 20000 in
theorem ggX4_matches_X4_readSign : GoodIn wsX4_matches wsX4_readSign := goodIn_rr _ [(93, 1), (1, 2), (62, 27), (28, 1), (6, 1), (29, 6), (89, 1), (47, 1), (37, 1), (48, 4), (42, 3), (94, 3), (101, 4)] rfl (by decide +kernel)
set_option maxRecDepth 20000 in
theorem gX4_matches_X4_readSign : GoodIn wsX4_matches (wsV RX4 65 RX4 yX4_readSign wsX4_readSign) := goodIn_app (goodIn_of _ (by decide +kernel)) ggX4_matches_X4_readSign
set_option maxRecDepth 20000 in
theorem ggX4_matches_J4_length_8abf5 : GoodIn wsX4_matches wsJ4_length_8abf5 := goodIn_rr _ [(66, 8), (101, 4)] rfl (by decide +kernel)
set_option maxRecDepth 20000 in
theorem gX4_matches_J4_length_8abf5 : GoodIn wsX4_matches (wsV RX4 30 RJ4 yJ4_length_8abf5 wsJ4_length_8abf5) := goodIn_app (goodIn_of _ (by decide +kernel)) ggX4_matches_J4_length_8abf5
set_option maxRecDepth 20000 in
theorem ggX4_matches_J4_charAt_5068e : GoodIn wsX4_matches wsJ4_charAt_5068e := goodIn_rr _ [(77, 3), (69, 1), (80, 1), (71, 1), (81, 3), (73, 1), (84, 5), (28, 1), (6, 1), (29, 6), (89, 1), (47, 1), (37, 1), (48, 4), (42, 3), (101, 4)] rfl (by decide +kernel)
set_option maxRecDepth 20000 in
theorem gX4_matches_J4_charAt_5068e : GoodIn wsX4_matches (wsV RX4 69 RJ4 yJ4_charAt_5068e wsJ4_charAt_5068e) := goodIn_app (goodIn_of _ (by decide +kernel)) ggX4_matches_J4_charAt_5068e
theorem dX4_matches_0 : decode cX4_matches 0 = .ok (.aload_n 0, 1) := by decide +kernel
theorem dX4_matches_1 : decode cX4_matches 1 = .ok (.iload_n 2, 1) := by decide +kernel
theorem dX4_matches_2 : decode cX4_matches 2 = .ok (.putfield 26, 3) := by decide +kernel
theorem dX4_matches_5 : decode cX4_matches 5 = .ok (.iconst 0, 1) := by decide +kernel
theorem dX4_matches_6 : decode cX4_matches 6 = .ok (.istore_n 3, 1) := by decide +kernel
theorem dX4_matches_7 : decode cX4_matches 7 = .ok (.iconst 0, 1) := by decide +kernel
theorem dX4_matches_8 : decode cX4_matches 8 = .ok (.istore 4, 2) := by decide +kernel
theorem dX4_matches_10 : decode cX4_matches 10 = .ok (.iload 4, 2) := by decide +kernel
theorem dX4_matches_12 : decode cX4_matches 12 = .ok (.aload_n 1, 1) := by decide +kernel
theorem dX4_matches_13 : decode cX4_matches 13 = .ok (.invokevirtual 54, 3) := by decide +kernel
theorem dX4_matches_16 : decode cX4_matches 16 = .ok (.if_icmp .ge 71, 3) := by decide +kernel
theorem dX4_matches_19 : decode cX4_matches 19 = .ok (.aload_n 1, 1) := by decide +kernel
theorem dX4_matches_20 : decode cX4_matches 20 = .ok (.iload 4, 2) := by decide +kernel
theorem dX4_matches_22 : decode cX4_matches 22 = .ok (.invokevirtual 57, 3) := by decide +kernel
theorem dX4_matches_25 : decode cX4_matches 25 = .ok (.istore 5, 2) := by decide +kernel
theorem dX4_matches_27 : decode cX4_matches 27 = .ok (.iload 5, 2) := by decide +kernel
theorem dX4_matches_29 : decode cX4_matches 29 = .ok (.bipush 35, 2) := by decide +kernel
theorem dX4_matches_31 : decode cX4_matches 31 = .ok (.if_icmp .eq 10, 3) := by decide +kernel
theorem dX4_matches_34 : decode cX4_matches 34 = .ok (.iload 5, 2) := by decide +kernel
theorem dX4_matches_36 : decode cX4_matches 36 = .ok (.bipush 37, 2) := by decide +kernel
theorem dX4_matches_38 : decode cX4_matches 38 = .ok (.if_icmp .ne 28, 3) := by decide +kernel
theorem dX4_matches_41 : decode cX4_matches 41 = .ok (.aload_n 0, 1) := by decide +kernel
theorem dX4_matches_42 : decode cX4_matches 42 = .ok (.iload_n 3, 1) := by decide +kernel
theorem dX4_matches_43 : decode cX4_matches 43 = .ok (.iload 5, 2) := by decide +kernel
theorem dX4_matches_45 : decode cX4_matches 45 = .ok (.bipush 35, 2) := by decide +kernel
theorem dX4_matches_47 : decode cX4_matches 47 = .ok (.if_icmp .ne 7, 3) := by decide +kernel
theorem dX4_matches_50 : decode cX4_matches 50 = .ok (.iconst 2, 1) := by decide +kernel
theorem dX4_matches_51 : decode cX4_matches 51 = .ok (.goto 4, 3) := by decide +kernel
theorem dX4_matches_54 : decode cX4_matches 54 = .ok (.iconst 1, 1) := by decide +kernel
theorem dX4_matches_55 : decode cX4_matches 55 = .ok (.invokevirtual 61, 3) := by decide +kernel
theorem dX4_matches_58 : decode cX4_matches 58 = .ok (.istore 6, 2) := by decide +kernel
theorem dX4_matches_60 : decode cX4_matches 60 = .ok (.iinc 3 1, 3) := by decide +kernel
theorem dX4_matches_63 : decode cX4_matches 63 = .ok (.goto 11, 3) := by decide +kernel
theorem dX4_matches_66 : decode cX4_matches 66 = .ok (.aload_n 0, 1) := by decide +kernel
theorem dX4_matches_67 : decode cX4_matches 67 = .ok (.iload 5, 2) := by decide +kernel
theorem dX4_matches_69 : decode cX4_matches 69 = .ok (.invokevirtual 65, 3) := by decide +kernel
theorem dX4_matches_72 : decode cX4_matches 72 = .ok (.istore 6, 2) := by decide +kernel
theorem dX4_matches_74 : decode cX4_matches 74 = .ok (.iload 6, 2) := by decide +kernel
theorem dX4_matches_76 : decode cX4_matches 76 = .ok (.ifCond .ne 5, 3) := by decide +kernel
theorem dX4_matches_79 : decode cX4_matches 79 = .ok (.iconst 0, 1) := by decide +kernel
theorem dX4_matches_80 : decode cX4_matches 80 = .ok (.ireturn, 1) := by decide +kernel
theorem dX4_matches_81 : decode cX4_matches 81 = .ok (.iinc 4 1, 3) := by decide +kernel
theorem dX4_matches_84 : decode cX4_matches 84 = .ok (.goto (-74), 3) := by decide +kernel
theorem dX4_matches_87 : decode cX4_matches 87 = .ok (.aload_n 0, 1) := by decide +kernel
theorem dX4_matches_88 : decode cX4_matches 88 = .ok (.getfield 26, 3) := by decide +kernel
theorem dX4_matches_91 : decode cX4_matches 91 = .ok (.aload_n 0, 1) := by decide +kernel
theorem dX4_matches_92 : decode cX4_matches 92 = .ok (.getfield 12, 3) := by decide +kernel
theorem dX4_matches_95 : decode cX4_matches 95 = .ok (.invokevirtual 30, 3) := by decide +kernel
theorem dX4_matches_98 : decode cX4_matches 98 = .ok (.if_icmp .ge 19, 3) := by decide +kernel
theorem dX4_matches_101 : decode cX4_matches 101 = .ok (.aload_n 0, 1) := by decide +kernel
theorem dX4_matches_102 : decode cX4_matches 102 = .ok (.getfield 12, 3) := by decide +kernel
theorem dX4_matches_105 : decode cX4_matches 105 = .ok (.aload_n 0, 1) := by decide +kernel
theorem dX4_matches_106 : decode cX4_matches 106 = .ok (.getfield 26, 3) := by decide +kernel
theorem dX4_matches_109 : decode cX4_matches 109 = .ok (.invokevirtual 69, 3) := by decide +kernel
theorem dX4_matches_112 : decode cX4_matches 112 = .ok (.bipush 59, 2) := by decide +kernel
theorem dX4_matches_114 : decode cX4_matches 114 = .ok (.if_icmp .ne 7, 3) := by decide +kernel
theorem dX4_matches_117 : decode cX4_matches 117 = .ok (.iconst 1, 1) := by decide +kernel
theorem dX4_matches_118 : decode cX4_matches 118 = .ok (.goto 4, 3) := by decide +kernel
theorem dX4_matches_121 : decode cX4_matches 121 = .ok (.iconst 0, 1) := by decide +kernel
theorem dX4_matches_122 : decode cX4_matches 122 = .ok (.ireturn, 1) := by decide +kernel
set_option maxRecDepth 20000 in
theorem ggX4_readSign_J4_length_8abf5 : GoodIn wsX4_readSign wsJ4_length_8abf5 := goodIn_rr _ [(7, 8), (51, 4)] rfl (by decide +kernel)
set_option maxRecDepth 20000 in
theorem gX4_readSign_J4_length_8abf5 : GoodIn wsX4_readSign (wsV RX4 30 RJ4 yJ4_length_8abf5 wsJ4_length_8abf5) := goodIn_app (goodIn_of _ (by decide +kernel)) ggX4_readSign_J4_length_8abf5
set_option maxRecDepth 20000 in
theorem ggX4_readSign_J4_charAt_5068e : GoodIn wsX4_readSign wsJ4_charAt_5068e := goodIn_rr _ [(18, 3), (10, 1), (21, 1), (12, 1), (22, 3), (14, 1), (25, 23), (51, 4)] rfl (by decide +kernel)
set_option maxRecDepth 20000 in
theorem gX4_readSign_J4_charAt_5068e : GoodIn wsX4_readSign (wsV RX4 69 RJ4 yJ4_charAt_5068e wsJ4_charAt_5068e) := goodIn_app (goodIn_of _ (by decide +kernel)) ggX4_readSign_J4_charAt_5068e
theorem dX4_readSign_0 : decode cX4_readSign 0 = .ok (.aload_n 0, 1) := by decide +kernel
theorem dX4_readSign_1 : decode cX4_readSign 1 = .ok (.getfield 26, 3) := by decide +kernel
theorem dX4_readSign_4 : decode cX4_readSign 4 = .ok (.aload_n 0, 1) := by decide +kernel
theorem dX4_readSign_5 : decode cX4_readSign 5 = .ok (.getfield 12, 3) := by decide +kernel
theorem dX4_readSign_8 : decode cX4_readSign 8 = .ok (.invokevirtual 30, 3) := by decide +kernel
theorem dX4_readSign_11 : decode cX4_readSign 11 = .ok (.if_icmp .ge 18, 3) := by decide +kernel
theorem dX4_readSign_14 : decode cX4_readSign 14 = .ok (.aload_n 0, 1) := by decide +kernel
theorem dX4_readSign_15 : decode cX4_readSign 15 = .ok (.getfield 12, 3) := by decide +kernel
theorem dX4_readSign_18 : decode cX4_readSign 18 = .ok (.aload_n 0, 1) := by decide +kernel
theorem dX4_readSign_19 : decode cX4_readSign 19 = .ok (.getfield 26, 3) := by decide +kernel
theorem dX4_readSign_22 : decode cX4_readSign 22 = .ok (.invokevirtual 69, 3) := by decide +kernel
theorem dX4_readSign_25 : decode cX4_readSign 25 = .ok (.iload_n 1, 1) := by decide +kernel
theorem dX4_readSign_26 : decode cX4_readSign 26 = .ok (.if_icmp .eq 5, 3) := by decide +kernel
theorem dX4_readSign_29 : decode cX4_readSign 29 = .ok (.iconst 0, 1) := by decide +kernel
theorem dX4_readSign_30 : decode cX4_readSign 30 = .ok (.ireturn, 1) := by decide +kernel
theorem dX4_readSign_31 : decode cX4_readSign 31 = .ok (.aload_n 0, 1) := by decide +kernel
theorem dX4_readSign_32 : decode cX4_readSign 32 = .ok (.dup, 1) := by decide +kernel
theorem dX4_readSign_33 : decode cX4_readSign 33 = .ok (.getfield 26, 3) := by decide +kernel
theorem dX4_readSign_36 : decode cX4_readSign 36 = .ok (.iconst 1, 1) := by decide +kernel
theorem dX4_readSign_37 : decode cX4_readSign 37 = .ok (.iadd, 1) := by decide +kernel
theorem dX4_readSign_38 : decode cX4_readSign 38 = .ok (.putfield 26, 3) := by decide +kernel
theorem dX4_readSign_41 : decode cX4_readSign 41 = .ok (.iconst 1, 1) := by decide +kernel
theorem dX4_readSign_42 : decode cX4_readSign 42 = .ok (.ireturn, 1) := by decide +kernel
set_option maxRecDepth 20000 in
theorem ggX4_readNumber_X4_isDigitAhead : GoodIn wsX4_readNumber wsX4_isDigitAhead := goodIn_rr _ [(8, 1), (2, 1), (1, 1), (9, 52)] rfl (by decide +kernel)
set_option maxRecDepth 20000 in
theorem gX4_readNumber_X4_isDigitAhead : GoodIn wsX4_readNumber (wsV RX4 70 RX4 yX4_isDigitAhead wsX4_isDigitAhead) := goodIn_app (goodIn_of _ (by decide +kernel)) ggX4_readNumber_X4_isDigitAhead
set_option maxRecDepth 20000 in
theorem ggX4_readNumber_J4_charAt_5068e : GoodIn wsX4_readNumber wsJ4_charAt_5068e := goodIn_rr _ [(24, 3), (16, 1), (27, 1), (18, 1), (28, 3), (20, 1), (31, 23), (57, 4)] rfl (by decide +kernel)
set_option maxRecDepth 20000 in
theorem gX4_readNumber_J4_charAt_5068e : GoodIn wsX4_readNumber (wsV RX4 69 RJ4 yJ4_charAt_5068e wsJ4_charAt_5068e) := goodIn_app (goodIn_of _ (by decide +kernel)) ggX4_readNumber_J4_charAt_5068e
theorem dX4_readNumber_0 : decode cX4_readNumber 0 = .ok (.iload_n 1, 1) := by decide +kernel
theorem dX4_readNumber_1 : decode cX4_readNumber 1 = .ok (.iconst 3, 1) := by decide +kernel
theorem dX4_readNumber_2 : decode cX4_readNumber 2 = .ok (.if_icmp .ge 10, 3) := by decide +kernel
theorem dX4_readNumber_5 : decode cX4_readNumber 5 = .ok (.aload_n 0, 1) := by decide +kernel
theorem dX4_readNumber_6 : decode cX4_readNumber 6 = .ok (.invokevirtual 70, 3) := by decide +kernel
theorem dX4_readNumber_9 : decode cX4_readNumber 9 = .ok (.ifCond .ne 5, 3) := by decide +kernel
theorem dX4_readNumber_12 : decode cX4_readNumber 12 = .ok (.iconst 0, 1) := by decide +kernel
theorem dX4_readNumber_13 : decode cX4_readNumber 13 = .ok (.ireturn, 1) := by decide +kernel
theorem dX4_readNumber_14 : decode cX4_readNumber 14 = .ok (.iconst 0, 1) := by decide +kernel
theorem dX4_readNumber_15 : decode cX4_readNumber 15 = .ok (.istore_n 3, 1) := by decide +kernel
theorem dX4_readNumber_16 : decode cX4_readNumber 16 = .ok (.iconst 0, 1) := by decide +kernel
theorem dX4_readNumber_17 : decode cX4_readNumber 17 = .ok (.istore 4, 2) := by decide +kernel
theorem dX4_readNumber_19 : decode cX4_readNumber 19 = .ok (.iload 4, 2) := by decide +kernel
theorem dX4_readNumber_21 : decode cX4_readNumber 21 = .ok (.iload_n 2, 1) := by decide +kernel
theorem dX4_readNumber_22 : decode cX4_readNumber 22 = .ok (.if_icmp .ge 46, 3) := by decide +kernel
theorem dX4_readNumber_25 : decode cX4_readNumber 25 = .ok (.aload_n 0, 1) := by decide +kernel
theorem dX4_readNumber_26 : decode cX4_readNumber 26 = .ok (.invokevirtual 70, 3) := by decide +kernel
theorem dX4_readNumber_29 : decode cX4_readNumber 29 = .ok (.ifCond .eq 39, 3) := by decide +kernel
theorem dX4_readNumber_32 : decode cX4_readNumber 32 = .ok (.iload_n 3, 1) := by decide +kernel
theorem dX4_readNumber_33 : decode cX4_readNumber 33 = .ok (.bipush 10, 2) := by decide +kernel
theorem dX4_readNumber_35 : decode cX4_readNumber 35 = .ok (.imul, 1) := by decide +kernel
theorem dX4_readNumber_36 : decode cX4_readNumber 36 = .ok (.aload_n 0, 1) := by decide +kernel
theorem dX4_readNumber_37 : decode cX4_readNumber 37 = .ok (.getfield 12, 3) := by decide +kernel
theorem dX4_readNumber_40 : decode cX4_readNumber 40 = .ok (.aload_n 0, 1) := by decide +kernel
theorem dX4_readNumber_41 : decode cX4_readNumber 41 = .ok (.getfield 26, 3) := by decide +kernel
theorem dX4_readNumber_44 : decode cX4_readNumber 44 = .ok (.invokevirtual 69, 3) := by decide +kernel
theorem dX4_readNumber_47 : decode cX4_readNumber 47 = .ok (.bipush 48, 2) := by decide +kernel
theorem dX4_readNumber_49 : decode cX4_readNumber 49 = .ok (.isub, 1) := by decide +kernel
theorem dX4_readNumber_50 : decode cX4_readNumber 50 = .ok (.iadd, 1) := by decide +kernel
theorem dX4_readNumber_51 : decode cX4_readNumber 51 = .ok (.istore_n 3, 1) := by decide +kernel
theorem dX4_readNumber_52 : decode cX4_readNumber 52 = .ok (.aload_n 0, 1) := by decide +kernel
theorem dX4_readNumber_53 : decode cX4_readNumber 53 = .ok (.dup, 1) := by decide +kernel
theorem dX4_readNumber_54 : decode cX4_readNumber 54 = .ok (.getfield 26, 3) := by decide +kernel
theorem dX4_readNumber_57 : decode cX4_readNumber 57 = .ok (.iconst 1, 1) := by decide +kernel
theorem dX4_readNumber_58 : decode cX4_readNumber 58 = .ok (.iadd, 1) := by decide +kernel
theorem dX4_readNumber_59 : decode cX4_readNumber 59 = .ok (.putfield 26, 3) := by decide +kernel
theorem dX4_readNumber_62 : decode cX4_readNumber 62 = .ok (.iinc 4 1, 3) := by decide +kernel
theorem dX4_readNumber_65 : decode cX4_readNumber 65 = .ok (.goto (-46), 3) := by decide +kernel
theorem dX4_readNumber_68 : decode cX4_readNumber 68 = .ok (.aload_n 0, 1) := by decide +kernel
theorem dX4_readNumber_69 : decode cX4_readNumber 69 = .ok (.getfield 18, 3) := by decide +kernel
theorem dX4_readNumber_72 : decode cX4_readNumber 72 = .ok (.iload_n 1, 1) := by decide +kernel
theorem dX4_readNumber_73 : decode cX4_readNumber 73 = .ok (.iload_n 3, 1) := by decide +kernel
theorem dX4_readNumber_74 : decode cX4_readNumber 74 = .ok (.iastore, 1) := by decide +kernel
theorem dX4_readNumber_75 : decode cX4_readNumber 75 = .ok (.iconst 1, 1) := by decide +kernel
theorem dX4_readNumber_76 : decode cX4_readNumber 76 = .ok (.ireturn, 1) := by decide +kernel
set_option maxRecDepth 20000 in
theorem ggX4_isDigitAhead_J4_length_8abf5 : GoodIn wsX4_isDigitAhead wsJ4_length_8abf5 := goodIn_rr _ [(7, 8), (51, 4)] rfl (by decide +kernel)
set_option maxRecDepth 20000 in
theorem gX4_isDigitAhead_J4_length_8abf5 : GoodIn wsX4_isDigitAhead (wsV RX4 30 RJ4 yJ4_length_8abf5 wsJ4_length_8abf5) := goodIn_app (goodIn_of _ (by decide +kernel)) ggX4_isDigitAhead_J4_length_8abf5
set_option maxRecDepth 20000 in
theorem ggX4_isDigitAhead_J4_charAt_5068e : GoodIn wsX4_isDigitAhead wsJ4_charAt_5068e := goodIn_rr _ [(18, 3), (10, 1), (21, 1), (12, 1), (22, 3), (14, 1), (25, 23), (51, 4)] rfl (by decide +kernel)
set_option maxRecDepth 20000 in
theorem gX4_isDigitAhead_J4_charAt_5068e : GoodIn wsX4_isDigitAhead (wsV RX4 69 RJ4 yJ4_charAt_5068e wsJ4_charAt_5068e) := goodIn_app (goodIn_of _ (by decide +kernel)) ggX4_isDigitAhead_J4_charAt_5068e
theorem dX4_isDigitAhead_0 : decode cX4_isDigitAhead 0 = .ok (.aload_n 0, 1) := by decide +kernel
theorem dX4_isDigitAhead_1 : decode cX4_isDigitAhead 1 = .ok (.getfield 26, 3) := by decide +kernel
theorem dX4_isDigitAhead_4 : decode cX4_isDigitAhead 4 = .ok (.aload_n 0, 1) := by decide +kernel
theorem dX4_isDigitAhead_5 : decode cX4_isDigitAhead 5 = .ok (.getfield 12, 3) := by decide +kernel
theorem dX4_isDigitAhead_8 : decode cX4_isDigitAhead 8 = .ok (.invokevirtual 30, 3) := by decide +kernel
theorem dX4_isDigitAhead_11 : decode cX4_isDigitAhead 11 = .ok (.if_icmp .ge 39, 3) := by decide +kernel
theorem dX4_isDigitAhead_14 : decode cX4_isDigitAhead 14 = .ok (.aload_n 0, 1) := by decide +kernel
theorem dX4_isDigitAhead_15 : decode cX4_isDigitAhead 15 = .ok (.getfield 12, 3) := by decide +kernel
theorem dX4_isDigitAhead_18 : decode cX4_isDigitAhead 18 = .ok (.aload_n 0, 1) := by decide +kernel
theorem dX4_isDigitAhead_19 : decode cX4_isDigitAhead 19 = .ok (.getfield 26, 3) := by decide +kernel
theorem dX4_isDigitAhead_22 : decode cX4_isDigitAhead 22 = .ok (.invokevirtual 69, 3) := by decide +kernel
theorem dX4_isDigitAhead_25 : decode cX4_isDigitAhead 25 = .ok (.bipush 48, 2) := by decide +kernel
theorem dX4_isDigitAhead_27 : decode cX4_isDigitAhead 27 = .ok (.if_icmp .lt 23, 3) := by decide +kernel
theorem dX4_isDigitAhead_30 : decode cX4_isDigitAhead 30 = .ok (.aload_n 0, 1) := by decide +kernel
theorem dX4_isDigitAhead_31 : decode cX4_isDigitAhead 31 = .ok (.getfield 12, 3) := by decide +kernel
theorem dX4_isDigitAhead_34 : decode cX4_isDigitAhead 34 = .ok (.aload_n 0, 1) := by decide +kernel
theorem dX4_isDigitAhead_35 : decode cX4_isDigitAhead 35 = .ok (.getfield 26, 3) := by decide +kernel
theorem dX4_isDigitAhead_38 : decode cX4_isDigitAhead 38 = .ok (.invokevirtual 69, 3) := by decide +kernel
theorem dX4_isDigitAhead_41 : decode cX4_isDigitAhead 41 = .ok (.bipush 57, 2) := by decide +kernel
theorem dX4_isDigitAhead_43 : decode cX4_isDigitAhead 43 = .ok (.if_icmp .gt 7, 3) := by decide +kernel
theorem dX4_isDigitAhead_46 : decode cX4_isDigitAhead 46 = .ok (.iconst 1, 1) := by decide +kernel
theorem dX4_isDigitAhead_47 : decode cX4_isDigitAhead 47 = .ok (.goto 4, 3) := by decide +kernel
theorem dX4_isDigitAhead_50 : decode cX4_isDigitAhead 50 = .ok (.iconst 0, 1) := by decide +kernel
theorem dX4_isDigitAhead_51 : decode cX4_isDigitAhead 51 = .ok (.ireturn, 1) := by decide +kernel
