theorem dX2_init_0 : decode cX2_init 0 = .ok (.aload_n 0, 1) := by decide +kernel
theorem dX2_init_1 : decode cX2_init 1 = .ok (.invokespecial 3, 3) := by decide +kernel
theorem dX2_init_4 : decode cX2_init 4 = .ok (.return_, 1) := by decide +kernel
theorem dX2_arrive_0 : decode cX2_arrive 0 = .ok (.aload_n 0, 1) := by decide +kernel
theorem dX2_arrive_1 : decode cX2_arrive 1 = .ok (.iload_n 1, 1) := by decide +kernel
theorem dX2_arrive_2 : decode cX2_arrive 2 = .ok (.putfield 9, 3) := by decide +kernel
theorem dX2_arrive_5 : decode cX2_arrive 5 = .ok (.aload_n 0, 1) := by decide +kernel
theorem dX2_arrive_6 : decode cX2_arrive 6 = .ok (.iload_n 2, 1) := by decide +kernel
theorem dX2_arrive_7 : decode cX2_arrive 7 = .ok (.putfield 15, 3) := by decide +kernel
theorem dX2_arrive_10 : decode cX2_arrive 10 = .ok (.aload_n 0, 1) := by decide +kernel
theorem dX2_arrive_11 : decode cX2_arrive 11 = .ok (.iconst 0, 1) := by decide +kernel
theorem dX2_arrive_12 : decode cX2_arrive 12 = .ok (.putfield 18, 3) := by decide +kernel
theorem dX2_arrive_15 : decode cX2_arrive 15 = .ok (.aload_n 0, 1) := by decide +kernel
theorem dX2_arrive_16 : decode cX2_arrive 16 = .ok (.iconst 0, 1) := by decide +kernel
theorem dX2_arrive_17 : decode cX2_arrive 17 = .ok (.putfield 21, 3) := by decide +kernel
theorem dX2_arrive_20 : decode cX2_arrive 20 = .ok (.aload_n 0, 1) := by decide +kernel
theorem dX2_arrive_21 : decode cX2_arrive 21 = .ok (.iconst 0, 1) := by decide +kernel
theorem dX2_arrive_22 : decode cX2_arrive 22 = .ok (.putfield 24, 3) := by decide +kernel
theorem dX2_arrive_25 : decode cX2_arrive 25 = .ok (.aload_n 0, 1) := by decide +kernel
theorem dX2_arrive_26 : decode cX2_arrive 26 = .ok (.iconst 0, 1) := by decide +kernel
theorem dX2_arrive_27 : decode cX2_arrive 27 = .ok (.putfield 27, 3) := by decide +kernel
theorem dX2_arrive_30 : decode cX2_arrive 30 = .ok (.aload_n 0, 1) := by decide +kernel
theorem dX2_arrive_31 : decode cX2_arrive 31 = .ok (.iconst 0, 1) := by decide +kernel
theorem dX2_arrive_32 : decode cX2_arrive 32 = .ok (.putfield 31, 3) := by decide +kernel
theorem dX2_arrive_35 : decode cX2_arrive 35 = .ok (.return_, 1) := by decide +kernel
theorem dX2_copyFrom_0 : decode cX2_copyFrom 0 = .ok (.aload_n 0, 1) := by decide +kernel
theorem dX2_copyFrom_1 : decode cX2_copyFrom 1 = .ok (.aload_n 1, 1) := by decide +kernel
theorem dX2_copyFrom_2 : decode cX2_copyFrom 2 = .ok (.getfield 9, 3) := by decide +kernel
theorem dX2_copyFrom_5 : decode cX2_copyFrom 5 = .ok (.putfield 9, 3) := by decide +kernel
theorem dX2_copyFrom_8 : decode cX2_copyFrom 8 = .ok (.aload_n 0, 1) := by decide +kernel
theorem dX2_copyFrom_9 : decode cX2_copyFrom 9 = .ok (.aload_n 1, 1) := by decide +kernel
theorem dX2_copyFrom_10 : decode cX2_copyFrom 10 = .ok (.getfield 15, 3) := by decide +kernel
theorem dX2_copyFrom_13 : decode cX2_copyFrom 13 = .ok (.putfield 15, 3) := by decide +kernel
theorem dX2_copyFrom_16 : decode cX2_copyFrom 16 = .ok (.aload_n 0, 1) := by decide +kernel
theorem dX2_copyFrom_17 : decode cX2_copyFrom 17 = .ok (.aload_n 1, 1) := by decide +kernel
theorem dX2_copyFrom_18 : decode cX2_copyFrom 18 = .ok (.getfield 18, 3) := by decide +kernel
theorem dX2_copyFrom_21 : decode cX2_copyFrom 21 = .ok (.putfield 18, 3) := by decide +kernel
theorem dX2_copyFrom_24 : decode cX2_copyFrom 24 = .ok (.aload_n 0, 1) := by decide +kernel
theorem dX2_copyFrom_25 : decode cX2_copyFrom 25 = .ok (.aload_n 1, 1) := by decide +kernel
theorem dX2_copyFrom_26 : decode cX2_copyFrom 26 = .ok (.getfield 21, 3) := by decide +kernel
theorem dX2_copyFrom_29 : decode cX2_copyFrom 29 = .ok (.putfield 21, 3) := by decide +kernel
theorem dX2_copyFrom_32 : decode cX2_copyFrom 32 = .ok (.aload_n 0, 1) := by decide +kernel
theorem dX2_copyFrom_33 : decode cX2_copyFrom 33 = .ok (.aload_n 1, 1) := by decide +kernel
theorem dX2_copyFrom_34 : decode cX2_copyFrom 34 = .ok (.getfield 24, 3) := by decide +kernel
theorem dX2_copyFrom_37 : decode cX2_copyFrom 37 = .ok (.putfield 24, 3) := by decide +kernel
theorem dX2_copyFrom_40 : decode cX2_copyFrom 40 = .ok (.aload_n 0, 1) := by decide +kernel
theorem dX2_copyFrom_41 : decode cX2_copyFrom 41 = .ok (.aload_n 1, 1) := by decide +kernel
theorem dX2_copyFrom_42 : decode cX2_copyFrom 42 = .ok (.getfield 27, 3) := by decide +kernel
theorem dX2_copyFrom_45 : decode cX2_copyFrom 45 = .ok (.putfield 27, 3) := by decide +kernel
theorem dX2_copyFrom_48 : decode cX2_copyFrom 48 = .ok (.aload_n 0, 1) := by decide +kernel
theorem dX2_copyFrom_49 : decode cX2_copyFrom 49 = .ok (.aload_n 1, 1) := by decide +kernel
theorem dX2_copyFrom_50 : decode cX2_copyFrom 50 = .ok (.getfield 31, 3) := by decide +kernel
theorem dX2_copyFrom_53 : decode cX2_copyFrom 53 = .ok (.putfield 31, 3) := by decide +kernel
theorem dX2_copyFrom_56 : decode cX2_copyFrom 56 = .ok (.return_, 1) := by decide +kernel
theorem dX2_sighsInMinute_0 : decode cX2_sighsInMinute 0 = .ok (.aload_n 0, 1) := by decide +kernel
theorem dX2_sighsInMinute_1 : decode cX2_sighsInMinute 1 = .ok (.dup, 1) := by decide +kernel
theorem dX2_sighsInMinute_2 : decode cX2_sighsInMinute 2 = .ok (.getfield 24, 3) := by decide +kernel
theorem dX2_sighsInMinute_5 : decode cX2_sighsInMinute 5 = .ok (.iconst 1, 1) := by decide +kernel
theorem dX2_sighsInMinute_6 : decode cX2_sighsInMinute 6 = .ok (.iadd, 1) := by decide +kernel
theorem dX2_sighsInMinute_7 : decode cX2_sighsInMinute 7 = .ok (.putfield 24, 3) := by decide +kernel
theorem dX2_sighsInMinute_10 : decode cX2_sighsInMinute 10 = .ok (.aload_n 0, 1) := by decide +kernel
theorem dX2_sighsInMinute_11 : decode cX2_sighsInMinute 11 = .ok (.getfield 31, 3) := by decide +kernel
theorem dX2_sighsInMinute_14 : decode cX2_sighsInMinute 14 = .ok (.ifCond .eq 38, 3) := by decide +kernel
theorem dX2_sighsInMinute_17 : decode cX2_sighsInMinute 17 = .ok (.aload_n 0, 1) := by decide +kernel
theorem dX2_sighsInMinute_18 : decode cX2_sighsInMinute 18 = .ok (.aload_n 0, 1) := by decide +kernel
theorem dX2_sighsInMinute_19 : decode cX2_sighsInMinute 19 = .ok (.getfield 21, 3) := by decide +kernel
theorem dX2_sighsInMinute_22 : decode cX2_sighsInMinute 22 = .ok (.iconst 1, 1) := by decide +kernel
theorem dX2_sighsInMinute_23 : decode cX2_sighsInMinute 23 = .ok (.iadd, 1) := by decide +kernel
theorem dX2_sighsInMinute_24 : decode cX2_sighsInMinute 24 = .ok (.bipush 6, 2) := by decide +kernel
theorem dX2_sighsInMinute_26 : decode cX2_sighsInMinute 26 = .ok (.invokestatic 34, 3) := by decide +kernel
theorem dX2_sighsInMinute_29 : decode cX2_sighsInMinute 29 = .ok (.putfield 21, 3) := by decide +kernel
theorem dX2_sighsInMinute_32 : decode cX2_sighsInMinute 32 = .ok (.aload_n 0, 1) := by decide +kernel
theorem dX2_sighsInMinute_33 : decode cX2_sighsInMinute 33 = .ok (.aload_n 0, 1) := by decide +kernel
theorem dX2_sighsInMinute_34 : decode cX2_sighsInMinute 34 = .ok (.getfield 21, 3) := by decide +kernel
theorem dX2_sighsInMinute_37 : decode cX2_sighsInMinute 37 = .ok (.bipush 6, 2) := by decide +kernel
theorem dX2_sighsInMinute_39 : decode cX2_sighsInMinute 39 = .ok (.if_icmp .ge 7, 3) := by decide +kernel
theorem dX2_sighsInMinute_42 : decode cX2_sighsInMinute 42 = .ok (.iconst 1, 1) := by decide +kernel
theorem dX2_sighsInMinute_43 : decode cX2_sighsInMinute 43 = .ok (.goto 4, 3) := by decide +kernel
theorem dX2_sighsInMinute_46 : decode cX2_sighsInMinute 46 = .ok (.iconst 0, 1) := by decide +kernel
theorem dX2_sighsInMinute_47 : decode cX2_sighsInMinute 47 = .ok (.putfield 31, 3) := by decide +kernel
theorem dX2_sighsInMinute_50 : decode cX2_sighsInMinute 50 = .ok (.iconst 0, 1) := by decide +kernel
theorem dX2_sighsInMinute_51 : decode cX2_sighsInMinute 51 = .ok (.ireturn, 1) := by decide +kernel
theorem dX2_sighsInMinute_52 : decode cX2_sighsInMinute 52 = .ok (.aload_n 0, 1) := by decide +kernel
theorem dX2_sighsInMinute_53 : decode cX2_sighsInMinute 53 = .ok (.aload_n 0, 1) := by decide +kernel
theorem dX2_sighsInMinute_54 : decode cX2_sighsInMinute 54 = .ok (.getfield 21, 3) := by decide +kernel
theorem dX2_sighsInMinute_57 : decode cX2_sighsInMinute 57 = .ok (.iconst 1, 1) := by decide +kernel
theorem dX2_sighsInMinute_58 : decode cX2_sighsInMinute 58 = .ok (.isub, 1) := by decide +kernel
theorem dX2_sighsInMinute_59 : decode cX2_sighsInMinute 59 = .ok (.iconst 0, 1) := by decide +kernel
theorem dX2_sighsInMinute_60 : decode cX2_sighsInMinute 60 = .ok (.invokestatic 40, 3) := by decide +kernel
theorem dX2_sighsInMinute_63 : decode cX2_sighsInMinute 63 = .ok (.putfield 21, 3) := by decide +kernel
theorem dX2_sighsInMinute_66 : decode cX2_sighsInMinute 66 = .ok (.aload_n 0, 1) := by decide +kernel
theorem dX2_sighsInMinute_67 : decode cX2_sighsInMinute 67 = .ok (.aload_n 0, 1) := by decide +kernel
theorem dX2_sighsInMinute_68 : decode cX2_sighsInMinute 68 = .ok (.getfield 15, 3) := by decide +kernel
theorem dX2_sighsInMinute_71 : decode cX2_sighsInMinute 71 = .ok (.iconst 1, 1) := by decide +kernel
theorem dX2_sighsInMinute_72 : decode cX2_sighsInMinute 72 = .ok (.isub, 1) := by decide +kernel
theorem dX2_sighsInMinute_73 : decode cX2_sighsInMinute 73 = .ok (.iconst 0, 1) := by decide +kernel
theorem dX2_sighsInMinute_74 : decode cX2_sighsInMinute 74 = .ok (.invokestatic 40, 3) := by decide +kernel
theorem dX2_sighsInMinute_77 : decode cX2_sighsInMinute 77 = .ok (.putfield 15, 3) := by decide +kernel
theorem dX2_sighsInMinute_80 : decode cX2_sighsInMinute 80 = .ok (.aload_n 0, 1) := by decide +kernel
theorem dX2_sighsInMinute_81 : decode cX2_sighsInMinute 81 = .ok (.getfield 15, 3) := by decide +kernel
theorem dX2_sighsInMinute_84 : decode cX2_sighsInMinute 84 = .ok (.ifCond .le 5, 3) := by decide +kernel
theorem dX2_sighsInMinute_87 : decode cX2_sighsInMinute 87 = .ok (.iconst 0, 1) := by decide +kernel
theorem dX2_sighsInMinute_88 : decode cX2_sighsInMinute 88 = .ok (.ireturn, 1) := by decide +kernel
theorem dX2_sighsInMinute_89 : decode cX2_sighsInMinute 89 = .ok (.aload_n 0, 1) := by decide +kernel
theorem dX2_sighsInMinute_90 : decode cX2_sighsInMinute 90 = .ok (.dup, 1) := by decide +kernel
theorem dX2_sighsInMinute_91 : decode cX2_sighsInMinute 91 = .ok (.getfield 18, 3) := by decide +kernel
theorem dX2_sighsInMinute_94 : decode cX2_sighsInMinute 94 = .ok (.iconst 1, 1) := by decide +kernel
theorem dX2_sighsInMinute_95 : decode cX2_sighsInMinute 95 = .ok (.iadd, 1) := by decide +kernel
theorem dX2_sighsInMinute_96 : decode cX2_sighsInMinute 96 = .ok (.putfield 18, 3) := by decide +kernel
theorem dX2_sighsInMinute_99 : decode cX2_sighsInMinute 99 = .ok (.iconst 1, 1) := by decide +kernel
theorem dX2_sighsInMinute_100 : decode cX2_sighsInMinute 100 = .ok (.ireturn, 1) := by decide +kernel
theorem dX2_sighsBefore_0 : decode cX2_sighsBefore 0 = .ok (.aload_n 0, 1) := by decide +kernel
theorem dX2_sighsBefore_1 : decode cX2_sighsBefore 1 = .ok (.getfield 18, 3) := by decide +kernel
theorem dX2_sighsBefore_4 : decode cX2_sighsBefore 4 = .ok (.aload_n 1, 1) := by decide +kernel
theorem dX2_sighsBefore_5 : decode cX2_sighsBefore 5 = .ok (.getfield 18, 3) := by decide +kernel
theorem dX2_sighsBefore_8 : decode cX2_sighsBefore 8 = .ok (.if_icmp .eq 20, 3) := by decide +kernel
theorem dX2_sighsBefore_11 : decode cX2_sighsBefore 11 = .ok (.aload_n 0, 1) := by decide +kernel
theorem dX2_sighsBefore_12 : decode cX2_sighsBefore 12 = .ok (.getfield 18, 3) := by decide +kernel
theorem dX2_sighsBefore_15 : decode cX2_sighsBefore 15 = .ok (.aload_n 1, 1) := by decide +kernel
theorem dX2_sighsBefore_16 : decode cX2_sighsBefore 16 = .ok (.getfield 18, 3) := by decide +kernel
theorem dX2_sighsBefore_19 : decode cX2_sighsBefore 19 = .ok (.if_icmp .le 7, 3) := by decide +kernel
theorem dX2_sighsBefore_22 : decode cX2_sighsBefore 22 = .ok (.iconst 1, 1) := by decide +kernel
theorem dX2_sighsBefore_23 : decode cX2_sighsBefore 23 = .ok (.goto 4, 3) := by decide +kernel
theorem dX2_sighsBefore_26 : decode cX2_sighsBefore 26 = .ok (.iconst 0, 1) := by decide +kernel
theorem dX2_sighsBefore_27 : decode cX2_sighsBefore 27 = .ok (.ireturn, 1) := by decide +kernel
theorem dX2_sighsBefore_28 : decode cX2_sighsBefore 28 = .ok (.aload_n 0, 1) := by decide +kernel
theorem dX2_sighsBefore_29 : decode cX2_sighsBefore 29 = .ok (.getfield 15, 3) := by decide +kernel
theorem dX2_sighsBefore_32 : decode cX2_sighsBefore 32 = .ok (.aload_n 1, 1) := by decide +kernel
theorem dX2_sighsBefore_33 : decode cX2_sighsBefore 33 = .ok (.getfield 15, 3) := by decide +kernel
theorem dX2_sighsBefore_36 : decode cX2_sighsBefore 36 = .ok (.if_icmp .ge 7, 3) := by decide +kernel
theorem dX2_sighsBefore_39 : decode cX2_sighsBefore 39 = .ok (.iconst 1, 1) := by decide +kernel
theorem dX2_sighsBefore_40 : decode cX2_sighsBefore 40 = .ok (.goto 4, 3) := by decide +kernel
theorem dX2_sighsBefore_43 : decode cX2_sighsBefore 43 = .ok (.iconst 0, 1) := by decide +kernel
theorem dX2_sighsBefore_44 : decode cX2_sighsBefore 44 = .ok (.ireturn, 1) := by decide +kernel
theorem dX2_waitsBefore_0 : decode cX2_waitsBefore 0 = .ok (.aload_n 0, 1) := by decide +kernel
theorem dX2_waitsBefore_1 : decode cX2_waitsBefore 1 = .ok (.getfield 24, 3) := by decide +kernel
theorem dX2_waitsBefore_4 : decode cX2_waitsBefore 4 = .ok (.aload_n 1, 1) := by decide +kernel
theorem dX2_waitsBefore_5 : decode cX2_waitsBefore 5 = .ok (.getfield 24, 3) := by decide +kernel
theorem dX2_waitsBefore_8 : decode cX2_waitsBefore 8 = .ok (.if_icmp .eq 20, 3) := by decide +kernel
theorem dX2_waitsBefore_11 : decode cX2_waitsBefore 11 = .ok (.aload_n 0, 1) := by decide +kernel
theorem dX2_waitsBefore_12 : decode cX2_waitsBefore 12 = .ok (.getfield 24, 3) := by decide +kernel
theorem dX2_waitsBefore_15 : decode cX2_waitsBefore 15 = .ok (.aload_n 1, 1) := by decide +kernel
theorem dX2_waitsBefore_16 : decode cX2_waitsBefore 16 = .ok (.getfield 24, 3) := by decide +kernel
theorem dX2_waitsBefore_19 : decode cX2_waitsBefore 19 = .ok (.if_icmp .le 7, 3) := by decide +kernel
theorem dX2_waitsBefore_22 : decode cX2_waitsBefore 22 = .ok (.iconst 1, 1) := by decide +kernel
theorem dX2_waitsBefore_23 : decode cX2_waitsBefore 23 = .ok (.goto 4, 3) := by decide +kernel
theorem dX2_waitsBefore_26 : decode cX2_waitsBefore 26 = .ok (.iconst 0, 1) := by decide +kernel
theorem dX2_waitsBefore_27 : decode cX2_waitsBefore 27 = .ok (.ireturn, 1) := by decide +kernel
theorem dX2_waitsBefore_28 : decode cX2_waitsBefore 28 = .ok (.aload_n 0, 1) := by decide +kernel
theorem dX2_waitsBefore_29 : decode cX2_waitsBefore 29 = .ok (.getfield 27, 3) := by decide +kernel
theorem dX2_waitsBefore_32 : decode cX2_waitsBefore 32 = .ok (.ifCond .ne 14, 3) := by decide +kernel
theorem dX2_waitsBefore_35 : decode cX2_waitsBefore 35 = .ok (.aload_n 1, 1) := by decide +kernel
theorem dX2_waitsBefore_36 : decode cX2_waitsBefore 36 = .ok (.getfield 27, 3) := by decide +kernel
theorem dX2_waitsBefore_39 : decode cX2_waitsBefore 39 = .ok (.ifCond .eq 7, 3) := by decide +kernel
theorem dX2_waitsBefore_42 : decode cX2_waitsBefore 42 = .ok (.iconst 1, 1) := by decide +kernel
theorem dX2_waitsBefore_43 : decode cX2_waitsBefore 43 = .ok (.goto 4, 3) := by decide +kernel
theorem dX2_waitsBefore_46 : decode cX2_waitsBefore 46 = .ok (.iconst 0, 1) := by decide +kernel
theorem dX2_waitsBefore_47 : decode cX2_waitsBefore 47 = .ok (.ireturn, 1) := by decide +kernel
theorem dX5_init_0 : decode cX5_init 0 = .ok (.aload_n 0, 1) := by decide +kernel
theorem dX5_init_1 : decode cX5_init 1 = .ok (.invokespecial 3, 3) := by decide +kernel
theorem dX5_init_4 : decode cX5_init 4 = .ok (.aload_n 0, 1) := by decide +kernel
theorem dX5_init_5 : decode cX5_init 5 = .ok (.iconst (-1), 1) := by decide +kernel
theorem dX5_init_6 : decode cX5_init 6 = .ok (.putfield 9, 3) := by decide +kernel
theorem dX5_init_9 : decode cX5_init 9 = .ok (.return_, 1) := by decide +kernel
theorem dX5_isOpen_0 : decode cX5_isOpen 0 = .ok (.aload_n 0, 1) := by decide +kernel
theorem dX5_isOpen_1 : decode cX5_isOpen 1 = .ok (.getfield 15, 3) := by decide +kernel
theorem dX5_isOpen_4 : decode cX5_isOpen 4 = .ok (.ifCond .le 7, 3) := by decide +kernel
theorem dX5_isOpen_7 : decode cX5_isOpen 7 = .ok (.iconst 1, 1) := by decide +kernel
theorem dX5_isOpen_8 : decode cX5_isOpen 8 = .ok (.goto 4, 3) := by decide +kernel
theorem dX5_isOpen_11 : decode cX5_isOpen 11 = .ok (.iconst 0, 1) := by decide +kernel
theorem dX5_isOpen_12 : decode cX5_isOpen 12 = .ok (.ireturn, 1) := by decide +kernel
theorem dX5_copyFrom_0 : decode cX5_copyFrom 0 = .ok (.aload_n 0, 1) := by decide +kernel
theorem dX5_copyFrom_1 : decode cX5_copyFrom 1 = .ok (.aload_n 1, 1) := by decide +kernel
theorem dX5_copyFrom_2 : decode cX5_copyFrom 2 = .ok (.getfield 15, 3) := by decide +kernel
theorem dX5_copyFrom_5 : decode cX5_copyFrom 5 = .ok (.putfield 15, 3) := by decide +kernel
theorem dX5_copyFrom_8 : decode cX5_copyFrom 8 = .ok (.aload_n 0, 1) := by decide +kernel
theorem dX5_copyFrom_9 : decode cX5_copyFrom 9 = .ok (.aload_n 1, 1) := by decide +kernel
theorem dX5_copyFrom_10 : decode cX5_copyFrom 10 = .ok (.getfield 18, 3) := by decide +kernel
theorem dX5_copyFrom_13 : decode cX5_copyFrom 13 = .ok (.putfield 18, 3) := by decide +kernel
theorem dX5_copyFrom_16 : decode cX5_copyFrom 16 = .ok (.aload_n 0, 1) := by decide +kernel
theorem dX5_copyFrom_17 : decode cX5_copyFrom 17 = .ok (.aload_n 1, 1) := by decide +kernel
theorem dX5_copyFrom_18 : decode cX5_copyFrom 18 = .ok (.getfield 9, 3) := by decide +kernel
theorem dX5_copyFrom_21 : decode cX5_copyFrom 21 = .ok (.putfield 9, 3) := by decide +kernel
theorem dX5_copyFrom_24 : decode cX5_copyFrom 24 = .ok (.aload_n 0, 1) := by decide +kernel
theorem dX5_copyFrom_25 : decode cX5_copyFrom 25 = .ok (.aload_n 1, 1) := by decide +kernel
theorem dX5_copyFrom_26 : decode cX5_copyFrom 26 = .ok (.getfield 21, 3) := by decide +kernel
theorem dX5_copyFrom_29 : decode cX5_copyFrom 29 = .ok (.putfield 21, 3) := by decide +kernel
theorem dX5_copyFrom_32 : decode cX5_copyFrom 32 = .ok (.return_, 1) := by decide +kernel
set_option maxRecDepth 20000 in
theorem ggX3_init_X2_init : GoodIn wsX3_init wsX2_init := goodIn_rr _ [(17, 2), (2, 2)] rfl (by decide +kernel)
set_option maxRecDepth 20000 in
theorem gX3_init_X2_init_n17 : GoodIn wsX3_init (wsX2_init) := ggX3_init_X2_init
set_option maxRecDepth 20000 in
theorem ggX3_init_X5_init : GoodIn wsX3_init wsX5_init := goodIn_rr _ [(20, 2), (2, 2), (22, 1), (44, 4)] rfl (by decide +kernel)
set_option maxRecDepth 20000 in
theorem gX3_init_X5_init_n24 : GoodIn wsX3_init (wsX5_init) := ggX3_init_X5_init
theorem dX3_init_0 : decode cX3_init 0 = .ok (.aload_n 0, 1) := by decide +kernel
theorem dX3_init_1 : decode cX3_init 1 = .ok (.invokespecial 3, 3) := by decide +kernel
theorem dX3_init_4 : decode cX3_init 4 = .ok (.aload_n 0, 1) := by decide +kernel
theorem dX3_init_5 : decode cX3_init 5 = .ok (.bipush 12, 2) := by decide +kernel
theorem dX3_init_7 : decode cX3_init 7 = .ok (.anewarray 9, 3) := by decide +kernel
theorem dX3_init_10 : decode cX3_init 10 = .ok (.putfield 11, 3) := by decide +kernel
theorem dX3_init_13 : decode cX3_init 13 = .ok (.iconst 0, 1) := by decide +kernel
theorem dX3_init_14 : decode cX3_init 14 = .ok (.istore_n 1, 1) := by decide +kernel
theorem dX3_init_15 : decode cX3_init 15 = .ok (.iload_n 1, 1) := by decide +kernel
theorem dX3_init_16 : decode cX3_init 16 = .ok (.bipush 12, 2) := by decide +kernel
theorem dX3_init_18 : decode cX3_init 18 = .ok (.if_icmp .ge 22, 3) := by decide +kernel
theorem dX3_init_21 : decode cX3_init 21 = .ok (.aload_n 0, 1) := by decide +kernel
theorem dX3_init_22 : decode cX3_init 22 = .ok (.getfield 11, 3) := by decide +kernel
theorem dX3_init_25 : decode cX3_init 25 = .ok (.iload_n 1, 1) := by decide +kernel
theorem dX3_init_26 : decode cX3_init 26 = .ok (.new 9, 3) := by decide +kernel
theorem dX3_init_29 : decode cX3_init 29 = .ok (.dup, 1) := by decide +kernel
theorem dX3_init_30 : decode cX3_init 30 = .ok (.invokespecial 17, 3) := by decide +kernel
theorem dX3_init_33 : decode cX3_init 33 = .ok (.aastore, 1) := by decide +kernel
theorem dX3_init_34 : decode cX3_init 34 = .ok (.iinc 1 1, 3) := by decide +kernel
theorem dX3_init_37 : decode cX3_init 37 = .ok (.goto (-22), 3) := by decide +kernel
theorem dX3_init_40 : decode cX3_init 40 = .ok (.aload_n 0, 1) := by decide +kernel
theorem dX3_init_41 : decode cX3_init 41 = .ok (.iconst 3, 1) := by decide +kernel
theorem dX3_init_42 : decode cX3_init 42 = .ok (.anewarray 18, 3) := by decide +kernel
theorem dX3_init_45 : decode cX3_init 45 = .ok (.putfield 20, 3) := by decide +kernel
theorem dX3_init_48 : decode cX3_init 48 = .ok (.iconst 0, 1) := by decide +kernel
theorem dX3_init_49 : decode cX3_init 49 = .ok (.istore_n 1, 1) := by decide +kernel
theorem dX3_init_50 : decode cX3_init 50 = .ok (.iload_n 1, 1) := by decide +kernel
theorem dX3_init_51 : decode cX3_init 51 = .ok (.iconst 3, 1) := by decide +kernel
theorem dX3_init_52 : decode cX3_init 52 = .ok (.if_icmp .ge 22, 3) := by decide +kernel
theorem dX3_init_55 : decode cX3_init 55 = .ok (.aload_n 0, 1) := by decide +kernel
theorem dX3_init_56 : decode cX3_init 56 = .ok (.getfield 20, 3) := by decide +kernel
theorem dX3_init_59 : decode cX3_init 59 = .ok (.iload_n 1, 1) := by decide +kernel
theorem dX3_init_60 : decode cX3_init 60 = .ok (.new 18, 3) := by decide +kernel
theorem dX3_init_63 : decode cX3_init 63 = .ok (.dup, 1) := by decide +kernel
theorem dX3_init_64 : decode cX3_init 64 = .ok (.invokespecial 24, 3) := by decide +kernel
theorem dX3_init_67 : decode cX3_init 67 = .ok (.aastore, 1) := by decide +kernel
theorem dX3_init_68 : decode cX3_init 68 = .ok (.iinc 1 1, 3) := by decide +kernel
theorem dX3_init_71 : decode cX3_init 71 = .ok (.goto (-21), 3) := by decide +kernel
theorem dX3_init_74 : decode cX3_init 74 = .ok (.aload_n 0, 1) := by decide +kernel
theorem dX3_init_75 : decode cX3_init 75 = .ok (.bipush 12, 2) := by decide +kernel
theorem dX3_init_77 : decode cX3_init 77 = .ok (.newarray .int, 2) := by decide +kernel
theorem dX3_init_79 : decode cX3_init 79 = .ok (.putfield 25, 3) := by decide +kernel
theorem dX3_init_82 : decode cX3_init 82 = .ok (.aload_n 0, 1) := by decide +kernel
theorem dX3_init_83 : decode cX3_init 83 = .ok (.bipush 6, 2) := by decide +kernel
theorem dX3_init_85 : decode cX3_init 85 = .ok (.newarray .int, 2) := by decide +kernel
theorem dX3_init_87 : decode cX3_init 87 = .ok (.putfield 29, 3) := by decide +kernel
theorem dX3_init_90 : decode cX3_init 90 = .ok (.aload_n 0, 1) := by decide +kernel
theorem dX3_init_91 : decode cX3_init 91 = .ok (.bipush 6, 2) := by decide +kernel
theorem dX3_init_93 : decode cX3_init 93 = .ok (.newarray .int, 2) := by decide +kernel
theorem dX3_init_95 : decode cX3_init 95 = .ok (.putfield 32, 3) := by decide +kernel
theorem dX3_init_98 : decode cX3_init 98 = .ok (.return_, 1) := by decide +kernel
set_option maxRecDepth 20000 in
theorem ggX3_copyFrom_X2_copyFrom : GoodIn wsX3_copyFrom wsX2_copyFrom := goodIn_rr _ [(19, 8), (50, 7)] rfl (by decide +kernel)
set_option maxRecDepth 20000 in
theorem gX3_copyFrom_X2_copyFrom : GoodIn wsX3_copyFrom (wsV RX3 35 RX2 yX2_copyFrom wsX2_copyFrom) := goodIn_app (goodIn_of _ (by decide +kernel)) ggX3_copyFrom_X2_copyFrom
set_option maxRecDepth 20000 in
theorem ggX3_copyFrom_X5_copyFrom : GoodIn wsX3_copyFrom wsX5_copyFrom := goodIn_rr _ [(31, 5), (57, 4)] rfl (by decide +kernel)
set_option maxRecDepth 20000 in
theorem gX3_copyFrom_X5_copyFrom : GoodIn wsX3_copyFrom (wsV RX3 39 RX5 yX5_copyFrom wsX5_copyFrom) := goodIn_app (goodIn_of _ (by decide +kernel)) ggX3_copyFrom_X5_copyFrom
theorem dX3_copyFrom_0 : decode cX3_copyFrom 0 = .ok (.iconst 0, 1) := by decide +kernel
theorem dX3_copyFrom_1 : decode cX3_copyFrom 1 = .ok (.istore_n 2, 1) := by decide +kernel
theorem dX3_copyFrom_2 : decode cX3_copyFrom 2 = .ok (.iload_n 2, 1) := by decide +kernel
theorem dX3_copyFrom_3 : decode cX3_copyFrom 3 = .ok (.bipush 12, 2) := by decide +kernel
theorem dX3_copyFrom_5 : decode cX3_copyFrom 5 = .ok (.if_icmp .ge 36, 3) := by decide +kernel
theorem dX3_copyFrom_8 : decode cX3_copyFrom 8 = .ok (.aload_n 0, 1) := by decide +kernel
theorem dX3_copyFrom_9 : decode cX3_copyFrom 9 = .ok (.getfield 11, 3) := by decide +kernel
theorem dX3_copyFrom_12 : decode cX3_copyFrom 12 = .ok (.iload_n 2, 1) := by decide +kernel
theorem dX3_copyFrom_13 : decode cX3_copyFrom 13 = .ok (.aaload, 1) := by decide +kernel
theorem dX3_copyFrom_14 : decode cX3_copyFrom 14 = .ok (.aload_n 1, 1) := by decide +kernel
theorem dX3_copyFrom_15 : decode cX3_copyFrom 15 = .ok (.getfield 11, 3) := by decide +kernel
theorem dX3_copyFrom_18 : decode cX3_copyFrom 18 = .ok (.iload_n 2, 1) := by decide +kernel
theorem dX3_copyFrom_19 : decode cX3_copyFrom 19 = .ok (.aaload, 1) := by decide +kernel
theorem dX3_copyFrom_20 : decode cX3_copyFrom 20 = .ok (.invokevirtual 35, 3) := by decide +kernel
theorem dX3_copyFrom_23 : decode cX3_copyFrom 23 = .ok (.aload_n 0, 1) := by decide +kernel
theorem dX3_copyFrom_24 : decode cX3_copyFrom 24 = .ok (.getfield 25, 3) := by decide +kernel
theorem dX3_copyFrom_27 : decode cX3_copyFrom 27 = .ok (.iload_n 2, 1) := by decide +kernel
theorem dX3_copyFrom_28 : decode cX3_copyFrom 28 = .ok (.aload_n 1, 1) := by decide +kernel
theorem dX3_copyFrom_29 : decode cX3_copyFrom 29 = .ok (.getfield 25, 3) := by decide +kernel
theorem dX3_copyFrom_32 : decode cX3_copyFrom 32 = .ok (.iload_n 2, 1) := by decide +kernel
theorem dX3_copyFrom_33 : decode cX3_copyFrom 33 = .ok (.iaload, 1) := by decide +kernel
theorem dX3_copyFrom_34 : decode cX3_copyFrom 34 = .ok (.iastore, 1) := by decide +kernel
theorem dX3_copyFrom_35 : decode cX3_copyFrom 35 = .ok (.iinc 2 1, 3) := by decide +kernel
theorem dX3_copyFrom_38 : decode cX3_copyFrom 38 = .ok (.goto (-36), 3) := by decide +kernel
theorem dX3_copyFrom_41 : decode cX3_copyFrom 41 = .ok (.iconst 0, 1) := by decide +kernel
theorem dX3_copyFrom_42 : decode cX3_copyFrom 42 = .ok (.istore_n 2, 1) := by decide +kernel
theorem dX3_copyFrom_43 : decode cX3_copyFrom 43 = .ok (.iload_n 2, 1) := by decide +kernel
theorem dX3_copyFrom_44 : decode cX3_copyFrom 44 = .ok (.iconst 3, 1) := by decide +kernel
theorem dX3_copyFrom_45 : decode cX3_copyFrom 45 = .ok (.if_icmp .ge 24, 3) := by decide +kernel
theorem dX3_copyFrom_48 : decode cX3_copyFrom 48 = .ok (.aload_n 0, 1) := by decide +kernel
theorem dX3_copyFrom_49 : decode cX3_copyFrom 49 = .ok (.getfield 20, 3) := by decide +kernel
theorem dX3_copyFrom_52 : decode cX3_copyFrom 52 = .ok (.iload_n 2, 1) := by decide +kernel
theorem dX3_copyFrom_53 : decode cX3_copyFrom 53 = .ok (.aaload, 1) := by decide +kernel
theorem dX3_copyFrom_54 : decode cX3_copyFrom 54 = .ok (.aload_n 1, 1) := by decide +kernel
theorem dX3_copyFrom_55 : decode cX3_copyFrom 55 = .ok (.getfield 20, 3) := by decide +kernel
theorem dX3_copyFrom_58 : decode cX3_copyFrom 58 = .ok (.iload_n 2, 1) := by decide +kernel
theorem dX3_copyFrom_59 : decode cX3_copyFrom 59 = .ok (.aaload, 1) := by decide +kernel
theorem dX3_copyFrom_60 : decode cX3_copyFrom 60 = .ok (.invokevirtual 39, 3) := by decide +kernel
theorem dX3_copyFrom_63 : decode cX3_copyFrom 63 = .ok (.iinc 2 1, 3) := by decide +kernel
theorem dX3_copyFrom_66 : decode cX3_copyFrom 66 = .ok (.goto (-23), 3) := by decide +kernel
theorem dX3_copyFrom_69 : decode cX3_copyFrom 69 = .ok (.iconst 0, 1) := by decide +kernel
theorem dX3_copyFrom_70 : decode cX3_copyFrom 70 = .ok (.istore_n 2, 1) := by decide +kernel
theorem dX3_copyFrom_71 : decode cX3_copyFrom 71 = .ok (.iload_n 2, 1) := by decide +kernel
theorem dX3_copyFrom_72 : decode cX3_copyFrom 72 = .ok (.bipush 6, 2) := by decide +kernel
theorem dX3_copyFrom_74 : decode cX3_copyFrom 74 = .ok (.if_icmp .ge 33, 3) := by decide +kernel
theorem dX3_copyFrom_77 : decode cX3_copyFrom 77 = .ok (.aload_n 0, 1) := by decide +kernel
theorem dX3_copyFrom_78 : decode cX3_copyFrom 78 = .ok (.getfield 29, 3) := by decide +kernel
theorem dX3_copyFrom_81 : decode cX3_copyFrom 81 = .ok (.iload_n 2, 1) := by decide +kernel
theorem dX3_copyFrom_82 : decode cX3_copyFrom 82 = .ok (.aload_n 1, 1) := by decide +kernel
theorem dX3_copyFrom_83 : decode cX3_copyFrom 83 = .ok (.getfield 29, 3) := by decide +kernel
theorem dX3_copyFrom_86 : decode cX3_copyFrom 86 = .ok (.iload_n 2, 1) := by decide +kernel
theorem dX3_copyFrom_87 : decode cX3_copyFrom 87 = .ok (.iaload, 1) := by decide +kernel
theorem dX3_copyFrom_88 : decode cX3_copyFrom 88 = .ok (.iastore, 1) := by decide +kernel
theorem dX3_copyFrom_89 : decode cX3_copyFrom 89 = .ok (.aload_n 0, 1) := by decide +kernel
theorem dX3_copyFrom_90 : decode cX3_copyFrom 90 = .ok (.getfield 32, 3) := by decide +kernel
theorem dX3_copyFrom_93 : decode cX3_copyFrom 93 = .ok (.iload_n 2, 1) := by decide +kernel
theorem dX3_copyFrom_94 : decode cX3_copyFrom 94 = .ok (.aload_n 1, 1) := by decide +kernel
theorem dX3_copyFrom_95 : decode cX3_copyFrom 95 = .ok (.getfield 32, 3) := by decide +kernel
theorem dX3_copyFrom_98 : decode cX3_copyFrom 98 = .ok (.iload_n 2, 1) := by decide +kernel
theorem dX3_copyFrom_99 : decode cX3_copyFrom 99 = .ok (.iaload, 1) := by decide +kernel
theorem dX3_copyFrom_100 : decode cX3_copyFrom 100 = .ok (.iastore, 1) := by decide +kernel
theorem dX3_copyFrom_101 : decode cX3_copyFrom 101 = .ok (.iinc 2 1, 3) := by decide +kernel
theorem dX3_copyFrom_104 : decode cX3_copyFrom 104 = .ok (.goto (-33), 3) := by decide +kernel
theorem dX3_copyFrom_107 : decode cX3_copyFrom 107 = .ok (.aload_n 0, 1) := by decide +kernel
theorem dX3_copyFrom_108 : decode cX3_copyFrom 108 = .ok (.aload_n 1, 1) := by decide +kernel
theorem dX3_copyFrom_109 : decode cX3_copyFrom 109 = .ok (.getfield 42, 3) := by decide +kernel
theorem dX3_copyFrom_112 : decode cX3_copyFrom 112 = .ok (.putfield 42, 3) := by decide +kernel
theorem dX3_copyFrom_115 : decode cX3_copyFrom 115 = .ok (.aload_n 0, 1) := by decide +kernel
theorem dX3_copyFrom_116 : decode cX3_copyFrom 116 = .ok (.aload_n 1, 1) := by decide +kernel
theorem dX3_copyFrom_117 : decode cX3_copyFrom 117 = .ok (.getfield 46, 3) := by decide +kernel
theorem dX3_copyFrom_120 : decode cX3_copyFrom 120 = .ok (.putfield 46, 3) := by decide +kernel
theorem dX3_copyFrom_123 : decode cX3_copyFrom 123 = .ok (.aload_n 0, 1) := by decide +kernel
theorem dX3_copyFrom_124 : decode cX3_copyFrom 124 = .ok (.aload_n 1, 1) := by decide +kernel
theorem dX3_copyFrom_125 : decode cX3_copyFrom 125 = .ok (.getfield 49, 3) := by decide +kernel
theorem dX3_copyFrom_128 : decode cX3_copyFrom 128 = .ok (.putfield 49, 3) := by decide +kernel
theorem dX3_copyFrom_131 : decode cX3_copyFrom 131 = .ok (.aload_n 0, 1) := by decide +kernel
theorem dX3_copyFrom_132 : decode cX3_copyFrom 132 = .ok (.aload_n 1, 1) := by decide +kernel
theorem dX3_copyFrom_133 : decode cX3_copyFrom 133 = .ok (.getfield 52, 3) := by decide +kernel
theorem dX3_copyFrom_136 : decode cX3_copyFrom 136 = .ok (.putfield 52, 3) := by decide +kernel
theorem dX3_copyFrom_139 : decode cX3_copyFrom 139 = .ok (.aload_n 0, 1) := by decide +kernel
theorem dX3_copyFrom_140 : decode cX3_copyFrom 140 = .ok (.aload_n 1, 1) := by decide +kernel
theorem dX3_copyFrom_141 : decode cX3_copyFrom 141 = .ok (.getfield 55, 3) := by decide +kernel
theorem dX3_copyFrom_144 : decode cX3_copyFrom 144 = .ok (.putfield 55, 3) := by decide +kernel
theorem dX3_copyFrom_147 : decode cX3_copyFrom 147 = .ok (.aload_n 0, 1) := by decide +kernel
theorem dX3_copyFrom_148 : decode cX3_copyFrom 148 = .ok (.aload_n 1, 1) := by decide +kernel
theorem dX3_copyFrom_149 : decode cX3_copyFrom 149 = .ok (.getfield 58, 3) := by decide +kernel
theorem dX3_copyFrom_152 : decode cX3_copyFrom 152 = .ok (.putfield 58, 3) := by decide +kernel
theorem dX3_copyFrom_155 : decode cX3_copyFrom 155 = .ok (.aload_n 0, 1) := by decide +kernel
theorem dX3_copyFrom_156 : decode cX3_copyFrom 156 = .ok (.aload_n 1, 1) := by decide +kernel
theorem dX3_copyFrom_157 : decode cX3_copyFrom 157 = .ok (.getfield 61, 3) := by decide +kernel
theorem dX3_copyFrom_160 : decode cX3_copyFrom 160 = .ok (.putfield 61, 3) := by decide +kernel
theorem dX3_copyFrom_163 : decode cX3_copyFrom 163 = .ok (.aload_n 0, 1) := by decide +kernel
theorem dX3_copyFrom_164 : decode cX3_copyFrom 164 = .ok (.aload_n 1, 1) := by decide +kernel
theorem dX3_copyFrom_165 : decode cX3_copyFrom 165 = .ok (.getfield 64, 3) := by decide +kernel
theorem dX3_copyFrom_168 : decode cX3_copyFrom 168 = .ok (.putfield 64, 3) := by decide +kernel
theorem dX3_copyFrom_171 : decode cX3_copyFrom 171 = .ok (.aload_n 0, 1) := by decide +kernel
theorem dX3_copyFrom_172 : decode cX3_copyFrom 172 = .ok (.aload_n 1, 1) := by decide +kernel
theorem dX3_copyFrom_173 : decode cX3_copyFrom 173 = .ok (.getfield 67, 3) := by decide +kernel
theorem dX3_copyFrom_176 : decode cX3_copyFrom 176 = .ok (.putfield 67, 3) := by decide +kernel
theorem dX3_copyFrom_179 : decode cX3_copyFrom 179 = .ok (.return_, 1) := by decide +kernel
theorem dX3_hasCustomer_0 : decode cX3_hasCustomer 0 = .ok (.iload_n 1, 1) := by decide +kernel
theorem dX3_hasCustomer_1 : decode cX3_hasCustomer 1 = .ok (.ifCond .lt 15, 3) := by decide +kernel
theorem dX3_hasCustomer_4 : decode cX3_hasCustomer 4 = .ok (.iload_n 1, 1) := by decide +kernel
theorem dX3_hasCustomer_5 : decode cX3_hasCustomer 5 = .ok (.aload_n 0, 1) := by decide +kernel
theorem dX3_hasCustomer_6 : decode cX3_hasCustomer 6 = .ok (.getfield 42, 3) := by decide +kernel
theorem dX3_hasCustomer_9 : decode cX3_hasCustomer 9 = .ok (.if_icmp .ge 7, 3) := by decide +kernel
theorem dX3_hasCustomer_12 : decode cX3_hasCustomer 12 = .ok (.iconst 1, 1) := by decide +kernel
theorem dX3_hasCustomer_13 : decode cX3_hasCustomer 13 = .ok (.goto 4, 3) := by decide +kernel
theorem dX3_hasCustomer_16 : decode cX3_hasCustomer 16 = .ok (.iconst 0, 1) := by decide +kernel
theorem dX3_hasCustomer_17 : decode cX3_hasCustomer 17 = .ok (.ireturn, 1) := by decide +kernel
theorem dX3_hasWindow_0 : decode cX3_hasWindow 0 = .ok (.iload_n 0, 1) := by decide +kernel
theorem dX3_hasWindow_1 : decode cX3_hasWindow 1 = .ok (.ifCond .lt 12, 3) := by decide +kernel
theorem dX3_hasWindow_4 : decode cX3_hasWindow 4 = .ok (.iload_n 0, 1) := by decide +kernel
theorem dX3_hasWindow_5 : decode cX3_hasWindow 5 = .ok (.iconst 3, 1) := by decide +kernel
theorem dX3_hasWindow_6 : decode cX3_hasWindow 6 = .ok (.if_icmp .ge 7, 3) := by decide +kernel
theorem dX3_hasWindow_9 : decode cX3_hasWindow 9 = .ok (.iconst 1, 1) := by decide +kernel
theorem dX3_hasWindow_10 : decode cX3_hasWindow 10 = .ok (.goto 4, 3) := by decide +kernel
theorem dX3_hasWindow_13 : decode cX3_hasWindow 13 = .ok (.iconst 0, 1) := by decide +kernel
theorem dX3_hasWindow_14 : decode cX3_hasWindow 14 = .ok (.ireturn, 1) := by decide +kernel
theorem dX3_positionOf_0 : decode cX3_positionOf 0 = .ok (.iconst 0, 1) := by decide +kernel
theorem dX3_positionOf_1 : decode cX3_positionOf 1 = .ok (.istore_n 2, 1) := by decide +kernel
theorem dX3_positionOf_2 : decode cX3_positionOf 2 = .ok (.iload_n 2, 1) := by decide +kernel
theorem dX3_positionOf_3 : decode cX3_positionOf 3 = .ok (.aload_n 0, 1) := by decide +kernel
theorem dX3_positionOf_4 : decode cX3_positionOf 4 = .ok (.getfield 46, 3) := by decide +kernel
theorem dX3_positionOf_7 : decode cX3_positionOf 7 = .ok (.if_icmp .ge 21, 3) := by decide +kernel
theorem dX3_positionOf_10 : decode cX3_positionOf 10 = .ok (.aload_n 0, 1) := by decide +kernel
theorem dX3_positionOf_11 : decode cX3_positionOf 11 = .ok (.getfield 25, 3) := by decide +kernel
theorem dX3_positionOf_14 : decode cX3_positionOf 14 = .ok (.iload_n 2, 1) := by decide +kernel
theorem dX3_positionOf_15 : decode cX3_positionOf 15 = .ok (.iaload, 1) := by decide +kernel
theorem dX3_positionOf_16 : decode cX3_positionOf 16 = .ok (.iload_n 1, 1) := by decide +kernel
theorem dX3_positionOf_17 : decode cX3_positionOf 17 = .ok (.if_icmp .ne 5, 3) := by decide +kernel
theorem dX3_positionOf_20 : decode cX3_positionOf 20 = .ok (.iload_n 2, 1) := by decide +kernel
theorem dX3_positionOf_21 : decode cX3_positionOf 21 = .ok (.ireturn, 1) := by decide +kernel
theorem dX3_positionOf_22 : decode cX3_positionOf 22 = .ok (.iinc 2 1, 3) := by decide +kernel
theorem dX3_positionOf_25 : decode cX3_positionOf 25 = .ok (.goto (-23), 3) := by decide +kernel
theorem dX3_positionOf_28 : decode cX3_positionOf 28 = .ok (.iconst (-1), 1) := by decide +kernel
theorem dX3_positionOf_29 : decode cX3_positionOf 29 = .ok (.ireturn, 1) := by decide +kernel
theorem dX3_windowOf_0 : decode cX3_windowOf 0 = .ok (.iconst 0, 1) := by decide +kernel
theorem dX3_windowOf_1 : decode cX3_windowOf 1 = .ok (.istore_n 2, 1) := by decide +kernel
theorem dX3_windowOf_2 : decode cX3_windowOf 2 = .ok (.iload_n 2, 1) := by decide +kernel
theorem dX3_windowOf_3 : decode cX3_windowOf 3 = .ok (.iconst 3, 1) := by decide +kernel
theorem dX3_windowOf_4 : decode cX3_windowOf 4 = .ok (.if_icmp .ge 24, 3) := by decide +kernel
theorem dX3_windowOf_7 : decode cX3_windowOf 7 = .ok (.aload_n 0, 1) := by decide +kernel
theorem dX3_windowOf_8 : decode cX3_windowOf 8 = .ok (.getfield 20, 3) := by decide +kernel
theorem dX3_windowOf_11 : decode cX3_windowOf 11 = .ok (.iload_n 2, 1) := by decide +kernel
theorem dX3_windowOf_12 : decode cX3_windowOf 12 = .ok (.aaload, 1) := by decide +kernel
theorem dX3_windowOf_13 : decode cX3_windowOf 13 = .ok (.getfield 70, 3) := by decide +kernel
theorem dX3_windowOf_16 : decode cX3_windowOf 16 = .ok (.iload_n 1, 1) := by decide +kernel
theorem dX3_windowOf_17 : decode cX3_windowOf 17 = .ok (.if_icmp .ne 5, 3) := by decide +kernel
theorem dX3_windowOf_20 : decode cX3_windowOf 20 = .ok (.iload_n 2, 1) := by decide +kernel
theorem dX3_windowOf_21 : decode cX3_windowOf 21 = .ok (.ireturn, 1) := by decide +kernel
theorem dX3_windowOf_22 : decode cX3_windowOf 22 = .ok (.iinc 2 1, 3) := by decide +kernel
theorem dX3_windowOf_25 : decode cX3_windowOf 25 = .ok (.goto (-23), 3) := by decide +kernel
theorem dX3_windowOf_28 : decode cX3_windowOf 28 = .ok (.iconst (-1), 1) := by decide +kernel
theorem dX3_windowOf_29 : decode cX3_windowOf 29 = .ok (.ireturn, 1) := by decide +kernel
theorem dX3_ticketAt_0 : decode cX3_ticketAt 0 = .ok (.aload_n 0, 1) := by decide +kernel
theorem dX3_ticketAt_1 : decode cX3_ticketAt 1 = .ok (.getfield 11, 3) := by decide +kernel
theorem dX3_ticketAt_4 : decode cX3_ticketAt 4 = .ok (.aload_n 0, 1) := by decide +kernel
theorem dX3_ticketAt_5 : decode cX3_ticketAt 5 = .ok (.getfield 25, 3) := by decide +kernel
theorem dX3_ticketAt_8 : decode cX3_ticketAt 8 = .ok (.iload_n 1, 1) := by decide +kernel
theorem dX3_ticketAt_9 : decode cX3_ticketAt 9 = .ok (.iaload, 1) := by decide +kernel
theorem dX3_ticketAt_10 : decode cX3_ticketAt 10 = .ok (.aaload, 1) := by decide +kernel
theorem dX3_ticketAt_11 : decode cX3_ticketAt 11 = .ok (.getfield 73, 3) := by decide +kernel
theorem dX3_ticketAt_14 : decode cX3_ticketAt 14 = .ok (.ireturn, 1) := by decide +kernel
theorem dX3_customerWithTicket_0 : decode cX3_customerWithTicket 0 = .ok (.iconst 0, 1) := by decide +kernel
theorem dX3_customerWithTicket_1 : decode cX3_customerWithTicket 1 = .ok (.istore_n 2, 1) := by decide +kernel
theorem dX3_customerWithTicket_2 : decode cX3_customerWithTicket 2 = .ok (.iload_n 2, 1) := by decide +kernel
theorem dX3_customerWithTicket_3 : decode cX3_customerWithTicket 3 = .ok (.aload_n 0, 1) := by decide +kernel
theorem dX3_customerWithTicket_4 : decode cX3_customerWithTicket 4 = .ok (.getfield 42, 3) := by decide +kernel
theorem dX3_customerWithTicket_7 : decode cX3_customerWithTicket 7 = .ok (.if_icmp .ge 24, 3) := by decide +kernel
theorem dX3_customerWithTicket_10 : decode cX3_customerWithTicket 10 = .ok (.aload_n 0, 1) := by decide +kernel
theorem dX3_customerWithTicket_11 : decode cX3_customerWithTicket 11 = .ok (.getfield 11, 3) := by decide +kernel
theorem dX3_customerWithTicket_14 : decode cX3_customerWithTicket 14 = .ok (.iload_n 2, 1) := by decide +kernel
theorem dX3_customerWithTicket_15 : decode cX3_customerWithTicket 15 = .ok (.aaload, 1) := by decide +kernel
theorem dX3_customerWithTicket_16 : decode cX3_customerWithTicket 16 = .ok (.getfield 73, 3) := by decide +kernel
theorem dX3_customerWithTicket_19 : decode cX3_customerWithTicket 19 = .ok (.iload_n 1, 1) := by decide +kernel
theorem dX3_customerWithTicket_20 : decode cX3_customerWithTicket 20 = .ok (.if_icmp .ne 5, 3) := by decide +kernel
theorem dX3_customerWithTicket_23 : decode cX3_customerWithTicket 23 = .ok (.iload_n 2, 1) := by decide +kernel
theorem dX3_customerWithTicket_24 : decode cX3_customerWithTicket 24 = .ok (.ireturn, 1) := by decide +kernel
theorem dX3_customerWithTicket_25 : decode cX3_customerWithTicket 25 = .ok (.iinc 2 1, 3) := by decide +kernel
theorem dX3_customerWithTicket_28 : decode cX3_customerWithTicket 28 = .ok (.goto (-26), 3) := by decide +kernel
theorem dX3_customerWithTicket_31 : decode cX3_customerWithTicket 31 = .ok (.iconst (-1), 1) := by decide +kernel
theorem dX3_customerWithTicket_32 : decode cX3_customerWithTicket 32 = .ok (.ireturn, 1) := by decide +kernel
set_option maxRecDepth 20000 in
theorem ggX3_rankBySighs_X2_sighsBefore : GoodIn wsX3_rankBySighs wsX2_sighsBefore := goodIn_rr _ [(7, 3), (24, 7)] rfl (by decide +kernel)
set_option maxRecDepth 20000 in
theorem gX3_rankBySighs_X2_sighsBefore : GoodIn wsX3_rankBySighs (wsV RX3 76 RX2 yX2_sighsBefore wsX2_sighsBefore) := goodIn_app (goodIn_of _ (by decide +kernel)) ggX3_rankBySighs_X2_sighsBefore
theorem dX3_rankBySighs_0 : decode cX3_rankBySighs 0 = .ok (.iconst 0, 1) := by decide +kernel
theorem dX3_rankBySighs_1 : decode cX3_rankBySighs 1 = .ok (.istore_n 2, 1) := by decide +kernel
theorem dX3_rankBySighs_2 : decode cX3_rankBySighs 2 = .ok (.iconst 0, 1) := by decide +kernel
theorem dX3_rankBySighs_3 : decode cX3_rankBySighs 3 = .ok (.istore_n 3, 1) := by decide +kernel
theorem dX3_rankBySighs_4 : decode cX3_rankBySighs 4 = .ok (.iload_n 3, 1) := by decide +kernel
theorem dX3_rankBySighs_5 : decode cX3_rankBySighs 5 = .ok (.aload_n 0, 1) := by decide +kernel
theorem dX3_rankBySighs_6 : decode cX3_rankBySighs 6 = .ok (.getfield 42, 3) := by decide +kernel
theorem dX3_rankBySighs_9 : decode cX3_rankBySighs 9 = .ok (.if_icmp .ge 65, 3) := by decide +kernel
theorem dX3_rankBySighs_12 : decode cX3_rankBySighs 12 = .ok (.aload_n 0, 1) := by decide +kernel
theorem dX3_rankBySighs_13 : decode cX3_rankBySighs 13 = .ok (.getfield 11, 3) := by decide +kernel
theorem dX3_rankBySighs_16 : decode cX3_rankBySighs 16 = .ok (.iload_n 1, 1) := by decide +kernel
theorem dX3_rankBySighs_17 : decode cX3_rankBySighs 17 = .ok (.aaload, 1) := by decide +kernel
theorem dX3_rankBySighs_18 : decode cX3_rankBySighs 18 = .ok (.aload_n 0, 1) := by decide +kernel
theorem dX3_rankBySighs_19 : decode cX3_rankBySighs 19 = .ok (.getfield 11, 3) := by decide +kernel
theorem dX3_rankBySighs_22 : decode cX3_rankBySighs 22 = .ok (.iload_n 3, 1) := by decide +kernel
theorem dX3_rankBySighs_23 : decode cX3_rankBySighs 23 = .ok (.aaload, 1) := by decide +kernel
theorem dX3_rankBySighs_24 : decode cX3_rankBySighs 24 = .ok (.invokevirtual 76, 3) := by decide +kernel
theorem dX3_rankBySighs_27 : decode cX3_rankBySighs 27 = .ok (.ifCond .ne 7, 3) := by decide +kernel
theorem dX3_rankBySighs_30 : decode cX3_rankBySighs 30 = .ok (.iconst 1, 1) := by decide +kernel
theorem dX3_rankBySighs_31 : decode cX3_rankBySighs 31 = .ok (.goto 4, 3) := by decide +kernel
theorem dX3_rankBySighs_34 : decode cX3_rankBySighs 34 = .ok (.iconst 0, 1) := by decide +kernel
theorem dX3_rankBySighs_35 : decode cX3_rankBySighs 35 = .ok (.istore 4, 2) := by decide +kernel
theorem dX3_rankBySighs_37 : decode cX3_rankBySighs 37 = .ok (.aload_n 0, 1) := by decide +kernel
theorem dX3_rankBySighs_38 : decode cX3_rankBySighs 38 = .ok (.getfield 11, 3) := by decide +kernel
theorem dX3_rankBySighs_41 : decode cX3_rankBySighs 41 = .ok (.iload_n 3, 1) := by decide +kernel
theorem dX3_rankBySighs_42 : decode cX3_rankBySighs 42 = .ok (.aaload, 1) := by decide +kernel
theorem dX3_rankBySighs_43 : decode cX3_rankBySighs 43 = .ok (.aload_n 0, 1) := by decide +kernel
theorem dX3_rankBySighs_44 : decode cX3_rankBySighs 44 = .ok (.getfield 11, 3) := by decide +kernel
theorem dX3_rankBySighs_47 : decode cX3_rankBySighs 47 = .ok (.iload_n 1, 1) := by decide +kernel
theorem dX3_rankBySighs_48 : decode cX3_rankBySighs 48 = .ok (.aaload, 1) := by decide +kernel
theorem dX3_rankBySighs_49 : decode cX3_rankBySighs 49 = .ok (.invokevirtual 76, 3) := by decide +kernel
theorem dX3_rankBySighs_52 : decode cX3_rankBySighs 52 = .ok (.ifCond .ne 13, 3) := by decide +kernel
theorem dX3_rankBySighs_55 : decode cX3_rankBySighs 55 = .ok (.iload 4, 2) := by decide +kernel
theorem dX3_rankBySighs_57 : decode cX3_rankBySighs 57 = .ok (.ifCond .eq 11, 3) := by decide +kernel
theorem dX3_rankBySighs_60 : decode cX3_rankBySighs 60 = .ok (.iload_n 3, 1) := by decide +kernel
theorem dX3_rankBySighs_61 : decode cX3_rankBySighs 61 = .ok (.iload_n 1, 1) := by decide +kernel
theorem dX3_rankBySighs_62 : decode cX3_rankBySighs 62 = .ok (.if_icmp .ge 6, 3) := by decide +kernel
theorem dX3_rankBySighs_65 : decode cX3_rankBySighs 65 = .ok (.iinc 2 1, 3) := by decide +kernel
theorem dX3_rankBySighs_68 : decode cX3_rankBySighs 68 = .ok (.iinc 3 1, 3) := by decide +kernel
theorem dX3_rankBySighs_71 : decode cX3_rankBySighs 71 = .ok (.goto (-67), 3) := by decide +kernel
theorem dX3_rankBySighs_74 : decode cX3_rankBySighs 74 = .ok (.iload_n 2, 1) := by decide +kernel
theorem dX3_rankBySighs_75 : decode cX3_rankBySighs 75 = .ok (.ireturn, 1) := by decide +kernel
set_option maxRecDepth 20000 in
theorem ggX3_rankByWaitingTime_X2_waitsBefore : GoodIn wsX3_rankByWaitingTime wsX2_waitsBefore := goodIn_rr _ [(7, 3), (24, 7)] rfl (by decide +kernel)
set_option maxRecDepth 20000 in
theorem gX3_rankByWaitingTime_X2_waitsBefore : GoodIn wsX3_rankByWaitingTime (wsV RX3 80 RX2 yX2_waitsBefore wsX2_waitsBefore) := goodIn_app (goodIn_of _ (by decide +kernel)) ggX3_rankByWaitingTime_X2_waitsBefore
theorem dX3_rankByWaitingTime_0 : decode cX3_rankByWaitingTime 0 = .ok (.iconst 0, 1) := by decide +kernel
theorem dX3_rankByWaitingTime_1 : decode cX3_rankByWaitingTime 1 = .ok (.istore_n 2, 1) := by decide +kernel
theorem dX3_rankByWaitingTime_2 : decode cX3_rankByWaitingTime 2 = .ok (.iconst 0, 1) := by decide +kernel
theorem dX3_rankByWaitingTime_3 : decode cX3_rankByWaitingTime 3 = .ok (.istore_n 3, 1) := by decide +kernel
theorem dX3_rankByWaitingTime_4 : decode cX3_rankByWaitingTime 4 = .ok (.iload_n 3, 1) := by decide +kernel
theorem dX3_rankByWaitingTime_5 : decode cX3_rankByWaitingTime 5 = .ok (.aload_n 0, 1) := by decide +kernel
theorem dX3_rankByWaitingTime_6 : decode cX3_rankByWaitingTime 6 = .ok (.getfield 42, 3) := by decide +kernel
theorem dX3_rankByWaitingTime_9 : decode cX3_rankByWaitingTime 9 = .ok (.if_icmp .ge 65, 3) := by decide +kernel
theorem dX3_rankByWaitingTime_12 : decode cX3_rankByWaitingTime 12 = .ok (.aload_n 0, 1) := by decide +kernel
theorem dX3_rankByWaitingTime_13 : decode cX3_rankByWaitingTime 13 = .ok (.getfield 11, 3) := by decide +kernel
theorem dX3_rankByWaitingTime_16 : decode cX3_rankByWaitingTime 16 = .ok (.iload_n 1, 1) := by decide +kernel
theorem dX3_rankByWaitingTime_17 : decode cX3_rankByWaitingTime 17 = .ok (.aaload, 1) := by decide +kernel
theorem dX3_rankByWaitingTime_18 : decode cX3_rankByWaitingTime 18 = .ok (.aload_n 0, 1) := by decide +kernel
theorem dX3_rankByWaitingTime_19 : decode cX3_rankByWaitingTime 19 = .ok (.getfield 11, 3) := by decide +kernel
theorem dX3_rankByWaitingTime_22 : decode cX3_rankByWaitingTime 22 = .ok (.iload_n 3, 1) := by decide +kernel
theorem dX3_rankByWaitingTime_23 : decode cX3_rankByWaitingTime 23 = .ok (.aaload, 1) := by decide +kernel
theorem dX3_rankByWaitingTime_24 : decode cX3_rankByWaitingTime 24 = .ok (.invokevirtual 80, 3) := by decide +kernel
theorem dX3_rankByWaitingTime_27 : decode cX3_rankByWaitingTime 27 = .ok (.ifCond .ne 7, 3) := by decide +kernel
theorem dX3_rankByWaitingTime_30 : decode cX3_rankByWaitingTime 30 = .ok (.iconst 1, 1) := by decide +kernel
theorem dX3_rankByWaitingTime_31 : decode cX3_rankByWaitingTime 31 = .ok (.goto 4, 3) := by decide +kernel
theorem dX3_rankByWaitingTime_34 : decode cX3_rankByWaitingTime 34 = .ok (.iconst 0, 1) := by decide +kernel
theorem dX3_rankByWaitingTime_35 : decode cX3_rankByWaitingTime 35 = .ok (.istore 4, 2) := by decide +kernel
theorem dX3_rankByWaitingTime_37 : decode cX3_rankByWaitingTime 37 = .ok (.aload_n 0, 1) := by decide +kernel
theorem dX3_rankByWaitingTime_38 : decode cX3_rankByWaitingTime 38 = .ok (.getfield 11, 3) := by decide +kernel
theorem dX3_rankByWaitingTime_41 : decode cX3_rankByWaitingTime 41 = .ok (.iload_n 3, 1) := by decide +kernel
theorem dX3_rankByWaitingTime_42 : decode cX3_rankByWaitingTime 42 = .ok (.aaload, 1) := by decide +kernel
theorem dX3_rankByWaitingTime_43 : decode cX3_rankByWaitingTime 43 = .ok (.aload_n 0, 1) := by decide +kernel
theorem dX3_rankByWaitingTime_44 : decode cX3_rankByWaitingTime 44 = .ok (.getfield 11, 3) := by decide +kernel
theorem dX3_rankByWaitingTime_47 : decode cX3_rankByWaitingTime 47 = .ok (.iload_n 1, 1) := by decide +kernel
theorem dX3_rankByWaitingTime_48 : decode cX3_rankByWaitingTime 48 = .ok (.aaload, 1) := by decide +kernel
theorem dX3_rankByWaitingTime_49 : decode cX3_rankByWaitingTime 49 = .ok (.invokevirtual 80, 3) := by decide +kernel
theorem dX3_rankByWaitingTime_52 : decode cX3_rankByWaitingTime 52 = .ok (.ifCond .ne 13, 3) := by decide +kernel
theorem dX3_rankByWaitingTime_55 : decode cX3_rankByWaitingTime 55 = .ok (.iload 4, 2) := by decide +kernel
theorem dX3_rankByWaitingTime_57 : decode cX3_rankByWaitingTime 57 = .ok (.ifCond .eq 11, 3) := by decide +kernel
theorem dX3_rankByWaitingTime_60 : decode cX3_rankByWaitingTime 60 = .ok (.iload_n 3, 1) := by decide +kernel
theorem dX3_rankByWaitingTime_61 : decode cX3_rankByWaitingTime 61 = .ok (.iload_n 1, 1) := by decide +kernel
theorem dX3_rankByWaitingTime_62 : decode cX3_rankByWaitingTime 62 = .ok (.if_icmp .ge 6, 3) := by decide +kernel
theorem dX3_rankByWaitingTime_65 : decode cX3_rankByWaitingTime 65 = .ok (.iinc 2 1, 3) := by decide +kernel
theorem dX3_rankByWaitingTime_68 : decode cX3_rankByWaitingTime 68 = .ok (.iinc 3 1, 3) := by decide +kernel
theorem dX3_rankByWaitingTime_71 : decode cX3_rankByWaitingTime 71 = .ok (.goto (-67), 3) := by decide +kernel
theorem dX3_rankByWaitingTime_74 : decode cX3_rankByWaitingTime 74 = .ok (.iload_n 2, 1) := by decide +kernel
theorem dX3_rankByWaitingTime_75 : decode cX3_rankByWaitingTime 75 = .ok (.ireturn, 1) := by decide +kernel
set_option maxRecDepth 20000 in
theorem ggX3_countOpenWindows_X5_isOpen : GoodIn wsX3_countOpenWindows wsX5_isOpen := goodIn_rr _ [(6, 2), (22, 4)] rfl (by decide +kernel)
set_option maxRecDepth 20000 in
theorem gX3_countOpenWindows_X5_isOpen : GoodIn wsX3_countOpenWindows (wsV RX3 83 RX5 yX5_isOpen wsX5_isOpen) := goodIn_app (goodIn_of _ (by decide +kernel)) ggX3_countOpenWindows_X5_isOpen
theorem dX3_countOpenWindows_0 : decode cX3_countOpenWindows 0 = .ok (.iconst 0, 1) := by decide +kernel
theorem dX3_countOpenWindows_1 : decode cX3_countOpenWindows 1 = .ok (.istore_n 1, 1) := by decide +kernel
theorem dX3_countOpenWindows_2 : decode cX3_countOpenWindows 2 = .ok (.iconst 0, 1) := by decide +kernel
theorem dX3_countOpenWindows_3 : decode cX3_countOpenWindows 3 = .ok (.istore_n 2, 1) := by decide +kernel
theorem dX3_countOpenWindows_4 : decode cX3_countOpenWindows 4 = .ok (.iload_n 2, 1) := by decide +kernel
theorem dX3_countOpenWindows_5 : decode cX3_countOpenWindows 5 = .ok (.iconst 3, 1) := by decide +kernel
theorem dX3_countOpenWindows_6 : decode cX3_countOpenWindows 6 = .ok (.if_icmp .ge 24, 3) := by decide +kernel
theorem dX3_countOpenWindows_9 : decode cX3_countOpenWindows 9 = .ok (.aload_n 0, 1) := by decide +kernel
theorem dX3_countOpenWindows_10 : decode cX3_countOpenWindows 10 = .ok (.getfield 20, 3) := by decide +kernel
theorem dX3_countOpenWindows_13 : decode cX3_countOpenWindows 13 = .ok (.iload_n 2, 1) := by decide +kernel
theorem dX3_countOpenWindows_14 : decode cX3_countOpenWindows 14 = .ok (.aaload, 1) := by decide +kernel
theorem dX3_countOpenWindows_15 : decode cX3_countOpenWindows 15 = .ok (.invokevirtual 83, 3) := by decide +kernel
theorem dX3_countOpenWindows_18 : decode cX3_countOpenWindows 18 = .ok (.ifCond .eq 6, 3) := by decide +kernel
theorem dX3_countOpenWindows_21 : decode cX3_countOpenWindows 21 = .ok (.iinc 1 1, 3) := by decide +kernel
theorem dX3_countOpenWindows_24 : decode cX3_countOpenWindows 24 = .ok (.iinc 2 1, 3) := by decide +kernel
theorem dX3_countOpenWindows_27 : decode cX3_countOpenWindows 27 = .ok (.goto (-23), 3) := by decide +kernel
theorem dX3_countOpenWindows_30 : decode cX3_countOpenWindows 30 = .ok (.iload_n 1, 1) := by decide +kernel
theorem dX3_countOpenWindows_31 : decode cX3_countOpenWindows 31 = .ok (.ireturn, 1) := by decide +kernel
theorem dX3_countSitting_0 : decode cX3_countSitting 0 = .ok (.iconst 0, 1) := by decide +kernel
theorem dX3_countSitting_1 : decode cX3_countSitting 1 = .ok (.istore_n 1, 1) := by decide +kernel
theorem dX3_countSitting_2 : decode cX3_countSitting 2 = .ok (.iconst 0, 1) := by decide +kernel
theorem dX3_countSitting_3 : decode cX3_countSitting 3 = .ok (.istore_n 2, 1) := by decide +kernel
theorem dX3_countSitting_4 : decode cX3_countSitting 4 = .ok (.iload_n 2, 1) := by decide +kernel
theorem dX3_countSitting_5 : decode cX3_countSitting 5 = .ok (.aload_n 0, 1) := by decide +kernel
theorem dX3_countSitting_6 : decode cX3_countSitting 6 = .ok (.getfield 42, 3) := by decide +kernel
theorem dX3_countSitting_9 : decode cX3_countSitting 9 = .ok (.if_icmp .ge 24, 3) := by decide +kernel
theorem dX3_countSitting_12 : decode cX3_countSitting 12 = .ok (.aload_n 0, 1) := by decide +kernel
theorem dX3_countSitting_13 : decode cX3_countSitting 13 = .ok (.getfield 11, 3) := by decide +kernel
theorem dX3_countSitting_16 : decode cX3_countSitting 16 = .ok (.iload_n 2, 1) := by decide +kernel
theorem dX3_countSitting_17 : decode cX3_countSitting 17 = .ok (.aaload, 1) := by decide +kernel
theorem dX3_countSitting_18 : decode cX3_countSitting 18 = .ok (.getfield 87, 3) := by decide +kernel
theorem dX3_countSitting_21 : decode cX3_countSitting 21 = .ok (.ifCond .eq 6, 3) := by decide +kernel
theorem dX3_countSitting_24 : decode cX3_countSitting 24 = .ok (.iinc 1 1, 3) := by decide +kernel
theorem dX3_countSitting_27 : decode cX3_countSitting 27 = .ok (.iinc 2 1, 3) := by decide +kernel
theorem dX3_countSitting_30 : decode cX3_countSitting 30 = .ok (.goto (-26), 3) := by decide +kernel
theorem dX3_countSitting_33 : decode cX3_countSitting 33 = .ok (.iload_n 1, 1) := by decide +kernel
theorem dX3_countSitting_34 : decode cX3_countSitting 34 = .ok (.ireturn, 1) := by decide +kernel
set_option maxRecDepth 20000 in
theorem ggX3_admit_X2_arrive : GoodIn wsX3_admit wsX2_arrive := goodIn_rr _ [(10, 8), (32, 7)] rfl (by decide +kernel)
set_option maxRecDepth 20000 in
theorem gX3_admit_X2_arrive : GoodIn wsX3_admit (wsV RX3 91 RX2 yX2_arrive wsX2_arrive) := goodIn_app (goodIn_of _ (by decide +kernel)) ggX3_admit_X2_arrive
theorem dX3_admit_0 : decode cX3_admit 0 = .ok (.iload_n 1, 1) := by decide +kernel
theorem dX3_admit_1 : decode cX3_admit 1 = .ok (.iconst 1, 1) := by decide +kernel
theorem dX3_admit_2 : decode cX3_admit 2 = .ok (.if_icmp .lt 9, 3) := by decide +kernel
theorem dX3_admit_5 : decode cX3_admit 5 = .ok (.iload_n 1, 1) := by decide +kernel
theorem dX3_admit_6 : decode cX3_admit 6 = .ok (.bipush 30, 2) := by decide +kernel
theorem dX3_admit_8 : decode cX3_admit 8 = .ok (.if_icmp .le 6, 3) := by decide +kernel
theorem dX3_admit_11 : decode cX3_admit 11 = .ok (.bipush (-2), 2) := by decide +kernel
theorem dX3_admit_13 : decode cX3_admit 13 = .ok (.ireturn, 1) := by decide +kernel
theorem dX3_admit_14 : decode cX3_admit 14 = .ok (.aload_n 0, 1) := by decide +kernel
theorem dX3_admit_15 : decode cX3_admit 15 = .ok (.getfield 42, 3) := by decide +kernel
theorem dX3_admit_18 : decode cX3_admit 18 = .ok (.bipush 12, 2) := by decide +kernel
theorem dX3_admit_20 : decode cX3_admit 20 = .ok (.if_icmp .ge 12, 3) := by decide +kernel
theorem dX3_admit_23 : decode cX3_admit 23 = .ok (.aload_n 0, 1) := by decide +kernel
theorem dX3_admit_24 : decode cX3_admit 24 = .ok (.getfield 46, 3) := by decide +kernel
theorem dX3_admit_27 : decode cX3_admit 27 = .ok (.bipush 12, 2) := by decide +kernel
theorem dX3_admit_29 : decode cX3_admit 29 = .ok (.if_icmp .lt 6, 3) := by decide +kernel
theorem dX3_admit_32 : decode cX3_admit 32 = .ok (.bipush (-3), 2) := by decide +kernel
theorem dX3_admit_34 : decode cX3_admit 34 = .ok (.ireturn, 1) := by decide +kernel
theorem dX3_admit_35 : decode cX3_admit 35 = .ok (.aload_n 0, 1) := by decide +kernel
theorem dX3_admit_36 : decode cX3_admit 36 = .ok (.dup, 1) := by decide +kernel
theorem dX3_admit_37 : decode cX3_admit 37 = .ok (.getfield 52, 3) := by decide +kernel
theorem dX3_admit_40 : decode cX3_admit 40 = .ok (.iconst 1, 1) := by decide +kernel
theorem dX3_admit_41 : decode cX3_admit 41 = .ok (.iadd, 1) := by decide +kernel
theorem dX3_admit_42 : decode cX3_admit 42 = .ok (.putfield 52, 3) := by decide +kernel
theorem dX3_admit_45 : decode cX3_admit 45 = .ok (.aload_n 0, 1) := by decide +kernel
theorem dX3_admit_46 : decode cX3_admit 46 = .ok (.getfield 11, 3) := by decide +kernel
theorem dX3_admit_49 : decode cX3_admit 49 = .ok (.aload_n 0, 1) := by decide +kernel
theorem dX3_admit_50 : decode cX3_admit 50 = .ok (.getfield 42, 3) := by decide +kernel
theorem dX3_admit_53 : decode cX3_admit 53 = .ok (.aaload, 1) := by decide +kernel
theorem dX3_admit_54 : decode cX3_admit 54 = .ok (.aload_n 0, 1) := by decide +kernel
theorem dX3_admit_55 : decode cX3_admit 55 = .ok (.getfield 52, 3) := by decide +kernel
theorem dX3_admit_58 : decode cX3_admit 58 = .ok (.iload_n 1, 1) := by decide +kernel
theorem dX3_admit_59 : decode cX3_admit 59 = .ok (.invokevirtual 91, 3) := by decide +kernel
theorem dX3_admit_62 : decode cX3_admit 62 = .ok (.aload_n 0, 1) := by decide +kernel
theorem dX3_admit_63 : decode cX3_admit 63 = .ok (.getfield 25, 3) := by decide +kernel
theorem dX3_admit_66 : decode cX3_admit 66 = .ok (.aload_n 0, 1) := by decide +kernel
theorem dX3_admit_67 : decode cX3_admit 67 = .ok (.getfield 46, 3) := by decide +kernel
theorem dX3_admit_70 : decode cX3_admit 70 = .ok (.aload_n 0, 1) := by decide +kernel
theorem dX3_admit_71 : decode cX3_admit 71 = .ok (.getfield 42, 3) := by decide +kernel
theorem dX3_admit_74 : decode cX3_admit 74 = .ok (.iastore, 1) := by decide +kernel
theorem dX3_admit_75 : decode cX3_admit 75 = .ok (.aload_n 0, 1) := by decide +kernel
theorem dX3_admit_76 : decode cX3_admit 76 = .ok (.dup, 1) := by decide +kernel
theorem dX3_admit_77 : decode cX3_admit 77 = .ok (.getfield 46, 3) := by decide +kernel
theorem dX3_admit_80 : decode cX3_admit 80 = .ok (.iconst 1, 1) := by decide +kernel
theorem dX3_admit_81 : decode cX3_admit 81 = .ok (.iadd, 1) := by decide +kernel
theorem dX3_admit_82 : decode cX3_admit 82 = .ok (.putfield 46, 3) := by decide +kernel
theorem dX3_admit_85 : decode cX3_admit 85 = .ok (.aload_n 0, 1) := by decide +kernel
theorem dX3_admit_86 : decode cX3_admit 86 = .ok (.dup, 1) := by decide +kernel
theorem dX3_admit_87 : decode cX3_admit 87 = .ok (.getfield 42, 3) := by decide +kernel
theorem dX3_admit_90 : decode cX3_admit 90 = .ok (.iconst 1, 1) := by decide +kernel
theorem dX3_admit_91 : decode cX3_admit 91 = .ok (.iadd, 1) := by decide +kernel
theorem dX3_admit_92 : decode cX3_admit 92 = .ok (.putfield 42, 3) := by decide +kernel
theorem dX3_admit_95 : decode cX3_admit 95 = .ok (.aload_n 0, 1) := by decide +kernel
theorem dX3_admit_96 : decode cX3_admit 96 = .ok (.getfield 42, 3) := by decide +kernel
theorem dX3_admit_99 : decode cX3_admit 99 = .ok (.iconst 1, 1) := by decide +kernel
theorem dX3_admit_100 : decode cX3_admit 100 = .ok (.isub, 1) := by decide +kernel
theorem dX3_admit_101 : decode cX3_admit 101 = .ok (.ireturn, 1) := by decide +kernel
set_option maxRecDepth 20000 in
theorem ggX3_open_X3_hasWindow : GoodIn wsX3_open wsX3_hasWindow := goodIn_rr _ [(7, 1)] rfl (by decide +kernel)
set_option maxRecDepth 20000 in
theorem gX3_open_X3_hasWindow : GoodIn wsX3_open (va_wsS RX3 95 yX3_hasWindow wsX3_hasWindow) := goodIn_app (goodIn_of _ (by decide +kernel)) ggX3_open_X3_hasWindow
set_option maxRecDepth 20000 in
theorem ggX3_open_X5_isOpen : GoodIn wsX3_open wsX5_isOpen := goodIn_rr _ [(12, 2), (32, 4)] rfl (by decide +kernel)
set_option maxRecDepth 20000 in
theorem gX3_open_X5_isOpen : GoodIn wsX3_open (wsV RX3 83 RX5 yX5_isOpen wsX5_isOpen) := goodIn_app (goodIn_of _ (by decide +kernel)) ggX3_open_X5_isOpen
set_option maxRecDepth 20000 in
theorem ggX3_open_X3_countOpenWindows : GoodIn wsX3_open wsX3_countOpenWindows := goodIn_rr _ [(17, 1), (1, 1), (8, 6), (18, 18)] rfl (by decide +kernel)
set_option maxRecDepth 20000 in
theorem gX3_open_X3_countOpenWindows : GoodIn wsX3_open (wsV RX3 105 RX3 yX3_countOpenWindows wsX3_countOpenWindows) := goodIn_app (goodIn_of _ (by decide +kernel)) ggX3_open_X3_countOpenWindows
theorem dX3_open_0 : decode cX3_open 0 = .ok (.iload_n 1, 1) := by decide +kernel
theorem dX3_open_1 : decode cX3_open 1 = .ok (.invokestatic 95, 3) := by decide +kernel
theorem dX3_open_4 : decode cX3_open 4 = .ok (.ifCond .ne 5, 3) := by decide +kernel
theorem dX3_open_7 : decode cX3_open 7 = .ok (.iconst (-1), 1) := by decide +kernel
theorem dX3_open_8 : decode cX3_open 8 = .ok (.ireturn, 1) := by decide +kernel
theorem dX3_open_9 : decode cX3_open 9 = .ok (.iload_n 2, 1) := by decide +kernel
theorem dX3_open_10 : decode cX3_open 10 = .ok (.iconst 1, 1) := by decide +kernel
theorem dX3_open_11 : decode cX3_open 11 = .ok (.if_icmp .lt 20, 3) := by decide +kernel
theorem dX3_open_14 : decode cX3_open 14 = .ok (.iload_n 2, 1) := by decide +kernel
theorem dX3_open_15 : decode cX3_open 15 = .ok (.bipush 99, 2) := by decide +kernel
theorem dX3_open_17 : decode cX3_open 17 = .ok (.if_icmp .gt 14, 3) := by decide +kernel
theorem dX3_open_20 : decode cX3_open 20 = .ok (.iload_n 3, 1) := by decide +kernel
theorem dX3_open_21 : decode cX3_open 21 = .ok (.iconst 1, 1) := by decide +kernel
theorem dX3_open_22 : decode cX3_open 22 = .ok (.if_icmp .lt 9, 3) := by decide +kernel
theorem dX3_open_25 : decode cX3_open 25 = .ok (.iload_n 3, 1) := by decide +kernel
theorem dX3_open_26 : decode cX3_open 26 = .ok (.bipush 9, 2) := by decide +kernel
theorem dX3_open_28 : decode cX3_open 28 = .ok (.if_icmp .le 6, 3) := by decide +kernel
theorem dX3_open_31 : decode cX3_open 31 = .ok (.bipush (-2), 2) := by decide +kernel
theorem dX3_open_33 : decode cX3_open 33 = .ok (.ireturn, 1) := by decide +kernel
theorem dX3_open_34 : decode cX3_open 34 = .ok (.aload_n 0, 1) := by decide +kernel
theorem dX3_open_35 : decode cX3_open 35 = .ok (.getfield 20, 3) := by decide +kernel
theorem dX3_open_38 : decode cX3_open 38 = .ok (.iload_n 1, 1) := by decide +kernel
theorem dX3_open_39 : decode cX3_open 39 = .ok (.aaload, 1) := by decide +kernel
theorem dX3_open_40 : decode cX3_open 40 = .ok (.invokevirtual 83, 3) := by decide +kernel
theorem dX3_open_43 : decode cX3_open 43 = .ok (.ifCond .eq 6, 3) := by decide +kernel
theorem dX3_open_46 : decode cX3_open 46 = .ok (.bipush (-3), 2) := by decide +kernel
theorem dX3_open_48 : decode cX3_open 48 = .ok (.ireturn, 1) := by decide +kernel
theorem dX3_open_49 : decode cX3_open 49 = .ok (.aload_n 0, 1) := by decide +kernel
theorem dX3_open_50 : decode cX3_open 50 = .ok (.getfield 20, 3) := by decide +kernel
theorem dX3_open_53 : decode cX3_open 53 = .ok (.iload_n 1, 1) := by decide +kernel
theorem dX3_open_54 : decode cX3_open 54 = .ok (.aaload, 1) := by decide +kernel
theorem dX3_open_55 : decode cX3_open 55 = .ok (.iload_n 2, 1) := by decide +kernel
theorem dX3_open_56 : decode cX3_open 56 = .ok (.putfield 99, 3) := by decide +kernel
theorem dX3_open_59 : decode cX3_open 59 = .ok (.aload_n 0, 1) := by decide +kernel
theorem dX3_open_60 : decode cX3_open 60 = .ok (.getfield 20, 3) := by decide +kernel
theorem dX3_open_63 : decode cX3_open 63 = .ok (.iload_n 1, 1) := by decide +kernel
theorem dX3_open_64 : decode cX3_open 64 = .ok (.aaload, 1) := by decide +kernel
theorem dX3_open_65 : decode cX3_open 65 = .ok (.iload_n 3, 1) := by decide +kernel
theorem dX3_open_66 : decode cX3_open 66 = .ok (.putfield 102, 3) := by decide +kernel
theorem dX3_open_69 : decode cX3_open 69 = .ok (.aload_n 0, 1) := by decide +kernel
theorem dX3_open_70 : decode cX3_open 70 = .ok (.invokevirtual 105, 3) := by decide +kernel
theorem dX3_open_73 : decode cX3_open 73 = .ok (.ireturn, 1) := by decide +kernel
set_option maxRecDepth 20000 in
theorem ggX3_close_X3_hasWindow : GoodIn wsX3_close wsX3_hasWindow := goodIn_rr _ [(5, 1)] rfl (by decide +kernel)
set_option maxRecDepth 20000 in
theorem gX3_close_X3_hasWindow : GoodIn wsX3_close (va_wsS RX3 95 yX3_hasWindow wsX3_hasWindow) := goodIn_app (goodIn_of _ (by decide +kernel)) ggX3_close_X3_hasWindow
set_option maxRecDepth 20000 in
theorem ggX3_close_X5_isOpen : GoodIn wsX3_close wsX5_isOpen := goodIn_rr _ [(10, 2), (42, 4)] rfl (by decide +kernel)
set_option maxRecDepth 20000 in
theorem gX3_close_X5_isOpen : GoodIn wsX3_close (wsV RX3 83 RX5 yX5_isOpen wsX5_isOpen) := goodIn_app (goodIn_of _ (by decide +kernel)) ggX3_close_X5_isOpen
set_option maxRecDepth 20000 in
theorem ggX3_close_X3_shut : GoodIn wsX3_close wsX3_shut := goodIn_ca (goodIn_rr _ [(15, 6), (4, 1), (21, 3), (42, 4), (28, 14)] rfl (by decide +kernel)) (goodIn_sub (fun _ h => List.mem_cons_of_mem _ (List.mem_append_right _ h)) (by decide +kernel))
set_option maxRecDepth 20000 in
theorem gX3_close_X3_shut : GoodIn wsX3_close (wsV RX3 109 RX3 yX3_shut wsX3_shut) := goodIn_app (goodIn_of _ (by decide +kernel)) ggX3_close_X3_shut
set_option maxRecDepth 20000 in
theorem ggX3_close_X3_countOpenWindows : GoodIn wsX3_close wsX3_countOpenWindows := goodIn_rr _ [(27, 1), (1, 1), (6, 6), (28, 18)] rfl (by decide +kernel)
set_option maxRecDepth 20000 in
theorem gX3_close_X3_countOpenWindows : GoodIn wsX3_close (wsV RX3 105 RX3 yX3_countOpenWindows wsX3_countOpenWindows) := goodIn_app (goodIn_of _ (by decide +kernel)) ggX3_close_X3_countOpenWindows
theorem dX3_close_0 : decode cX3_close 0 = .ok (.iload_n 1, 1) := by decide +kernel
theorem dX3_close_1 : decode cX3_close 1 = .ok (.invokestatic 95, 3) := by decide +kernel
theorem dX3_close_4 : decode cX3_close 4 = .ok (.ifCond .ne 5, 3) := by decide +kernel
theorem dX3_close_7 : decode cX3_close 7 = .ok (.iconst (-1), 1) := by decide +kernel
theorem dX3_close_8 : decode cX3_close 8 = .ok (.ireturn, 1) := by decide +kernel
theorem dX3_close_9 : decode cX3_close 9 = .ok (.aload_n 0, 1) := by decide +kernel
theorem dX3_close_10 : decode cX3_close 10 = .ok (.getfield 20, 3) := by decide +kernel
theorem dX3_close_13 : decode cX3_close 13 = .ok (.iload_n 1, 1) := by decide +kernel
theorem dX3_close_14 : decode cX3_close 14 = .ok (.aaload, 1) := by decide +kernel
theorem dX3_close_15 : decode cX3_close 15 = .ok (.invokevirtual 83, 3) := by decide +kernel
theorem dX3_close_18 : decode cX3_close 18 = .ok (.ifCond .ne 6, 3) := by decide +kernel
theorem dX3_close_21 : decode cX3_close 21 = .ok (.bipush (-3), 2) := by decide +kernel
theorem dX3_close_23 : decode cX3_close 23 = .ok (.ireturn, 1) := by decide +kernel
theorem dX3_close_24 : decode cX3_close 24 = .ok (.aload_n 0, 1) := by decide +kernel
theorem dX3_close_25 : decode cX3_close 25 = .ok (.aload_n 0, 1) := by decide +kernel
theorem dX3_close_26 : decode cX3_close 26 = .ok (.getfield 20, 3) := by decide +kernel
theorem dX3_close_29 : decode cX3_close 29 = .ok (.iload_n 1, 1) := by decide +kernel
theorem dX3_close_30 : decode cX3_close 30 = .ok (.aaload, 1) := by decide +kernel
theorem dX3_close_31 : decode cX3_close 31 = .ok (.invokevirtual 109, 3) := by decide +kernel
theorem dX3_close_34 : decode cX3_close 34 = .ok (.aload_n 0, 1) := by decide +kernel
theorem dX3_close_35 : decode cX3_close 35 = .ok (.invokevirtual 105, 3) := by decide +kernel
theorem dX3_close_38 : decode cX3_close 38 = .ok (.ireturn, 1) := by decide +kernel
theorem dX3_callLowestTicket_0 : decode cX3_callLowestTicket 0 = .ok (.iconst 0, 1) := by decide +kernel
theorem dX3_callLowestTicket_1 : decode cX3_callLowestTicket 1 = .ok (.istore_n 1, 1) := by decide +kernel
theorem dX3_callLowestTicket_2 : decode cX3_callLowestTicket 2 = .ok (.iload_n 1, 1) := by decide +kernel
theorem dX3_callLowestTicket_3 : decode cX3_callLowestTicket 3 = .ok (.aload_n 0, 1) := by decide +kernel
theorem dX3_callLowestTicket_4 : decode cX3_callLowestTicket 4 = .ok (.getfield 42, 3) := by decide +kernel
theorem dX3_callLowestTicket_7 : decode cX3_callLowestTicket 7 = .ok (.if_icmp .ge 41, 3) := by decide +kernel
theorem dX3_callLowestTicket_10 : decode cX3_callLowestTicket 10 = .ok (.aload_n 0, 1) := by decide +kernel
theorem dX3_callLowestTicket_11 : decode cX3_callLowestTicket 11 = .ok (.getfield 11, 3) := by decide +kernel
theorem dX3_callLowestTicket_14 : decode cX3_callLowestTicket 14 = .ok (.iload_n 1, 1) := by decide +kernel
theorem dX3_callLowestTicket_15 : decode cX3_callLowestTicket 15 = .ok (.aaload, 1) := by decide +kernel
theorem dX3_callLowestTicket_16 : decode cX3_callLowestTicket 16 = .ok (.getfield 112, 3) := by decide +kernel
theorem dX3_callLowestTicket_19 : decode cX3_callLowestTicket 19 = .ok (.ifCond .ne 23, 3) := by decide +kernel
theorem dX3_callLowestTicket_22 : decode cX3_callLowestTicket 22 = .ok (.aload_n 0, 1) := by decide +kernel
theorem dX3_callLowestTicket_23 : decode cX3_callLowestTicket 23 = .ok (.getfield 11, 3) := by decide +kernel
theorem dX3_callLowestTicket_26 : decode cX3_callLowestTicket 26 = .ok (.iload_n 1, 1) := by decide +kernel
theorem dX3_callLowestTicket_27 : decode cX3_callLowestTicket 27 = .ok (.aaload, 1) := by decide +kernel
theorem dX3_callLowestTicket_28 : decode cX3_callLowestTicket 28 = .ok (.iconst 1, 1) := by decide +kernel
theorem dX3_callLowestTicket_29 : decode cX3_callLowestTicket 29 = .ok (.putfield 112, 3) := by decide +kernel
theorem dX3_callLowestTicket_32 : decode cX3_callLowestTicket 32 = .ok (.aload_n 0, 1) := by decide +kernel
theorem dX3_callLowestTicket_33 : decode cX3_callLowestTicket 33 = .ok (.getfield 11, 3) := by decide +kernel
theorem dX3_callLowestTicket_36 : decode cX3_callLowestTicket 36 = .ok (.iload_n 1, 1) := by decide +kernel
theorem dX3_callLowestTicket_37 : decode cX3_callLowestTicket 37 = .ok (.aaload, 1) := by decide +kernel
theorem dX3_callLowestTicket_38 : decode cX3_callLowestTicket 38 = .ok (.getfield 73, 3) := by decide +kernel
theorem dX3_callLowestTicket_41 : decode cX3_callLowestTicket 41 = .ok (.ireturn, 1) := by decide +kernel
theorem dX3_callLowestTicket_42 : decode cX3_callLowestTicket 42 = .ok (.iinc 1 1, 3) := by decide +kernel
theorem dX3_callLowestTicket_45 : decode cX3_callLowestTicket 45 = .ok (.goto (-43), 3) := by decide +kernel
theorem dX3_callLowestTicket_48 : decode cX3_callLowestTicket 48 = .ok (.bipush (-5), 2) := by decide +kernel
theorem dX3_callLowestTicket_50 : decode cX3_callLowestTicket 50 = .ok (.ireturn, 1) := by decide +kernel
set_option maxRecDepth 20000 in
theorem ggX3_exchange_X3_hasCustomer : GoodIn wsX3_exchange wsX3_hasCustomer := goodIn_rr _ [(12, 2), (19, 14)] rfl (by decide +kernel)
set_option maxRecDepth 20000 in
theorem gX3_exchange_X3_hasCustomer : GoodIn wsX3_exchange (wsV RX3 115 RX3 yX3_hasCustomer wsX3_hasCustomer) := goodIn_app (goodIn_of _ (by decide +kernel)) ggX3_exchange_X3_hasCustomer
set_option maxRecDepth 20000 in
theorem ggX3_exchange_X3_positionOf : GoodIn wsX3_exchange wsX3_positionOf := goodIn_ca (goodIn_rr _ [(17, 2), (3, 1), (19, 14)] rfl (by decide +kernel)) (goodIn_sub (fun _ h => List.mem_cons_of_mem _ (List.mem_append_right _ h)) (by decide +kernel))
set_option maxRecDepth 20000 in
theorem gX3_exchange_X3_positionOf : GoodIn wsX3_exchange (wsV RX3 118 RX3 yX3_positionOf wsX3_positionOf) := goodIn_app (goodIn_of _ (by decide +kernel)) ggX3_exchange_X3_positionOf
theorem dX3_exchange_0 : decode cX3_exchange 0 = .ok (.aload_n 0, 1) := by decide +kernel
theorem dX3_exchange_1 : decode cX3_exchange 1 = .ok (.iload_n 1, 1) := by decide +kernel
theorem dX3_exchange_2 : decode cX3_exchange 2 = .ok (.invokevirtual 115, 3) := by decide +kernel
theorem dX3_exchange_5 : decode cX3_exchange 5 = .ok (.ifCond .eq 11, 3) := by decide +kernel
theorem dX3_exchange_8 : decode cX3_exchange 8 = .ok (.aload_n 0, 1) := by decide +kernel
theorem dX3_exchange_9 : decode cX3_exchange 9 = .ok (.iload_n 2, 1) := by decide +kernel
theorem dX3_exchange_10 : decode cX3_exchange 10 = .ok (.invokevirtual 115, 3) := by decide +kernel
theorem dX3_exchange_13 : decode cX3_exchange 13 = .ok (.ifCond .ne 5, 3) := by decide +kernel
theorem dX3_exchange_16 : decode cX3_exchange 16 = .ok (.iconst (-1), 1) := by decide +kernel
theorem dX3_exchange_17 : decode cX3_exchange 17 = .ok (.ireturn, 1) := by decide +kernel
theorem dX3_exchange_18 : decode cX3_exchange 18 = .ok (.iload_n 1, 1) := by decide +kernel
theorem dX3_exchange_19 : decode cX3_exchange 19 = .ok (.iload_n 2, 1) := by decide +kernel
theorem dX3_exchange_20 : decode cX3_exchange 20 = .ok (.if_icmp .ne 6, 3) := by decide +kernel
theorem dX3_exchange_23 : decode cX3_exchange 23 = .ok (.bipush (-2), 2) := by decide +kernel
theorem dX3_exchange_25 : decode cX3_exchange 25 = .ok (.ireturn, 1) := by decide +kernel
theorem dX3_exchange_26 : decode cX3_exchange 26 = .ok (.aload_n 0, 1) := by decide +kernel
theorem dX3_exchange_27 : decode cX3_exchange 27 = .ok (.iload_n 1, 1) := by decide +kernel
theorem dX3_exchange_28 : decode cX3_exchange 28 = .ok (.invokevirtual 118, 3) := by decide +kernel
theorem dX3_exchange_31 : decode cX3_exchange 31 = .ok (.istore_n 3, 1) := by decide +kernel
theorem dX3_exchange_32 : decode cX3_exchange 32 = .ok (.aload_n 0, 1) := by decide +kernel
theorem dX3_exchange_33 : decode cX3_exchange 33 = .ok (.iload_n 2, 1) := by decide +kernel
theorem dX3_exchange_34 : decode cX3_exchange 34 = .ok (.invokevirtual 118, 3) := by decide +kernel
theorem dX3_exchange_37 : decode cX3_exchange 37 = .ok (.istore 4, 2) := by decide +kernel
theorem dX3_exchange_39 : decode cX3_exchange 39 = .ok (.iload_n 3, 1) := by decide +kernel
theorem dX3_exchange_40 : decode cX3_exchange 40 = .ok (.iconst (-1), 1) := by decide +kernel
theorem dX3_exchange_41 : decode cX3_exchange 41 = .ok (.if_icmp .eq 9, 3) := by decide +kernel
theorem dX3_exchange_44 : decode cX3_exchange 44 = .ok (.iload 4, 2) := by decide +kernel
theorem dX3_exchange_46 : decode cX3_exchange 46 = .ok (.iconst (-1), 1) := by decide +kernel
theorem dX3_exchange_47 : decode cX3_exchange 47 = .ok (.if_icmp .ne 6, 3) := by decide +kernel
theorem dX3_exchange_50 : decode cX3_exchange 50 = .ok (.bipush (-3), 2) := by decide +kernel
theorem dX3_exchange_52 : decode cX3_exchange 52 = .ok (.ireturn, 1) := by decide +kernel
theorem dX3_exchange_53 : decode cX3_exchange 53 = .ok (.aload_n 0, 1) := by decide +kernel
theorem dX3_exchange_54 : decode cX3_exchange 54 = .ok (.getfield 11, 3) := by decide +kernel
theorem dX3_exchange_57 : decode cX3_exchange 57 = .ok (.iload_n 3, 1) := by decide +kernel
theorem dX3_exchange_58 : decode cX3_exchange 58 = .ok (.iload 4, 2) := by decide +kernel
theorem dX3_exchange_60 : decode cX3_exchange 60 = .ok (.if_icmp .ge 7, 3) := by decide +kernel
theorem dX3_exchange_63 : decode cX3_exchange 63 = .ok (.iload_n 1, 1) := by decide +kernel
theorem dX3_exchange_64 : decode cX3_exchange 64 = .ok (.goto 4, 3) := by decide +kernel
theorem dX3_exchange_67 : decode cX3_exchange 67 = .ok (.iload_n 2, 1) := by decide +kernel
theorem dX3_exchange_68 : decode cX3_exchange 68 = .ok (.aaload, 1) := by decide +kernel
theorem dX3_exchange_69 : decode cX3_exchange 69 = .ok (.astore 5, 2) := by decide +kernel
theorem dX3_exchange_71 : decode cX3_exchange 71 = .ok (.aload 5, 2) := by decide +kernel
theorem dX3_exchange_73 : decode cX3_exchange 73 = .ok (.getfield 122, 3) := by decide +kernel
theorem dX3_exchange_76 : decode cX3_exchange 76 = .ok (.iconst 2, 1) := by decide +kernel
theorem dX3_exchange_77 : decode cX3_exchange 77 = .ok (.if_icmp .ge 6, 3) := by decide +kernel
theorem dX3_exchange_80 : decode cX3_exchange 80 = .ok (.bipush (-4), 2) := by decide +kernel
theorem dX3_exchange_82 : decode cX3_exchange 82 = .ok (.ireturn, 1) := by decide +kernel
theorem dX3_exchange_83 : decode cX3_exchange 83 = .ok (.aload 5, 2) := by decide +kernel
theorem dX3_exchange_85 : decode cX3_exchange 85 = .ok (.dup, 1) := by decide +kernel
theorem dX3_exchange_86 : decode cX3_exchange 86 = .ok (.getfield 122, 3) := by decide +kernel
theorem dX3_exchange_89 : decode cX3_exchange 89 = .ok (.iconst 2, 1) := by decide +kernel
theorem dX3_exchange_90 : decode cX3_exchange 90 = .ok (.isub, 1) := by decide +kernel
theorem dX3_exchange_91 : decode cX3_exchange 91 = .ok (.putfield 122, 3) := by decide +kernel
theorem dX3_exchange_94 : decode cX3_exchange 94 = .ok (.aload_n 0, 1) := by decide +kernel
theorem dX3_exchange_95 : decode cX3_exchange 95 = .ok (.getfield 25, 3) := by decide +kernel
theorem dX3_exchange_98 : decode cX3_exchange 98 = .ok (.iload_n 3, 1) := by decide +kernel
theorem dX3_exchange_99 : decode cX3_exchange 99 = .ok (.iload_n 2, 1) := by decide +kernel
theorem dX3_exchange_100 : decode cX3_exchange 100 = .ok (.iastore, 1) := by decide +kernel
theorem dX3_exchange_101 : decode cX3_exchange 101 = .ok (.aload_n 0, 1) := by decide +kernel
theorem dX3_exchange_102 : decode cX3_exchange 102 = .ok (.getfield 25, 3) := by decide +kernel
theorem dX3_exchange_105 : decode cX3_exchange 105 = .ok (.iload 4, 2) := by decide +kernel
theorem dX3_exchange_107 : decode cX3_exchange 107 = .ok (.iload_n 1, 1) := by decide +kernel
theorem dX3_exchange_108 : decode cX3_exchange 108 = .ok (.iastore, 1) := by decide +kernel
theorem dX3_exchange_109 : decode cX3_exchange 109 = .ok (.iload_n 3, 1) := by decide +kernel
theorem dX3_exchange_110 : decode cX3_exchange 110 = .ok (.iload 4, 2) := by decide +kernel
theorem dX3_exchange_112 : decode cX3_exchange 112 = .ok (.isub, 1) := by decide +kernel
theorem dX3_exchange_113 : decode cX3_exchange 113 = .ok (.invokestatic 125, 3) := by decide +kernel
theorem dX3_exchange_116 : decode cX3_exchange 116 = .ok (.ireturn, 1) := by decide +kernel
set_option maxRecDepth 20000 in
theorem ggX3_seat_X3_hasCustomer : GoodIn wsX3_seat wsX3_hasCustomer := goodIn_rr _ [(7, 2), (19, 14)] rfl (by decide +kernel)
set_option maxRecDepth 20000 in
theorem gX3_seat_X3_hasCustomer : GoodIn wsX3_seat (wsV RX3 115 RX3 yX3_hasCustomer wsX3_hasCustomer) := goodIn_app (goodIn_of _ (by decide +kernel)) ggX3_seat_X3_hasCustomer
set_option maxRecDepth 20000 in
theorem ggX3_seat_X3_windowOf : GoodIn wsX3_seat wsX3_windowOf := goodIn_rr _ [(12, 3), (19, 14), (40, 4)] rfl (by decide +kernel)
set_option maxRecDepth 20000 in
theorem gX3_seat_X3_windowOf : GoodIn wsX3_seat (wsV RX3 130 RX3 yX3_windowOf wsX3_windowOf) := goodIn_app (goodIn_of _ (by decide +kernel)) ggX3_seat_X3_windowOf
set_option maxRecDepth 20000 in
theorem ggX3_seat_X3_countSitting : GoodIn wsX3_seat wsX3_countSitting := goodIn_rr _ [(18, 1), (8, 1), (1, 2), (19, 21)] rfl (by decide +kernel)
set_option maxRecDepth 20000 in
theorem gX3_seat_X3_countSitting : GoodIn wsX3_seat (wsV RX3 133 RX3 yX3_countSitting wsX3_countSitting) := goodIn_app (goodIn_of _ (by decide +kernel)) ggX3_seat_X3_countSitting
theorem dX3_seat_0 : decode cX3_seat 0 = .ok (.aload_n 0, 1) := by decide +kernel
theorem dX3_seat_1 : decode cX3_seat 1 = .ok (.iload_n 1, 1) := by decide +kernel
theorem dX3_seat_2 : decode cX3_seat 2 = .ok (.invokevirtual 115, 3) := by decide +kernel
theorem dX3_seat_5 : decode cX3_seat 5 = .ok (.ifCond .ne 5, 3) := by decide +kernel
theorem dX3_seat_8 : decode cX3_seat 8 = .ok (.iconst (-1), 1) := by decide +kernel
theorem dX3_seat_9 : decode cX3_seat 9 = .ok (.ireturn, 1) := by decide +kernel
theorem dX3_seat_10 : decode cX3_seat 10 = .ok (.aload_n 0, 1) := by decide +kernel
theorem dX3_seat_11 : decode cX3_seat 11 = .ok (.iload_n 1, 1) := by decide +kernel
theorem dX3_seat_12 : decode cX3_seat 12 = .ok (.invokevirtual 130, 3) := by decide +kernel
theorem dX3_seat_15 : decode cX3_seat 15 = .ok (.iconst (-1), 1) := by decide +kernel
theorem dX3_seat_16 : decode cX3_seat 16 = .ok (.if_icmp .ne 15, 3) := by decide +kernel
theorem dX3_seat_19 : decode cX3_seat 19 = .ok (.aload_n 0, 1) := by decide +kernel
theorem dX3_seat_20 : decode cX3_seat 20 = .ok (.getfield 11, 3) := by decide +kernel
theorem dX3_seat_23 : decode cX3_seat 23 = .ok (.iload_n 1, 1) := by decide +kernel
theorem dX3_seat_24 : decode cX3_seat 24 = .ok (.aaload, 1) := by decide +kernel
theorem dX3_seat_25 : decode cX3_seat 25 = .ok (.getfield 87, 3) := by decide +kernel
theorem dX3_seat_28 : decode cX3_seat 28 = .ok (.ifCond .eq 6, 3) := by decide +kernel
theorem dX3_seat_31 : decode cX3_seat 31 = .ok (.bipush (-3), 2) := by decide +kernel
theorem dX3_seat_33 : decode cX3_seat 33 = .ok (.ireturn, 1) := by decide +kernel
theorem dX3_seat_34 : decode cX3_seat 34 = .ok (.aload_n 0, 1) := by decide +kernel
theorem dX3_seat_35 : decode cX3_seat 35 = .ok (.invokevirtual 133, 3) := by decide +kernel
theorem dX3_seat_38 : decode cX3_seat 38 = .ok (.iconst 4, 1) := by decide +kernel
theorem dX3_seat_39 : decode cX3_seat 39 = .ok (.if_icmp .lt 6, 3) := by decide +kernel
theorem dX3_seat_42 : decode cX3_seat 42 = .ok (.bipush (-4), 2) := by decide +kernel
theorem dX3_seat_44 : decode cX3_seat 44 = .ok (.ireturn, 1) := by decide +kernel
theorem dX3_seat_45 : decode cX3_seat 45 = .ok (.aload_n 0, 1) := by decide +kernel
theorem dX3_seat_46 : decode cX3_seat 46 = .ok (.getfield 11, 3) := by decide +kernel
theorem dX3_seat_49 : decode cX3_seat 49 = .ok (.iload_n 1, 1) := by decide +kernel
theorem dX3_seat_50 : decode cX3_seat 50 = .ok (.aaload, 1) := by decide +kernel
theorem dX3_seat_51 : decode cX3_seat 51 = .ok (.iconst 1, 1) := by decide +kernel
theorem dX3_seat_52 : decode cX3_seat 52 = .ok (.putfield 87, 3) := by decide +kernel
theorem dX3_seat_55 : decode cX3_seat 55 = .ok (.aload_n 0, 1) := by decide +kernel
theorem dX3_seat_56 : decode cX3_seat 56 = .ok (.invokevirtual 133, 3) := by decide +kernel
theorem dX3_seat_59 : decode cX3_seat 59 = .ok (.ireturn, 1) := by decide +kernel
set_option maxRecDepth 20000 in
theorem ggX3_unseat_X3_hasCustomer : GoodIn wsX3_unseat wsX3_hasCustomer := goodIn_rr _ [(7, 2), (13, 14)] rfl (by decide +kernel)
set_option maxRecDepth 20000 in
theorem gX3_unseat_X3_hasCustomer : GoodIn wsX3_unseat (wsV RX3 115 RX3 yX3_hasCustomer wsX3_hasCustomer) := goodIn_app (goodIn_of _ (by decide +kernel)) ggX3_unseat_X3_hasCustomer
set_option maxRecDepth 20000 in
theorem ggX3_unseat_X3_countSitting : GoodIn wsX3_unseat wsX3_countSitting := goodIn_rr _ [(12, 1), (8, 1), (1, 2), (13, 21)] rfl (by decide +kernel)
set_option maxRecDepth 20000 in
theorem gX3_unseat_X3_countSitting : GoodIn wsX3_unseat (wsV RX3 133 RX3 yX3_countSitting wsX3_countSitting) := goodIn_app (goodIn_of _ (by decide +kernel)) ggX3_unseat_X3_countSitting
theorem dX3_unseat_0 : decode cX3_unseat 0 = .ok (.aload_n 0, 1) := by decide +kernel
theorem dX3_unseat_1 : decode cX3_unseat 1 = .ok (.iload_n 1, 1) := by decide +kernel
theorem dX3_unseat_2 : decode cX3_unseat 2 = .ok (.invokevirtual 115, 3) := by decide +kernel
theorem dX3_unseat_5 : decode cX3_unseat 5 = .ok (.ifCond .ne 5, 3) := by decide +kernel
theorem dX3_unseat_8 : decode cX3_unseat 8 = .ok (.iconst (-1), 1) := by decide +kernel
theorem dX3_unseat_9 : decode cX3_unseat 9 = .ok (.ireturn, 1) := by decide +kernel
theorem dX3_unseat_10 : decode cX3_unseat 10 = .ok (.aload_n 0, 1) := by decide +kernel
theorem dX3_unseat_11 : decode cX3_unseat 11 = .ok (.getfield 11, 3) := by decide +kernel
theorem dX3_unseat_14 : decode cX3_unseat 14 = .ok (.iload_n 1, 1) := by decide +kernel
theorem dX3_unseat_15 : decode cX3_unseat 15 = .ok (.aaload, 1) := by decide +kernel
theorem dX3_unseat_16 : decode cX3_unseat 16 = .ok (.getfield 87, 3) := by decide +kernel
theorem dX3_unseat_19 : decode cX3_unseat 19 = .ok (.ifCond .ne 6, 3) := by decide +kernel
theorem dX3_unseat_22 : decode cX3_unseat 22 = .ok (.bipush (-3), 2) := by decide +kernel
theorem dX3_unseat_24 : decode cX3_unseat 24 = .ok (.ireturn, 1) := by decide +kernel
theorem dX3_unseat_25 : decode cX3_unseat 25 = .ok (.aload_n 0, 1) := by decide +kernel
theorem dX3_unseat_26 : decode cX3_unseat 26 = .ok (.getfield 11, 3) := by decide +kernel
theorem dX3_unseat_29 : decode cX3_unseat 29 = .ok (.iload_n 1, 1) := by decide +kernel
theorem dX3_unseat_30 : decode cX3_unseat 30 = .ok (.aaload, 1) := by decide +kernel
theorem dX3_unseat_31 : decode cX3_unseat 31 = .ok (.iconst 0, 1) := by decide +kernel
theorem dX3_unseat_32 : decode cX3_unseat 32 = .ok (.putfield 87, 3) := by decide +kernel
theorem dX3_unseat_35 : decode cX3_unseat 35 = .ok (.aload_n 0, 1) := by decide +kernel
theorem dX3_unseat_36 : decode cX3_unseat 36 = .ok (.invokevirtual 133, 3) := by decide +kernel
theorem dX3_unseat_39 : decode cX3_unseat 39 = .ok (.ireturn, 1) := by decide +kernel
set_option maxRecDepth 20000 in
theorem ggX3_dismiss_X3_hasCustomer : GoodIn wsX3_dismiss wsX3_hasCustomer := goodIn_rr _ [(7, 1), (2, 1), (33, 14)] rfl (by decide +kernel)
set_option maxRecDepth 20000 in
theorem gX3_dismiss_X3_hasCustomer : GoodIn wsX3_dismiss (wsV RX3 115 RX3 yX3_hasCustomer wsX3_hasCustomer) := goodIn_app (goodIn_of _ (by decide +kernel)) ggX3_dismiss_X3_hasCustomer
set_option maxRecDepth 20000 in
theorem ggX3_dismiss_X3_leave : GoodIn wsX3_dismiss wsX3_leave := goodIn_ca (goodIn_rr _ [(11, 4), (2, 1), (15, 3), (6, 1), (18, 33)] rfl (by decide +kernel)) (goodIn_sub (fun _ h => List.mem_cons_of_mem _ (List.mem_append_right _ h)) (by decide +kernel))
set_option maxRecDepth 20000 in
theorem gX3_dismiss_X3_leave : GoodIn wsX3_dismiss (wsV RX3 136 RX3 yX3_leave wsX3_leave) := goodIn_app (goodIn_of _ (by decide +kernel)) ggX3_dismiss_X3_leave
theorem dX3_dismiss_0 : decode cX3_dismiss 0 = .ok (.aload_n 0, 1) := by decide +kernel
theorem dX3_dismiss_1 : decode cX3_dismiss 1 = .ok (.iload_n 1, 1) := by decide +kernel
theorem dX3_dismiss_2 : decode cX3_dismiss 2 = .ok (.invokevirtual 115, 3) := by decide +kernel
theorem dX3_dismiss_5 : decode cX3_dismiss 5 = .ok (.ifCond .ne 5, 3) := by decide +kernel
theorem dX3_dismiss_8 : decode cX3_dismiss 8 = .ok (.iconst (-1), 1) := by decide +kernel
theorem dX3_dismiss_9 : decode cX3_dismiss 9 = .ok (.ireturn, 1) := by decide +kernel
theorem dX3_dismiss_10 : decode cX3_dismiss 10 = .ok (.aload_n 0, 1) := by decide +kernel
theorem dX3_dismiss_11 : decode cX3_dismiss 11 = .ok (.dup, 1) := by decide +kernel
theorem dX3_dismiss_12 : decode cX3_dismiss 12 = .ok (.getfield 64, 3) := by decide +kernel
theorem dX3_dismiss_15 : decode cX3_dismiss 15 = .ok (.iconst 1, 1) := by decide +kernel
theorem dX3_dismiss_16 : decode cX3_dismiss 16 = .ok (.iadd, 1) := by decide +kernel
theorem dX3_dismiss_17 : decode cX3_dismiss 17 = .ok (.putfield 64, 3) := by decide +kernel
theorem dX3_dismiss_20 : decode cX3_dismiss 20 = .ok (.aload_n 0, 1) := by decide +kernel
theorem dX3_dismiss_21 : decode cX3_dismiss 21 = .ok (.iload_n 1, 1) := by decide +kernel
theorem dX3_dismiss_22 : decode cX3_dismiss 22 = .ok (.invokevirtual 136, 3) := by decide +kernel
theorem dX3_dismiss_25 : decode cX3_dismiss 25 = .ok (.aload_n 0, 1) := by decide +kernel
theorem dX3_dismiss_26 : decode cX3_dismiss 26 = .ok (.getfield 42, 3) := by decide +kernel
theorem dX3_dismiss_29 : decode cX3_dismiss 29 = .ok (.ireturn, 1) := by decide +kernel
set_option maxRecDepth 20000 in
theorem ggX3_pass_X3_passMinute : GoodIn wsX3_pass wsX3_passMinute := goodIn_ca (goodIn_rr _ [(6, 13), (5, 1), (19, 12), (1, 1), (31, 88)] rfl (by decide +kernel)) (goodIn_sub (fun _ h => List.mem_cons_of_mem _ (List.mem_append_right _ h)) (by decide +kernel))
set_option maxRecDepth 20000 in
theorem gX3_pass_X3_passMinute : GoodIn wsX3_pass (wsV RX3 140 RX3 yX3_passMinute wsX3_passMinute) := goodIn_app (goodIn_of _ (by decide +kernel)) ggX3_pass_X3_passMinute
theorem dX3_pass_0 : decode cX3_pass 0 = .ok (.iload_n 1, 1) := by decide +kernel
theorem dX3_pass_1 : decode cX3_pass 1 = .ok (.iconst 1, 1) := by decide +kernel
theorem dX3_pass_2 : decode cX3_pass 2 = .ok (.if_icmp .lt 9, 3) := by decide +kernel
theorem dX3_pass_5 : decode cX3_pass 5 = .ok (.iload_n 1, 1) := by decide +kernel
theorem dX3_pass_6 : decode cX3_pass 6 = .ok (.bipush 20, 2) := by decide +kernel
theorem dX3_pass_8 : decode cX3_pass 8 = .ok (.if_icmp .le 6, 3) := by decide +kernel
theorem dX3_pass_11 : decode cX3_pass 11 = .ok (.bipush (-2), 2) := by decide +kernel
theorem dX3_pass_13 : decode cX3_pass 13 = .ok (.ireturn, 1) := by decide +kernel
theorem dX3_pass_14 : decode cX3_pass 14 = .ok (.aload_n 0, 1) := by decide +kernel
theorem dX3_pass_15 : decode cX3_pass 15 = .ok (.getfield 55, 3) := by decide +kernel
theorem dX3_pass_18 : decode cX3_pass 18 = .ok (.istore_n 2, 1) := by decide +kernel
theorem dX3_pass_19 : decode cX3_pass 19 = .ok (.iconst 0, 1) := by decide +kernel
theorem dX3_pass_20 : decode cX3_pass 20 = .ok (.istore_n 3, 1) := by decide +kernel
theorem dX3_pass_21 : decode cX3_pass 21 = .ok (.iload_n 3, 1) := by decide +kernel
theorem dX3_pass_22 : decode cX3_pass 22 = .ok (.iload_n 1, 1) := by decide +kernel
theorem dX3_pass_23 : decode cX3_pass 23 = .ok (.if_icmp .ge 13, 3) := by decide +kernel
theorem dX3_pass_26 : decode cX3_pass 26 = .ok (.aload_n 0, 1) := by decide +kernel
theorem dX3_pass_27 : decode cX3_pass 27 = .ok (.invokevirtual 140, 3) := by decide +kernel
theorem dX3_pass_30 : decode cX3_pass 30 = .ok (.iinc 3 1, 3) := by decide +kernel
theorem dX3_pass_33 : decode cX3_pass 33 = .ok (.goto (-12), 3) := by decide +kernel
theorem dX3_pass_36 : decode cX3_pass 36 = .ok (.aload_n 0, 1) := by decide +kernel
theorem dX3_pass_37 : decode cX3_pass 37 = .ok (.getfield 55, 3) := by decide +kernel
theorem dX3_pass_40 : decode cX3_pass 40 = .ok (.iload_n 2, 1) := by decide +kernel
theorem dX3_pass_41 : decode cX3_pass 41 = .ok (.isub, 1) := by decide +kernel
theorem dX3_pass_42 : decode cX3_pass 42 = .ok (.ireturn, 1) := by decide +kernel
set_option maxRecDepth 20000 in
theorem ggX3_passMinute_X5_isOpen : GoodIn wsX3_passMinute wsX5_isOpen := goodIn_rr _ [(8, 2), (104, 4)] rfl (by decide +kernel)
set_option maxRecDepth 20000 in
theorem gX3_passMinute_X5_isOpen : GoodIn wsX3_passMinute (wsV RX3 83 RX5 yX5_isOpen wsX5_isOpen) := goodIn_app (goodIn_of _ (by decide +kernel)) ggX3_passMinute_X5_isOpen
set_option maxRecDepth 20000 in
theorem ggX3_passMinute_X3_work : GoodIn wsX3_passMinute wsX3_work := goodIn_ca (goodIn_rr _ [(14, 1), (2, 1), (15, 6), (13, 1), (21, 12), (1, 1), (33, 27), (104, 4), (90, 14), (108, 7)] rfl (by decide +kernel)) (goodIn_sub (fun _ h => List.mem_cons_of_mem _ (List.mem_append_right _ h)) (by decide +kernel))
set_option maxRecDepth 20000 in
theorem gX3_passMinute_X3_work : GoodIn wsX3_passMinute (wsV RX3 143 RX3 yX3_work wsX3_work) := goodIn_app (goodIn_of _ (by decide +kernel)) ggX3_passMinute_X3_work
set_option maxRecDepth 20000 in
theorem ggX3_passMinute_X3_waitInQueue : GoodIn wsX3_passMinute wsX3_waitInQueue := goodIn_ca (goodIn_rr _ [(63, 1), (38, 2), (16, 1), (64, 1), (27, 1), (65, 18), (29, 3), (13, 1), (32, 1), (1, 2), (33, 5), (40, 12), (90, 14), (108, 7), (104, 4)] rfl (by decide +kernel)) (goodIn_sub (fun _ h => List.mem_cons_of_mem _ (List.mem_append_right _ h)) (by decide +kernel))
set_option maxRecDepth 20000 in
theorem gX3_passMinute_X3_waitInQueue : GoodIn wsX3_passMinute (wsV RX3 146 RX3 yX3_waitInQueue wsX3_waitInQueue) := goodIn_app (goodIn_of _ (by decide +kernel)) ggX3_passMinute_X3_waitInQueue
set_option maxRecDepth 20000 in
theorem ggX3_passMinute_X3_fill : GoodIn wsX3_passMinute wsX3_fill := goodIn_ca (goodIn_rr _ [(86, 1), (38, 1), (16, 1), (39, 1), (87, 2), (2, 1), (89, 1), (15, 1), (40, 3), (13, 1), (43, 1), (90, 14), (108, 7), (104, 4)] rfl (by decide +kernel)) (goodIn_sub (fun _ h => List.mem_cons_of_mem _ (List.mem_append_right _ h)) (by decide +kernel))
set_option maxRecDepth 20000 in
theorem gX3_passMinute_X3_fill : GoodIn wsX3_passMinute (wsV RX3 149 RX3 yX3_fill wsX3_fill) := goodIn_app (goodIn_of _ (by decide +kernel)) ggX3_passMinute_X3_fill
theorem dX3_passMinute_0 : decode cX3_passMinute 0 = .ok (.iconst 0, 1) := by decide +kernel
theorem dX3_passMinute_1 : decode cX3_passMinute 1 = .ok (.istore_n 1, 1) := by decide +kernel
theorem dX3_passMinute_2 : decode cX3_passMinute 2 = .ok (.iload_n 1, 1) := by decide +kernel
theorem dX3_passMinute_3 : decode cX3_passMinute 3 = .ok (.iconst 3, 1) := by decide +kernel
theorem dX3_passMinute_4 : decode cX3_passMinute 4 = .ok (.if_icmp .ge 31, 3) := by decide +kernel
theorem dX3_passMinute_7 : decode cX3_passMinute 7 = .ok (.aload_n 0, 1) := by decide +kernel
theorem dX3_passMinute_8 : decode cX3_passMinute 8 = .ok (.getfield 20, 3) := by decide +kernel
theorem dX3_passMinute_11 : decode cX3_passMinute 11 = .ok (.iload_n 1, 1) := by decide +kernel
theorem dX3_passMinute_12 : decode cX3_passMinute 12 = .ok (.aaload, 1) := by decide +kernel
theorem dX3_passMinute_13 : decode cX3_passMinute 13 = .ok (.invokevirtual 83, 3) := by decide +kernel
theorem dX3_passMinute_16 : decode cX3_passMinute 16 = .ok (.ifCond .eq 13, 3) := by decide +kernel
theorem dX3_passMinute_19 : decode cX3_passMinute 19 = .ok (.aload_n 0, 1) := by decide +kernel
theorem dX3_passMinute_20 : decode cX3_passMinute 20 = .ok (.aload_n 0, 1) := by decide +kernel
theorem dX3_passMinute_21 : decode cX3_passMinute 21 = .ok (.getfield 20, 3) := by decide +kernel
theorem dX3_passMinute_24 : decode cX3_passMinute 24 = .ok (.iload_n 1, 1) := by decide +kernel
theorem dX3_passMinute_25 : decode cX3_passMinute 25 = .ok (.aaload, 1) := by decide +kernel
theorem dX3_passMinute_26 : decode cX3_passMinute 26 = .ok (.invokevirtual 143, 3) := by decide +kernel
theorem dX3_passMinute_29 : decode cX3_passMinute 29 = .ok (.iinc 1 1, 3) := by decide +kernel
theorem dX3_passMinute_32 : decode cX3_passMinute 32 = .ok (.goto (-30), 3) := by decide +kernel
theorem dX3_passMinute_35 : decode cX3_passMinute 35 = .ok (.aload_n 0, 1) := by decide +kernel
theorem dX3_passMinute_36 : decode cX3_passMinute 36 = .ok (.invokevirtual 146, 3) := by decide +kernel
theorem dX3_passMinute_39 : decode cX3_passMinute 39 = .ok (.iconst 0, 1) := by decide +kernel
theorem dX3_passMinute_40 : decode cX3_passMinute 40 = .ok (.istore_n 1, 1) := by decide +kernel
theorem dX3_passMinute_41 : decode cX3_passMinute 41 = .ok (.iload_n 1, 1) := by decide +kernel
theorem dX3_passMinute_42 : decode cX3_passMinute 42 = .ok (.iconst 3, 1) := by decide +kernel
theorem dX3_passMinute_43 : decode cX3_passMinute 43 = .ok (.if_icmp .ge 44, 3) := by decide +kernel
theorem dX3_passMinute_46 : decode cX3_passMinute 46 = .ok (.aload_n 0, 1) := by decide +kernel
theorem dX3_passMinute_47 : decode cX3_passMinute 47 = .ok (.getfield 20, 3) := by decide +kernel
theorem dX3_passMinute_50 : decode cX3_passMinute 50 = .ok (.iload_n 1, 1) := by decide +kernel
theorem dX3_passMinute_51 : decode cX3_passMinute 51 = .ok (.aaload, 1) := by decide +kernel
theorem dX3_passMinute_52 : decode cX3_passMinute 52 = .ok (.invokevirtual 83, 3) := by decide +kernel
theorem dX3_passMinute_55 : decode cX3_passMinute 55 = .ok (.ifCond .eq 26, 3) := by decide +kernel
theorem dX3_passMinute_58 : decode cX3_passMinute 58 = .ok (.aload_n 0, 1) := by decide +kernel
theorem dX3_passMinute_59 : decode cX3_passMinute 59 = .ok (.getfield 20, 3) := by decide +kernel
theorem dX3_passMinute_62 : decode cX3_passMinute 62 = .ok (.iload_n 1, 1) := by decide +kernel
theorem dX3_passMinute_63 : decode cX3_passMinute 63 = .ok (.aaload, 1) := by decide +kernel
theorem dX3_passMinute_64 : decode cX3_passMinute 64 = .ok (.getfield 70, 3) := by decide +kernel
theorem dX3_passMinute_67 : decode cX3_passMinute 67 = .ok (.iconst (-1), 1) := by decide +kernel
theorem dX3_passMinute_68 : decode cX3_passMinute 68 = .ok (.if_icmp .ne 13, 3) := by decide +kernel
theorem dX3_passMinute_71 : decode cX3_passMinute 71 = .ok (.aload_n 0, 1) := by decide +kernel
theorem dX3_passMinute_72 : decode cX3_passMinute 72 = .ok (.aload_n 0, 1) := by decide +kernel
theorem dX3_passMinute_73 : decode cX3_passMinute 73 = .ok (.getfield 20, 3) := by decide +kernel
theorem dX3_passMinute_76 : decode cX3_passMinute 76 = .ok (.iload_n 1, 1) := by decide +kernel
theorem dX3_passMinute_77 : decode cX3_passMinute 77 = .ok (.aaload, 1) := by decide +kernel
theorem dX3_passMinute_78 : decode cX3_passMinute 78 = .ok (.invokevirtual 149, 3) := by decide +kernel
theorem dX3_passMinute_81 : decode cX3_passMinute 81 = .ok (.iinc 1 1, 3) := by decide +kernel
theorem dX3_passMinute_84 : decode cX3_passMinute 84 = .ok (.goto (-43), 3) := by decide +kernel
theorem dX3_passMinute_87 : decode cX3_passMinute 87 = .ok (.aload_n 0, 1) := by decide +kernel
theorem dX3_passMinute_88 : decode cX3_passMinute 88 = .ok (.dup, 1) := by decide +kernel
theorem dX3_passMinute_89 : decode cX3_passMinute 89 = .ok (.getfield 49, 3) := by decide +kernel
theorem dX3_passMinute_92 : decode cX3_passMinute 92 = .ok (.iconst 1, 1) := by decide +kernel
theorem dX3_passMinute_93 : decode cX3_passMinute 93 = .ok (.iadd, 1) := by decide +kernel
theorem dX3_passMinute_94 : decode cX3_passMinute 94 = .ok (.putfield 49, 3) := by decide +kernel
theorem dX3_passMinute_97 : decode cX3_passMinute 97 = .ok (.return_, 1) := by decide +kernel
set_option maxRecDepth 20000 in
theorem ggX3_work_X3_recordServed : GoodIn wsX3_work wsX3_recordServed := goodIn_ca (goodIn_rr _ [(9, 8), (53, 21)] rfl (by decide +kernel)) (goodIn_sub (fun _ h => List.mem_cons_of_mem _ (List.mem_append_right _ h)) (by decide +kernel))
set_option maxRecDepth 20000 in
theorem gX3_work_X3_recordServed : GoodIn wsX3_work (wsV RX3 155 RX3 yX3_recordServed wsX3_recordServed) := goodIn_app (goodIn_of _ (by decide +kernel)) ggX3_work_X3_recordServed
set_option maxRecDepth 20000 in
theorem ggX3_work_X3_leave : GoodIn wsX3_work wsX3_leave := goodIn_ca (goodIn_rr _ [(20, 2), (1, 1), (3, 1), (22, 4), (8, 1), (26, 15), (53, 14), (49, 4)] rfl (by decide +kernel)) (goodIn_sub (fun _ h => List.mem_cons_of_mem _ (List.mem_append_right _ h)) (by decide +kernel))
set_option maxRecDepth 20000 in
theorem gX3_work_X3_leave : GoodIn wsX3_work (wsV RX3 136 RX3 yX3_leave wsX3_leave) := goodIn_app (goodIn_of _ (by decide +kernel)) ggX3_work_X3_leave
set_option maxRecDepth 20000 in
theorem ggX3_work_X3_shut : GoodIn wsX3_work wsX3_shut := goodIn_ca (goodIn_rr _ [(44, 1), (4, 1), (1, 1), (45, 3), (8, 1), (48, 1), (27, 2), (49, 18)] rfl (by decide +kernel)) (goodIn_sub (fun _ h => List.mem_cons_of_mem _ (List.mem_append_right _ h)) (by decide +kernel))
set_option maxRecDepth 20000 in
theorem gX3_work_X3_shut : GoodIn wsX3_work (wsV RX3 109 RX3 yX3_shut wsX3_shut) := goodIn_app (goodIn_of _ (by decide +kernel)) ggX3_work_X3_shut
theorem dX3_work_0 : decode cX3_work 0 = .ok (.aload_n 1, 1) := by decide +kernel
theorem dX3_work_1 : decode cX3_work 1 = .ok (.getfield 70, 3) := by decide +kernel
theorem dX3_work_4 : decode cX3_work 4 = .ok (.iconst (-1), 1) := by decide +kernel
theorem dX3_work_5 : decode cX3_work 5 = .ok (.if_icmp .eq 41, 3) := by decide +kernel
theorem dX3_work_8 : decode cX3_work 8 = .ok (.aload_n 1, 1) := by decide +kernel
theorem dX3_work_9 : decode cX3_work 9 = .ok (.dup, 1) := by decide +kernel
theorem dX3_work_10 : decode cX3_work 10 = .ok (.getfield 152, 3) := by decide +kernel
theorem dX3_work_13 : decode cX3_work 13 = .ok (.iconst 1, 1) := by decide +kernel
theorem dX3_work_14 : decode cX3_work 14 = .ok (.isub, 1) := by decide +kernel
theorem dX3_work_15 : decode cX3_work 15 = .ok (.putfield 152, 3) := by decide +kernel
theorem dX3_work_18 : decode cX3_work 18 = .ok (.aload_n 1, 1) := by decide +kernel
theorem dX3_work_19 : decode cX3_work 19 = .ok (.getfield 152, 3) := by decide +kernel
theorem dX3_work_22 : decode cX3_work 22 = .ok (.ifCond .ne 24, 3) := by decide +kernel
theorem dX3_work_25 : decode cX3_work 25 = .ok (.aload_n 0, 1) := by decide +kernel
theorem dX3_work_26 : decode cX3_work 26 = .ok (.aload_n 0, 1) := by decide +kernel
theorem dX3_work_27 : decode cX3_work 27 = .ok (.getfield 11, 3) := by decide +kernel
theorem dX3_work_30 : decode cX3_work 30 = .ok (.aload_n 1, 1) := by decide +kernel
theorem dX3_work_31 : decode cX3_work 31 = .ok (.getfield 70, 3) := by decide +kernel
theorem dX3_work_34 : decode cX3_work 34 = .ok (.aaload, 1) := by decide +kernel
theorem dX3_work_35 : decode cX3_work 35 = .ok (.invokevirtual 155, 3) := by decide +kernel
theorem dX3_work_38 : decode cX3_work 38 = .ok (.aload_n 0, 1) := by decide +kernel
theorem dX3_work_39 : decode cX3_work 39 = .ok (.aload_n 1, 1) := by decide +kernel
theorem dX3_work_40 : decode cX3_work 40 = .ok (.getfield 70, 3) := by decide +kernel
theorem dX3_work_43 : decode cX3_work 43 = .ok (.invokevirtual 136, 3) := by decide +kernel
theorem dX3_work_46 : decode cX3_work 46 = .ok (.aload_n 1, 1) := by decide +kernel
theorem dX3_work_47 : decode cX3_work 47 = .ok (.dup, 1) := by decide +kernel
theorem dX3_work_48 : decode cX3_work 48 = .ok (.getfield 99, 3) := by decide +kernel
theorem dX3_work_51 : decode cX3_work 51 = .ok (.iconst 1, 1) := by decide +kernel
theorem dX3_work_52 : decode cX3_work 52 = .ok (.isub, 1) := by decide +kernel
theorem dX3_work_53 : decode cX3_work 53 = .ok (.putfield 99, 3) := by decide +kernel
theorem dX3_work_56 : decode cX3_work 56 = .ok (.aload_n 1, 1) := by decide +kernel
theorem dX3_work_57 : decode cX3_work 57 = .ok (.getfield 99, 3) := by decide +kernel
theorem dX3_work_60 : decode cX3_work 60 = .ok (.ifCond .ne 8, 3) := by decide +kernel
theorem dX3_work_63 : decode cX3_work 63 = .ok (.aload_n 0, 1) := by decide +kernel
theorem dX3_work_64 : decode cX3_work 64 = .ok (.aload_n 1, 1) := by decide +kernel
theorem dX3_work_65 : decode cX3_work 65 = .ok (.invokevirtual 109, 3) := by decide +kernel
theorem dX3_work_68 : decode cX3_work 68 = .ok (.return_, 1) := by decide +kernel
theorem dX3_recordServed_0 : decode cX3_recordServed 0 = .ok (.iconst 5, 1) := by decide +kernel
theorem dX3_recordServed_1 : decode cX3_recordServed 1 = .ok (.istore_n 2, 1) := by decide +kernel
theorem dX3_recordServed_2 : decode cX3_recordServed 2 = .ok (.iload_n 2, 1) := by decide +kernel
theorem dX3_recordServed_3 : decode cX3_recordServed 3 = .ok (.ifCond .le 37, 3) := by decide +kernel
theorem dX3_recordServed_6 : decode cX3_recordServed 6 = .ok (.aload_n 0, 1) := by decide +kernel
theorem dX3_recordServed_7 : decode cX3_recordServed 7 = .ok (.getfield 29, 3) := by decide +kernel
theorem dX3_recordServed_10 : decode cX3_recordServed 10 = .ok (.iload_n 2, 1) := by decide +kernel
theorem dX3_recordServed_11 : decode cX3_recordServed 11 = .ok (.aload_n 0, 1) := by decide +kernel
theorem dX3_recordServed_12 : decode cX3_recordServed 12 = .ok (.getfield 29, 3) := by decide +kernel
theorem dX3_recordServed_15 : decode cX3_recordServed 15 = .ok (.iload_n 2, 1) := by decide +kernel
theorem dX3_recordServed_16 : decode cX3_recordServed 16 = .ok (.iconst 1, 1) := by decide +kernel
theorem dX3_recordServed_17 : decode cX3_recordServed 17 = .ok (.isub, 1) := by decide +kernel
theorem dX3_recordServed_18 : decode cX3_recordServed 18 = .ok (.iaload, 1) := by decide +kernel
theorem dX3_recordServed_19 : decode cX3_recordServed 19 = .ok (.iastore, 1) := by decide +kernel
theorem dX3_recordServed_20 : decode cX3_recordServed 20 = .ok (.aload_n 0, 1) := by decide +kernel
theorem dX3_recordServed_21 : decode cX3_recordServed 21 = .ok (.getfield 32, 3) := by decide +kernel
theorem dX3_recordServed_24 : decode cX3_recordServed 24 = .ok (.iload_n 2, 1) := by decide +kernel
theorem dX3_recordServed_25 : decode cX3_recordServed 25 = .ok (.aload_n 0, 1) := by decide +kernel
theorem dX3_recordServed_26 : decode cX3_recordServed 26 = .ok (.getfield 32, 3) := by decide +kernel
theorem dX3_recordServed_29 : decode cX3_recordServed 29 = .ok (.iload_n 2, 1) := by decide +kernel
theorem dX3_recordServed_30 : decode cX3_recordServed 30 = .ok (.iconst 1, 1) := by decide +kernel
theorem dX3_recordServed_31 : decode cX3_recordServed 31 = .ok (.isub, 1) := by decide +kernel
theorem dX3_recordServed_32 : decode cX3_recordServed 32 = .ok (.iaload, 1) := by decide +kernel
theorem dX3_recordServed_33 : decode cX3_recordServed 33 = .ok (.iastore, 1) := by decide +kernel
theorem dX3_recordServed_34 : decode cX3_recordServed 34 = .ok (.iinc 2 (-1), 3) := by decide +kernel
theorem dX3_recordServed_37 : decode cX3_recordServed 37 = .ok (.goto (-35), 3) := by decide +kernel
theorem dX3_recordServed_40 : decode cX3_recordServed 40 = .ok (.aload_n 0, 1) := by decide +kernel
theorem dX3_recordServed_41 : decode cX3_recordServed 41 = .ok (.getfield 29, 3) := by decide +kernel
theorem dX3_recordServed_44 : decode cX3_recordServed 44 = .ok (.iconst 0, 1) := by decide +kernel
theorem dX3_recordServed_45 : decode cX3_recordServed 45 = .ok (.aload_n 1, 1) := by decide +kernel
theorem dX3_recordServed_46 : decode cX3_recordServed 46 = .ok (.getfield 73, 3) := by decide +kernel
theorem dX3_recordServed_49 : decode cX3_recordServed 49 = .ok (.iastore, 1) := by decide +kernel
theorem dX3_recordServed_50 : decode cX3_recordServed 50 = .ok (.aload_n 0, 1) := by decide +kernel
theorem dX3_recordServed_51 : decode cX3_recordServed 51 = .ok (.getfield 32, 3) := by decide +kernel
theorem dX3_recordServed_54 : decode cX3_recordServed 54 = .ok (.iconst 0, 1) := by decide +kernel
theorem dX3_recordServed_55 : decode cX3_recordServed 55 = .ok (.aload_n 1, 1) := by decide +kernel
theorem dX3_recordServed_56 : decode cX3_recordServed 56 = .ok (.getfield 158, 3) := by decide +kernel
theorem dX3_recordServed_59 : decode cX3_recordServed 59 = .ok (.iastore, 1) := by decide +kernel
theorem dX3_recordServed_60 : decode cX3_recordServed 60 = .ok (.aload_n 0, 1) := by decide +kernel
theorem dX3_recordServed_61 : decode cX3_recordServed 61 = .ok (.dup, 1) := by decide +kernel
theorem dX3_recordServed_62 : decode cX3_recordServed 62 = .ok (.getfield 55, 3) := by decide +kernel
theorem dX3_recordServed_65 : decode cX3_recordServed 65 = .ok (.iconst 1, 1) := by decide +kernel
theorem dX3_recordServed_66 : decode cX3_recordServed 66 = .ok (.iadd, 1) := by decide +kernel
theorem dX3_recordServed_67 : decode cX3_recordServed 67 = .ok (.putfield 55, 3) := by decide +kernel
theorem dX3_recordServed_70 : decode cX3_recordServed 70 = .ok (.aload_n 1, 1) := by decide +kernel
theorem dX3_recordServed_71 : decode cX3_recordServed 71 = .ok (.getfield 161, 3) := by decide +kernel
theorem dX3_recordServed_74 : decode cX3_recordServed 74 = .ok (.ifCond .ne 13, 3) := by decide +kernel
theorem dX3_recordServed_77 : decode cX3_recordServed 77 = .ok (.aload_n 0, 1) := by decide +kernel
theorem dX3_recordServed_78 : decode cX3_recordServed 78 = .ok (.dup, 1) := by decide +kernel
theorem dX3_recordServed_79 : decode cX3_recordServed 79 = .ok (.getfield 58, 3) := by decide +kernel
theorem dX3_recordServed_82 : decode cX3_recordServed 82 = .ok (.iconst 1, 1) := by decide +kernel
theorem dX3_recordServed_83 : decode cX3_recordServed 83 = .ok (.iadd, 1) := by decide +kernel
theorem dX3_recordServed_84 : decode cX3_recordServed 84 = .ok (.putfield 58, 3) := by decide +kernel
theorem dX3_recordServed_87 : decode cX3_recordServed 87 = .ok (.return_, 1) := by decide +kernel
set_option maxRecDepth 20000 in
theorem ggX3_shut_X3_queueInFront : GoodIn wsX3_shut wsX3_queueInFront := goodIn_ca (goodIn_rr _ [(7, 3), (14, 14)] rfl (by decide +kernel)) (goodIn_sub (fun _ h => List.mem_cons_of_mem _ (List.mem_append_right _ h)) (by decide +kernel))
set_option maxRecDepth 20000 in
theorem gX3_shut_X3_queueInFront : GoodIn wsX3_shut (wsV RX3 164 RX3 yX3_queueInFront wsX3_queueInFront) := goodIn_app (goodIn_of _ (by decide +kernel)) ggX3_shut_X3_queueInFront
theorem dX3_shut_0 : decode cX3_shut 0 = .ok (.aload_n 1, 1) := by decide +kernel
theorem dX3_shut_1 : decode cX3_shut 1 = .ok (.iconst 0, 1) := by decide +kernel
theorem dX3_shut_2 : decode cX3_shut 2 = .ok (.putfield 99, 3) := by decide +kernel
theorem dX3_shut_5 : decode cX3_shut 5 = .ok (.aload_n 1, 1) := by decide +kernel
theorem dX3_shut_6 : decode cX3_shut 6 = .ok (.getfield 70, 3) := by decide +kernel
theorem dX3_shut_9 : decode cX3_shut 9 = .ok (.iconst (-1), 1) := by decide +kernel
theorem dX3_shut_10 : decode cX3_shut 10 = .ok (.if_icmp .eq 16, 3) := by decide +kernel
theorem dX3_shut_13 : decode cX3_shut 13 = .ok (.aload_n 0, 1) := by decide +kernel
theorem dX3_shut_14 : decode cX3_shut 14 = .ok (.aload_n 1, 1) := by decide +kernel
theorem dX3_shut_15 : decode cX3_shut 15 = .ok (.getfield 70, 3) := by decide +kernel
theorem dX3_shut_18 : decode cX3_shut 18 = .ok (.invokevirtual 164, 3) := by decide +kernel
theorem dX3_shut_21 : decode cX3_shut 21 = .ok (.aload_n 1, 1) := by decide +kernel
theorem dX3_shut_22 : decode cX3_shut 22 = .ok (.iconst (-1), 1) := by decide +kernel
theorem dX3_shut_23 : decode cX3_shut 23 = .ok (.putfield 70, 3) := by decide +kernel
theorem dX3_shut_26 : decode cX3_shut 26 = .ok (.return_, 1) := by decide +kernel
set_option maxRecDepth 20000 in
theorem ggX3_waitInQueue_X2_sighsInMinute : GoodIn wsX3_waitInQueue wsX2_sighsInMinute := goodIn_rr _ [(11, 13), (62, 7)] rfl (by decide +kernel)
set_option maxRecDepth 20000 in
theorem gX3_waitInQueue_X2_sighsInMinute : GoodIn wsX3_waitInQueue (wsV RX3 167 RX2 yX2_sighsInMinute wsX2_sighsInMinute) := goodIn_app (goodIn_of _ (by decide +kernel)) ggX3_waitInQueue_X2_sighsInMinute
set_option maxRecDepth 20000 in
theorem ggX3_waitInQueue_X3_leave : GoodIn wsX3_waitInQueue wsX3_leave := goodIn_ca (goodIn_rr _ [(28, 3), (3, 1), (31, 4), (27, 1), (35, 1), (1, 2), (36, 26), (69, 4)] rfl (by decide +kernel)) (goodIn_sub (fun _ h => List.mem_cons_of_mem _ (List.mem_append_right _ h)) (by decide +kernel))
set_option maxRecDepth 20000 in
theorem gX3_waitInQueue_X3_leave : GoodIn wsX3_waitInQueue (wsV RX3 136 RX3 yX3_leave wsX3_leave) := goodIn_app (goodIn_of _ (by decide +kernel)) ggX3_waitInQueue_X3_leave
theorem dX3_waitInQueue_0 : decode cX3_waitInQueue 0 = .ok (.aload_n 0, 1) := by decide +kernel
theorem dX3_waitInQueue_1 : decode cX3_waitInQueue 1 = .ok (.getfield 46, 3) := by decide +kernel
theorem dX3_waitInQueue_4 : decode cX3_waitInQueue 4 = .ok (.istore_n 1, 1) := by decide +kernel
theorem dX3_waitInQueue_5 : decode cX3_waitInQueue 5 = .ok (.iconst 0, 1) := by decide +kernel
theorem dX3_waitInQueue_6 : decode cX3_waitInQueue 6 = .ok (.istore_n 2, 1) := by decide +kernel
theorem dX3_waitInQueue_7 : decode cX3_waitInQueue 7 = .ok (.iconst 0, 1) := by decide +kernel
theorem dX3_waitInQueue_8 : decode cX3_waitInQueue 8 = .ok (.istore_n 3, 1) := by decide +kernel
theorem dX3_waitInQueue_9 : decode cX3_waitInQueue 9 = .ok (.iload_n 3, 1) := by decide +kernel
theorem dX3_waitInQueue_10 : decode cX3_waitInQueue 10 = .ok (.iload_n 1, 1) := by decide +kernel
theorem dX3_waitInQueue_11 : decode cX3_waitInQueue 11 = .ok (.if_icmp .ge 76, 3) := by decide +kernel
theorem dX3_waitInQueue_14 : decode cX3_waitInQueue 14 = .ok (.aload_n 0, 1) := by decide +kernel
theorem dX3_waitInQueue_15 : decode cX3_waitInQueue 15 = .ok (.getfield 25, 3) := by decide +kernel
theorem dX3_waitInQueue_18 : decode cX3_waitInQueue 18 = .ok (.iload_n 2, 1) := by decide +kernel
theorem dX3_waitInQueue_19 : decode cX3_waitInQueue 19 = .ok (.iaload, 1) := by decide +kernel
theorem dX3_waitInQueue_20 : decode cX3_waitInQueue 20 = .ok (.istore 4, 2) := by decide +kernel
theorem dX3_waitInQueue_22 : decode cX3_waitInQueue 22 = .ok (.aload_n 0, 1) := by decide +kernel
theorem dX3_waitInQueue_23 : decode cX3_waitInQueue 23 = .ok (.getfield 11, 3) := by decide +kernel
theorem dX3_waitInQueue_26 : decode cX3_waitInQueue 26 = .ok (.iload 4, 2) := by decide +kernel
theorem dX3_waitInQueue_28 : decode cX3_waitInQueue 28 = .ok (.aaload, 1) := by decide +kernel
theorem dX3_waitInQueue_29 : decode cX3_waitInQueue 29 = .ok (.invokevirtual 167, 3) := by decide +kernel
theorem dX3_waitInQueue_32 : decode cX3_waitInQueue 32 = .ok (.ifCond .eq 13, 3) := by decide +kernel
theorem dX3_waitInQueue_35 : decode cX3_waitInQueue 35 = .ok (.aload_n 0, 1) := by decide +kernel
theorem dX3_waitInQueue_36 : decode cX3_waitInQueue 36 = .ok (.dup, 1) := by decide +kernel
theorem dX3_waitInQueue_37 : decode cX3_waitInQueue 37 = .ok (.getfield 67, 3) := by decide +kernel
theorem dX3_waitInQueue_40 : decode cX3_waitInQueue 40 = .ok (.iconst 1, 1) := by decide +kernel
theorem dX3_waitInQueue_41 : decode cX3_waitInQueue 41 = .ok (.iadd, 1) := by decide +kernel
theorem dX3_waitInQueue_42 : decode cX3_waitInQueue 42 = .ok (.putfield 67, 3) := by decide +kernel
theorem dX3_waitInQueue_45 : decode cX3_waitInQueue 45 = .ok (.aload_n 0, 1) := by decide +kernel
theorem dX3_waitInQueue_46 : decode cX3_waitInQueue 46 = .ok (.getfield 11, 3) := by decide +kernel
theorem dX3_waitInQueue_49 : decode cX3_waitInQueue 49 = .ok (.iload 4, 2) := by decide +kernel
theorem dX3_waitInQueue_51 : decode cX3_waitInQueue 51 = .ok (.aaload, 1) := by decide +kernel
theorem dX3_waitInQueue_52 : decode cX3_waitInQueue 52 = .ok (.getfield 161, 3) := by decide +kernel
theorem dX3_waitInQueue_55 : decode cX3_waitInQueue 55 = .ok (.iconst 3, 1) := by decide +kernel
theorem dX3_waitInQueue_56 : decode cX3_waitInQueue 56 = .ok (.if_icmp .lt 22, 3) := by decide +kernel
theorem dX3_waitInQueue_59 : decode cX3_waitInQueue 59 = .ok (.aload_n 0, 1) := by decide +kernel
theorem dX3_waitInQueue_60 : decode cX3_waitInQueue 60 = .ok (.dup, 1) := by decide +kernel
theorem dX3_waitInQueue_61 : decode cX3_waitInQueue 61 = .ok (.getfield 61, 3) := by decide +kernel
theorem dX3_waitInQueue_64 : decode cX3_waitInQueue 64 = .ok (.iconst 1, 1) := by decide +kernel
theorem dX3_waitInQueue_65 : decode cX3_waitInQueue 65 = .ok (.iadd, 1) := by decide +kernel
theorem dX3_waitInQueue_66 : decode cX3_waitInQueue 66 = .ok (.putfield 61, 3) := by decide +kernel
theorem dX3_waitInQueue_69 : decode cX3_waitInQueue 69 = .ok (.aload_n 0, 1) := by decide +kernel
theorem dX3_waitInQueue_70 : decode cX3_waitInQueue 70 = .ok (.iload 4, 2) := by decide +kernel
theorem dX3_waitInQueue_72 : decode cX3_waitInQueue 72 = .ok (.invokevirtual 136, 3) := by decide +kernel
theorem dX3_waitInQueue_75 : decode cX3_waitInQueue 75 = .ok (.goto 6, 3) := by decide +kernel
theorem dX3_waitInQueue_78 : decode cX3_waitInQueue 78 = .ok (.iinc 2 1, 3) := by decide +kernel
theorem dX3_waitInQueue_81 : decode cX3_waitInQueue 81 = .ok (.iinc 3 1, 3) := by decide +kernel
theorem dX3_waitInQueue_84 : decode cX3_waitInQueue 84 = .ok (.goto (-75), 3) := by decide +kernel
theorem dX3_waitInQueue_87 : decode cX3_waitInQueue 87 = .ok (.return_, 1) := by decide +kernel
set_option maxRecDepth 20000 in
theorem ggX3_fill_X3_takeFromQueue : GoodIn wsX3_fill wsX3_takeFromQueue := goodIn_ca (goodIn_rr _ [(13, 1), (1, 1), (3, 1), (14, 14)] rfl (by decide +kernel)) (goodIn_sub (fun _ h => List.mem_cons_of_mem _ (List.mem_append_right _ h)) (by decide +kernel))
set_option maxRecDepth 20000 in
theorem gX3_fill_X3_takeFromQueue : GoodIn wsX3_fill (wsV RX3 170 RX3 yX3_takeFromQueue wsX3_takeFromQueue) := goodIn_app (goodIn_of _ (by decide +kernel)) ggX3_fill_X3_takeFromQueue
theorem dX3_fill_0 : decode cX3_fill 0 = .ok (.iconst 0, 1) := by decide +kernel
theorem dX3_fill_1 : decode cX3_fill 1 = .ok (.istore_n 2, 1) := by decide +kernel
theorem dX3_fill_2 : decode cX3_fill 2 = .ok (.iload_n 2, 1) := by decide +kernel
theorem dX3_fill_3 : decode cX3_fill 3 = .ok (.aload_n 0, 1) := by decide +kernel
theorem dX3_fill_4 : decode cX3_fill 4 = .ok (.getfield 46, 3) := by decide +kernel
theorem dX3_fill_7 : decode cX3_fill 7 = .ok (.if_icmp .ge 57, 3) := by decide +kernel
theorem dX3_fill_10 : decode cX3_fill 10 = .ok (.aload_n 0, 1) := by decide +kernel
theorem dX3_fill_11 : decode cX3_fill 11 = .ok (.getfield 11, 3) := by decide +kernel
theorem dX3_fill_14 : decode cX3_fill 14 = .ok (.aload_n 0, 1) := by decide +kernel
theorem dX3_fill_15 : decode cX3_fill 15 = .ok (.getfield 25, 3) := by decide +kernel
theorem dX3_fill_18 : decode cX3_fill 18 = .ok (.iload_n 2, 1) := by decide +kernel
theorem dX3_fill_19 : decode cX3_fill 19 = .ok (.iaload, 1) := by decide +kernel
theorem dX3_fill_20 : decode cX3_fill 20 = .ok (.aaload, 1) := by decide +kernel
theorem dX3_fill_21 : decode cX3_fill 21 = .ok (.astore_n 3, 1) := by decide +kernel
theorem dX3_fill_22 : decode cX3_fill 22 = .ok (.aload_n 3, 1) := by decide +kernel
theorem dX3_fill_23 : decode cX3_fill 23 = .ok (.getfield 112, 3) := by decide +kernel
theorem dX3_fill_26 : decode cX3_fill 26 = .ok (.ifCond .eq 32, 3) := by decide +kernel
theorem dX3_fill_29 : decode cX3_fill 29 = .ok (.aload_n 3, 1) := by decide +kernel
theorem dX3_fill_30 : decode cX3_fill 30 = .ok (.iconst 0, 1) := by decide +kernel
theorem dX3_fill_31 : decode cX3_fill 31 = .ok (.putfield 87, 3) := by decide +kernel
theorem dX3_fill_34 : decode cX3_fill 34 = .ok (.aload_n 1, 1) := by decide +kernel
theorem dX3_fill_35 : decode cX3_fill 35 = .ok (.aload_n 0, 1) := by decide +kernel
theorem dX3_fill_36 : decode cX3_fill 36 = .ok (.getfield 25, 3) := by decide +kernel
theorem dX3_fill_39 : decode cX3_fill 39 = .ok (.iload_n 2, 1) := by decide +kernel
theorem dX3_fill_40 : decode cX3_fill 40 = .ok (.iaload, 1) := by decide +kernel
theorem dX3_fill_41 : decode cX3_fill 41 = .ok (.putfield 70, 3) := by decide +kernel
theorem dX3_fill_44 : decode cX3_fill 44 = .ok (.aload_n 1, 1) := by decide +kernel
theorem dX3_fill_45 : decode cX3_fill 45 = .ok (.aload_n 1, 1) := by decide +kernel
theorem dX3_fill_46 : decode cX3_fill 46 = .ok (.getfield 102, 3) := by decide +kernel
theorem dX3_fill_49 : decode cX3_fill 49 = .ok (.putfield 152, 3) := by decide +kernel
theorem dX3_fill_52 : decode cX3_fill 52 = .ok (.aload_n 0, 1) := by decide +kernel
theorem dX3_fill_53 : decode cX3_fill 53 = .ok (.iload_n 2, 1) := by decide +kernel
theorem dX3_fill_54 : decode cX3_fill 54 = .ok (.invokevirtual 170, 3) := by decide +kernel
theorem dX3_fill_57 : decode cX3_fill 57 = .ok (.return_, 1) := by decide +kernel
theorem dX3_fill_58 : decode cX3_fill 58 = .ok (.iinc 2 1, 3) := by decide +kernel
theorem dX3_fill_61 : decode cX3_fill 61 = .ok (.goto (-59), 3) := by decide +kernel
theorem dX3_fill_64 : decode cX3_fill 64 = .ok (.return_, 1) := by decide +kernel
theorem dX3_queueInFront_0 : decode cX3_queueInFront 0 = .ok (.aload_n 0, 1) := by decide +kernel
theorem dX3_queueInFront_1 : decode cX3_queueInFront 1 = .ok (.getfield 46, 3) := by decide +kernel
theorem dX3_queueInFront_4 : decode cX3_queueInFront 4 = .ok (.bipush 12, 2) := by decide +kernel
theorem dX3_queueInFront_6 : decode cX3_queueInFront 6 = .ok (.if_icmp .lt 4, 3) := by decide +kernel
theorem dX3_queueInFront_9 : decode cX3_queueInFront 9 = .ok (.return_, 1) := by decide +kernel
theorem dX3_queueInFront_10 : decode cX3_queueInFront 10 = .ok (.aload_n 0, 1) := by decide +kernel
theorem dX3_queueInFront_11 : decode cX3_queueInFront 11 = .ok (.getfield 46, 3) := by decide +kernel
theorem dX3_queueInFront_14 : decode cX3_queueInFront 14 = .ok (.istore_n 2, 1) := by decide +kernel
theorem dX3_queueInFront_15 : decode cX3_queueInFront 15 = .ok (.iload_n 2, 1) := by decide +kernel
theorem dX3_queueInFront_16 : decode cX3_queueInFront 16 = .ok (.ifCond .le 23, 3) := by decide +kernel
theorem dX3_queueInFront_19 : decode cX3_queueInFront 19 = .ok (.aload_n 0, 1) := by decide +kernel
theorem dX3_queueInFront_20 : decode cX3_queueInFront 20 = .ok (.getfield 25, 3) := by decide +kernel
theorem dX3_queueInFront_23 : decode cX3_queueInFront 23 = .ok (.iload_n 2, 1) := by decide +kernel
theorem dX3_queueInFront_24 : decode cX3_queueInFront 24 = .ok (.aload_n 0, 1) := by decide +kernel
theorem dX3_queueInFront_25 : decode cX3_queueInFront 25 = .ok (.getfield 25, 3) := by decide +kernel
theorem dX3_queueInFront_28 : decode cX3_queueInFront 28 = .ok (.iload_n 2, 1) := by decide +kernel
theorem dX3_queueInFront_29 : decode cX3_queueInFront 29 = .ok (.iconst 1, 1) := by decide +kernel
theorem dX3_queueInFront_30 : decode cX3_queueInFront 30 = .ok (.isub, 1) := by decide +kernel
theorem dX3_queueInFront_31 : decode cX3_queueInFront 31 = .ok (.iaload, 1) := by decide +kernel
theorem dX3_queueInFront_32 : decode cX3_queueInFront 32 = .ok (.iastore, 1) := by decide +kernel
theorem dX3_queueInFront_33 : decode cX3_queueInFront 33 = .ok (.iinc 2 (-1), 3) := by decide +kernel
theorem dX3_queueInFront_36 : decode cX3_queueInFront 36 = .ok (.goto (-21), 3) := by decide +kernel
theorem dX3_queueInFront_39 : decode cX3_queueInFront 39 = .ok (.aload_n 0, 1) := by decide +kernel
theorem dX3_queueInFront_40 : decode cX3_queueInFront 40 = .ok (.getfield 25, 3) := by decide +kernel
theorem dX3_queueInFront_43 : decode cX3_queueInFront 43 = .ok (.iconst 0, 1) := by decide +kernel
theorem dX3_queueInFront_44 : decode cX3_queueInFront 44 = .ok (.iload_n 1, 1) := by decide +kernel
theorem dX3_queueInFront_45 : decode cX3_queueInFront 45 = .ok (.iastore, 1) := by decide +kernel
theorem dX3_queueInFront_46 : decode cX3_queueInFront 46 = .ok (.aload_n 0, 1) := by decide +kernel
theorem dX3_queueInFront_47 : decode cX3_queueInFront 47 = .ok (.dup, 1) := by decide +kernel
theorem dX3_queueInFront_48 : decode cX3_queueInFront 48 = .ok (.getfield 46, 3) := by decide +kernel
theorem dX3_queueInFront_51 : decode cX3_queueInFront 51 = .ok (.iconst 1, 1) := by decide +kernel
theorem dX3_queueInFront_52 : decode cX3_queueInFront 52 = .ok (.iadd, 1) := by decide +kernel
theorem dX3_queueInFront_53 : decode cX3_queueInFront 53 = .ok (.putfield 46, 3) := by decide +kernel
theorem dX3_queueInFront_56 : decode cX3_queueInFront 56 = .ok (.return_, 1) := by decide +kernel
theorem dX3_takeFromQueue_0 : decode cX3_takeFromQueue 0 = .ok (.iload_n 1, 1) := by decide +kernel
theorem dX3_takeFromQueue_1 : decode cX3_takeFromQueue 1 = .ok (.iconst 1, 1) := by decide +kernel
theorem dX3_takeFromQueue_2 : decode cX3_takeFromQueue 2 = .ok (.iadd, 1) := by decide +kernel
theorem dX3_takeFromQueue_3 : decode cX3_takeFromQueue 3 = .ok (.istore_n 2, 1) := by decide +kernel
theorem dX3_takeFromQueue_4 : decode cX3_takeFromQueue 4 = .ok (.iload_n 2, 1) := by decide +kernel
theorem dX3_takeFromQueue_5 : decode cX3_takeFromQueue 5 = .ok (.aload_n 0, 1) := by decide +kernel
theorem dX3_takeFromQueue_6 : decode cX3_takeFromQueue 6 = .ok (.getfield 46, 3) := by decide +kernel
theorem dX3_takeFromQueue_9 : decode cX3_takeFromQueue 9 = .ok (.if_icmp .ge 23, 3) := by decide +kernel
theorem dX3_takeFromQueue_12 : decode cX3_takeFromQueue 12 = .ok (.aload_n 0, 1) := by decide +kernel
theorem dX3_takeFromQueue_13 : decode cX3_takeFromQueue 13 = .ok (.getfield 25, 3) := by decide +kernel
theorem dX3_takeFromQueue_16 : decode cX3_takeFromQueue 16 = .ok (.iload_n 2, 1) := by decide +kernel
theorem dX3_takeFromQueue_17 : decode cX3_takeFromQueue 17 = .ok (.iconst 1, 1) := by decide +kernel
theorem dX3_takeFromQueue_18 : decode cX3_takeFromQueue 18 = .ok (.isub, 1) := by decide +kernel
theorem dX3_takeFromQueue_19 : decode cX3_takeFromQueue 19 = .ok (.aload_n 0, 1) := by decide +kernel
theorem dX3_takeFromQueue_20 : decode cX3_takeFromQueue 20 = .ok (.getfield 25, 3) := by decide +kernel
theorem dX3_takeFromQueue_23 : decode cX3_takeFromQueue 23 = .ok (.iload_n 2, 1) := by decide +kernel
theorem dX3_takeFromQueue_24 : decode cX3_takeFromQueue 24 = .ok (.iaload, 1) := by decide +kernel
theorem dX3_takeFromQueue_25 : decode cX3_takeFromQueue 25 = .ok (.iastore, 1) := by decide +kernel
theorem dX3_takeFromQueue_26 : decode cX3_takeFromQueue 26 = .ok (.iinc 2 1, 3) := by decide +kernel
theorem dX3_takeFromQueue_29 : decode cX3_takeFromQueue 29 = .ok (.goto (-25), 3) := by decide +kernel
theorem dX3_takeFromQueue_32 : decode cX3_takeFromQueue 32 = .ok (.aload_n 0, 1) := by decide +kernel
theorem dX3_takeFromQueue_33 : decode cX3_takeFromQueue 33 = .ok (.dup, 1) := by decide +kernel
theorem dX3_takeFromQueue_34 : decode cX3_takeFromQueue 34 = .ok (.getfield 46, 3) := by decide +kernel
theorem dX3_takeFromQueue_37 : decode cX3_takeFromQueue 37 = .ok (.iconst 1, 1) := by decide +kernel
theorem dX3_takeFromQueue_38 : decode cX3_takeFromQueue 38 = .ok (.isub, 1) := by decide +kernel
theorem dX3_takeFromQueue_39 : decode cX3_takeFromQueue 39 = .ok (.putfield 46, 3) := by decide +kernel
theorem dX3_takeFromQueue_42 : decode cX3_takeFromQueue 42 = .ok (.return_, 1) := by decide +kernel
set_option maxRecDepth 20000 in
theorem ggX3_leave_X3_positionOf : GoodIn wsX3_leave wsX3_positionOf := goodIn_ca (goodIn_rr _ [(9, 3), (24, 14)] rfl (by decide +kernel)) (goodIn_sub (fun _ h => List.mem_cons_of_mem _ (List.mem_append_right _ h)) (by decide +kernel))
set_option maxRecDepth 20000 in
theorem gX3_leave_X3_positionOf : GoodIn wsX3_leave (wsV RX3 118 RX3 yX3_positionOf wsX3_positionOf) := goodIn_app (goodIn_of _ (by decide +kernel)) ggX3_leave_X3_positionOf
set_option maxRecDepth 20000 in
theorem ggX3_leave_X3_takeFromQueue : GoodIn wsX3_leave wsX3_takeFromQueue := goodIn_ca (goodIn_rr _ [(15, 1), (10, 2), (24, 14)] rfl (by decide +kernel)) (goodIn_sub (fun _ h => List.mem_cons_of_mem _ (List.mem_append_right _ h)) (by decide +kernel))
set_option maxRecDepth 20000 in
theorem gX3_leave_X3_takeFromQueue : GoodIn wsX3_leave (wsV RX3 170 RX3 yX3_takeFromQueue wsX3_takeFromQueue) := goodIn_app (goodIn_of _ (by decide +kernel)) ggX3_leave_X3_takeFromQueue
set_option maxRecDepth 20000 in
theorem ggX3_leave_X3_windowOf : GoodIn wsX3_leave wsX3_windowOf := goodIn_rr _ [(19, 1), (1, 2), (24, 18)] rfl (by decide +kernel)
set_option maxRecDepth 20000 in
theorem gX3_leave_X3_windowOf : GoodIn wsX3_leave (wsV RX3 130 RX3 yX3_windowOf wsX3_windowOf) := goodIn_app (goodIn_of _ (by decide +kernel)) ggX3_leave_X3_windowOf
set_option maxRecDepth 20000 in
theorem ggX3_leave_X3_renumberAfter : GoodIn wsX3_leave wsX3_renumberAfter := goodIn_ca (goodIn_rr _ [(23, 1), (10, 2), (1, 2), (24, 18)] rfl (by decide +kernel)) (goodIn_sub (fun _ h => List.mem_cons_of_mem _ (List.mem_append_right _ h)) (by decide +kernel))
set_option maxRecDepth 20000 in
theorem gX3_leave_X3_renumberAfter : GoodIn wsX3_leave (wsV RX3 173 RX3 yX3_renumberAfter wsX3_renumberAfter) := goodIn_app (goodIn_of _ (by decide +kernel)) ggX3_leave_X3_renumberAfter
theorem dX3_leave_0 : decode cX3_leave 0 = .ok (.aload_n 0, 1) := by decide +kernel
theorem dX3_leave_1 : decode cX3_leave 1 = .ok (.iload_n 1, 1) := by decide +kernel
theorem dX3_leave_2 : decode cX3_leave 2 = .ok (.invokevirtual 118, 3) := by decide +kernel
theorem dX3_leave_5 : decode cX3_leave 5 = .ok (.istore_n 2, 1) := by decide +kernel
theorem dX3_leave_6 : decode cX3_leave 6 = .ok (.iload_n 2, 1) := by decide +kernel
theorem dX3_leave_7 : decode cX3_leave 7 = .ok (.iconst (-1), 1) := by decide +kernel
theorem dX3_leave_8 : decode cX3_leave 8 = .ok (.if_icmp .eq 8, 3) := by decide +kernel
theorem dX3_leave_11 : decode cX3_leave 11 = .ok (.aload_n 0, 1) := by decide +kernel
theorem dX3_leave_12 : decode cX3_leave 12 = .ok (.iload_n 2, 1) := by decide +kernel
theorem dX3_leave_13 : decode cX3_leave 13 = .ok (.invokevirtual 170, 3) := by decide +kernel
theorem dX3_leave_16 : decode cX3_leave 16 = .ok (.aload_n 0, 1) := by decide +kernel
theorem dX3_leave_17 : decode cX3_leave 17 = .ok (.iload_n 1, 1) := by decide +kernel
theorem dX3_leave_18 : decode cX3_leave 18 = .ok (.invokevirtual 130, 3) := by decide +kernel
theorem dX3_leave_21 : decode cX3_leave 21 = .ok (.istore_n 3, 1) := by decide +kernel
theorem dX3_leave_22 : decode cX3_leave 22 = .ok (.iload_n 3, 1) := by decide +kernel
theorem dX3_leave_23 : decode cX3_leave 23 = .ok (.iconst (-1), 1) := by decide +kernel
theorem dX3_leave_24 : decode cX3_leave 24 = .ok (.if_icmp .eq 13, 3) := by decide +kernel
theorem dX3_leave_27 : decode cX3_leave 27 = .ok (.aload_n 0, 1) := by decide +kernel
theorem dX3_leave_28 : decode cX3_leave 28 = .ok (.getfield 20, 3) := by decide +kernel
theorem dX3_leave_31 : decode cX3_leave 31 = .ok (.iload_n 3, 1) := by decide +kernel
theorem dX3_leave_32 : decode cX3_leave 32 = .ok (.aaload, 1) := by decide +kernel
theorem dX3_leave_33 : decode cX3_leave 33 = .ok (.iconst (-1), 1) := by decide +kernel
theorem dX3_leave_34 : decode cX3_leave 34 = .ok (.putfield 70, 3) := by decide +kernel
theorem dX3_leave_37 : decode cX3_leave 37 = .ok (.aload_n 0, 1) := by decide +kernel
theorem dX3_leave_38 : decode cX3_leave 38 = .ok (.getfield 11, 3) := by decide +kernel
theorem dX3_leave_41 : decode cX3_leave 41 = .ok (.iload_n 1, 1) := by decide +kernel
theorem dX3_leave_42 : decode cX3_leave 42 = .ok (.aaload, 1) := by decide +kernel
theorem dX3_leave_43 : decode cX3_leave 43 = .ok (.astore 4, 2) := by decide +kernel
theorem dX3_leave_45 : decode cX3_leave 45 = .ok (.iload_n 1, 1) := by decide +kernel
theorem dX3_leave_46 : decode cX3_leave 46 = .ok (.iconst 1, 1) := by decide +kernel
theorem dX3_leave_47 : decode cX3_leave 47 = .ok (.iadd, 1) := by decide +kernel
theorem dX3_leave_48 : decode cX3_leave 48 = .ok (.istore 5, 2) := by decide +kernel
theorem dX3_leave_50 : decode cX3_leave 50 = .ok (.iload 5, 2) := by decide +kernel
theorem dX3_leave_52 : decode cX3_leave 52 = .ok (.aload_n 0, 1) := by decide +kernel
theorem dX3_leave_53 : decode cX3_leave 53 = .ok (.getfield 42, 3) := by decide +kernel
theorem dX3_leave_56 : decode cX3_leave 56 = .ok (.if_icmp .ge 25, 3) := by decide +kernel
theorem dX3_leave_59 : decode cX3_leave 59 = .ok (.aload_n 0, 1) := by decide +kernel
theorem dX3_leave_60 : decode cX3_leave 60 = .ok (.getfield 11, 3) := by decide +kernel
theorem dX3_leave_63 : decode cX3_leave 63 = .ok (.iload 5, 2) := by decide +kernel
theorem dX3_leave_65 : decode cX3_leave 65 = .ok (.iconst 1, 1) := by decide +kernel
theorem dX3_leave_66 : decode cX3_leave 66 = .ok (.isub, 1) := by decide +kernel
theorem dX3_leave_67 : decode cX3_leave 67 = .ok (.aload_n 0, 1) := by decide +kernel
theorem dX3_leave_68 : decode cX3_leave 68 = .ok (.getfield 11, 3) := by decide +kernel
theorem dX3_leave_71 : decode cX3_leave 71 = .ok (.iload 5, 2) := by decide +kernel
theorem dX3_leave_73 : decode cX3_leave 73 = .ok (.aaload, 1) := by decide +kernel
theorem dX3_leave_74 : decode cX3_leave 74 = .ok (.aastore, 1) := by decide +kernel
theorem dX3_leave_75 : decode cX3_leave 75 = .ok (.iinc 5 1, 3) := by decide +kernel
theorem dX3_leave_78 : decode cX3_leave 78 = .ok (.goto (-28), 3) := by decide +kernel
theorem dX3_leave_81 : decode cX3_leave 81 = .ok (.aload_n 0, 1) := by decide +kernel
theorem dX3_leave_82 : decode cX3_leave 82 = .ok (.dup, 1) := by decide +kernel
theorem dX3_leave_83 : decode cX3_leave 83 = .ok (.getfield 42, 3) := by decide +kernel
theorem dX3_leave_86 : decode cX3_leave 86 = .ok (.iconst 1, 1) := by decide +kernel
theorem dX3_leave_87 : decode cX3_leave 87 = .ok (.isub, 1) := by decide +kernel
theorem dX3_leave_88 : decode cX3_leave 88 = .ok (.putfield 42, 3) := by decide +kernel
theorem dX3_leave_91 : decode cX3_leave 91 = .ok (.aload_n 0, 1) := by decide +kernel
theorem dX3_leave_92 : decode cX3_leave 92 = .ok (.getfield 11, 3) := by decide +kernel
theorem dX3_leave_95 : decode cX3_leave 95 = .ok (.aload_n 0, 1) := by decide +kernel
theorem dX3_leave_96 : decode cX3_leave 96 = .ok (.getfield 42, 3) := by decide +kernel
theorem dX3_leave_99 : decode cX3_leave 99 = .ok (.aload 4, 2) := by decide +kernel
theorem dX3_leave_101 : decode cX3_leave 101 = .ok (.aastore, 1) := by decide +kernel
theorem dX3_leave_102 : decode cX3_leave 102 = .ok (.aload_n 0, 1) := by decide +kernel
theorem dX3_leave_103 : decode cX3_leave 103 = .ok (.iload_n 1, 1) := by decide +kernel
theorem dX3_leave_104 : decode cX3_leave 104 = .ok (.invokevirtual 173, 3) := by decide +kernel
theorem dX3_leave_107 : decode cX3_leave 107 = .ok (.return_, 1) := by decide +kernel
theorem dX3_renumberAfter_0 : decode cX3_renumberAfter 0 = .ok (.iconst 0, 1) := by decide +kernel
theorem dX3_renumberAfter_1 : decode cX3_renumberAfter 1 = .ok (.istore_n 2, 1) := by decide +kernel
theorem dX3_renumberAfter_2 : decode cX3_renumberAfter 2 = .ok (.iload_n 2, 1) := by decide +kernel
theorem dX3_renumberAfter_3 : decode cX3_renumberAfter 3 = .ok (.aload_n 0, 1) := by decide +kernel
theorem dX3_renumberAfter_4 : decode cX3_renumberAfter 4 = .ok (.getfield 46, 3) := by decide +kernel
theorem dX3_renumberAfter_7 : decode cX3_renumberAfter 7 = .ok (.if_icmp .ge 29, 3) := by decide +kernel
theorem dX3_renumberAfter_10 : decode cX3_renumberAfter 10 = .ok (.aload_n 0, 1) := by decide +kernel
theorem dX3_renumberAfter_11 : decode cX3_renumberAfter 11 = .ok (.getfield 25, 3) := by decide +kernel
theorem dX3_renumberAfter_14 : decode cX3_renumberAfter 14 = .ok (.iload_n 2, 1) := by decide +kernel
theorem dX3_renumberAfter_15 : decode cX3_renumberAfter 15 = .ok (.iaload, 1) := by decide +kernel
theorem dX3_renumberAfter_16 : decode cX3_renumberAfter 16 = .ok (.iload_n 1, 1) := by decide +kernel
theorem dX3_renumberAfter_17 : decode cX3_renumberAfter 17 = .ok (.if_icmp .le 13, 3) := by decide +kernel
theorem dX3_renumberAfter_20 : decode cX3_renumberAfter 20 = .ok (.aload_n 0, 1) := by decide +kernel
theorem dX3_renumberAfter_21 : decode cX3_renumberAfter 21 = .ok (.getfield 25, 3) := by decide +kernel
theorem dX3_renumberAfter_24 : decode cX3_renumberAfter 24 = .ok (.iload_n 2, 1) := by decide +kernel
theorem dX3_renumberAfter_25 : decode cX3_renumberAfter 25 = .ok (.dup2, 1) := by decide +kernel
theorem dX3_renumberAfter_26 : decode cX3_renumberAfter 26 = .ok (.iaload, 1) := by decide +kernel
theorem dX3_renumberAfter_27 : decode cX3_renumberAfter 27 = .ok (.iconst 1, 1) := by decide +kernel
theorem dX3_renumberAfter_28 : decode cX3_renumberAfter 28 = .ok (.isub, 1) := by decide +kernel
theorem dX3_renumberAfter_29 : decode cX3_renumberAfter 29 = .ok (.iastore, 1) := by decide +kernel
theorem dX3_renumberAfter_30 : decode cX3_renumberAfter 30 = .ok (.iinc 2 1, 3) := by decide +kernel
theorem dX3_renumberAfter_33 : decode cX3_renumberAfter 33 = .ok (.goto (-31), 3) := by decide +kernel
theorem dX3_renumberAfter_36 : decode cX3_renumberAfter 36 = .ok (.iconst 0, 1) := by decide +kernel
theorem dX3_renumberAfter_37 : decode cX3_renumberAfter 37 = .ok (.istore_n 2, 1) := by decide +kernel
theorem dX3_renumberAfter_38 : decode cX3_renumberAfter 38 = .ok (.iload_n 2, 1) := by decide +kernel
theorem dX3_renumberAfter_39 : decode cX3_renumberAfter 39 = .ok (.iconst 3, 1) := by decide +kernel
theorem dX3_renumberAfter_40 : decode cX3_renumberAfter 40 = .ok (.if_icmp .ge 37, 3) := by decide +kernel
theorem dX3_renumberAfter_43 : decode cX3_renumberAfter 43 = .ok (.aload_n 0, 1) := by decide +kernel
theorem dX3_renumberAfter_44 : decode cX3_renumberAfter 44 = .ok (.getfield 20, 3) := by decide +kernel
theorem dX3_renumberAfter_47 : decode cX3_renumberAfter 47 = .ok (.iload_n 2, 1) := by decide +kernel
theorem dX3_renumberAfter_48 : decode cX3_renumberAfter 48 = .ok (.aaload, 1) := by decide +kernel
theorem dX3_renumberAfter_49 : decode cX3_renumberAfter 49 = .ok (.getfield 70, 3) := by decide +kernel
theorem dX3_renumberAfter_52 : decode cX3_renumberAfter 52 = .ok (.iload_n 1, 1) := by decide +kernel
theorem dX3_renumberAfter_53 : decode cX3_renumberAfter 53 = .ok (.if_icmp .le 18, 3) := by decide +kernel
theorem dX3_renumberAfter_56 : decode cX3_renumberAfter 56 = .ok (.aload_n 0, 1) := by decide +kernel
theorem dX3_renumberAfter_57 : decode cX3_renumberAfter 57 = .ok (.getfield 20, 3) := by decide +kernel
theorem dX3_renumberAfter_60 : decode cX3_renumberAfter 60 = .ok (.iload_n 2, 1) := by decide +kernel
theorem dX3_renumberAfter_61 : decode cX3_renumberAfter 61 = .ok (.aaload, 1) := by decide +kernel
theorem dX3_renumberAfter_62 : decode cX3_renumberAfter 62 = .ok (.dup, 1) := by decide +kernel
theorem dX3_renumberAfter_63 : decode cX3_renumberAfter 63 = .ok (.getfield 70, 3) := by decide +kernel
theorem dX3_renumberAfter_66 : decode cX3_renumberAfter 66 = .ok (.iconst 1, 1) := by decide +kernel
theorem dX3_renumberAfter_67 : decode cX3_renumberAfter 67 = .ok (.isub, 1) := by decide +kernel
theorem dX3_renumberAfter_68 : decode cX3_renumberAfter 68 = .ok (.putfield 70, 3) := by decide +kernel
theorem dX3_renumberAfter_71 : decode cX3_renumberAfter 71 = .ok (.iinc 2 1, 3) := by decide +kernel
theorem dX3_renumberAfter_74 : decode cX3_renumberAfter 74 = .ok (.goto (-36), 3) := by decide +kernel
theorem dX3_renumberAfter_77 : decode cX3_renumberAfter 77 = .ok (.return_, 1) := by decide +kernel
