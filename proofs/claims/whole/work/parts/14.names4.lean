theorem dX4_isPair_10 : decode cX4_isPair 10 = .ok (.if_icmp .eq 28, 3) := by decide +kernel
theorem dX4_isPair_13 : decode cX4_isPair 13 = .ok (.aload_n 0, 1) := by decide +kernel
theorem dX4_isPair_14 : decode cX4_isPair 14 = .ok (.getfield 9, 3) := by decide +kernel
theorem dX4_isPair_17 : decode cX4_isPair 17 = .ok (.getfield 35, 3) := by decide +kernel
theorem dX4_isPair_20 : decode cX4_isPair 20 = .ok (.iload_n 3, 1) := by decide +kernel
theorem dX4_isPair_21 : decode cX4_isPair 21 = .ok (.iaload, 1) := by decide +kernel
theorem dX4_isPair_22 : decode cX4_isPair 22 = .ok (.iconst (-1), 1) := by decide +kernel
theorem dX4_isPair_23 : decode cX4_isPair 23 = .ok (.if_icmp .eq 15, 3) := by decide +kernel
theorem dX4_isPair_26 : decode cX4_isPair 26 = .ok (.aload_n 0, 1) := by decide +kernel
theorem dX4_isPair_27 : decode cX4_isPair 27 = .ok (.getfield 9, 3) := by decide +kernel
theorem dX4_isPair_30 : decode cX4_isPair 30 = .ok (.iload_n 2, 1) := by decide +kernel
theorem dX4_isPair_31 : decode cX4_isPair 31 = .ok (.iload_n 3, 1) := by decide +kernel
theorem dX4_isPair_32 : decode cX4_isPair 32 = .ok (.invokevirtual 38, 3) := by decide +kernel
theorem dX4_isPair_35 : decode cX4_isPair 35 = .ok (.ifCond .ne 5, 3) := by decide +kernel
theorem dX4_isPair_38 : decode cX4_isPair 38 = .ok (.iconst 0, 1) := by decide +kernel
theorem dX4_isPair_39 : decode cX4_isPair 39 = .ok (.ireturn, 1) := by decide +kernel
theorem dX4_isPair_40 : decode cX4_isPair 40 = .ok (.iload_n 1, 1) := by decide +kernel
theorem dX4_isPair_41 : decode cX4_isPair 41 = .ok (.ifCond .ne 27, 3) := by decide +kernel
theorem dX4_isPair_44 : decode cX4_isPair 44 = .ok (.aload_n 0, 1) := by decide +kernel
theorem dX4_isPair_45 : decode cX4_isPair 45 = .ok (.iload_n 2, 1) := by decide +kernel
theorem dX4_isPair_46 : decode cX4_isPair 46 = .ok (.iload_n 3, 1) := by decide +kernel
theorem dX4_isPair_47 : decode cX4_isPair 47 = .ok (.invokevirtual 42, 3) := by decide +kernel
theorem dX4_isPair_50 : decode cX4_isPair 50 = .ok (.ifCond .ne 12, 3) := by decide +kernel
theorem dX4_isPair_53 : decode cX4_isPair 53 = .ok (.aload_n 0, 1) := by decide +kernel
theorem dX4_isPair_54 : decode cX4_isPair 54 = .ok (.iload_n 3, 1) := by decide +kernel
theorem dX4_isPair_55 : decode cX4_isPair 55 = .ok (.iload_n 2, 1) := by decide +kernel
theorem dX4_isPair_56 : decode cX4_isPair 56 = .ok (.invokevirtual 42, 3) := by decide +kernel
theorem dX4_isPair_59 : decode cX4_isPair 59 = .ok (.ifCond .eq 7, 3) := by decide +kernel
theorem dX4_isPair_62 : decode cX4_isPair 62 = .ok (.iconst 1, 1) := by decide +kernel
theorem dX4_isPair_63 : decode cX4_isPair 63 = .ok (.goto 4, 3) := by decide +kernel
theorem dX4_isPair_66 : decode cX4_isPair 66 = .ok (.iconst 0, 1) := by decide +kernel
theorem dX4_isPair_67 : decode cX4_isPair 67 = .ok (.ireturn, 1) := by decide +kernel
theorem dX4_isPair_68 : decode cX4_isPair 68 = .ok (.aload_n 0, 1) := by decide +kernel
theorem dX4_isPair_69 : decode cX4_isPair 69 = .ok (.iload_n 2, 1) := by decide +kernel
theorem dX4_isPair_70 : decode cX4_isPair 70 = .ok (.iload_n 3, 1) := by decide +kernel
theorem dX4_isPair_71 : decode cX4_isPair 71 = .ok (.invokevirtual 45, 3) := by decide +kernel
theorem dX4_isPair_74 : decode cX4_isPair 74 = .ok (.ifCond .eq 21, 3) := by decide +kernel
theorem dX4_isPair_77 : decode cX4_isPair 77 = .ok (.iload_n 1, 1) := by decide +kernel
theorem dX4_isPair_78 : decode cX4_isPair 78 = .ok (.iconst 1, 1) := by decide +kernel
theorem dX4_isPair_79 : decode cX4_isPair 79 = .ok (.if_icmp .eq 12, 3) := by decide +kernel
theorem dX4_isPair_82 : decode cX4_isPair 82 = .ok (.aload_n 0, 1) := by decide +kernel
theorem dX4_isPair_83 : decode cX4_isPair 83 = .ok (.iload_n 2, 1) := by decide +kernel
theorem dX4_isPair_84 : decode cX4_isPair 84 = .ok (.iload_n 3, 1) := by decide +kernel
theorem dX4_isPair_85 : decode cX4_isPair 85 = .ok (.invokevirtual 48, 3) := by decide +kernel
theorem dX4_isPair_88 : decode cX4_isPair 88 = .ok (.ifCond .eq 7, 3) := by decide +kernel
theorem dX4_isPair_91 : decode cX4_isPair 91 = .ok (.iconst 1, 1) := by decide +kernel
theorem dX4_isPair_92 : decode cX4_isPair 92 = .ok (.goto 4, 3) := by decide +kernel
theorem dX4_isPair_95 : decode cX4_isPair 95 = .ok (.iconst 0, 1) := by decide +kernel
theorem dX4_isPair_96 : decode cX4_isPair 96 = .ok (.ireturn, 1) := by decide +kernel
theorem dX4_isUnder_0 : decode cX4_isUnder 0 = .ok (.aload_n 0, 1) := by decide +kernel
theorem dX4_isUnder_1 : decode cX4_isUnder 1 = .ok (.getfield 9, 3) := by decide +kernel
theorem dX4_isUnder_4 : decode cX4_isUnder 4 = .ok (.getfield 35, 3) := by decide +kernel
theorem dX4_isUnder_7 : decode cX4_isUnder 7 = .ok (.iload_n 1, 1) := by decide +kernel
theorem dX4_isUnder_8 : decode cX4_isUnder 8 = .ok (.iaload, 1) := by decide +kernel
theorem dX4_isUnder_9 : decode cX4_isUnder 9 = .ok (.aload_n 0, 1) := by decide +kernel
theorem dX4_isUnder_10 : decode cX4_isUnder 10 = .ok (.getfield 9, 3) := by decide +kernel
theorem dX4_isUnder_13 : decode cX4_isUnder 13 = .ok (.getfield 35, 3) := by decide +kernel
theorem dX4_isUnder_16 : decode cX4_isUnder 16 = .ok (.iload_n 2, 1) := by decide +kernel
theorem dX4_isUnder_17 : decode cX4_isUnder 17 = .ok (.iaload, 1) := by decide +kernel
theorem dX4_isUnder_18 : decode cX4_isUnder 18 = .ok (.if_icmp .ge 28, 3) := by decide +kernel
theorem dX4_isUnder_21 : decode cX4_isUnder 21 = .ok (.aload_n 0, 1) := by decide +kernel
theorem dX4_isUnder_22 : decode cX4_isUnder 22 = .ok (.getfield 9, 3) := by decide +kernel
theorem dX4_isUnder_25 : decode cX4_isUnder 25 = .ok (.getfield 51, 3) := by decide +kernel
theorem dX4_isUnder_28 : decode cX4_isUnder 28 = .ok (.iload_n 1, 1) := by decide +kernel
theorem dX4_isUnder_29 : decode cX4_isUnder 29 = .ok (.iaload, 1) := by decide +kernel
theorem dX4_isUnder_30 : decode cX4_isUnder 30 = .ok (.aload_n 0, 1) := by decide +kernel
theorem dX4_isUnder_31 : decode cX4_isUnder 31 = .ok (.getfield 9, 3) := by decide +kernel
theorem dX4_isUnder_34 : decode cX4_isUnder 34 = .ok (.getfield 51, 3) := by decide +kernel
theorem dX4_isUnder_37 : decode cX4_isUnder 37 = .ok (.iload_n 2, 1) := by decide +kernel
theorem dX4_isUnder_38 : decode cX4_isUnder 38 = .ok (.iaload, 1) := by decide +kernel
theorem dX4_isUnder_39 : decode cX4_isUnder 39 = .ok (.if_icmp .ge 7, 3) := by decide +kernel
theorem dX4_isUnder_42 : decode cX4_isUnder 42 = .ok (.iconst 1, 1) := by decide +kernel
theorem dX4_isUnder_43 : decode cX4_isUnder 43 = .ok (.goto 4, 3) := by decide +kernel
theorem dX4_isUnder_46 : decode cX4_isUnder 46 = .ok (.iconst 0, 1) := by decide +kernel
theorem dX4_isUnder_47 : decode cX4_isUnder 47 = .ok (.ireturn, 1) := by decide +kernel
theorem dX4_doMeet_0 : decode cX4_doMeet 0 = .ok (.aload_n 0, 1) := by decide +kernel
theorem dX4_doMeet_1 : decode cX4_doMeet 1 = .ok (.getfield 9, 3) := by decide +kernel
theorem dX4_doMeet_4 : decode cX4_doMeet 4 = .ok (.getfield 35, 3) := by decide +kernel
theorem dX4_doMeet_7 : decode cX4_doMeet 7 = .ok (.iload_n 1, 1) := by decide +kernel
theorem dX4_doMeet_8 : decode cX4_doMeet 8 = .ok (.iaload, 1) := by decide +kernel
theorem dX4_doMeet_9 : decode cX4_doMeet 9 = .ok (.aload_n 0, 1) := by decide +kernel
theorem dX4_doMeet_10 : decode cX4_doMeet 10 = .ok (.getfield 9, 3) := by decide +kernel
theorem dX4_doMeet_13 : decode cX4_doMeet 13 = .ok (.getfield 35, 3) := by decide +kernel
theorem dX4_doMeet_16 : decode cX4_doMeet 16 = .ok (.iload_n 2, 1) := by decide +kernel
theorem dX4_doMeet_17 : decode cX4_doMeet 17 = .ok (.iaload, 1) := by decide +kernel
theorem dX4_doMeet_18 : decode cX4_doMeet 18 = .ok (.if_icmp .eq 28, 3) := by decide +kernel
theorem dX4_doMeet_21 : decode cX4_doMeet 21 = .ok (.aload_n 0, 1) := by decide +kernel
theorem dX4_doMeet_22 : decode cX4_doMeet 22 = .ok (.getfield 9, 3) := by decide +kernel
theorem dX4_doMeet_25 : decode cX4_doMeet 25 = .ok (.getfield 51, 3) := by decide +kernel
theorem dX4_doMeet_28 : decode cX4_doMeet 28 = .ok (.iload_n 1, 1) := by decide +kernel
theorem dX4_doMeet_29 : decode cX4_doMeet 29 = .ok (.iaload, 1) := by decide +kernel
theorem dX4_doMeet_30 : decode cX4_doMeet 30 = .ok (.aload_n 0, 1) := by decide +kernel
theorem dX4_doMeet_31 : decode cX4_doMeet 31 = .ok (.getfield 9, 3) := by decide +kernel
theorem dX4_doMeet_34 : decode cX4_doMeet 34 = .ok (.getfield 51, 3) := by decide +kernel
theorem dX4_doMeet_37 : decode cX4_doMeet 37 = .ok (.iload_n 2, 1) := by decide +kernel
theorem dX4_doMeet_38 : decode cX4_doMeet 38 = .ok (.iaload, 1) := by decide +kernel
theorem dX4_doMeet_39 : decode cX4_doMeet 39 = .ok (.if_icmp .ne 7, 3) := by decide +kernel
theorem dX4_doMeet_42 : decode cX4_doMeet 42 = .ok (.iconst 1, 1) := by decide +kernel
theorem dX4_doMeet_43 : decode cX4_doMeet 43 = .ok (.goto 4, 3) := by decide +kernel
theorem dX4_doMeet_46 : decode cX4_doMeet 46 = .ok (.iconst 0, 1) := by decide +kernel
theorem dX4_doMeet_47 : decode cX4_doMeet 47 = .ok (.ireturn, 1) := by decide +kernel
theorem dX4_sameSpan_0 : decode cX4_sameSpan 0 = .ok (.aload_n 0, 1) := by decide +kernel
theorem dX4_sameSpan_1 : decode cX4_sameSpan 1 = .ok (.getfield 9, 3) := by decide +kernel
theorem dX4_sameSpan_4 : decode cX4_sameSpan 4 = .ok (.getfield 54, 3) := by decide +kernel
theorem dX4_sameSpan_7 : decode cX4_sameSpan 7 = .ok (.iload_n 1, 1) := by decide +kernel
theorem dX4_sameSpan_8 : decode cX4_sameSpan 8 = .ok (.iaload, 1) := by decide +kernel
theorem dX4_sameSpan_9 : decode cX4_sameSpan 9 = .ok (.aload_n 0, 1) := by decide +kernel
theorem dX4_sameSpan_10 : decode cX4_sameSpan 10 = .ok (.getfield 9, 3) := by decide +kernel
theorem dX4_sameSpan_13 : decode cX4_sameSpan 13 = .ok (.getfield 54, 3) := by decide +kernel
theorem dX4_sameSpan_16 : decode cX4_sameSpan 16 = .ok (.iload_n 2, 1) := by decide +kernel
theorem dX4_sameSpan_17 : decode cX4_sameSpan 17 = .ok (.iaload, 1) := by decide +kernel
theorem dX4_sameSpan_18 : decode cX4_sameSpan 18 = .ok (.if_icmp .ne 28, 3) := by decide +kernel
theorem dX4_sameSpan_21 : decode cX4_sameSpan 21 = .ok (.aload_n 0, 1) := by decide +kernel
theorem dX4_sameSpan_22 : decode cX4_sameSpan 22 = .ok (.getfield 9, 3) := by decide +kernel
theorem dX4_sameSpan_25 : decode cX4_sameSpan 25 = .ok (.getfield 57, 3) := by decide +kernel
theorem dX4_sameSpan_28 : decode cX4_sameSpan 28 = .ok (.iload_n 1, 1) := by decide +kernel
theorem dX4_sameSpan_29 : decode cX4_sameSpan 29 = .ok (.iaload, 1) := by decide +kernel
theorem dX4_sameSpan_30 : decode cX4_sameSpan 30 = .ok (.aload_n 0, 1) := by decide +kernel
theorem dX4_sameSpan_31 : decode cX4_sameSpan 31 = .ok (.getfield 9, 3) := by decide +kernel
theorem dX4_sameSpan_34 : decode cX4_sameSpan 34 = .ok (.getfield 57, 3) := by decide +kernel
theorem dX4_sameSpan_37 : decode cX4_sameSpan 37 = .ok (.iload_n 2, 1) := by decide +kernel
theorem dX4_sameSpan_38 : decode cX4_sameSpan 38 = .ok (.iaload, 1) := by decide +kernel
theorem dX4_sameSpan_39 : decode cX4_sameSpan 39 = .ok (.if_icmp .ne 7, 3) := by decide +kernel
theorem dX4_sameSpan_42 : decode cX4_sameSpan 42 = .ok (.iconst 1, 1) := by decide +kernel
theorem dX4_sameSpan_43 : decode cX4_sameSpan 43 = .ok (.goto 4, 3) := by decide +kernel
theorem dX4_sameSpan_46 : decode cX4_sameSpan 46 = .ok (.iconst 0, 1) := by decide +kernel
theorem dX4_sameSpan_47 : decode cX4_sameSpan 47 = .ok (.ireturn, 1) := by decide +kernel
theorem dX5_init_0 : decode cX5_init 0 = .ok (.aload_n 0, 1) := by decide +kernel
theorem dX5_init_1 : decode cX5_init 1 = .ok (.invokespecial 3, 3) := by decide +kernel
theorem dX5_init_4 : decode cX5_init 4 = .ok (.aload_n 0, 1) := by decide +kernel
theorem dX5_init_5 : decode cX5_init 5 = .ok (.bipush 61, 2) := by decide +kernel
theorem dX5_init_7 : decode cX5_init 7 = .ok (.newarray .int, 2) := by decide +kernel
theorem dX5_init_9 : decode cX5_init 9 = .ok (.putfield 9, 3) := by decide +kernel
theorem dX5_init_12 : decode cX5_init 12 = .ok (.aload_n 0, 1) := by decide +kernel
theorem dX5_init_13 : decode cX5_init 13 = .ok (.bipush 61, 2) := by decide +kernel
theorem dX5_init_15 : decode cX5_init 15 = .ok (.newarray .int, 2) := by decide +kernel
theorem dX5_init_17 : decode cX5_init 17 = .ok (.putfield 15, 3) := by decide +kernel
theorem dX5_init_20 : decode cX5_init 20 = .ok (.aload_n 0, 1) := by decide +kernel
theorem dX5_init_21 : decode cX5_init 21 = .ok (.aload_n 1, 1) := by decide +kernel
theorem dX5_init_22 : decode cX5_init 22 = .ok (.putfield 18, 3) := by decide +kernel
theorem dX5_init_25 : decode cX5_init 25 = .ok (.return_, 1) := by decide +kernel
set_option maxRecDepth 20000 in
theorem ggX5_collect_X5_breaksRest : GoodIn wsX5_collect wsX5_breaksRest := goodIn_r _ [15, 2, 16, 31, 32, 33, 34, 35, 36, 37, 38, 39, 40, 41] (by decide +kernel) (by decide +kernel)
set_option maxRecDepth 20000 in
theorem gX5_collect_X5_breaksRest : GoodIn wsX5_collect (wsV RX5 32 RX5 yX5_breaksRest wsX5_breaksRest) := goodIn_app (goodIn_of _ (by decide +kernel)) ggX5_collect_X5_breaksRest
set_option maxRecDepth 20000 in
theorem ggX5_collect_X5_keep : GoodIn wsX5_collect wsX5_keep := goodIn_r _ [20, 1, 21, 22, 31, 32, 33, 34] (by decide +kernel) (by decide +kernel)
set_option maxRecDepth 20000 in
theorem gX5_collect_X5_keep : GoodIn wsX5_collect (wsV RX5 39 RX5 yX5_keep wsX5_keep) := goodIn_app (goodIn_of _ (by decide +kernel)) ggX5_collect_X5_keep
set_option maxRecDepth 20000 in
theorem ggX5_collect_X6_theEnd : GoodIn wsX5_collect wsX6_theEnd := goodIn_r _ [27, 28, 29, 30, 8, 9, 10, 35, 36, 37, 38, 39, 40, 41] (by decide +kernel) (by decide +kernel)
set_option maxRecDepth 20000 in
theorem gX5_collect_X6_theEnd : GoodIn wsX5_collect (wsV RX5 52 RX6 yX6_theEnd wsX6_theEnd) := goodIn_app (goodIn_of _ (by decide +kernel)) ggX5_collect_X6_theEnd
theorem dX5_collect_0 : decode cX5_collect 0 = .ok (.aload_n 0, 1) := by decide +kernel
theorem dX5_collect_1 : decode cX5_collect 1 = .ok (.iconst 0, 1) := by decide +kernel
theorem dX5_collect_2 : decode cX5_collect 2 = .ok (.putfield 22, 3) := by decide +kernel
theorem dX5_collect_5 : decode cX5_collect 5 = .ok (.iconst 0, 1) := by decide +kernel
theorem dX5_collect_6 : decode cX5_collect 6 = .ok (.istore_n 2, 1) := by decide +kernel
theorem dX5_collect_7 : decode cX5_collect 7 = .ok (.iconst 0, 1) := by decide +kernel
theorem dX5_collect_8 : decode cX5_collect 8 = .ok (.istore_n 3, 1) := by decide +kernel
theorem dX5_collect_9 : decode cX5_collect 9 = .ok (.iload_n 3, 1) := by decide +kernel
theorem dX5_collect_10 : decode cX5_collect 10 = .ok (.aload_n 0, 1) := by decide +kernel
theorem dX5_collect_11 : decode cX5_collect 11 = .ok (.getfield 18, 3) := by decide +kernel
theorem dX5_collect_14 : decode cX5_collect 14 = .ok (.getfield 26, 3) := by decide +kernel
theorem dX5_collect_17 : decode cX5_collect 17 = .ok (.if_icmp .ge 60, 3) := by decide +kernel
theorem dX5_collect_20 : decode cX5_collect 20 = .ok (.aload_n 0, 1) := by decide +kernel
theorem dX5_collect_21 : decode cX5_collect 21 = .ok (.getfield 18, 3) := by decide +kernel
theorem dX5_collect_24 : decode cX5_collect 24 = .ok (.getfield 29, 3) := by decide +kernel
theorem dX5_collect_27 : decode cX5_collect 27 = .ok (.iload_n 3, 1) := by decide +kernel
theorem dX5_collect_28 : decode cX5_collect 28 = .ok (.iaload, 1) := by decide +kernel
theorem dX5_collect_29 : decode cX5_collect 29 = .ok (.istore 4, 2) := by decide +kernel
theorem dX5_collect_31 : decode cX5_collect 31 = .ok (.aload_n 0, 1) := by decide +kernel
theorem dX5_collect_32 : decode cX5_collect 32 = .ok (.iload 4, 2) := by decide +kernel
theorem dX5_collect_34 : decode cX5_collect 34 = .ok (.iload_n 1, 1) := by decide +kernel
theorem dX5_collect_35 : decode cX5_collect 35 = .ok (.invokevirtual 32, 3) := by decide +kernel
theorem dX5_collect_38 : decode cX5_collect 38 = .ok (.ifCond .eq 33, 3) := by decide +kernel
theorem dX5_collect_41 : decode cX5_collect 41 = .ok (.aload_n 0, 1) := by decide +kernel
theorem dX5_collect_42 : decode cX5_collect 42 = .ok (.iload_n 2, 1) := by decide +kernel
theorem dX5_collect_43 : decode cX5_collect 43 = .ok (.aload_n 0, 1) := by decide +kernel
theorem dX5_collect_44 : decode cX5_collect 44 = .ok (.getfield 18, 3) := by decide +kernel
theorem dX5_collect_47 : decode cX5_collect 47 = .ok (.getfield 36, 3) := by decide +kernel
theorem dX5_collect_50 : decode cX5_collect 50 = .ok (.iload 4, 2) := by decide +kernel
theorem dX5_collect_52 : decode cX5_collect 52 = .ok (.iaload, 1) := by decide +kernel
theorem dX5_collect_53 : decode cX5_collect 53 = .ok (.invokevirtual 39, 3) := by decide +kernel
theorem dX5_collect_56 : decode cX5_collect 56 = .ok (.iload_n 2, 1) := by decide +kernel
theorem dX5_collect_57 : decode cX5_collect 57 = .ok (.aload_n 0, 1) := by decide +kernel
theorem dX5_collect_58 : decode cX5_collect 58 = .ok (.getfield 18, 3) := by decide +kernel
theorem dX5_collect_61 : decode cX5_collect 61 = .ok (.getfield 43, 3) := by decide +kernel
theorem dX5_collect_64 : decode cX5_collect 64 = .ok (.iload 4, 2) := by decide +kernel
theorem dX5_collect_66 : decode cX5_collect 66 = .ok (.iaload, 1) := by decide +kernel
theorem dX5_collect_67 : decode cX5_collect 67 = .ok (.invokestatic 46, 3) := by decide +kernel
theorem dX5_collect_70 : decode cX5_collect 70 = .ok (.istore_n 2, 1) := by decide +kernel
theorem dX5_collect_71 : decode cX5_collect 71 = .ok (.iinc 3 1, 3) := by decide +kernel
theorem dX5_collect_74 : decode cX5_collect 74 = .ok (.goto (-65), 3) := by decide +kernel
theorem dX5_collect_77 : decode cX5_collect 77 = .ok (.aload_n 0, 1) := by decide +kernel
theorem dX5_collect_78 : decode cX5_collect 78 = .ok (.iload_n 2, 1) := by decide +kernel
theorem dX5_collect_79 : decode cX5_collect 79 = .ok (.aload_n 0, 1) := by decide +kernel
theorem dX5_collect_80 : decode cX5_collect 80 = .ok (.getfield 18, 3) := by decide +kernel
theorem dX5_collect_83 : decode cX5_collect 83 = .ok (.invokevirtual 52, 3) := by decide +kernel
theorem dX5_collect_86 : decode cX5_collect 86 = .ok (.invokevirtual 39, 3) := by decide +kernel
theorem dX5_collect_89 : decode cX5_collect 89 = .ok (.return_, 1) := by decide +kernel
theorem dX5_breaksRest_0 : decode cX5_breaksRest 0 = .ok (.iload_n 2, 1) := by decide +kernel
theorem dX5_breaksRest_1 : decode cX5_breaksRest 1 = .ok (.iconst 4, 1) := by decide +kernel
theorem dX5_breaksRest_2 : decode cX5_breaksRest 2 = .ok (.if_icmp .ne 24, 3) := by decide +kernel
theorem dX5_breaksRest_5 : decode cX5_breaksRest 5 = .ok (.aload_n 0, 1) := by decide +kernel
theorem dX5_breaksRest_6 : decode cX5_breaksRest 6 = .ok (.getfield 18, 3) := by decide +kernel
theorem dX5_breaksRest_9 : decode cX5_breaksRest 9 = .ok (.getfield 56, 3) := by decide +kernel
theorem dX5_breaksRest_12 : decode cX5_breaksRest 12 = .ok (.iload_n 1, 1) := by decide +kernel
theorem dX5_breaksRest_13 : decode cX5_breaksRest 13 = .ok (.iaload, 1) := by decide +kernel
theorem dX5_breaksRest_14 : decode cX5_breaksRest 14 = .ok (.iconst (-1), 1) := by decide +kernel
theorem dX5_breaksRest_15 : decode cX5_breaksRest 15 = .ok (.if_icmp .eq 7, 3) := by decide +kernel
theorem dX5_breaksRest_18 : decode cX5_breaksRest 18 = .ok (.iconst 1, 1) := by decide +kernel
theorem dX5_breaksRest_19 : decode cX5_breaksRest 19 = .ok (.goto 25, 3) := by decide +kernel
theorem dX5_breaksRest_22 : decode cX5_breaksRest 22 = .ok (.iconst 0, 1) := by decide +kernel
theorem dX5_breaksRest_23 : decode cX5_breaksRest 23 = .ok (.goto 21, 3) := by decide +kernel
theorem dX5_breaksRest_26 : decode cX5_breaksRest 26 = .ok (.aload_n 0, 1) := by decide +kernel
theorem dX5_breaksRest_27 : decode cX5_breaksRest 27 = .ok (.getfield 18, 3) := by decide +kernel
theorem dX5_breaksRest_30 : decode cX5_breaksRest 30 = .ok (.getfield 56, 3) := by decide +kernel
theorem dX5_breaksRest_33 : decode cX5_breaksRest 33 = .ok (.iload_n 1, 1) := by decide +kernel
theorem dX5_breaksRest_34 : decode cX5_breaksRest 34 = .ok (.iaload, 1) := by decide +kernel
theorem dX5_breaksRest_35 : decode cX5_breaksRest 35 = .ok (.iload_n 2, 1) := by decide +kernel
theorem dX5_breaksRest_36 : decode cX5_breaksRest 36 = .ok (.if_icmp .ne 7, 3) := by decide +kernel
theorem dX5_breaksRest_39 : decode cX5_breaksRest 39 = .ok (.iconst 1, 1) := by decide +kernel
theorem dX5_breaksRest_40 : decode cX5_breaksRest 40 = .ok (.goto 4, 3) := by decide +kernel
theorem dX5_breaksRest_43 : decode cX5_breaksRest 43 = .ok (.iconst 0, 1) := by decide +kernel
theorem dX5_breaksRest_44 : decode cX5_breaksRest 44 = .ok (.ireturn, 1) := by decide +kernel
theorem dX5_keep_0 : decode cX5_keep 0 = .ok (.iload_n 1, 1) := by decide +kernel
theorem dX5_keep_1 : decode cX5_keep 1 = .ok (.iload_n 2, 1) := by decide +kernel
theorem dX5_keep_2 : decode cX5_keep 2 = .ok (.if_icmp .ge 45, 3) := by decide +kernel
theorem dX5_keep_5 : decode cX5_keep 5 = .ok (.aload_n 0, 1) := by decide +kernel
theorem dX5_keep_6 : decode cX5_keep 6 = .ok (.getfield 22, 3) := by decide +kernel
theorem dX5_keep_9 : decode cX5_keep 9 = .ok (.aload_n 0, 1) := by decide +kernel
theorem dX5_keep_10 : decode cX5_keep 10 = .ok (.getfield 9, 3) := by decide +kernel
theorem dX5_keep_13 : decode cX5_keep 13 = .ok (.arraylength, 1) := by decide +kernel
theorem dX5_keep_14 : decode cX5_keep 14 = .ok (.if_icmp .ge 33, 3) := by decide +kernel
theorem dX5_keep_17 : decode cX5_keep 17 = .ok (.aload_n 0, 1) := by decide +kernel
theorem dX5_keep_18 : decode cX5_keep 18 = .ok (.getfield 9, 3) := by decide +kernel
theorem dX5_keep_21 : decode cX5_keep 21 = .ok (.aload_n 0, 1) := by decide +kernel
theorem dX5_keep_22 : decode cX5_keep 22 = .ok (.getfield 22, 3) := by decide +kernel
theorem dX5_keep_25 : decode cX5_keep 25 = .ok (.iload_n 1, 1) := by decide +kernel
theorem dX5_keep_26 : decode cX5_keep 26 = .ok (.iastore, 1) := by decide +kernel
theorem dX5_keep_27 : decode cX5_keep 27 = .ok (.aload_n 0, 1) := by decide +kernel
theorem dX5_keep_28 : decode cX5_keep 28 = .ok (.getfield 15, 3) := by decide +kernel
theorem dX5_keep_31 : decode cX5_keep 31 = .ok (.aload_n 0, 1) := by decide +kernel
theorem dX5_keep_32 : decode cX5_keep 32 = .ok (.getfield 22, 3) := by decide +kernel
theorem dX5_keep_35 : decode cX5_keep 35 = .ok (.iload_n 2, 1) := by decide +kernel
theorem dX5_keep_36 : decode cX5_keep 36 = .ok (.iastore, 1) := by decide +kernel
theorem dX5_keep_37 : decode cX5_keep 37 = .ok (.aload_n 0, 1) := by decide +kernel
theorem dX5_keep_38 : decode cX5_keep 38 = .ok (.dup, 1) := by decide +kernel
theorem dX5_keep_39 : decode cX5_keep 39 = .ok (.getfield 22, 3) := by decide +kernel
theorem dX5_keep_42 : decode cX5_keep 42 = .ok (.iconst 1, 1) := by decide +kernel
theorem dX5_keep_43 : decode cX5_keep 43 = .ok (.iadd, 1) := by decide +kernel
theorem dX5_keep_44 : decode cX5_keep 44 = .ok (.putfield 22, 3) := by decide +kernel
theorem dX5_keep_47 : decode cX5_keep 47 = .ok (.return_, 1) := by decide +kernel
theorem dX6_init_0 : decode cX6_init 0 = .ok (.aload_n 0, 1) := by decide +kernel
theorem dX6_init_1 : decode cX6_init 1 = .ok (.invokespecial 3, 3) := by decide +kernel
theorem dX6_init_4 : decode cX6_init 4 = .ok (.aload_n 0, 1) := by decide +kernel
theorem dX6_init_5 : decode cX6_init 5 = .ok (.bipush 60, 2) := by decide +kernel
theorem dX6_init_7 : decode cX6_init 7 = .ok (.newarray .int, 2) := by decide +kernel
theorem dX6_init_9 : decode cX6_init 9 = .ok (.putfield 9, 3) := by decide +kernel
theorem dX6_init_12 : decode cX6_init 12 = .ok (.aload_n 0, 1) := by decide +kernel
theorem dX6_init_13 : decode cX6_init 13 = .ok (.bipush 60, 2) := by decide +kernel
theorem dX6_init_15 : decode cX6_init 15 = .ok (.newarray .int, 2) := by decide +kernel
theorem dX6_init_17 : decode cX6_init 17 = .ok (.putfield 15, 3) := by decide +kernel
theorem dX6_init_20 : decode cX6_init 20 = .ok (.aload_n 0, 1) := by decide +kernel
theorem dX6_init_21 : decode cX6_init 21 = .ok (.bipush 60, 2) := by decide +kernel
theorem dX6_init_23 : decode cX6_init 23 = .ok (.newarray .int, 2) := by decide +kernel
theorem dX6_init_25 : decode cX6_init 25 = .ok (.putfield 18, 3) := by decide +kernel
theorem dX6_init_28 : decode cX6_init 28 = .ok (.aload_n 0, 1) := by decide +kernel
theorem dX6_init_29 : decode cX6_init 29 = .ok (.bipush 60, 2) := by decide +kernel
theorem dX6_init_31 : decode cX6_init 31 = .ok (.newarray .int, 2) := by decide +kernel
theorem dX6_init_33 : decode cX6_init 33 = .ok (.putfield 21, 3) := by decide +kernel
theorem dX6_init_36 : decode cX6_init 36 = .ok (.aload_n 0, 1) := by decide +kernel
theorem dX6_init_37 : decode cX6_init 37 = .ok (.bipush 60, 2) := by decide +kernel
theorem dX6_init_39 : decode cX6_init 39 = .ok (.newarray .int, 2) := by decide +kernel
theorem dX6_init_41 : decode cX6_init 41 = .ok (.putfield 24, 3) := by decide +kernel
theorem dX6_init_44 : decode cX6_init 44 = .ok (.aload_n 0, 1) := by decide +kernel
theorem dX6_init_45 : decode cX6_init 45 = .ok (.bipush 60, 2) := by decide +kernel
theorem dX6_init_47 : decode cX6_init 47 = .ok (.newarray .int, 2) := by decide +kernel
theorem dX6_init_49 : decode cX6_init 49 = .ok (.putfield 27, 3) := by decide +kernel
theorem dX6_init_52 : decode cX6_init 52 = .ok (.return_, 1) := by decide +kernel
set_option maxRecDepth 20000 in
theorem ggX6_has_X7_within : GoodIn wsX6_has wsX7_within := goodIn_r _ [4] (by decide +kernel) (by decide +kernel)
set_option maxRecDepth 20000 in
theorem gX6_has_X7_within_n34 : GoodIn wsX6_has (wsX7_within) := ggX6_has_X7_within
theorem dX6_has_0 : decode cX6_has 0 = .ok (.iload_n 1, 1) := by decide +kernel
theorem dX6_has_1 : decode cX6_has 1 = .ok (.iconst 0, 1) := by decide +kernel
theorem dX6_has_2 : decode cX6_has 2 = .ok (.aload_n 0, 1) := by decide +kernel
theorem dX6_has_3 : decode cX6_has 3 = .ok (.getfield 30, 3) := by decide +kernel
theorem dX6_has_6 : decode cX6_has 6 = .ok (.iconst 1, 1) := by decide +kernel
theorem dX6_has_7 : decode cX6_has 7 = .ok (.isub, 1) := by decide +kernel
theorem dX6_has_8 : decode cX6_has 8 = .ok (.invokestatic 34, 3) := by decide +kernel
theorem dX6_has_11 : decode cX6_has 11 = .ok (.ireturn, 1) := by decide +kernel
set_option maxRecDepth 20000 in
theorem ggX6_add_X6_change : GoodIn wsX6_add wsX6_change := goodIn_r _ [8, 9, 10, 11, 12, 13, 14, 7, 15, 1, 3, 16, 17, 18, 19, 20, 21, 22, 23, 24, 25, 26, 27] (by decide +kernel) (by decide +kernel)
set_option maxRecDepth 20000 in
theorem gX6_add_X6_change : GoodIn wsX6_add (wsV RX6 38 RX6 yX6_change wsX6_change) := goodIn_app (goodIn_of _ (by decide +kernel)) ggX6_add_X6_change
theorem dX6_add_0 : decode cX6_add 0 = .ok (.aload_n 0, 1) := by decide +kernel
theorem dX6_add_1 : decode cX6_add 1 = .ok (.getfield 30, 3) := by decide +kernel
theorem dX6_add_4 : decode cX6_add 4 = .ok (.istore 4, 2) := by decide +kernel
theorem dX6_add_6 : decode cX6_add 6 = .ok (.aload_n 0, 1) := by decide +kernel
theorem dX6_add_7 : decode cX6_add 7 = .ok (.dup, 1) := by decide +kernel
theorem dX6_add_8 : decode cX6_add 8 = .ok (.getfield 30, 3) := by decide +kernel
theorem dX6_add_11 : decode cX6_add 11 = .ok (.iconst 1, 1) := by decide +kernel
theorem dX6_add_12 : decode cX6_add 12 = .ok (.iadd, 1) := by decide +kernel
theorem dX6_add_13 : decode cX6_add 13 = .ok (.putfield 30, 3) := by decide +kernel
theorem dX6_add_16 : decode cX6_add 16 = .ok (.aload_n 0, 1) := by decide +kernel
theorem dX6_add_17 : decode cX6_add 17 = .ok (.getfield 21, 3) := by decide +kernel
theorem dX6_add_20 : decode cX6_add 20 = .ok (.iload 4, 2) := by decide +kernel
theorem dX6_add_22 : decode cX6_add 22 = .ok (.iconst (-1), 1) := by decide +kernel
theorem dX6_add_23 : decode cX6_add 23 = .ok (.iastore, 1) := by decide +kernel
theorem dX6_add_24 : decode cX6_add 24 = .ok (.aload_n 0, 1) := by decide +kernel
theorem dX6_add_25 : decode cX6_add 25 = .ok (.getfield 24, 3) := by decide +kernel
theorem dX6_add_28 : decode cX6_add 28 = .ok (.iload 4, 2) := by decide +kernel
theorem dX6_add_30 : decode cX6_add 30 = .ok (.iload 4, 2) := by decide +kernel
theorem dX6_add_32 : decode cX6_add 32 = .ok (.iastore, 1) := by decide +kernel
theorem dX6_add_33 : decode cX6_add 33 = .ok (.aload_n 0, 1) := by decide +kernel
theorem dX6_add_34 : decode cX6_add 34 = .ok (.iload 4, 2) := by decide +kernel
theorem dX6_add_36 : decode cX6_add 36 = .ok (.iload_n 1, 1) := by decide +kernel
theorem dX6_add_37 : decode cX6_add 37 = .ok (.iload_n 2, 1) := by decide +kernel
theorem dX6_add_38 : decode cX6_add 38 = .ok (.iload_n 3, 1) := by decide +kernel
theorem dX6_add_39 : decode cX6_add 39 = .ok (.invokevirtual 38, 3) := by decide +kernel
theorem dX6_add_42 : decode cX6_add 42 = .ok (.iload 4, 2) := by decide +kernel
theorem dX6_add_44 : decode cX6_add 44 = .ok (.ireturn, 1) := by decide +kernel
set_option maxRecDepth 20000 in
theorem ggX6_change_X6_sortOrder : GoodIn wsX6_change wsX6_sortOrder := goodIn_r _ [8, 9, 10, 11, 12, 13, 14, 7, 15, 1, 3, 16, 17, 18, 19, 20, 21, 22] (by decide +kernel) (by decide +kernel)
set_option maxRecDepth 20000 in
theorem gX6_change_X6_sortOrder : GoodIn wsX6_change (wsV RX6 42 RX6 yX6_sortOrder wsX6_sortOrder) := goodIn_app (goodIn_of _ (by decide +kernel)) ggX6_change_X6_sortOrder
theorem dX6_change_0 : decode cX6_change 0 = .ok (.aload_n 0, 1) := by decide +kernel
theorem dX6_change_1 : decode cX6_change 1 = .ok (.getfield 9, 3) := by decide +kernel
theorem dX6_change_4 : decode cX6_change 4 = .ok (.iload_n 1, 1) := by decide +kernel
theorem dX6_change_5 : decode cX6_change 5 = .ok (.iload_n 2, 1) := by decide +kernel
theorem dX6_change_6 : decode cX6_change 6 = .ok (.iastore, 1) := by decide +kernel
theorem dX6_change_7 : decode cX6_change 7 = .ok (.aload_n 0, 1) := by decide +kernel
theorem dX6_change_8 : decode cX6_change 8 = .ok (.getfield 15, 3) := by decide +kernel
theorem dX6_change_11 : decode cX6_change 11 = .ok (.iload_n 1, 1) := by decide +kernel
theorem dX6_change_12 : decode cX6_change 12 = .ok (.iload_n 3, 1) := by decide +kernel
theorem dX6_change_13 : decode cX6_change 13 = .ok (.iastore, 1) := by decide +kernel
theorem dX6_change_14 : decode cX6_change 14 = .ok (.aload_n 0, 1) := by decide +kernel
theorem dX6_change_15 : decode cX6_change 15 = .ok (.getfield 18, 3) := by decide +kernel
theorem dX6_change_18 : decode cX6_change 18 = .ok (.iload_n 1, 1) := by decide +kernel
theorem dX6_change_19 : decode cX6_change 19 = .ok (.iload 4, 2) := by decide +kernel
theorem dX6_change_21 : decode cX6_change 21 = .ok (.iastore, 1) := by decide +kernel
theorem dX6_change_22 : decode cX6_change 22 = .ok (.aload_n 0, 1) := by decide +kernel
theorem dX6_change_23 : decode cX6_change 23 = .ok (.invokevirtual 42, 3) := by decide +kernel
theorem dX6_change_26 : decode cX6_change 26 = .ok (.return_, 1) := by decide +kernel
set_option maxRecDepth 20000 in
theorem ggX6_sortOrder_X6_isBefore : GoodIn wsX6_sortOrder wsX6_isBefore := goodIn_r _ [8, 9, 10, 11, 12, 13, 14, 15, 16, 17] (by decide +kernel) (by decide +kernel)
set_option maxRecDepth 20000 in
theorem gX6_sortOrder_X6_isBefore : GoodIn wsX6_sortOrder (wsV RX6 45 RX6 yX6_isBefore wsX6_isBefore) := goodIn_app (goodIn_of _ (by decide +kernel)) ggX6_sortOrder_X6_isBefore
theorem dX6_sortOrder_0 : decode cX6_sortOrder 0 = .ok (.iconst 1, 1) := by decide +kernel
theorem dX6_sortOrder_1 : decode cX6_sortOrder 1 = .ok (.istore_n 1, 1) := by decide +kernel
theorem dX6_sortOrder_2 : decode cX6_sortOrder 2 = .ok (.iload_n 1, 1) := by decide +kernel
theorem dX6_sortOrder_3 : decode cX6_sortOrder 3 = .ok (.aload_n 0, 1) := by decide +kernel
theorem dX6_sortOrder_4 : decode cX6_sortOrder 4 = .ok (.getfield 30, 3) := by decide +kernel
theorem dX6_sortOrder_7 : decode cX6_sortOrder 7 = .ok (.if_icmp .ge 65, 3) := by decide +kernel
theorem dX6_sortOrder_10 : decode cX6_sortOrder 10 = .ok (.aload_n 0, 1) := by decide +kernel
theorem dX6_sortOrder_11 : decode cX6_sortOrder 11 = .ok (.getfield 24, 3) := by decide +kernel
theorem dX6_sortOrder_14 : decode cX6_sortOrder 14 = .ok (.iload_n 1, 1) := by decide +kernel
theorem dX6_sortOrder_15 : decode cX6_sortOrder 15 = .ok (.iaload, 1) := by decide +kernel
theorem dX6_sortOrder_16 : decode cX6_sortOrder 16 = .ok (.istore_n 2, 1) := by decide +kernel
theorem dX6_sortOrder_17 : decode cX6_sortOrder 17 = .ok (.iload_n 1, 1) := by decide +kernel
theorem dX6_sortOrder_18 : decode cX6_sortOrder 18 = .ok (.istore_n 3, 1) := by decide +kernel
theorem dX6_sortOrder_19 : decode cX6_sortOrder 19 = .ok (.iload_n 3, 1) := by decide +kernel
theorem dX6_sortOrder_20 : decode cX6_sortOrder 20 = .ok (.ifCond .le 39, 3) := by decide +kernel
theorem dX6_sortOrder_23 : decode cX6_sortOrder 23 = .ok (.aload_n 0, 1) := by decide +kernel
theorem dX6_sortOrder_24 : decode cX6_sortOrder 24 = .ok (.iload_n 2, 1) := by decide +kernel
theorem dX6_sortOrder_25 : decode cX6_sortOrder 25 = .ok (.aload_n 0, 1) := by decide +kernel
theorem dX6_sortOrder_26 : decode cX6_sortOrder 26 = .ok (.getfield 24, 3) := by decide +kernel
theorem dX6_sortOrder_29 : decode cX6_sortOrder 29 = .ok (.iload_n 3, 1) := by decide +kernel
theorem dX6_sortOrder_30 : decode cX6_sortOrder 30 = .ok (.iconst 1, 1) := by decide +kernel
theorem dX6_sortOrder_31 : decode cX6_sortOrder 31 = .ok (.isub, 1) := by decide +kernel
theorem dX6_sortOrder_32 : decode cX6_sortOrder 32 = .ok (.iaload, 1) := by decide +kernel
theorem dX6_sortOrder_33 : decode cX6_sortOrder 33 = .ok (.invokevirtual 45, 3) := by decide +kernel
theorem dX6_sortOrder_36 : decode cX6_sortOrder 36 = .ok (.ifCond .eq 23, 3) := by decide +kernel
theorem dX6_sortOrder_39 : decode cX6_sortOrder 39 = .ok (.aload_n 0, 1) := by decide +kernel
theorem dX6_sortOrder_40 : decode cX6_sortOrder 40 = .ok (.getfield 24, 3) := by decide +kernel
theorem dX6_sortOrder_43 : decode cX6_sortOrder 43 = .ok (.iload_n 3, 1) := by decide +kernel
theorem dX6_sortOrder_44 : decode cX6_sortOrder 44 = .ok (.aload_n 0, 1) := by decide +kernel
theorem dX6_sortOrder_45 : decode cX6_sortOrder 45 = .ok (.getfield 24, 3) := by decide +kernel
theorem dX6_sortOrder_48 : decode cX6_sortOrder 48 = .ok (.iload_n 3, 1) := by decide +kernel
theorem dX6_sortOrder_49 : decode cX6_sortOrder 49 = .ok (.iconst 1, 1) := by decide +kernel
theorem dX6_sortOrder_50 : decode cX6_sortOrder 50 = .ok (.isub, 1) := by decide +kernel
theorem dX6_sortOrder_51 : decode cX6_sortOrder 51 = .ok (.iaload, 1) := by decide +kernel
theorem dX6_sortOrder_52 : decode cX6_sortOrder 52 = .ok (.iastore, 1) := by decide +kernel
theorem dX6_sortOrder_53 : decode cX6_sortOrder 53 = .ok (.iinc 3 (-1), 3) := by decide +kernel
theorem dX6_sortOrder_56 : decode cX6_sortOrder 56 = .ok (.goto (-37), 3) := by decide +kernel
theorem dX6_sortOrder_59 : decode cX6_sortOrder 59 = .ok (.aload_n 0, 1) := by decide +kernel
theorem dX6_sortOrder_60 : decode cX6_sortOrder 60 = .ok (.getfield 24, 3) := by decide +kernel
theorem dX6_sortOrder_63 : decode cX6_sortOrder 63 = .ok (.iload_n 3, 1) := by decide +kernel
theorem dX6_sortOrder_64 : decode cX6_sortOrder 64 = .ok (.iload_n 2, 1) := by decide +kernel
theorem dX6_sortOrder_65 : decode cX6_sortOrder 65 = .ok (.iastore, 1) := by decide +kernel
theorem dX6_sortOrder_66 : decode cX6_sortOrder 66 = .ok (.iinc 1 1, 3) := by decide +kernel
theorem dX6_sortOrder_69 : decode cX6_sortOrder 69 = .ok (.goto (-67), 3) := by decide +kernel
theorem dX6_sortOrder_72 : decode cX6_sortOrder 72 = .ok (.iconst 0, 1) := by decide +kernel
theorem dX6_sortOrder_73 : decode cX6_sortOrder 73 = .ok (.istore_n 1, 1) := by decide +kernel
theorem dX6_sortOrder_74 : decode cX6_sortOrder 74 = .ok (.iload_n 1, 1) := by decide +kernel
theorem dX6_sortOrder_75 : decode cX6_sortOrder 75 = .ok (.aload_n 0, 1) := by decide +kernel
theorem dX6_sortOrder_76 : decode cX6_sortOrder 76 = .ok (.getfield 30, 3) := by decide +kernel
theorem dX6_sortOrder_79 : decode cX6_sortOrder 79 = .ok (.if_icmp .ge 21, 3) := by decide +kernel
theorem dX6_sortOrder_82 : decode cX6_sortOrder 82 = .ok (.aload_n 0, 1) := by decide +kernel
theorem dX6_sortOrder_83 : decode cX6_sortOrder 83 = .ok (.getfield 27, 3) := by decide +kernel
theorem dX6_sortOrder_86 : decode cX6_sortOrder 86 = .ok (.aload_n 0, 1) := by decide +kernel
theorem dX6_sortOrder_87 : decode cX6_sortOrder 87 = .ok (.getfield 24, 3) := by decide +kernel
theorem dX6_sortOrder_90 : decode cX6_sortOrder 90 = .ok (.iload_n 1, 1) := by decide +kernel
theorem dX6_sortOrder_91 : decode cX6_sortOrder 91 = .ok (.iaload, 1) := by decide +kernel
theorem dX6_sortOrder_92 : decode cX6_sortOrder 92 = .ok (.iload_n 1, 1) := by decide +kernel
theorem dX6_sortOrder_93 : decode cX6_sortOrder 93 = .ok (.iastore, 1) := by decide +kernel
theorem dX6_sortOrder_94 : decode cX6_sortOrder 94 = .ok (.iinc 1 1, 3) := by decide +kernel
theorem dX6_sortOrder_97 : decode cX6_sortOrder 97 = .ok (.goto (-23), 3) := by decide +kernel
theorem dX6_sortOrder_100 : decode cX6_sortOrder 100 = .ok (.return_, 1) := by decide +kernel
theorem dX6_isBefore_0 : decode cX6_isBefore 0 = .ok (.aload_n 0, 1) := by decide +kernel
theorem dX6_isBefore_1 : decode cX6_isBefore 1 = .ok (.getfield 9, 3) := by decide +kernel
theorem dX6_isBefore_4 : decode cX6_isBefore 4 = .ok (.iload_n 1, 1) := by decide +kernel
theorem dX6_isBefore_5 : decode cX6_isBefore 5 = .ok (.iaload, 1) := by decide +kernel
theorem dX6_isBefore_6 : decode cX6_isBefore 6 = .ok (.aload_n 0, 1) := by decide +kernel
theorem dX6_isBefore_7 : decode cX6_isBefore 7 = .ok (.getfield 9, 3) := by decide +kernel
theorem dX6_isBefore_10 : decode cX6_isBefore 10 = .ok (.iload_n 2, 1) := by decide +kernel
theorem dX6_isBefore_11 : decode cX6_isBefore 11 = .ok (.iaload, 1) := by decide +kernel
theorem dX6_isBefore_12 : decode cX6_isBefore 12 = .ok (.if_icmp .eq 24, 3) := by decide +kernel
theorem dX6_isBefore_15 : decode cX6_isBefore 15 = .ok (.aload_n 0, 1) := by decide +kernel
theorem dX6_isBefore_16 : decode cX6_isBefore 16 = .ok (.getfield 9, 3) := by decide +kernel
theorem dX6_isBefore_19 : decode cX6_isBefore 19 = .ok (.iload_n 1, 1) := by decide +kernel
theorem dX6_isBefore_20 : decode cX6_isBefore 20 = .ok (.iaload, 1) := by decide +kernel
theorem dX6_isBefore_21 : decode cX6_isBefore 21 = .ok (.aload_n 0, 1) := by decide +kernel
theorem dX6_isBefore_22 : decode cX6_isBefore 22 = .ok (.getfield 9, 3) := by decide +kernel
theorem dX6_isBefore_25 : decode cX6_isBefore 25 = .ok (.iload_n 2, 1) := by decide +kernel
theorem dX6_isBefore_26 : decode cX6_isBefore 26 = .ok (.iaload, 1) := by decide +kernel
theorem dX6_isBefore_27 : decode cX6_isBefore 27 = .ok (.if_icmp .ge 7, 3) := by decide +kernel
theorem dX6_isBefore_30 : decode cX6_isBefore 30 = .ok (.iconst 1, 1) := by decide +kernel
theorem dX6_isBefore_31 : decode cX6_isBefore 31 = .ok (.goto 4, 3) := by decide +kernel
theorem dX6_isBefore_34 : decode cX6_isBefore 34 = .ok (.iconst 0, 1) := by decide +kernel
theorem dX6_isBefore_35 : decode cX6_isBefore 35 = .ok (.ireturn, 1) := by decide +kernel
theorem dX6_isBefore_36 : decode cX6_isBefore 36 = .ok (.aload_n 0, 1) := by decide +kernel
theorem dX6_isBefore_37 : decode cX6_isBefore 37 = .ok (.getfield 18, 3) := by decide +kernel
theorem dX6_isBefore_40 : decode cX6_isBefore 40 = .ok (.iload_n 1, 1) := by decide +kernel
theorem dX6_isBefore_41 : decode cX6_isBefore 41 = .ok (.iaload, 1) := by decide +kernel
theorem dX6_isBefore_42 : decode cX6_isBefore 42 = .ok (.aload_n 0, 1) := by decide +kernel
theorem dX6_isBefore_43 : decode cX6_isBefore 43 = .ok (.getfield 18, 3) := by decide +kernel
theorem dX6_isBefore_46 : decode cX6_isBefore 46 = .ok (.iload_n 2, 1) := by decide +kernel
theorem dX6_isBefore_47 : decode cX6_isBefore 47 = .ok (.iaload, 1) := by decide +kernel
theorem dX6_isBefore_48 : decode cX6_isBefore 48 = .ok (.if_icmp .eq 26, 3) := by decide +kernel
theorem dX6_isBefore_51 : decode cX6_isBefore 51 = .ok (.aload_n 0, 1) := by decide +kernel
theorem dX6_isBefore_52 : decode cX6_isBefore 52 = .ok (.getfield 18, 3) := by decide +kernel
theorem dX6_isBefore_55 : decode cX6_isBefore 55 = .ok (.iload_n 1, 1) := by decide +kernel
theorem dX6_isBefore_56 : decode cX6_isBefore 56 = .ok (.iaload, 1) := by decide +kernel
theorem dX6_isBefore_57 : decode cX6_isBefore 57 = .ok (.aload_n 0, 1) := by decide +kernel
theorem dX6_isBefore_58 : decode cX6_isBefore 58 = .ok (.getfield 18, 3) := by decide +kernel
theorem dX6_isBefore_61 : decode cX6_isBefore 61 = .ok (.iload_n 2, 1) := by decide +kernel
theorem dX6_isBefore_62 : decode cX6_isBefore 62 = .ok (.iaload, 1) := by decide +kernel
theorem dX6_isBefore_63 : decode cX6_isBefore 63 = .ok (.if_icmp .le 7, 3) := by decide +kernel
theorem dX6_isBefore_66 : decode cX6_isBefore 66 = .ok (.iconst 1, 1) := by decide +kernel
theorem dX6_isBefore_67 : decode cX6_isBefore 67 = .ok (.goto 17, 3) := by decide +kernel
theorem dX6_isBefore_70 : decode cX6_isBefore 70 = .ok (.iconst 0, 1) := by decide +kernel
theorem dX6_isBefore_71 : decode cX6_isBefore 71 = .ok (.goto 13, 3) := by decide +kernel
theorem dX6_isBefore_74 : decode cX6_isBefore 74 = .ok (.iload_n 1, 1) := by decide +kernel
theorem dX6_isBefore_75 : decode cX6_isBefore 75 = .ok (.iload_n 2, 1) := by decide +kernel
theorem dX6_isBefore_76 : decode cX6_isBefore 76 = .ok (.if_icmp .ge 7, 3) := by decide +kernel
theorem dX6_isBefore_79 : decode cX6_isBefore 79 = .ok (.iconst 1, 1) := by decide +kernel
theorem dX6_isBefore_80 : decode cX6_isBefore 80 = .ok (.goto 4, 3) := by decide +kernel
theorem dX6_isBefore_83 : decode cX6_isBefore 83 = .ok (.iconst 0, 1) := by decide +kernel
theorem dX6_isBefore_84 : decode cX6_isBefore 84 = .ok (.ireturn, 1) := by decide +kernel
theorem dX6_together_0 : decode cX6_together 0 = .ok (.aload_n 0, 1) := by decide +kernel
theorem dX6_together_1 : decode cX6_together 1 = .ok (.getfield 9, 3) := by decide +kernel
theorem dX6_together_4 : decode cX6_together 4 = .ok (.iload_n 1, 1) := by decide +kernel
theorem dX6_together_5 : decode cX6_together 5 = .ok (.iaload, 1) := by decide +kernel
theorem dX6_together_6 : decode cX6_together 6 = .ok (.aload_n 0, 1) := by decide +kernel
theorem dX6_together_7 : decode cX6_together 7 = .ok (.getfield 15, 3) := by decide +kernel
theorem dX6_together_10 : decode cX6_together 10 = .ok (.iload_n 2, 1) := by decide +kernel
theorem dX6_together_11 : decode cX6_together 11 = .ok (.iaload, 1) := by decide +kernel
theorem dX6_together_12 : decode cX6_together 12 = .ok (.if_icmp .ge 22, 3) := by decide +kernel
theorem dX6_together_15 : decode cX6_together 15 = .ok (.aload_n 0, 1) := by decide +kernel
theorem dX6_together_16 : decode cX6_together 16 = .ok (.getfield 9, 3) := by decide +kernel
theorem dX6_together_19 : decode cX6_together 19 = .ok (.iload_n 2, 1) := by decide +kernel
theorem dX6_together_20 : decode cX6_together 20 = .ok (.iaload, 1) := by decide +kernel
theorem dX6_together_21 : decode cX6_together 21 = .ok (.aload_n 0, 1) := by decide +kernel
theorem dX6_together_22 : decode cX6_together 22 = .ok (.getfield 15, 3) := by decide +kernel
theorem dX6_together_25 : decode cX6_together 25 = .ok (.iload_n 1, 1) := by decide +kernel
theorem dX6_together_26 : decode cX6_together 26 = .ok (.iaload, 1) := by decide +kernel
theorem dX6_together_27 : decode cX6_together 27 = .ok (.if_icmp .ge 7, 3) := by decide +kernel
theorem dX6_together_30 : decode cX6_together 30 = .ok (.iconst 1, 1) := by decide +kernel
theorem dX6_together_31 : decode cX6_together 31 = .ok (.goto 4, 3) := by decide +kernel
theorem dX6_together_34 : decode cX6_together 34 = .ok (.iconst 0, 1) := by decide +kernel
theorem dX6_together_35 : decode cX6_together 35 = .ok (.ireturn, 1) := by decide +kernel
theorem dX6_following_0 : decode cX6_following 0 = .ok (.aload_n 0, 1) := by decide +kernel
theorem dX6_following_1 : decode cX6_following 1 = .ok (.getfield 21, 3) := by decide +kernel
theorem dX6_following_4 : decode cX6_following 4 = .ok (.iload_n 1, 1) := by decide +kernel
theorem dX6_following_5 : decode cX6_following 5 = .ok (.iaload, 1) := by decide +kernel
theorem dX6_following_6 : decode cX6_following 6 = .ok (.iconst (-1), 1) := by decide +kernel
theorem dX6_following_7 : decode cX6_following 7 = .ok (.if_icmp .ne 5, 3) := by decide +kernel
theorem dX6_following_10 : decode cX6_following 10 = .ok (.iconst (-1), 1) := by decide +kernel
theorem dX6_following_11 : decode cX6_following 11 = .ok (.ireturn, 1) := by decide +kernel
theorem dX6_following_12 : decode cX6_following 12 = .ok (.aload_n 0, 1) := by decide +kernel
theorem dX6_following_13 : decode cX6_following 13 = .ok (.getfield 27, 3) := by decide +kernel
theorem dX6_following_16 : decode cX6_following 16 = .ok (.iload_n 1, 1) := by decide +kernel
theorem dX6_following_17 : decode cX6_following 17 = .ok (.iaload, 1) := by decide +kernel
theorem dX6_following_18 : decode cX6_following 18 = .ok (.iconst 1, 1) := by decide +kernel
theorem dX6_following_19 : decode cX6_following 19 = .ok (.iadd, 1) := by decide +kernel
theorem dX6_following_20 : decode cX6_following 20 = .ok (.istore_n 2, 1) := by decide +kernel
theorem dX6_following_21 : decode cX6_following 21 = .ok (.iload_n 2, 1) := by decide +kernel
theorem dX6_following_22 : decode cX6_following 22 = .ok (.aload_n 0, 1) := by decide +kernel
theorem dX6_following_23 : decode cX6_following 23 = .ok (.getfield 30, 3) := by decide +kernel
theorem dX6_following_26 : decode cX6_following 26 = .ok (.if_icmp .ge 36, 3) := by decide +kernel
theorem dX6_following_29 : decode cX6_following 29 = .ok (.aload_n 0, 1) := by decide +kernel
theorem dX6_following_30 : decode cX6_following 30 = .ok (.getfield 21, 3) := by decide +kernel
theorem dX6_following_33 : decode cX6_following 33 = .ok (.aload_n 0, 1) := by decide +kernel
theorem dX6_following_34 : decode cX6_following 34 = .ok (.getfield 24, 3) := by decide +kernel
theorem dX6_following_37 : decode cX6_following 37 = .ok (.iload_n 2, 1) := by decide +kernel
theorem dX6_following_38 : decode cX6_following 38 = .ok (.iaload, 1) := by decide +kernel
theorem dX6_following_39 : decode cX6_following 39 = .ok (.iaload, 1) := by decide +kernel
theorem dX6_following_40 : decode cX6_following 40 = .ok (.aload_n 0, 1) := by decide +kernel
theorem dX6_following_41 : decode cX6_following 41 = .ok (.getfield 21, 3) := by decide +kernel
theorem dX6_following_44 : decode cX6_following 44 = .ok (.iload_n 1, 1) := by decide +kernel
theorem dX6_following_45 : decode cX6_following 45 = .ok (.iaload, 1) := by decide +kernel
theorem dX6_following_46 : decode cX6_following 46 = .ok (.if_icmp .ne 10, 3) := by decide +kernel
theorem dX6_following_49 : decode cX6_following 49 = .ok (.aload_n 0, 1) := by decide +kernel
theorem dX6_following_50 : decode cX6_following 50 = .ok (.getfield 24, 3) := by decide +kernel
theorem dX6_following_53 : decode cX6_following 53 = .ok (.iload_n 2, 1) := by decide +kernel
theorem dX6_following_54 : decode cX6_following 54 = .ok (.iaload, 1) := by decide +kernel
theorem dX6_following_55 : decode cX6_following 55 = .ok (.ireturn, 1) := by decide +kernel
theorem dX6_following_56 : decode cX6_following 56 = .ok (.iinc 2 1, 3) := by decide +kernel
theorem dX6_following_59 : decode cX6_following 59 = .ok (.goto (-38), 3) := by decide +kernel
theorem dX6_following_62 : decode cX6_following 62 = .ok (.iconst (-1), 1) := by decide +kernel
theorem dX6_following_63 : decode cX6_following 63 = .ok (.ireturn, 1) := by decide +kernel
set_option maxRecDepth 20000 in
theorem ggX6_clashes_X6_together : GoodIn wsX6_clashes wsX6_together := goodIn_r _ [7, 8, 9, 10, 11, 12, 13, 14, 15, 16] (by decide +kernel) (by decide +kernel)
set_option maxRecDepth 20000 in
theorem gX6_clashes_X6_together : GoodIn wsX6_clashes (wsV RX6 49 RX6 yX6_together wsX6_together) := goodIn_app (goodIn_of _ (by decide +kernel)) ggX6_clashes_X6_together
theorem dX6_clashes_0 : decode cX6_clashes 0 = .ok (.iconst 0, 1) := by decide +kernel
theorem dX6_clashes_1 : decode cX6_clashes 1 = .ok (.istore_n 2, 1) := by decide +kernel
theorem dX6_clashes_2 : decode cX6_clashes 2 = .ok (.iconst 0, 1) := by decide +kernel
theorem dX6_clashes_3 : decode cX6_clashes 3 = .ok (.istore_n 3, 1) := by decide +kernel
theorem dX6_clashes_4 : decode cX6_clashes 4 = .ok (.iload_n 3, 1) := by decide +kernel
theorem dX6_clashes_5 : decode cX6_clashes 5 = .ok (.aload_n 0, 1) := by decide +kernel
theorem dX6_clashes_6 : decode cX6_clashes 6 = .ok (.getfield 30, 3) := by decide +kernel
theorem dX6_clashes_9 : decode cX6_clashes 9 = .ok (.if_icmp .ge 51, 3) := by decide +kernel
theorem dX6_clashes_12 : decode cX6_clashes 12 = .ok (.aload_n 0, 1) := by decide +kernel
theorem dX6_clashes_13 : decode cX6_clashes 13 = .ok (.getfield 21, 3) := by decide +kernel
theorem dX6_clashes_16 : decode cX6_clashes 16 = .ok (.iload_n 1, 1) := by decide +kernel
theorem dX6_clashes_17 : decode cX6_clashes 17 = .ok (.iaload, 1) := by decide +kernel
theorem dX6_clashes_18 : decode cX6_clashes 18 = .ok (.iconst (-1), 1) := by decide +kernel
theorem dX6_clashes_19 : decode cX6_clashes 19 = .ok (.if_icmp .eq 41, 3) := by decide +kernel
theorem dX6_clashes_22 : decode cX6_clashes 22 = .ok (.iload_n 3, 1) := by decide +kernel
theorem dX6_clashes_23 : decode cX6_clashes 23 = .ok (.iload_n 1, 1) := by decide +kernel
theorem dX6_clashes_24 : decode cX6_clashes 24 = .ok (.if_icmp .eq 30, 3) := by decide +kernel
theorem dX6_clashes_27 : decode cX6_clashes 27 = .ok (.aload_n 0, 1) := by decide +kernel
theorem dX6_clashes_28 : decode cX6_clashes 28 = .ok (.getfield 21, 3) := by decide +kernel
theorem dX6_clashes_31 : decode cX6_clashes 31 = .ok (.iload_n 3, 1) := by decide +kernel
theorem dX6_clashes_32 : decode cX6_clashes 32 = .ok (.iaload, 1) := by decide +kernel
theorem dX6_clashes_33 : decode cX6_clashes 33 = .ok (.aload_n 0, 1) := by decide +kernel
theorem dX6_clashes_34 : decode cX6_clashes 34 = .ok (.getfield 21, 3) := by decide +kernel
theorem dX6_clashes_37 : decode cX6_clashes 37 = .ok (.iload_n 1, 1) := by decide +kernel
theorem dX6_clashes_38 : decode cX6_clashes 38 = .ok (.iaload, 1) := by decide +kernel
theorem dX6_clashes_39 : decode cX6_clashes 39 = .ok (.if_icmp .ne 15, 3) := by decide +kernel
theorem dX6_clashes_42 : decode cX6_clashes 42 = .ok (.aload_n 0, 1) := by decide +kernel
theorem dX6_clashes_43 : decode cX6_clashes 43 = .ok (.iload_n 1, 1) := by decide +kernel
theorem dX6_clashes_44 : decode cX6_clashes 44 = .ok (.iload_n 3, 1) := by decide +kernel
theorem dX6_clashes_45 : decode cX6_clashes 45 = .ok (.invokevirtual 49, 3) := by decide +kernel
theorem dX6_clashes_48 : decode cX6_clashes 48 = .ok (.ifCond .eq 6, 3) := by decide +kernel
theorem dX6_clashes_51 : decode cX6_clashes 51 = .ok (.iinc 2 1, 3) := by decide +kernel
theorem dX6_clashes_54 : decode cX6_clashes 54 = .ok (.iinc 3 1, 3) := by decide +kernel
theorem dX6_clashes_57 : decode cX6_clashes 57 = .ok (.goto (-53), 3) := by decide +kernel
theorem dX6_clashes_60 : decode cX6_clashes 60 = .ok (.iload_n 2, 1) := by decide +kernel
theorem dX6_clashes_61 : decode cX6_clashes 61 = .ok (.ireturn, 1) := by decide +kernel
set_option maxRecDepth 20000 in
theorem ggX6_isWhole_X6_following : GoodIn wsX6_isWhole wsX6_following := goodIn_r _ [7, 2, 8, 1, 9, 16, 17, 18, 19, 20, 21, 22] (by decide +kernel) (by decide +kernel)
set_option maxRecDepth 20000 in
theorem gX6_isWhole_X6_following : GoodIn wsX6_isWhole (wsV RX6 52 RX6 yX6_following wsX6_following) := goodIn_app (goodIn_of _ (by decide +kernel)) ggX6_isWhole_X6_following
set_option maxRecDepth 20000 in
theorem ggX6_isWhole_X6_together : GoodIn wsX6_isWhole wsX6_together := goodIn_r _ [13, 14, 15, 16, 17, 18, 19, 20, 21, 22] (by decide +kernel) (by decide +kernel)
set_option maxRecDepth 20000 in
theorem gX6_isWhole_X6_together : GoodIn wsX6_isWhole (wsV RX6 49 RX6 yX6_together wsX6_together) := goodIn_app (goodIn_of _ (by decide +kernel)) ggX6_isWhole_X6_together
theorem dX6_isWhole_0 : decode cX6_isWhole 0 = .ok (.iconst 0, 1) := by decide +kernel
theorem dX6_isWhole_1 : decode cX6_isWhole 1 = .ok (.istore_n 1, 1) := by decide +kernel
theorem dX6_isWhole_2 : decode cX6_isWhole 2 = .ok (.iload_n 1, 1) := by decide +kernel
theorem dX6_isWhole_3 : decode cX6_isWhole 3 = .ok (.aload_n 0, 1) := by decide +kernel
theorem dX6_isWhole_4 : decode cX6_isWhole 4 = .ok (.getfield 30, 3) := by decide +kernel
theorem dX6_isWhole_7 : decode cX6_isWhole 7 = .ok (.if_icmp .ge 41, 3) := by decide +kernel
theorem dX6_isWhole_10 : decode cX6_isWhole 10 = .ok (.aload_n 0, 1) := by decide +kernel
theorem dX6_isWhole_11 : decode cX6_isWhole 11 = .ok (.iload_n 1, 1) := by decide +kernel
theorem dX6_isWhole_12 : decode cX6_isWhole 12 = .ok (.invokevirtual 52, 3) := by decide +kernel
theorem dX6_isWhole_15 : decode cX6_isWhole 15 = .ok (.istore_n 2, 1) := by decide +kernel
theorem dX6_isWhole_16 : decode cX6_isWhole 16 = .ok (.aload_n 0, 1) := by decide +kernel
theorem dX6_isWhole_17 : decode cX6_isWhole 17 = .ok (.getfield 21, 3) := by decide +kernel
theorem dX6_isWhole_20 : decode cX6_isWhole 20 = .ok (.iload_n 1, 1) := by decide +kernel
theorem dX6_isWhole_21 : decode cX6_isWhole 21 = .ok (.iaload, 1) := by decide +kernel
theorem dX6_isWhole_22 : decode cX6_isWhole 22 = .ok (.iconst (-1), 1) := by decide +kernel
theorem dX6_isWhole_23 : decode cX6_isWhole 23 = .ok (.if_icmp .eq 17, 3) := by decide +kernel
theorem dX6_isWhole_26 : decode cX6_isWhole 26 = .ok (.iload_n 2, 1) := by decide +kernel
theorem dX6_isWhole_27 : decode cX6_isWhole 27 = .ok (.iconst (-1), 1) := by decide +kernel
theorem dX6_isWhole_28 : decode cX6_isWhole 28 = .ok (.if_icmp .eq 14, 3) := by decide +kernel
theorem dX6_isWhole_31 : decode cX6_isWhole 31 = .ok (.aload_n 0, 1) := by decide +kernel
theorem dX6_isWhole_32 : decode cX6_isWhole 32 = .ok (.iload_n 1, 1) := by decide +kernel
theorem dX6_isWhole_33 : decode cX6_isWhole 33 = .ok (.iload_n 2, 1) := by decide +kernel
theorem dX6_isWhole_34 : decode cX6_isWhole 34 = .ok (.invokevirtual 49, 3) := by decide +kernel
theorem dX6_isWhole_37 : decode cX6_isWhole 37 = .ok (.ifCond .eq 5, 3) := by decide +kernel
theorem dX6_isWhole_40 : decode cX6_isWhole 40 = .ok (.iconst 0, 1) := by decide +kernel
theorem dX6_isWhole_41 : decode cX6_isWhole 41 = .ok (.ireturn, 1) := by decide +kernel
theorem dX6_isWhole_42 : decode cX6_isWhole 42 = .ok (.iinc 1 1, 3) := by decide +kernel
theorem dX6_isWhole_45 : decode cX6_isWhole 45 = .ok (.goto (-43), 3) := by decide +kernel
theorem dX6_isWhole_48 : decode cX6_isWhole 48 = .ok (.iconst 1, 1) := by decide +kernel
theorem dX6_isWhole_49 : decode cX6_isWhole 49 = .ok (.ireturn, 1) := by decide +kernel
theorem dX6_soundingAt_0 : decode cX6_soundingAt 0 = .ok (.iconst 0, 1) := by decide +kernel
theorem dX6_soundingAt_1 : decode cX6_soundingAt 1 = .ok (.istore_n 2, 1) := by decide +kernel
theorem dX6_soundingAt_2 : decode cX6_soundingAt 2 = .ok (.iconst 0, 1) := by decide +kernel
theorem dX6_soundingAt_3 : decode cX6_soundingAt 3 = .ok (.istore_n 3, 1) := by decide +kernel
theorem dX6_soundingAt_4 : decode cX6_soundingAt 4 = .ok (.iload_n 3, 1) := by decide +kernel
theorem dX6_soundingAt_5 : decode cX6_soundingAt 5 = .ok (.aload_n 0, 1) := by decide +kernel
theorem dX6_soundingAt_6 : decode cX6_soundingAt 6 = .ok (.getfield 30, 3) := by decide +kernel
theorem dX6_soundingAt_9 : decode cX6_soundingAt 9 = .ok (.if_icmp .ge 32, 3) := by decide +kernel
theorem dX6_soundingAt_12 : decode cX6_soundingAt 12 = .ok (.aload_n 0, 1) := by decide +kernel
theorem dX6_soundingAt_13 : decode cX6_soundingAt 13 = .ok (.getfield 9, 3) := by decide +kernel
theorem dX6_soundingAt_16 : decode cX6_soundingAt 16 = .ok (.iload_n 3, 1) := by decide +kernel
theorem dX6_soundingAt_17 : decode cX6_soundingAt 17 = .ok (.iaload, 1) := by decide +kernel
theorem dX6_soundingAt_18 : decode cX6_soundingAt 18 = .ok (.iload_n 1, 1) := by decide +kernel
theorem dX6_soundingAt_19 : decode cX6_soundingAt 19 = .ok (.if_icmp .gt 16, 3) := by decide +kernel
theorem dX6_soundingAt_22 : decode cX6_soundingAt 22 = .ok (.iload_n 1, 1) := by decide +kernel
theorem dX6_soundingAt_23 : decode cX6_soundingAt 23 = .ok (.aload_n 0, 1) := by decide +kernel
theorem dX6_soundingAt_24 : decode cX6_soundingAt 24 = .ok (.getfield 15, 3) := by decide +kernel
theorem dX6_soundingAt_27 : decode cX6_soundingAt 27 = .ok (.iload_n 3, 1) := by decide +kernel
theorem dX6_soundingAt_28 : decode cX6_soundingAt 28 = .ok (.iaload, 1) := by decide +kernel
theorem dX6_soundingAt_29 : decode cX6_soundingAt 29 = .ok (.if_icmp .ge 6, 3) := by decide +kernel
theorem dX6_soundingAt_32 : decode cX6_soundingAt 32 = .ok (.iinc 2 1, 3) := by decide +kernel
theorem dX6_soundingAt_35 : decode cX6_soundingAt 35 = .ok (.iinc 3 1, 3) := by decide +kernel
theorem dX6_soundingAt_38 : decode cX6_soundingAt 38 = .ok (.goto (-34), 3) := by decide +kernel
theorem dX6_soundingAt_41 : decode cX6_soundingAt 41 = .ok (.iload_n 2, 1) := by decide +kernel
theorem dX6_soundingAt_42 : decode cX6_soundingAt 42 = .ok (.ireturn, 1) := by decide +kernel
set_option maxRecDepth 20000 in
theorem ggX6_thickest_X6_soundingAt : GoodIn wsX6_thickest wsX6_soundingAt := goodIn_r _ [11, 1, 2, 12, 13, 14, 15, 16, 17, 18, 19] (by decide +kernel) (by decide +kernel)
set_option maxRecDepth 20000 in
theorem gX6_thickest_X6_soundingAt : GoodIn wsX6_thickest (wsV RX6 56 RX6 yX6_soundingAt wsX6_soundingAt) := goodIn_app (goodIn_of _ (by decide +kernel)) ggX6_thickest_X6_soundingAt
theorem dX6_thickest_0 : decode cX6_thickest 0 = .ok (.iconst 0, 1) := by decide +kernel
theorem dX6_thickest_1 : decode cX6_thickest 1 = .ok (.istore_n 1, 1) := by decide +kernel
theorem dX6_thickest_2 : decode cX6_thickest 2 = .ok (.iconst 0, 1) := by decide +kernel
theorem dX6_thickest_3 : decode cX6_thickest 3 = .ok (.istore_n 2, 1) := by decide +kernel
theorem dX6_thickest_4 : decode cX6_thickest 4 = .ok (.iload_n 2, 1) := by decide +kernel
theorem dX6_thickest_5 : decode cX6_thickest 5 = .ok (.aload_n 0, 1) := by decide +kernel
theorem dX6_thickest_6 : decode cX6_thickest 6 = .ok (.getfield 30, 3) := by decide +kernel
theorem dX6_thickest_9 : decode cX6_thickest 9 = .ok (.if_icmp .ge 24, 3) := by decide +kernel
theorem dX6_thickest_12 : decode cX6_thickest 12 = .ok (.iload_n 1, 1) := by decide +kernel
theorem dX6_thickest_13 : decode cX6_thickest 13 = .ok (.aload_n 0, 1) := by decide +kernel
theorem dX6_thickest_14 : decode cX6_thickest 14 = .ok (.aload_n 0, 1) := by decide +kernel
theorem dX6_thickest_15 : decode cX6_thickest 15 = .ok (.getfield 9, 3) := by decide +kernel
theorem dX6_thickest_18 : decode cX6_thickest 18 = .ok (.iload_n 2, 1) := by decide +kernel
theorem dX6_thickest_19 : decode cX6_thickest 19 = .ok (.iaload, 1) := by decide +kernel
theorem dX6_thickest_20 : decode cX6_thickest 20 = .ok (.invokevirtual 56, 3) := by decide +kernel
theorem dX6_thickest_23 : decode cX6_thickest 23 = .ok (.invokestatic 59, 3) := by decide +kernel
theorem dX6_thickest_26 : decode cX6_thickest 26 = .ok (.istore_n 1, 1) := by decide +kernel
theorem dX6_thickest_27 : decode cX6_thickest 27 = .ok (.iinc 2 1, 3) := by decide +kernel
theorem dX6_thickest_30 : decode cX6_thickest 30 = .ok (.goto (-26), 3) := by decide +kernel
theorem dX6_thickest_33 : decode cX6_thickest 33 = .ok (.iload_n 1, 1) := by decide +kernel
theorem dX6_thickest_34 : decode cX6_thickest 34 = .ok (.ireturn, 1) := by decide +kernel
theorem dX6_theEnd_0 : decode cX6_theEnd 0 = .ok (.iconst 0, 1) := by decide +kernel
theorem dX6_theEnd_1 : decode cX6_theEnd 1 = .ok (.istore_n 1, 1) := by decide +kernel
theorem dX6_theEnd_2 : decode cX6_theEnd 2 = .ok (.iconst 0, 1) := by decide +kernel
theorem dX6_theEnd_3 : decode cX6_theEnd 3 = .ok (.istore_n 2, 1) := by decide +kernel
theorem dX6_theEnd_4 : decode cX6_theEnd 4 = .ok (.iload_n 2, 1) := by decide +kernel
theorem dX6_theEnd_5 : decode cX6_theEnd 5 = .ok (.aload_n 0, 1) := by decide +kernel
theorem dX6_theEnd_6 : decode cX6_theEnd 6 = .ok (.getfield 30, 3) := by decide +kernel
theorem dX6_theEnd_9 : decode cX6_theEnd 9 = .ok (.if_icmp .ge 20, 3) := by decide +kernel
theorem dX6_theEnd_12 : decode cX6_theEnd 12 = .ok (.iload_n 1, 1) := by decide +kernel
theorem dX6_theEnd_13 : decode cX6_theEnd 13 = .ok (.aload_n 0, 1) := by decide +kernel
theorem dX6_theEnd_14 : decode cX6_theEnd 14 = .ok (.getfield 15, 3) := by decide +kernel
theorem dX6_theEnd_17 : decode cX6_theEnd 17 = .ok (.iload_n 2, 1) := by decide +kernel
theorem dX6_theEnd_18 : decode cX6_theEnd 18 = .ok (.iaload, 1) := by decide +kernel
theorem dX6_theEnd_19 : decode cX6_theEnd 19 = .ok (.invokestatic 59, 3) := by decide +kernel
theorem dX6_theEnd_22 : decode cX6_theEnd 22 = .ok (.istore_n 1, 1) := by decide +kernel
theorem dX6_theEnd_23 : decode cX6_theEnd 23 = .ok (.iinc 2 1, 3) := by decide +kernel
theorem dX6_theEnd_26 : decode cX6_theEnd 26 = .ok (.goto (-22), 3) := by decide +kernel
theorem dX6_theEnd_29 : decode cX6_theEnd 29 = .ok (.iload_n 1, 1) := by decide +kernel
theorem dX6_theEnd_30 : decode cX6_theEnd 30 = .ok (.ireturn, 1) := by decide +kernel
theorem dX6_notesIn_0 : decode cX6_notesIn 0 = .ok (.iconst 0, 1) := by decide +kernel
theorem dX6_notesIn_1 : decode cX6_notesIn 1 = .ok (.istore_n 2, 1) := by decide +kernel
theorem dX6_notesIn_2 : decode cX6_notesIn 2 = .ok (.iconst 0, 1) := by decide +kernel
theorem dX6_notesIn_3 : decode cX6_notesIn 3 = .ok (.istore_n 3, 1) := by decide +kernel
theorem dX6_notesIn_4 : decode cX6_notesIn 4 = .ok (.iload_n 3, 1) := by decide +kernel
theorem dX6_notesIn_5 : decode cX6_notesIn 5 = .ok (.aload_n 0, 1) := by decide +kernel
theorem dX6_notesIn_6 : decode cX6_notesIn 6 = .ok (.getfield 30, 3) := by decide +kernel
theorem dX6_notesIn_9 : decode cX6_notesIn 9 = .ok (.if_icmp .ge 22, 3) := by decide +kernel
theorem dX6_notesIn_12 : decode cX6_notesIn 12 = .ok (.aload_n 0, 1) := by decide +kernel
theorem dX6_notesIn_13 : decode cX6_notesIn 13 = .ok (.getfield 21, 3) := by decide +kernel
theorem dX6_notesIn_16 : decode cX6_notesIn 16 = .ok (.iload_n 3, 1) := by decide +kernel
theorem dX6_notesIn_17 : decode cX6_notesIn 17 = .ok (.iaload, 1) := by decide +kernel
theorem dX6_notesIn_18 : decode cX6_notesIn 18 = .ok (.iload_n 1, 1) := by decide +kernel
theorem dX6_notesIn_19 : decode cX6_notesIn 19 = .ok (.if_icmp .ne 6, 3) := by decide +kernel
theorem dX6_notesIn_22 : decode cX6_notesIn 22 = .ok (.iinc 2 1, 3) := by decide +kernel
theorem dX6_notesIn_25 : decode cX6_notesIn 25 = .ok (.iinc 3 1, 3) := by decide +kernel
theorem dX6_notesIn_28 : decode cX6_notesIn 28 = .ok (.goto (-24), 3) := by decide +kernel
theorem dX6_notesIn_31 : decode cX6_notesIn 31 = .ok (.iload_n 2, 1) := by decide +kernel
theorem dX6_notesIn_32 : decode cX6_notesIn 32 = .ok (.ireturn, 1) := by decide +kernel
set_option maxRecDepth 20000 in
theorem ggX6_voicesUsed_X6_notesIn : GoodIn wsX6_voicesUsed wsX6_notesIn := goodIn_r _ [5, 6, 7, 8, 9, 10, 11, 12, 13, 14] (by decide +kernel) (by decide +kernel)
set_option maxRecDepth 20000 in
theorem gX6_voicesUsed_X6_notesIn : GoodIn wsX6_voicesUsed (wsV RX6 65 RX6 yX6_notesIn wsX6_notesIn) := goodIn_app (goodIn_of _ (by decide +kernel)) ggX6_voicesUsed_X6_notesIn
theorem dX6_voicesUsed_0 : decode cX6_voicesUsed 0 = .ok (.iconst 0, 1) := by decide +kernel
theorem dX6_voicesUsed_1 : decode cX6_voicesUsed 1 = .ok (.istore_n 1, 1) := by decide +kernel
theorem dX6_voicesUsed_2 : decode cX6_voicesUsed 2 = .ok (.iconst 0, 1) := by decide +kernel
theorem dX6_voicesUsed_3 : decode cX6_voicesUsed 3 = .ok (.istore_n 2, 1) := by decide +kernel
theorem dX6_voicesUsed_4 : decode cX6_voicesUsed 4 = .ok (.iload_n 2, 1) := by decide +kernel
theorem dX6_voicesUsed_5 : decode cX6_voicesUsed 5 = .ok (.iconst 4, 1) := by decide +kernel
theorem dX6_voicesUsed_6 : decode cX6_voicesUsed 6 = .ok (.if_icmp .ge 20, 3) := by decide +kernel
theorem dX6_voicesUsed_9 : decode cX6_voicesUsed 9 = .ok (.aload_n 0, 1) := by decide +kernel
theorem dX6_voicesUsed_10 : decode cX6_voicesUsed 10 = .ok (.iload_n 2, 1) := by decide +kernel
theorem dX6_voicesUsed_11 : decode cX6_voicesUsed 11 = .ok (.invokevirtual 65, 3) := by decide +kernel
theorem dX6_voicesUsed_14 : decode cX6_voicesUsed 14 = .ok (.ifCond .le 6, 3) := by decide +kernel
theorem dX6_voicesUsed_17 : decode cX6_voicesUsed 17 = .ok (.iinc 1 1, 3) := by decide +kernel
theorem dX6_voicesUsed_20 : decode cX6_voicesUsed 20 = .ok (.iinc 2 1, 3) := by decide +kernel
theorem dX6_voicesUsed_23 : decode cX6_voicesUsed 23 = .ok (.goto (-19), 3) := by decide +kernel
theorem dX6_voicesUsed_26 : decode cX6_voicesUsed 26 = .ok (.iload_n 1, 1) := by decide +kernel
theorem dX6_voicesUsed_27 : decode cX6_voicesUsed 27 = .ok (.ireturn, 1) := by decide +kernel
theorem dX6_lowestIn_0 : decode cX6_lowestIn 0 = .ok (.iconst (-1), 1) := by decide +kernel
theorem dX6_lowestIn_1 : decode cX6_lowestIn 1 = .ok (.istore_n 2, 1) := by decide +kernel
theorem dX6_lowestIn_2 : decode cX6_lowestIn 2 = .ok (.iconst 0, 1) := by decide +kernel
theorem dX6_lowestIn_3 : decode cX6_lowestIn 3 = .ok (.istore_n 3, 1) := by decide +kernel
theorem dX6_lowestIn_4 : decode cX6_lowestIn 4 = .ok (.iload_n 3, 1) := by decide +kernel
theorem dX6_lowestIn_5 : decode cX6_lowestIn 5 = .ok (.aload_n 0, 1) := by decide +kernel
theorem dX6_lowestIn_6 : decode cX6_lowestIn 6 = .ok (.getfield 30, 3) := by decide +kernel
theorem dX6_lowestIn_9 : decode cX6_lowestIn 9 = .ok (.if_icmp .ge 41, 3) := by decide +kernel
theorem dX6_lowestIn_12 : decode cX6_lowestIn 12 = .ok (.aload_n 0, 1) := by decide +kernel
theorem dX6_lowestIn_13 : decode cX6_lowestIn 13 = .ok (.getfield 21, 3) := by decide +kernel
theorem dX6_lowestIn_16 : decode cX6_lowestIn 16 = .ok (.iload_n 3, 1) := by decide +kernel
theorem dX6_lowestIn_17 : decode cX6_lowestIn 17 = .ok (.iaload, 1) := by decide +kernel
theorem dX6_lowestIn_18 : decode cX6_lowestIn 18 = .ok (.iload_n 1, 1) := by decide +kernel
theorem dX6_lowestIn_19 : decode cX6_lowestIn 19 = .ok (.if_icmp .ne 25, 3) := by decide +kernel
theorem dX6_lowestIn_22 : decode cX6_lowestIn 22 = .ok (.iload_n 2, 1) := by decide +kernel
theorem dX6_lowestIn_23 : decode cX6_lowestIn 23 = .ok (.iconst (-1), 1) := by decide +kernel
theorem dX6_lowestIn_24 : decode cX6_lowestIn 24 = .ok (.if_icmp .eq 13, 3) := by decide +kernel
theorem dX6_lowestIn_27 : decode cX6_lowestIn 27 = .ok (.aload_n 0, 1) := by decide +kernel
theorem dX6_lowestIn_28 : decode cX6_lowestIn 28 = .ok (.getfield 18, 3) := by decide +kernel
theorem dX6_lowestIn_31 : decode cX6_lowestIn 31 = .ok (.iload_n 3, 1) := by decide +kernel
theorem dX6_lowestIn_32 : decode cX6_lowestIn 32 = .ok (.iaload, 1) := by decide +kernel
theorem dX6_lowestIn_33 : decode cX6_lowestIn 33 = .ok (.iload_n 2, 1) := by decide +kernel
theorem dX6_lowestIn_34 : decode cX6_lowestIn 34 = .ok (.if_icmp .ge 10, 3) := by decide +kernel
theorem dX6_lowestIn_37 : decode cX6_lowestIn 37 = .ok (.aload_n 0, 1) := by decide +kernel
theorem dX6_lowestIn_38 : decode cX6_lowestIn 38 = .ok (.getfield 18, 3) := by decide +kernel
theorem dX6_lowestIn_41 : decode cX6_lowestIn 41 = .ok (.iload_n 3, 1) := by decide +kernel
theorem dX6_lowestIn_42 : decode cX6_lowestIn 42 = .ok (.iaload, 1) := by decide +kernel
theorem dX6_lowestIn_43 : decode cX6_lowestIn 43 = .ok (.istore_n 2, 1) := by decide +kernel
theorem dX6_lowestIn_44 : decode cX6_lowestIn 44 = .ok (.iinc 3 1, 3) := by decide +kernel
theorem dX6_lowestIn_47 : decode cX6_lowestIn 47 = .ok (.goto (-43), 3) := by decide +kernel
theorem dX6_lowestIn_50 : decode cX6_lowestIn 50 = .ok (.iload_n 2, 1) := by decide +kernel
theorem dX6_lowestIn_51 : decode cX6_lowestIn 51 = .ok (.ireturn, 1) := by decide +kernel
theorem dX6_highestIn_0 : decode cX6_highestIn 0 = .ok (.iconst (-1), 1) := by decide +kernel
theorem dX6_highestIn_1 : decode cX6_highestIn 1 = .ok (.istore_n 2, 1) := by decide +kernel
theorem dX6_highestIn_2 : decode cX6_highestIn 2 = .ok (.iconst 0, 1) := by decide +kernel
theorem dX6_highestIn_3 : decode cX6_highestIn 3 = .ok (.istore_n 3, 1) := by decide +kernel
theorem dX6_highestIn_4 : decode cX6_highestIn 4 = .ok (.iload_n 3, 1) := by decide +kernel
theorem dX6_highestIn_5 : decode cX6_highestIn 5 = .ok (.aload_n 0, 1) := by decide +kernel
theorem dX6_highestIn_6 : decode cX6_highestIn 6 = .ok (.getfield 30, 3) := by decide +kernel
theorem dX6_highestIn_9 : decode cX6_highestIn 9 = .ok (.if_icmp .ge 30, 3) := by decide +kernel
theorem dX6_highestIn_12 : decode cX6_highestIn 12 = .ok (.aload_n 0, 1) := by decide +kernel
theorem dX6_highestIn_13 : decode cX6_highestIn 13 = .ok (.getfield 21, 3) := by decide +kernel
theorem dX6_highestIn_16 : decode cX6_highestIn 16 = .ok (.iload_n 3, 1) := by decide +kernel
theorem dX6_highestIn_17 : decode cX6_highestIn 17 = .ok (.iaload, 1) := by decide +kernel
theorem dX6_highestIn_18 : decode cX6_highestIn 18 = .ok (.iload_n 1, 1) := by decide +kernel
theorem dX6_highestIn_19 : decode cX6_highestIn 19 = .ok (.if_icmp .ne 14, 3) := by decide +kernel
theorem dX6_highestIn_22 : decode cX6_highestIn 22 = .ok (.iload_n 2, 1) := by decide +kernel
theorem dX6_highestIn_23 : decode cX6_highestIn 23 = .ok (.aload_n 0, 1) := by decide +kernel
theorem dX6_highestIn_24 : decode cX6_highestIn 24 = .ok (.getfield 18, 3) := by decide +kernel
theorem dX6_highestIn_27 : decode cX6_highestIn 27 = .ok (.iload_n 3, 1) := by decide +kernel
theorem dX6_highestIn_28 : decode cX6_highestIn 28 = .ok (.iaload, 1) := by decide +kernel
theorem dX6_highestIn_29 : decode cX6_highestIn 29 = .ok (.invokestatic 59, 3) := by decide +kernel
theorem dX6_highestIn_32 : decode cX6_highestIn 32 = .ok (.istore_n 2, 1) := by decide +kernel
theorem dX6_highestIn_33 : decode cX6_highestIn 33 = .ok (.iinc 3 1, 3) := by decide +kernel
theorem dX6_highestIn_36 : decode cX6_highestIn 36 = .ok (.goto (-32), 3) := by decide +kernel
theorem dX6_highestIn_39 : decode cX6_highestIn 39 = .ok (.iload_n 2, 1) := by decide +kernel
theorem dX6_highestIn_40 : decode cX6_highestIn 40 = .ok (.ireturn, 1) := by decide +kernel
set_option maxRecDepth 20000 in
theorem ggX7_init_X6_init : GoodIn wsX7_init wsX6_init := goodIn_r _ [40, 41, 2, 3, 42, 43, 44, 45, 46, 47, 48, 90, 91, 92, 93, 94, 95, 96] (by decide +kernel) (by decide +kernel)
set_option maxRecDepth 20000 in
theorem gX7_init_X6_init_n9 : GoodIn wsX7_init (wsX6_init) := ggX7_init_X6_init
set_option maxRecDepth 20000 in
theorem ggX7_init_X5_init : GoodIn wsX7_init wsX5_init := goodIn_r _ [51, 52, 2, 3, 42, 53, 54, 55, 104, 105, 106, 107] (by decide +kernel) (by decide +kernel)
set_option maxRecDepth 20000 in
theorem gX7_init_X5_init : GoodIn wsX7_init (wsX5_init) := ggX7_init_X5_init
set_option maxRecDepth 20000 in
theorem ggX7_init_X4_init : GoodIn wsX7_init wsX4_init := goodIn_r _ [58, 59, 2, 3, 60, 108, 109, 110] (by decide +kernel) (by decide +kernel)
set_option maxRecDepth 20000 in
theorem gX7_init_X4_init : GoodIn wsX7_init (wsX4_init) := ggX7_init_X4_init
set_option maxRecDepth 20000 in
theorem ggX7_init_X0_init : GoodIn wsX7_init wsX0_init := goodIn_r _ [63, 64, 2, 3, 65, 66, 67, 111, 112, 113] (by decide +kernel) (by decide +kernel)
set_option maxRecDepth 20000 in
theorem gX7_init_X0_init : GoodIn wsX7_init (wsX0_init) := ggX7_init_X0_init
set_option maxRecDepth 20000 in
theorem ggX7_init_X3_init : GoodIn wsX7_init wsX3_init := goodIn_r _ [70, 71, 2, 3, 42, 72, 73, 74, 114, 115, 116] (by decide +kernel) (by decide +kernel)
set_option maxRecDepth 20000 in
theorem gX7_init_X3_init : GoodIn wsX7_init (wsX3_init) := ggX7_init_X3_init
set_option maxRecDepth 20000 in
theorem ggX7_init_X1_init : GoodIn wsX7_init wsX1_init := goodIn_r _ [77, 78, 2, 3, 42, 79, 80, 81, 82, 117, 118, 119, 120, 121] (by decide +kernel) (by decide +kernel)
set_option maxRecDepth 20000 in
theorem gX7_init_X1_init : GoodIn wsX7_init (wsX1_init) := ggX7_init_X1_init
set_option maxRecDepth 20000 in
theorem ggX7_init_X2_init : GoodIn wsX7_init wsX2_init := goodIn_r _ [85, 86, 2, 3, 42, 87, 88, 89, 122, 123, 124] (by decide +kernel) (by decide +kernel)
set_option maxRecDepth 20000 in
theorem gX7_init_X2_init : GoodIn wsX7_init (wsX2_init) := ggX7_init_X2_init
theorem dX7_init_0 : decode cX7_init 0 = .ok (.aload_n 0, 1) := by decide +kernel
theorem dX7_init_1 : decode cX7_init 1 = .ok (.invokespecial 1, 3) := by decide +kernel
theorem dX7_init_4 : decode cX7_init 4 = .ok (.aload_n 0, 1) := by decide +kernel
theorem dX7_init_5 : decode cX7_init 5 = .ok (.new 7, 3) := by decide +kernel
theorem dX7_init_8 : decode cX7_init 8 = .ok (.dup, 1) := by decide +kernel
theorem dX7_init_9 : decode cX7_init 9 = .ok (.invokespecial 9, 3) := by decide +kernel
theorem dX7_init_12 : decode cX7_init 12 = .ok (.putfield 10, 3) := by decide +kernel
theorem dX7_init_15 : decode cX7_init 15 = .ok (.aload_n 0, 1) := by decide +kernel
theorem dX7_init_16 : decode cX7_init 16 = .ok (.getstatic 16, 3) := by decide +kernel
theorem dX7_init_19 : decode cX7_init 19 = .ok (.invokevirtual 20, 3) := by decide +kernel
theorem dX7_init_22 : decode cX7_init 22 = .ok (.checkcast 21, 3) := by decide +kernel
theorem dX7_init_25 : decode cX7_init 25 = .ok (.putfield 25, 3) := by decide +kernel
theorem dX7_init_28 : decode cX7_init 28 = .ok (.aload_n 0, 1) := by decide +kernel
theorem dX7_init_29 : decode cX7_init 29 = .ok (.new 28, 3) := by decide +kernel
theorem dX7_init_32 : decode cX7_init 32 = .ok (.dup, 1) := by decide +kernel
theorem dX7_init_33 : decode cX7_init 33 = .ok (.aload_n 0, 1) := by decide +kernel
theorem dX7_init_34 : decode cX7_init 34 = .ok (.getfield 10, 3) := by decide +kernel
theorem dX7_init_37 : decode cX7_init 37 = .ok (.invokespecial 30, 3) := by decide +kernel
theorem dX7_init_40 : decode cX7_init 40 = .ok (.putfield 33, 3) := by decide +kernel
theorem dX7_init_43 : decode cX7_init 43 = .ok (.aload_n 0, 1) := by decide +kernel
theorem dX7_init_44 : decode cX7_init 44 = .ok (.new 37, 3) := by decide +kernel
theorem dX7_init_47 : decode cX7_init 47 = .ok (.dup, 1) := by decide +kernel
theorem dX7_init_48 : decode cX7_init 48 = .ok (.aload_n 0, 1) := by decide +kernel
theorem dX7_init_49 : decode cX7_init 49 = .ok (.getfield 10, 3) := by decide +kernel
theorem dX7_init_52 : decode cX7_init 52 = .ok (.invokespecial 39, 3) := by decide +kernel
theorem dX7_init_55 : decode cX7_init 55 = .ok (.putfield 40, 3) := by decide +kernel
theorem dX7_init_58 : decode cX7_init 58 = .ok (.aload_n 0, 1) := by decide +kernel
theorem dX7_init_59 : decode cX7_init 59 = .ok (.new 44, 3) := by decide +kernel
theorem dX7_init_62 : decode cX7_init 62 = .ok (.dup, 1) := by decide +kernel
theorem dX7_init_63 : decode cX7_init 63 = .ok (.aload_n 0, 1) := by decide +kernel
theorem dX7_init_64 : decode cX7_init 64 = .ok (.getfield 10, 3) := by decide +kernel
theorem dX7_init_67 : decode cX7_init 67 = .ok (.aload_n 0, 1) := by decide +kernel
theorem dX7_init_68 : decode cX7_init 68 = .ok (.getfield 25, 3) := by decide +kernel
theorem dX7_init_71 : decode cX7_init 71 = .ok (.aload_n 0, 1) := by decide +kernel
theorem dX7_init_72 : decode cX7_init 72 = .ok (.getfield 40, 3) := by decide +kernel
theorem dX7_init_75 : decode cX7_init 75 = .ok (.invokespecial 46, 3) := by decide +kernel
theorem dX7_init_78 : decode cX7_init 78 = .ok (.putfield 49, 3) := by decide +kernel
theorem dX7_init_81 : decode cX7_init 81 = .ok (.new 53, 3) := by decide +kernel
theorem dX7_init_84 : decode cX7_init 84 = .ok (.dup, 1) := by decide +kernel
theorem dX7_init_85 : decode cX7_init 85 = .ok (.aload_n 0, 1) := by decide +kernel
theorem dX7_init_86 : decode cX7_init 86 = .ok (.getfield 10, 3) := by decide +kernel
theorem dX7_init_89 : decode cX7_init 89 = .ok (.aload_n 0, 1) := by decide +kernel
theorem dX7_init_90 : decode cX7_init 90 = .ok (.getfield 25, 3) := by decide +kernel
theorem dX7_init_93 : decode cX7_init 93 = .ok (.invokespecial 55, 3) := by decide +kernel
theorem dX7_init_96 : decode cX7_init 96 = .ok (.astore_n 1, 1) := by decide +kernel
theorem dX7_init_97 : decode cX7_init 97 = .ok (.aload_n 0, 1) := by decide +kernel
theorem dX7_init_98 : decode cX7_init 98 = .ok (.new 58, 3) := by decide +kernel
theorem dX7_init_101 : decode cX7_init 101 = .ok (.dup, 1) := by decide +kernel
theorem dX7_init_102 : decode cX7_init 102 = .ok (.aload_n 0, 1) := by decide +kernel
theorem dX7_init_103 : decode cX7_init 103 = .ok (.getfield 10, 3) := by decide +kernel
theorem dX7_init_106 : decode cX7_init 106 = .ok (.aload_n 1, 1) := by decide +kernel
theorem dX7_init_107 : decode cX7_init 107 = .ok (.invokespecial 60, 3) := by decide +kernel
theorem dX7_init_110 : decode cX7_init 110 = .ok (.putfield 63, 3) := by decide +kernel
theorem dX7_init_113 : decode cX7_init 113 = .ok (.aload_n 0, 1) := by decide +kernel
theorem dX7_init_114 : decode cX7_init 114 = .ok (.new 67, 3) := by decide +kernel
theorem dX7_init_117 : decode cX7_init 117 = .ok (.dup, 1) := by decide +kernel
theorem dX7_init_118 : decode cX7_init 118 = .ok (.aload_n 0, 1) := by decide +kernel
theorem dX7_init_119 : decode cX7_init 119 = .ok (.getfield 10, 3) := by decide +kernel
theorem dX7_init_122 : decode cX7_init 122 = .ok (.aload_n 1, 1) := by decide +kernel
theorem dX7_init_123 : decode cX7_init 123 = .ok (.invokespecial 69, 3) := by decide +kernel
theorem dX7_init_126 : decode cX7_init 126 = .ok (.putfield 70, 3) := by decide +kernel
theorem dX7_init_129 : decode cX7_init 129 = .ok (.return_, 1) := by decide +kernel
theorem dX7_clear_0 : decode cX7_clear 0 = .ok (.aload_n 0, 1) := by decide +kernel
theorem dX7_clear_1 : decode cX7_clear 1 = .ok (.getfield 10, 3) := by decide +kernel
theorem dX7_clear_4 : decode cX7_clear 4 = .ok (.getfield 74, 3) := by decide +kernel
theorem dX7_clear_7 : decode cX7_clear 7 = .ok (.istore_n 1, 1) := by decide +kernel
theorem dX7_clear_8 : decode cX7_clear 8 = .ok (.aload_n 0, 1) := by decide +kernel
theorem dX7_clear_9 : decode cX7_clear 9 = .ok (.getfield 10, 3) := by decide +kernel
theorem dX7_clear_12 : decode cX7_clear 12 = .ok (.iconst 0, 1) := by decide +kernel
theorem dX7_clear_13 : decode cX7_clear 13 = .ok (.putfield 74, 3) := by decide +kernel
theorem dX7_clear_16 : decode cX7_clear 16 = .ok (.getstatic 16, 3) := by decide +kernel
theorem dX7_clear_19 : decode cX7_clear 19 = .ok (.iconst 0, 1) := by decide +kernel
theorem dX7_clear_20 : decode cX7_clear 20 = .ok (.aload_n 0, 1) := by decide +kernel
theorem dX7_clear_21 : decode cX7_clear 21 = .ok (.getfield 25, 3) := by decide +kernel
theorem dX7_clear_24 : decode cX7_clear 24 = .ok (.iconst 0, 1) := by decide +kernel
theorem dX7_clear_25 : decode cX7_clear 25 = .ok (.getstatic 16, 3) := by decide +kernel
theorem dX7_clear_28 : decode cX7_clear 28 = .ok (.arraylength, 1) := by decide +kernel
theorem dX7_clear_29 : decode cX7_clear 29 = .ok (.invokestatic 78, 3) := by decide +kernel
theorem dX7_clear_32 : decode cX7_clear 32 = .ok (.iload_n 1, 1) := by decide +kernel
theorem dX7_clear_33 : decode cX7_clear 33 = .ok (.ireturn, 1) := by decide +kernel
set_option maxRecDepth 20000 in
theorem ggX7_note_X7_canSound : GoodIn wsX7_note wsX7_canSound := goodIn_r _ [6, 7, 8, 9, 5, 10] (by decide +kernel) (by decide +kernel)
set_option maxRecDepth 20000 in
theorem gX7_note_X7_canSound : GoodIn wsX7_note (va_wsS RX7 84 yX7_canSound wsX7_canSound) := goodIn_app (goodIn_of _ (by decide +kernel)) ggX7_note_X7_canSound
set_option maxRecDepth 20000 in
theorem ggX7_note_X6_add : GoodIn wsX7_note wsX6_add := goodIn_r _ [15, 16, 17, 18, 19, 20, 21, 14, 22, 23, 24, 25, 26, 27, 28, 29, 30, 31, 32, 33, 34, 42, 43, 44, 45, 46, 47, 48] (by decide +kernel) (by decide +kernel)
set_option maxRecDepth 20000 in
theorem gX7_note_X6_add : GoodIn wsX7_note (wsV RX7 88 RX6 yX6_add wsX6_add) := goodIn_app (goodIn_of _ (by decide +kernel)) ggX7_note_X6_add
theorem dX7_note_0 : decode cX7_note 0 = .ok (.iload_n 1, 1) := by decide +kernel
theorem dX7_note_1 : decode cX7_note 1 = .ok (.iload_n 2, 1) := by decide +kernel
theorem dX7_note_2 : decode cX7_note 2 = .ok (.iload_n 3, 1) := by decide +kernel
theorem dX7_note_3 : decode cX7_note 3 = .ok (.invokestatic 84, 3) := by decide +kernel
theorem dX7_note_6 : decode cX7_note 6 = .ok (.ifCond .ne 6, 3) := by decide +kernel
theorem dX7_note_9 : decode cX7_note 9 = .ok (.bipush (-2), 2) := by decide +kernel
theorem dX7_note_11 : decode cX7_note 11 = .ok (.ireturn, 1) := by decide +kernel
theorem dX7_note_12 : decode cX7_note 12 = .ok (.aload_n 0, 1) := by decide +kernel
theorem dX7_note_13 : decode cX7_note 13 = .ok (.getfield 10, 3) := by decide +kernel
theorem dX7_note_16 : decode cX7_note 16 = .ok (.getfield 74, 3) := by decide +kernel
theorem dX7_note_19 : decode cX7_note 19 = .ok (.bipush 60, 2) := by decide +kernel
theorem dX7_note_21 : decode cX7_note 21 = .ok (.if_icmp .lt 8, 3) := by decide +kernel
theorem dX7_note_24 : decode cX7_note 24 = .ok (.bipush (-4), 2) := by decide +kernel
theorem dX7_note_26 : decode cX7_note 26 = .ok (.goto 13, 3) := by decide +kernel
theorem dX7_note_29 : decode cX7_note 29 = .ok (.aload_n 0, 1) := by decide +kernel
theorem dX7_note_30 : decode cX7_note 30 = .ok (.getfield 10, 3) := by decide +kernel
theorem dX7_note_33 : decode cX7_note 33 = .ok (.iload_n 1, 1) := by decide +kernel
