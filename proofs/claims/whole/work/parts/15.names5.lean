theorem dX7_note_34 : decode cX7_note 34 = .ok (.iload_n 2, 1) := by decide +kernel
theorem dX7_note_35 : decode cX7_note 35 = .ok (.iload_n 3, 1) := by decide +kernel
theorem dX7_note_36 : decode cX7_note 36 = .ok (.invokevirtual 88, 3) := by decide +kernel
theorem dX7_note_39 : decode cX7_note 39 = .ok (.ireturn, 1) := by decide +kernel
set_option maxRecDepth 20000 in
theorem ggX7_move_X6_has : GoodIn wsX7_move wsX6_has := goodIn_r _ [6, 7, 8, 9, 10, 40, 41, 42, 43, 44, 45, 46] (by decide +kernel) (by decide +kernel)
set_option maxRecDepth 20000 in
theorem gX7_move_X6_has : GoodIn wsX7_move (wsV RX7 92 RX6 yX6_has wsX6_has) := goodIn_app (goodIn_of _ (by decide +kernel)) ggX7_move_X6_has
set_option maxRecDepth 20000 in
theorem ggX7_move_X7_canSound : GoodIn wsX7_move wsX7_canSound := goodIn_r _ [13, 14, 15, 8, 9, 10] (by decide +kernel) (by decide +kernel)
set_option maxRecDepth 20000 in
theorem gX7_move_X7_canSound : GoodIn wsX7_move (va_wsS RX7 84 yX7_canSound wsX7_canSound) := goodIn_app (goodIn_of _ (by decide +kernel)) ggX7_move_X7_canSound
set_option maxRecDepth 20000 in
theorem ggX7_move_X6_change : GoodIn wsX7_move wsX6_change := goodIn_r _ [19, 20, 21, 22, 23, 24, 25, 5, 26, 7, 27, 28, 29, 30, 31, 32, 40, 41, 42, 43, 44, 45, 46] (by decide +kernel) (by decide +kernel)
set_option maxRecDepth 20000 in
theorem gX7_move_X6_change : GoodIn wsX7_move (wsV RX7 96 RX6 yX6_change wsX6_change) := goodIn_app (goodIn_of _ (by decide +kernel)) ggX7_move_X6_change
theorem dX7_move_0 : decode cX7_move 0 = .ok (.aload_n 0, 1) := by decide +kernel
theorem dX7_move_1 : decode cX7_move 1 = .ok (.getfield 10, 3) := by decide +kernel
theorem dX7_move_4 : decode cX7_move 4 = .ok (.iload_n 1, 1) := by decide +kernel
theorem dX7_move_5 : decode cX7_move 5 = .ok (.invokevirtual 92, 3) := by decide +kernel
theorem dX7_move_8 : decode cX7_move 8 = .ok (.ifCond .eq 13, 3) := by decide +kernel
theorem dX7_move_11 : decode cX7_move 11 = .ok (.iload_n 2, 1) := by decide +kernel
theorem dX7_move_12 : decode cX7_move 12 = .ok (.iload_n 3, 1) := by decide +kernel
theorem dX7_move_13 : decode cX7_move 13 = .ok (.iload 4, 2) := by decide +kernel
theorem dX7_move_15 : decode cX7_move 15 = .ok (.invokestatic 84, 3) := by decide +kernel
theorem dX7_move_18 : decode cX7_move 18 = .ok (.ifCond .ne 6, 3) := by decide +kernel
theorem dX7_move_21 : decode cX7_move 21 = .ok (.bipush (-2), 2) := by decide +kernel
theorem dX7_move_23 : decode cX7_move 23 = .ok (.ireturn, 1) := by decide +kernel
theorem dX7_move_24 : decode cX7_move 24 = .ok (.aload_n 0, 1) := by decide +kernel
theorem dX7_move_25 : decode cX7_move 25 = .ok (.getfield 10, 3) := by decide +kernel
theorem dX7_move_28 : decode cX7_move 28 = .ok (.iload_n 1, 1) := by decide +kernel
theorem dX7_move_29 : decode cX7_move 29 = .ok (.iload_n 2, 1) := by decide +kernel
theorem dX7_move_30 : decode cX7_move 30 = .ok (.iload_n 3, 1) := by decide +kernel
theorem dX7_move_31 : decode cX7_move 31 = .ok (.iload 4, 2) := by decide +kernel
theorem dX7_move_33 : decode cX7_move 33 = .ok (.invokevirtual 96, 3) := by decide +kernel
theorem dX7_move_36 : decode cX7_move 36 = .ok (.iconst 1, 1) := by decide +kernel
theorem dX7_move_37 : decode cX7_move 37 = .ok (.ireturn, 1) := by decide +kernel
set_option maxRecDepth 20000 in
theorem ggX7_weigh_X7_within : GoodIn wsX7_weigh wsX7_within := goodIn_r _ [5] (by decide +kernel) (by decide +kernel)
set_option maxRecDepth 20000 in
theorem gX7_weigh_X7_within : GoodIn wsX7_weigh (va_wsS RX7 100 yX7_within wsX7_within) := goodIn_app (goodIn_of _ (by decide +kernel)) ggX7_weigh_X7_within
theorem dX7_weigh_0 : decode cX7_weigh 0 = .ok (.iload_n 1, 1) := by decide +kernel
theorem dX7_weigh_1 : decode cX7_weigh 1 = .ok (.iconst 0, 1) := by decide +kernel
theorem dX7_weigh_2 : decode cX7_weigh 2 = .ok (.iconst 3, 1) := by decide +kernel
theorem dX7_weigh_3 : decode cX7_weigh 3 = .ok (.invokestatic 100, 3) := by decide +kernel
theorem dX7_weigh_6 : decode cX7_weigh 6 = .ok (.ifCond .eq 14, 3) := by decide +kernel
theorem dX7_weigh_9 : decode cX7_weigh 9 = .ok (.iload_n 2, 1) := by decide +kernel
theorem dX7_weigh_10 : decode cX7_weigh 10 = .ok (.iconst 0, 1) := by decide +kernel
theorem dX7_weigh_11 : decode cX7_weigh 11 = .ok (.sipush 1000, 3) := by decide +kernel
theorem dX7_weigh_14 : decode cX7_weigh 14 = .ok (.invokestatic 100, 3) := by decide +kernel
theorem dX7_weigh_17 : decode cX7_weigh 17 = .ok (.ifCond .ne 6, 3) := by decide +kernel
theorem dX7_weigh_20 : decode cX7_weigh 20 = .ok (.bipush (-2), 2) := by decide +kernel
theorem dX7_weigh_22 : decode cX7_weigh 22 = .ok (.ireturn, 1) := by decide +kernel
theorem dX7_weigh_23 : decode cX7_weigh 23 = .ok (.aload_n 0, 1) := by decide +kernel
theorem dX7_weigh_24 : decode cX7_weigh 24 = .ok (.getfield 25, 3) := by decide +kernel
theorem dX7_weigh_27 : decode cX7_weigh 27 = .ok (.iload_n 1, 1) := by decide +kernel
theorem dX7_weigh_28 : decode cX7_weigh 28 = .ok (.iaload, 1) := by decide +kernel
theorem dX7_weigh_29 : decode cX7_weigh 29 = .ok (.istore_n 3, 1) := by decide +kernel
theorem dX7_weigh_30 : decode cX7_weigh 30 = .ok (.aload_n 0, 1) := by decide +kernel
theorem dX7_weigh_31 : decode cX7_weigh 31 = .ok (.getfield 25, 3) := by decide +kernel
theorem dX7_weigh_34 : decode cX7_weigh 34 = .ok (.iload_n 1, 1) := by decide +kernel
theorem dX7_weigh_35 : decode cX7_weigh 35 = .ok (.iload_n 2, 1) := by decide +kernel
theorem dX7_weigh_36 : decode cX7_weigh 36 = .ok (.iastore, 1) := by decide +kernel
theorem dX7_weigh_37 : decode cX7_weigh 37 = .ok (.iload_n 3, 1) := by decide +kernel
theorem dX7_weigh_38 : decode cX7_weigh 38 = .ok (.ireturn, 1) := by decide +kernel
set_option maxRecDepth 20000 in
theorem ggX7_put_X6_has : GoodIn wsX7_put wsX6_has := goodIn_r _ [7, 8, 9, 10, 11, 20, 21, 22, 23, 24, 25, 26] (by decide +kernel) (by decide +kernel)
set_option maxRecDepth 20000 in
theorem gX7_put_X6_has : GoodIn wsX7_put (wsV RX7 92 RX6 yX6_has wsX6_has) := goodIn_app (goodIn_of _ (by decide +kernel)) ggX7_put_X6_has
set_option maxRecDepth 20000 in
theorem ggX7_put_X7_within : GoodIn wsX7_put wsX7_within := goodIn_r _ [11] (by decide +kernel) (by decide +kernel)
set_option maxRecDepth 20000 in
theorem gX7_put_X7_within : GoodIn wsX7_put (va_wsS RX7 100 yX7_within wsX7_within) := goodIn_app (goodIn_of _ (by decide +kernel)) ggX7_put_X7_within
theorem dX7_put_0 : decode cX7_put 0 = .ok (.aload_n 0, 1) := by decide +kernel
theorem dX7_put_1 : decode cX7_put 1 = .ok (.getfield 10, 3) := by decide +kernel
theorem dX7_put_4 : decode cX7_put 4 = .ok (.iload_n 1, 1) := by decide +kernel
theorem dX7_put_5 : decode cX7_put 5 = .ok (.invokevirtual 92, 3) := by decide +kernel
theorem dX7_put_8 : decode cX7_put 8 = .ok (.ifCond .eq 12, 3) := by decide +kernel
theorem dX7_put_11 : decode cX7_put 11 = .ok (.iload_n 2, 1) := by decide +kernel
theorem dX7_put_12 : decode cX7_put 12 = .ok (.iconst (-1), 1) := by decide +kernel
theorem dX7_put_13 : decode cX7_put 13 = .ok (.iconst 3, 1) := by decide +kernel
theorem dX7_put_14 : decode cX7_put 14 = .ok (.invokestatic 100, 3) := by decide +kernel
theorem dX7_put_17 : decode cX7_put 17 = .ok (.ifCond .ne 6, 3) := by decide +kernel
theorem dX7_put_20 : decode cX7_put 20 = .ok (.bipush (-2), 2) := by decide +kernel
theorem dX7_put_22 : decode cX7_put 22 = .ok (.ireturn, 1) := by decide +kernel
theorem dX7_put_23 : decode cX7_put 23 = .ok (.aload_n 0, 1) := by decide +kernel
theorem dX7_put_24 : decode cX7_put 24 = .ok (.getfield 10, 3) := by decide +kernel
theorem dX7_put_27 : decode cX7_put 27 = .ok (.getfield 103, 3) := by decide +kernel
theorem dX7_put_30 : decode cX7_put 30 = .ok (.iload_n 1, 1) := by decide +kernel
theorem dX7_put_31 : decode cX7_put 31 = .ok (.iaload, 1) := by decide +kernel
theorem dX7_put_32 : decode cX7_put 32 = .ok (.istore_n 3, 1) := by decide +kernel
theorem dX7_put_33 : decode cX7_put 33 = .ok (.aload_n 0, 1) := by decide +kernel
theorem dX7_put_34 : decode cX7_put 34 = .ok (.getfield 10, 3) := by decide +kernel
theorem dX7_put_37 : decode cX7_put 37 = .ok (.getfield 103, 3) := by decide +kernel
theorem dX7_put_40 : decode cX7_put 40 = .ok (.iload_n 1, 1) := by decide +kernel
theorem dX7_put_41 : decode cX7_put 41 = .ok (.iload_n 2, 1) := by decide +kernel
theorem dX7_put_42 : decode cX7_put 42 = .ok (.iastore, 1) := by decide +kernel
theorem dX7_put_43 : decode cX7_put 43 = .ok (.iload_n 3, 1) := by decide +kernel
theorem dX7_put_44 : decode cX7_put 44 = .ok (.ireturn, 1) := by decide +kernel
set_option maxRecDepth 20000 in
theorem ggX7_find_X7_least : GoodIn wsX7_find wsX7_least := goodIn_r _ [6, 7, 8, 1, 9, 10, 5, 11, 12, 13, 14, 15, 16, 17, 18, 19, 20, 21, 22, 23, 24, 25, 26, 27, 28, 29, 30, 31, 32, 33, 34, 35, 36, 37, 38, 39, 40, 41, 42, 43, 44, 45, 46, 47, 48, 49, 50, 51, 52, 53, 54, 55, 56, 57, 58, 59, 60, 61, 62, 63, 64, 65, 66, 67, 68, 69, 70, 71, 72, 73, 74, 75, 76, 77, 78, 79, 80, 81, 82, 92, 93, 94, 95, 96, 97, 98, 99, 100, 101, 102, 103, 104, 105, 106, 107, 108, 109, 110, 111, 112, 113] (by decide +kernel) (by decide +kernel)
set_option maxRecDepth 20000 in
theorem gX7_find_X7_least : GoodIn wsX7_find (wsV RX7 106 RX7 yX7_least wsX7_least) := goodIn_app (goodIn_of _ (by decide +kernel)) ggX7_find_X7_least
set_option maxRecDepth 20000 in
theorem ggX7_find_X1_giveFound : GoodIn wsX7_find wsX1_giveFound := goodIn_r _ [86, 18, 24, 25, 56, 77, 87, 43, 44, 45, 46, 47, 48, 49, 50, 38, 51, 88, 89, 90, 15, 91, 17, 52, 53, 54, 55, 26, 57, 58, 59, 60, 61, 62, 63, 64, 65, 66, 67, 30, 68, 69, 70, 71, 72, 73, 74, 75, 76, 78, 79, 80, 81, 82, 23, 106, 107, 108, 109, 110, 99, 100, 101, 102, 103, 104, 105, 111, 112, 113] (by decide +kernel) (by decide +kernel)
set_option maxRecDepth 20000 in
theorem gX7_find_X1_giveFound : GoodIn wsX7_find (wsV RX7 110 RX1 yX1_giveFound wsX1_giveFound) := goodIn_app (goodIn_of _ (by decide +kernel)) ggX7_find_X1_giveFound
theorem dX7_find_0 : decode cX7_find 0 = .ok (.aload_n 0, 1) := by decide +kernel
theorem dX7_find_1 : decode cX7_find 1 = .ok (.iload_n 1, 1) := by decide +kernel
theorem dX7_find_2 : decode cX7_find 2 = .ok (.invokevirtual 106, 3) := by decide +kernel
theorem dX7_find_5 : decode cX7_find 5 = .ok (.istore_n 2, 1) := by decide +kernel
theorem dX7_find_6 : decode cX7_find 6 = .ok (.iload_n 2, 1) := by decide +kernel
theorem dX7_find_7 : decode cX7_find 7 = .ok (.ifCond .lt 10, 3) := by decide +kernel
theorem dX7_find_10 : decode cX7_find 10 = .ok (.aload_n 0, 1) := by decide +kernel
theorem dX7_find_11 : decode cX7_find 11 = .ok (.getfield 63, 3) := by decide +kernel
theorem dX7_find_14 : decode cX7_find 14 = .ok (.invokevirtual 110, 3) := by decide +kernel
theorem dX7_find_17 : decode cX7_find 17 = .ok (.iload_n 2, 1) := by decide +kernel
theorem dX7_find_18 : decode cX7_find 18 = .ok (.ireturn, 1) := by decide +kernel
set_option maxRecDepth 20000 in
theorem ggX7_least_X7_within : GoodIn wsX7_least wsX7_within := goodIn_r _ [7] (by decide +kernel) (by decide +kernel)
set_option maxRecDepth 20000 in
theorem gX7_least_X7_within : GoodIn wsX7_least (va_wsS RX7 100 yX7_within wsX7_within) := goodIn_app (goodIn_of _ (by decide +kernel)) ggX7_least_X7_within
set_option maxRecDepth 20000 in
theorem ggX7_least_X1_search : GoodIn wsX7_least wsX1_search := goodIn_r _ [12, 13, 14, 15, 16, 17, 11, 18, 19, 20, 21, 22, 23, 24, 25, 26, 27, 28, 29, 30, 31, 32, 33, 34, 35, 36, 37, 38, 39, 40, 41, 42, 43, 44, 45, 46, 47, 48, 49, 50, 51, 52, 53, 54, 55, 56, 57, 58, 59, 60, 61, 62, 63, 64, 65, 66, 67, 68, 69, 70, 71, 72, 73, 74, 75, 76, 77, 78, 93, 94, 95, 96, 97, 86, 87, 88, 89, 90, 91, 92, 98, 99, 100] (by decide +kernel) (by decide +kernel)
set_option maxRecDepth 20000 in
theorem gX7_least_X1_search : GoodIn wsX7_least (wsV RX7 113 RX1 yX1_search wsX1_search) := goodIn_app (goodIn_of _ (by decide +kernel)) ggX7_least_X1_search
theorem dX7_least_0 : decode cX7_least 0 = .ok (.iload_n 1, 1) := by decide +kernel
theorem dX7_least_1 : decode cX7_least 1 = .ok (.iconst 1, 1) := by decide +kernel
theorem dX7_least_2 : decode cX7_least 2 = .ok (.iconst 4, 1) := by decide +kernel
theorem dX7_least_3 : decode cX7_least 3 = .ok (.invokestatic 100, 3) := by decide +kernel
theorem dX7_least_6 : decode cX7_least 6 = .ok (.ifCond .ne 6, 3) := by decide +kernel
theorem dX7_least_9 : decode cX7_least 9 = .ok (.bipush (-2), 2) := by decide +kernel
theorem dX7_least_11 : decode cX7_least 11 = .ok (.ireturn, 1) := by decide +kernel
theorem dX7_least_12 : decode cX7_least 12 = .ok (.aload_n 0, 1) := by decide +kernel
theorem dX7_least_13 : decode cX7_least 13 = .ok (.getfield 10, 3) := by decide +kernel
theorem dX7_least_16 : decode cX7_least 16 = .ok (.getfield 74, 3) := by decide +kernel
theorem dX7_least_19 : decode cX7_least 19 = .ok (.bipush 14, 2) := by decide +kernel
theorem dX7_least_21 : decode cX7_least 21 = .ok (.if_icmp .le 8, 3) := by decide +kernel
theorem dX7_least_24 : decode cX7_least 24 = .ok (.bipush (-3), 2) := by decide +kernel
theorem dX7_least_26 : decode cX7_least 26 = .ok (.goto 11, 3) := by decide +kernel
theorem dX7_least_29 : decode cX7_least 29 = .ok (.aload_n 0, 1) := by decide +kernel
theorem dX7_least_30 : decode cX7_least 30 = .ok (.getfield 63, 3) := by decide +kernel
theorem dX7_least_33 : decode cX7_least 33 = .ok (.iload_n 1, 1) := by decide +kernel
theorem dX7_least_34 : decode cX7_least 34 = .ok (.invokevirtual 113, 3) := by decide +kernel
theorem dX7_least_37 : decode cX7_least 37 = .ok (.ireturn, 1) := by decide +kernel
set_option maxRecDepth 20000 in
theorem ggX7_along_X7_within : GoodIn wsX7_along wsX7_within := goodIn_r _ [5] (by decide +kernel) (by decide +kernel)
set_option maxRecDepth 20000 in
theorem gX7_along_X7_within : GoodIn wsX7_along (va_wsS RX7 100 yX7_within wsX7_within) := goodIn_app (goodIn_of _ (by decide +kernel)) ggX7_along_X7_within
set_option maxRecDepth 20000 in
theorem ggX7_along_X2_go : GoodIn wsX7_along wsX2_go := goodIn_r _ [10, 11, 12, 13, 14, 15, 16, 17, 18, 19, 20, 21, 22, 23, 24, 25, 26, 27, 28, 29, 30, 31, 32, 33, 34, 9, 35, 36, 37, 38, 39, 40, 41, 42, 43, 44, 45, 46, 47, 48, 49, 50, 51, 52, 60, 61, 62, 63, 64, 65, 66, 67, 68, 69, 70, 71, 72] (by decide +kernel) (by decide +kernel)
set_option maxRecDepth 20000 in
theorem gX7_along_X2_go : GoodIn wsX7_along (wsV RX7 116 RX2 yX2_go wsX2_go) := goodIn_app (goodIn_of _ (by decide +kernel)) ggX7_along_X2_go
theorem dX7_along_0 : decode cX7_along 0 = .ok (.iload_n 1, 1) := by decide +kernel
theorem dX7_along_1 : decode cX7_along 1 = .ok (.iconst 1, 1) := by decide +kernel
theorem dX7_along_2 : decode cX7_along 2 = .ok (.iconst 4, 1) := by decide +kernel
theorem dX7_along_3 : decode cX7_along 3 = .ok (.invokestatic 100, 3) := by decide +kernel
theorem dX7_along_6 : decode cX7_along 6 = .ok (.ifCond .ne 6, 3) := by decide +kernel
theorem dX7_along_9 : decode cX7_along 9 = .ok (.bipush (-2), 2) := by decide +kernel
theorem dX7_along_11 : decode cX7_along 11 = .ok (.ireturn, 1) := by decide +kernel
theorem dX7_along_12 : decode cX7_along 12 = .ok (.aload_n 0, 1) := by decide +kernel
theorem dX7_along_13 : decode cX7_along 13 = .ok (.getfield 70, 3) := by decide +kernel
theorem dX7_along_16 : decode cX7_along 16 = .ok (.iload_n 1, 1) := by decide +kernel
theorem dX7_along_17 : decode cX7_along 17 = .ok (.invokevirtual 116, 3) := by decide +kernel
theorem dX7_along_20 : decode cX7_along 20 = .ok (.ifCond .eq 7, 3) := by decide +kernel
theorem dX7_along_23 : decode cX7_along 23 = .ok (.iconst 1, 1) := by decide +kernel
theorem dX7_along_24 : decode cX7_along 24 = .ok (.goto 4, 3) := by decide +kernel
theorem dX7_along_27 : decode cX7_along 27 = .ok (.iconst (-1), 1) := by decide +kernel
theorem dX7_along_28 : decode cX7_along 28 = .ok (.ireturn, 1) := by decide +kernel
set_option maxRecDepth 20000 in
theorem ggX7_cost_X7_within : GoodIn wsX7_cost wsX7_within := goodIn_r _ [6] (by decide +kernel) (by decide +kernel)
set_option maxRecDepth 20000 in
theorem gX7_cost_X7_within : GoodIn wsX7_cost (va_wsS RX7 100 yX7_within wsX7_within) := goodIn_app (goodIn_of _ (by decide +kernel)) ggX7_cost_X7_within
set_option maxRecDepth 20000 in
theorem ggX7_cost_X6_isWhole : GoodIn wsX7_cost wsX6_isWhole := goodIn_r _ [11, 12, 13, 14, 15, 16, 10, 17, 18, 19, 20, 21, 22, 23, 24, 25, 105, 106, 107, 108, 109, 110, 111] (by decide +kernel) (by decide +kernel)
set_option maxRecDepth 20000 in
theorem gX7_cost_X6_isWhole : GoodIn wsX7_cost (wsV RX7 119 RX6 yX6_isWhole wsX6_isWhole) := goodIn_app (goodIn_of _ (by decide +kernel)) ggX7_cost_X6_isWhole
set_option maxRecDepth 20000 in
theorem ggX7_cost_X0_part : GoodIn wsX7_cost wsX0_part := goodIn_r _ [30, 31, 32, 33, 29, 34, 35, 36, 37, 38, 39, 40, 41, 42, 43, 15, 16, 10, 17, 13, 18, 12, 19, 44, 45, 46, 47, 48, 49, 50, 51, 52, 53, 54, 55, 56, 57, 58, 59, 60, 61, 62, 63, 64, 65, 66, 67, 68, 69, 70, 21, 22, 23, 24, 25, 71, 72, 73, 74, 75, 76, 77, 78, 79, 80, 81, 82, 83, 84, 85, 86, 87, 88, 89, 90, 91, 92, 93, 94, 95, 96, 97, 112, 113, 114, 105, 106, 107, 108, 109, 110, 111, 115, 116, 117] (by decide +kernel) (by decide +kernel)
set_option maxRecDepth 20000 in
theorem gX7_cost_X0_part : GoodIn wsX7_cost (wsV RX7 123 RX0 yX0_part wsX0_part) := goodIn_app (goodIn_of _ (by decide +kernel)) ggX7_cost_X0_part
theorem dX7_cost_0 : decode cX7_cost 0 = .ok (.iload_n 1, 1) := by decide +kernel
theorem dX7_cost_1 : decode cX7_cost 1 = .ok (.iconst 0, 1) := by decide +kernel
theorem dX7_cost_2 : decode cX7_cost 2 = .ok (.iconst 4, 1) := by decide +kernel
theorem dX7_cost_3 : decode cX7_cost 3 = .ok (.invokestatic 100, 3) := by decide +kernel
theorem dX7_cost_6 : decode cX7_cost 6 = .ok (.ifCond .ne 6, 3) := by decide +kernel
theorem dX7_cost_9 : decode cX7_cost 9 = .ok (.bipush (-2), 2) := by decide +kernel
theorem dX7_cost_11 : decode cX7_cost 11 = .ok (.ireturn, 1) := by decide +kernel
theorem dX7_cost_12 : decode cX7_cost 12 = .ok (.aload_n 0, 1) := by decide +kernel
theorem dX7_cost_13 : decode cX7_cost 13 = .ok (.getfield 10, 3) := by decide +kernel
theorem dX7_cost_16 : decode cX7_cost 16 = .ok (.invokevirtual 119, 3) := by decide +kernel
theorem dX7_cost_19 : decode cX7_cost 19 = .ok (.ifCond .eq 14, 3) := by decide +kernel
theorem dX7_cost_22 : decode cX7_cost 22 = .ok (.aload_n 0, 1) := by decide +kernel
theorem dX7_cost_23 : decode cX7_cost 23 = .ok (.getfield 49, 3) := by decide +kernel
theorem dX7_cost_26 : decode cX7_cost 26 = .ok (.iload_n 1, 1) := by decide +kernel
theorem dX7_cost_27 : decode cX7_cost 27 = .ok (.invokevirtual 123, 3) := by decide +kernel
theorem dX7_cost_30 : decode cX7_cost 30 = .ok (.goto 5, 3) := by decide +kernel
theorem dX7_cost_33 : decode cX7_cost 33 = .ok (.bipush (-3), 2) := by decide +kernel
theorem dX7_cost_35 : decode cX7_cost 35 = .ok (.ireturn, 1) := by decide +kernel
set_option maxRecDepth 20000 in
theorem ggX7_of_X6_has : GoodIn wsX7_of wsX6_has := goodIn_r _ [11, 12, 13, 14, 15, 40, 41, 42, 43, 44, 45, 46] (by decide +kernel) (by decide +kernel)
set_option maxRecDepth 20000 in
theorem gX7_of_X6_has : GoodIn wsX7_of (wsV RX7 92 RX6 yX6_has wsX6_has) := goodIn_app (goodIn_of _ (by decide +kernel)) ggX7_of_X6_has
set_option maxRecDepth 20000 in
theorem ggX7_of_X6_following : GoodIn wsX7_of wsX6_following := goodIn_r _ [19, 20, 21, 12, 22, 40, 41, 42, 43, 44, 45, 46] (by decide +kernel) (by decide +kernel)
set_option maxRecDepth 20000 in
theorem gX7_of_X6_following : GoodIn wsX7_of (wsV RX7 138 RX6 yX6_following wsX6_following) := goodIn_app (goodIn_of _ (by decide +kernel)) ggX7_of_X6_following
set_option maxRecDepth 20000 in
theorem ggX7_of_X6_clashes : GoodIn wsX7_of wsX6_clashes := goodIn_r _ [26, 12, 20, 27, 28, 29, 10, 30, 31, 32, 40, 41, 42, 43, 44, 45, 46] (by decide +kernel) (by decide +kernel)
set_option maxRecDepth 20000 in
theorem gX7_of_X6_clashes : GoodIn wsX7_of (wsV RX7 141 RX6 yX6_clashes wsX6_clashes) := goodIn_app (goodIn_of _ (by decide +kernel)) ggX7_of_X6_clashes
theorem dX7_of_0 : decode cX7_of 0 = .ok (.aload_n 0, 1) := by decide +kernel
theorem dX7_of_1 : decode cX7_of 1 = .ok (.getfield 10, 3) := by decide +kernel
theorem dX7_of_4 : decode cX7_of 4 = .ok (.iload_n 1, 1) := by decide +kernel
theorem dX7_of_5 : decode cX7_of 5 = .ok (.invokevirtual 92, 3) := by decide +kernel
theorem dX7_of_8 : decode cX7_of 8 = .ok (.ifCond .ne 6, 3) := by decide +kernel
theorem dX7_of_11 : decode cX7_of 11 = .ok (.bipush (-2), 2) := by decide +kernel
theorem dX7_of_13 : decode cX7_of 13 = .ok (.ireturn, 1) := by decide +kernel
theorem dX7_of_14 : decode cX7_of 14 = .ok (.iload_n 2, 1) := by decide +kernel
theorem dX7_of_15 : decode cX7_of 15 = .ok (.tableswitch 109 0 6 #[41, 51, 61, 71, 81, 91, 100], 41) := by decide +kernel
theorem dX7_of_56 : decode cX7_of 56 = .ok (.aload_n 0, 1) := by decide +kernel
theorem dX7_of_57 : decode cX7_of 57 = .ok (.getfield 10, 3) := by decide +kernel
theorem dX7_of_60 : decode cX7_of 60 = .ok (.getfield 126, 3) := by decide +kernel
theorem dX7_of_63 : decode cX7_of 63 = .ok (.iload_n 1, 1) := by decide +kernel
theorem dX7_of_64 : decode cX7_of 64 = .ok (.iaload, 1) := by decide +kernel
theorem dX7_of_65 : decode cX7_of 65 = .ok (.ireturn, 1) := by decide +kernel
theorem dX7_of_66 : decode cX7_of 66 = .ok (.aload_n 0, 1) := by decide +kernel
theorem dX7_of_67 : decode cX7_of 67 = .ok (.getfield 10, 3) := by decide +kernel
theorem dX7_of_70 : decode cX7_of 70 = .ok (.getfield 129, 3) := by decide +kernel
theorem dX7_of_73 : decode cX7_of 73 = .ok (.iload_n 1, 1) := by decide +kernel
theorem dX7_of_74 : decode cX7_of 74 = .ok (.iaload, 1) := by decide +kernel
theorem dX7_of_75 : decode cX7_of 75 = .ok (.ireturn, 1) := by decide +kernel
theorem dX7_of_76 : decode cX7_of 76 = .ok (.aload_n 0, 1) := by decide +kernel
theorem dX7_of_77 : decode cX7_of 77 = .ok (.getfield 10, 3) := by decide +kernel
theorem dX7_of_80 : decode cX7_of 80 = .ok (.getfield 132, 3) := by decide +kernel
theorem dX7_of_83 : decode cX7_of 83 = .ok (.iload_n 1, 1) := by decide +kernel
theorem dX7_of_84 : decode cX7_of 84 = .ok (.iaload, 1) := by decide +kernel
theorem dX7_of_85 : decode cX7_of 85 = .ok (.ireturn, 1) := by decide +kernel
theorem dX7_of_86 : decode cX7_of 86 = .ok (.aload_n 0, 1) := by decide +kernel
theorem dX7_of_87 : decode cX7_of 87 = .ok (.getfield 10, 3) := by decide +kernel
theorem dX7_of_90 : decode cX7_of 90 = .ok (.getfield 103, 3) := by decide +kernel
theorem dX7_of_93 : decode cX7_of 93 = .ok (.iload_n 1, 1) := by decide +kernel
theorem dX7_of_94 : decode cX7_of 94 = .ok (.iaload, 1) := by decide +kernel
theorem dX7_of_95 : decode cX7_of 95 = .ok (.ireturn, 1) := by decide +kernel
theorem dX7_of_96 : decode cX7_of 96 = .ok (.aload_n 0, 1) := by decide +kernel
theorem dX7_of_97 : decode cX7_of 97 = .ok (.getfield 10, 3) := by decide +kernel
theorem dX7_of_100 : decode cX7_of 100 = .ok (.getfield 135, 3) := by decide +kernel
theorem dX7_of_103 : decode cX7_of 103 = .ok (.iload_n 1, 1) := by decide +kernel
theorem dX7_of_104 : decode cX7_of 104 = .ok (.iaload, 1) := by decide +kernel
theorem dX7_of_105 : decode cX7_of 105 = .ok (.ireturn, 1) := by decide +kernel
theorem dX7_of_106 : decode cX7_of 106 = .ok (.aload_n 0, 1) := by decide +kernel
theorem dX7_of_107 : decode cX7_of 107 = .ok (.getfield 10, 3) := by decide +kernel
theorem dX7_of_110 : decode cX7_of 110 = .ok (.iload_n 1, 1) := by decide +kernel
theorem dX7_of_111 : decode cX7_of 111 = .ok (.invokevirtual 138, 3) := by decide +kernel
theorem dX7_of_114 : decode cX7_of 114 = .ok (.ireturn, 1) := by decide +kernel
theorem dX7_of_115 : decode cX7_of 115 = .ok (.aload_n 0, 1) := by decide +kernel
theorem dX7_of_116 : decode cX7_of 116 = .ok (.getfield 10, 3) := by decide +kernel
theorem dX7_of_119 : decode cX7_of 119 = .ok (.iload_n 1, 1) := by decide +kernel
theorem dX7_of_120 : decode cX7_of 120 = .ok (.invokevirtual 141, 3) := by decide +kernel
theorem dX7_of_123 : decode cX7_of 123 = .ok (.ireturn, 1) := by decide +kernel
theorem dX7_of_124 : decode cX7_of 124 = .ok (.bipush (-2), 2) := by decide +kernel
theorem dX7_of_126 : decode cX7_of 126 = .ok (.ireturn, 1) := by decide +kernel
set_option maxRecDepth 20000 in
theorem ggX7_ranked_X7_within : GoodIn wsX7_ranked wsX7_within := goodIn_r _ [7] (by decide +kernel) (by decide +kernel)
set_option maxRecDepth 20000 in
theorem gX7_ranked_X7_within : GoodIn wsX7_ranked (va_wsS RX7 100 yX7_within wsX7_within) := goodIn_app (goodIn_of _ (by decide +kernel)) ggX7_ranked_X7_within
theorem dX7_ranked_0 : decode cX7_ranked 0 = .ok (.iload_n 1, 1) := by decide +kernel
theorem dX7_ranked_1 : decode cX7_ranked 1 = .ok (.iconst 0, 1) := by decide +kernel
theorem dX7_ranked_2 : decode cX7_ranked 2 = .ok (.aload_n 0, 1) := by decide +kernel
theorem dX7_ranked_3 : decode cX7_ranked 3 = .ok (.getfield 10, 3) := by decide +kernel
theorem dX7_ranked_6 : decode cX7_ranked 6 = .ok (.getfield 74, 3) := by decide +kernel
theorem dX7_ranked_9 : decode cX7_ranked 9 = .ok (.iconst 1, 1) := by decide +kernel
theorem dX7_ranked_10 : decode cX7_ranked 10 = .ok (.isub, 1) := by decide +kernel
theorem dX7_ranked_11 : decode cX7_ranked 11 = .ok (.invokestatic 100, 3) := by decide +kernel
theorem dX7_ranked_14 : decode cX7_ranked 14 = .ok (.ifCond .eq 15, 3) := by decide +kernel
theorem dX7_ranked_17 : decode cX7_ranked 17 = .ok (.aload_n 0, 1) := by decide +kernel
theorem dX7_ranked_18 : decode cX7_ranked 18 = .ok (.getfield 10, 3) := by decide +kernel
theorem dX7_ranked_21 : decode cX7_ranked 21 = .ok (.getfield 144, 3) := by decide +kernel
theorem dX7_ranked_24 : decode cX7_ranked 24 = .ok (.iload_n 1, 1) := by decide +kernel
theorem dX7_ranked_25 : decode cX7_ranked 25 = .ok (.iaload, 1) := by decide +kernel
theorem dX7_ranked_26 : decode cX7_ranked 26 = .ok (.goto 5, 3) := by decide +kernel
theorem dX7_ranked_29 : decode cX7_ranked 29 = .ok (.bipush (-2), 2) := by decide +kernel
theorem dX7_ranked_31 : decode cX7_ranked 31 = .ok (.ireturn, 1) := by decide +kernel
set_option maxRecDepth 20000 in
theorem ggX7_sounding_X7_within : GoodIn wsX7_sounding wsX7_within := goodIn_r _ [6] (by decide +kernel) (by decide +kernel)
set_option maxRecDepth 20000 in
theorem gX7_sounding_X7_within : GoodIn wsX7_sounding (va_wsS RX7 100 yX7_within wsX7_within) := goodIn_app (goodIn_of _ (by decide +kernel)) ggX7_sounding_X7_within
set_option maxRecDepth 20000 in
theorem ggX7_sounding_X6_soundingAt : GoodIn wsX7_sounding wsX6_soundingAt := goodIn_r _ [11, 12, 13, 14, 22, 23, 24, 25, 26, 27, 28] (by decide +kernel) (by decide +kernel)
set_option maxRecDepth 20000 in
theorem gX7_sounding_X6_soundingAt : GoodIn wsX7_sounding (wsV RX7 148 RX6 yX6_soundingAt wsX6_soundingAt) := goodIn_app (goodIn_of _ (by decide +kernel)) ggX7_sounding_X6_soundingAt
theorem dX7_sounding_0 : decode cX7_sounding 0 = .ok (.iload_n 1, 1) := by decide +kernel
theorem dX7_sounding_1 : decode cX7_sounding 1 = .ok (.iconst 0, 1) := by decide +kernel
theorem dX7_sounding_2 : decode cX7_sounding 2 = .ok (.ldc 147, 2) := by decide +kernel
theorem dX7_sounding_4 : decode cX7_sounding 4 = .ok (.invokestatic 100, 3) := by decide +kernel
theorem dX7_sounding_7 : decode cX7_sounding 7 = .ok (.ifCond .eq 14, 3) := by decide +kernel
theorem dX7_sounding_10 : decode cX7_sounding 10 = .ok (.aload_n 0, 1) := by decide +kernel
theorem dX7_sounding_11 : decode cX7_sounding 11 = .ok (.getfield 10, 3) := by decide +kernel
theorem dX7_sounding_14 : decode cX7_sounding 14 = .ok (.iload_n 1, 1) := by decide +kernel
theorem dX7_sounding_15 : decode cX7_sounding 15 = .ok (.invokevirtual 148, 3) := by decide +kernel
theorem dX7_sounding_18 : decode cX7_sounding 18 = .ok (.goto 5, 3) := by decide +kernel
theorem dX7_sounding_21 : decode cX7_sounding 21 = .ok (.bipush (-2), 2) := by decide +kernel
theorem dX7_sounding_23 : decode cX7_sounding 23 = .ok (.ireturn, 1) := by decide +kernel
set_option maxRecDepth 20000 in
theorem ggX7_needed_X6_thickest : GoodIn wsX7_needed wsX6_thickest := goodIn_r _ [6, 7, 8, 9, 10, 11, 12, 13, 14, 15, 5, 16, 17, 25, 26, 27, 28, 29, 30, 31] (by decide +kernel) (by decide +kernel)
set_option maxRecDepth 20000 in
theorem gX7_needed_X6_thickest : GoodIn wsX7_needed (wsV RX7 151 RX6 yX6_thickest wsX6_thickest) := goodIn_app (goodIn_of _ (by decide +kernel)) ggX7_needed_X6_thickest
theorem dX7_needed_0 : decode cX7_needed 0 = .ok (.aload_n 0, 1) := by decide +kernel
theorem dX7_needed_1 : decode cX7_needed 1 = .ok (.getfield 10, 3) := by decide +kernel
theorem dX7_needed_4 : decode cX7_needed 4 = .ok (.invokevirtual 151, 3) := by decide +kernel
theorem dX7_needed_7 : decode cX7_needed 7 = .ok (.ireturn, 1) := by decide +kernel
set_option maxRecDepth 20000 in
theorem ggX7_rests_X7_within : GoodIn wsX7_rests wsX7_within := goodIn_r _ [6] (by decide +kernel) (by decide +kernel)
set_option maxRecDepth 20000 in
theorem gX7_rests_X7_within : GoodIn wsX7_rests (va_wsS RX7 100 yX7_within wsX7_within) := goodIn_app (goodIn_of _ (by decide +kernel)) ggX7_rests_X7_within
set_option maxRecDepth 20000 in
theorem ggX7_rests_X5_collect : GoodIn wsX7_rests wsX5_collect := goodIn_r _ [11, 12, 13, 14, 15, 16, 17, 18, 19, 20, 21, 22, 23, 24, 10, 25, 26, 27, 28, 29, 30, 31, 32, 33, 34, 35, 36, 37, 38, 39, 40, 48, 49, 50, 51, 52, 53, 54, 55, 56, 57, 58] (by decide +kernel) (by decide +kernel)
set_option maxRecDepth 20000 in
theorem gX7_rests_X5_collect : GoodIn wsX7_rests (wsV RX7 155 RX5 yX5_collect wsX5_collect) := goodIn_app (goodIn_of _ (by decide +kernel)) ggX7_rests_X5_collect
theorem dX7_rests_0 : decode cX7_rests 0 = .ok (.iload_n 1, 1) := by decide +kernel
theorem dX7_rests_1 : decode cX7_rests 1 = .ok (.iconst 0, 1) := by decide +kernel
theorem dX7_rests_2 : decode cX7_rests 2 = .ok (.iconst 4, 1) := by decide +kernel
theorem dX7_rests_3 : decode cX7_rests 3 = .ok (.invokestatic 100, 3) := by decide +kernel
theorem dX7_rests_6 : decode cX7_rests 6 = .ok (.ifCond .ne 6, 3) := by decide +kernel
theorem dX7_rests_9 : decode cX7_rests 9 = .ok (.bipush (-2), 2) := by decide +kernel
theorem dX7_rests_11 : decode cX7_rests 11 = .ok (.ireturn, 1) := by decide +kernel
theorem dX7_rests_12 : decode cX7_rests 12 = .ok (.aload_n 0, 1) := by decide +kernel
theorem dX7_rests_13 : decode cX7_rests 13 = .ok (.getfield 33, 3) := by decide +kernel
theorem dX7_rests_16 : decode cX7_rests 16 = .ok (.iload_n 1, 1) := by decide +kernel
theorem dX7_rests_17 : decode cX7_rests 17 = .ok (.invokevirtual 155, 3) := by decide +kernel
theorem dX7_rests_20 : decode cX7_rests 20 = .ok (.aload_n 0, 1) := by decide +kernel
theorem dX7_rests_21 : decode cX7_rests 21 = .ok (.getfield 33, 3) := by decide +kernel
theorem dX7_rests_24 : decode cX7_rests 24 = .ok (.getfield 159, 3) := by decide +kernel
theorem dX7_rests_27 : decode cX7_rests 27 = .ok (.ireturn, 1) := by decide +kernel
set_option maxRecDepth 20000 in
theorem ggX7_rest_X7_within : GoodIn wsX7_rest wsX7_within := goodIn_r _ [8] (by decide +kernel) (by decide +kernel)
set_option maxRecDepth 20000 in
theorem gX7_rest_X7_within : GoodIn wsX7_rest (va_wsS RX7 100 yX7_within wsX7_within) := goodIn_app (goodIn_of _ (by decide +kernel)) ggX7_rest_X7_within
set_option maxRecDepth 20000 in
theorem ggX7_rest_X5_collect : GoodIn wsX7_rest wsX5_collect := goodIn_r _ [13, 14, 15, 16, 17, 18, 19, 20, 21, 22, 23, 24, 25, 26, 12, 27, 28, 29, 30, 31, 32, 33, 34, 35, 36, 37, 38, 39, 40, 41, 42, 50, 51, 52, 53, 54, 55, 56, 57, 58, 59, 60] (by decide +kernel) (by decide +kernel)
set_option maxRecDepth 20000 in
theorem gX7_rest_X5_collect : GoodIn wsX7_rest (wsV RX7 155 RX5 yX5_collect wsX5_collect) := goodIn_app (goodIn_of _ (by decide +kernel)) ggX7_rest_X5_collect
theorem dX7_rest_0 : decode cX7_rest 0 = .ok (.iload_n 1, 1) := by decide +kernel
theorem dX7_rest_1 : decode cX7_rest 1 = .ok (.iconst 0, 1) := by decide +kernel
theorem dX7_rest_2 : decode cX7_rest 2 = .ok (.iconst 4, 1) := by decide +kernel
theorem dX7_rest_3 : decode cX7_rest 3 = .ok (.invokestatic 100, 3) := by decide +kernel
theorem dX7_rest_6 : decode cX7_rest 6 = .ok (.ifCond .eq 12, 3) := by decide +kernel
theorem dX7_rest_9 : decode cX7_rest 9 = .ok (.iload_n 3, 1) := by decide +kernel
theorem dX7_rest_10 : decode cX7_rest 10 = .ok (.iconst 0, 1) := by decide +kernel
theorem dX7_rest_11 : decode cX7_rest 11 = .ok (.iconst 1, 1) := by decide +kernel
theorem dX7_rest_12 : decode cX7_rest 12 = .ok (.invokestatic 100, 3) := by decide +kernel
theorem dX7_rest_15 : decode cX7_rest 15 = .ok (.ifCond .ne 6, 3) := by decide +kernel
theorem dX7_rest_18 : decode cX7_rest 18 = .ok (.bipush (-2), 2) := by decide +kernel
theorem dX7_rest_20 : decode cX7_rest 20 = .ok (.ireturn, 1) := by decide +kernel
theorem dX7_rest_21 : decode cX7_rest 21 = .ok (.aload_n 0, 1) := by decide +kernel
theorem dX7_rest_22 : decode cX7_rest 22 = .ok (.getfield 33, 3) := by decide +kernel
theorem dX7_rest_25 : decode cX7_rest 25 = .ok (.iload_n 1, 1) := by decide +kernel
theorem dX7_rest_26 : decode cX7_rest 26 = .ok (.invokevirtual 155, 3) := by decide +kernel
theorem dX7_rest_29 : decode cX7_rest 29 = .ok (.iload_n 2, 1) := by decide +kernel
theorem dX7_rest_30 : decode cX7_rest 30 = .ok (.iconst 0, 1) := by decide +kernel
theorem dX7_rest_31 : decode cX7_rest 31 = .ok (.aload_n 0, 1) := by decide +kernel
theorem dX7_rest_32 : decode cX7_rest 32 = .ok (.getfield 33, 3) := by decide +kernel
theorem dX7_rest_35 : decode cX7_rest 35 = .ok (.getfield 159, 3) := by decide +kernel
theorem dX7_rest_38 : decode cX7_rest 38 = .ok (.iconst 1, 1) := by decide +kernel
theorem dX7_rest_39 : decode cX7_rest 39 = .ok (.isub, 1) := by decide +kernel
theorem dX7_rest_40 : decode cX7_rest 40 = .ok (.invokestatic 100, 3) := by decide +kernel
theorem dX7_rest_43 : decode cX7_rest 43 = .ok (.ifCond .ne 6, 3) := by decide +kernel
theorem dX7_rest_46 : decode cX7_rest 46 = .ok (.bipush (-2), 2) := by decide +kernel
theorem dX7_rest_48 : decode cX7_rest 48 = .ok (.ireturn, 1) := by decide +kernel
theorem dX7_rest_49 : decode cX7_rest 49 = .ok (.iload_n 3, 1) := by decide +kernel
theorem dX7_rest_50 : decode cX7_rest 50 = .ok (.ifCond .ne 15, 3) := by decide +kernel
theorem dX7_rest_53 : decode cX7_rest 53 = .ok (.aload_n 0, 1) := by decide +kernel
theorem dX7_rest_54 : decode cX7_rest 54 = .ok (.getfield 33, 3) := by decide +kernel
theorem dX7_rest_57 : decode cX7_rest 57 = .ok (.getfield 160, 3) := by decide +kernel
theorem dX7_rest_60 : decode cX7_rest 60 = .ok (.iload_n 2, 1) := by decide +kernel
theorem dX7_rest_61 : decode cX7_rest 61 = .ok (.iaload, 1) := by decide +kernel
theorem dX7_rest_62 : decode cX7_rest 62 = .ok (.goto 12, 3) := by decide +kernel
theorem dX7_rest_65 : decode cX7_rest 65 = .ok (.aload_n 0, 1) := by decide +kernel
theorem dX7_rest_66 : decode cX7_rest 66 = .ok (.getfield 33, 3) := by decide +kernel
theorem dX7_rest_69 : decode cX7_rest 69 = .ok (.getfield 163, 3) := by decide +kernel
theorem dX7_rest_72 : decode cX7_rest 72 = .ok (.iload_n 2, 1) := by decide +kernel
theorem dX7_rest_73 : decode cX7_rest 73 = .ok (.iaload, 1) := by decide +kernel
theorem dX7_rest_74 : decode cX7_rest 74 = .ok (.ireturn, 1) := by decide +kernel
set_option maxRecDepth 20000 in
theorem ggX7_pairs_X7_within : GoodIn wsX7_pairs wsX7_within := goodIn_r _ [5] (by decide +kernel) (by decide +kernel)
set_option maxRecDepth 20000 in
theorem gX7_pairs_X7_within : GoodIn wsX7_pairs (va_wsS RX7 100 yX7_within wsX7_within) := goodIn_app (goodIn_of _ (by decide +kernel)) ggX7_pairs_X7_within
set_option maxRecDepth 20000 in
theorem ggX7_pairs_X4_scan : GoodIn wsX7_pairs wsX4_scan := goodIn_r _ [10, 11, 12, 13, 14, 15, 16, 17, 18, 9, 19, 20, 21, 22, 23, 24, 25, 26, 27, 28, 29, 30, 31, 32, 33, 34, 35, 36, 37, 38, 39, 40, 41, 42, 50, 51, 52, 53, 54, 55, 56, 57, 58, 59] (by decide +kernel) (by decide +kernel)
set_option maxRecDepth 20000 in
theorem gX7_pairs_X4_scan : GoodIn wsX7_pairs (wsV RX7 166 RX4 yX4_scan wsX4_scan) := goodIn_app (goodIn_of _ (by decide +kernel)) ggX7_pairs_X4_scan
theorem dX7_pairs_0 : decode cX7_pairs 0 = .ok (.iload_n 1, 1) := by decide +kernel
theorem dX7_pairs_1 : decode cX7_pairs 1 = .ok (.iconst 0, 1) := by decide +kernel
theorem dX7_pairs_2 : decode cX7_pairs 2 = .ok (.iconst 2, 1) := by decide +kernel
theorem dX7_pairs_3 : decode cX7_pairs 3 = .ok (.invokestatic 100, 3) := by decide +kernel
theorem dX7_pairs_6 : decode cX7_pairs 6 = .ok (.ifCond .eq 15, 3) := by decide +kernel
theorem dX7_pairs_9 : decode cX7_pairs 9 = .ok (.aload_n 0, 1) := by decide +kernel
theorem dX7_pairs_10 : decode cX7_pairs 10 = .ok (.getfield 40, 3) := by decide +kernel
theorem dX7_pairs_13 : decode cX7_pairs 13 = .ok (.iload_n 1, 1) := by decide +kernel
theorem dX7_pairs_14 : decode cX7_pairs 14 = .ok (.iconst (-1), 1) := by decide +kernel
theorem dX7_pairs_15 : decode cX7_pairs 15 = .ok (.invokevirtual 166, 3) := by decide +kernel
theorem dX7_pairs_18 : decode cX7_pairs 18 = .ok (.goto 5, 3) := by decide +kernel
theorem dX7_pairs_21 : decode cX7_pairs 21 = .ok (.bipush (-2), 2) := by decide +kernel
theorem dX7_pairs_23 : decode cX7_pairs 23 = .ok (.ireturn, 1) := by decide +kernel
set_option maxRecDepth 20000 in
theorem ggX7_pair_X7_within : GoodIn wsX7_pair wsX7_within := goodIn_r _ [7] (by decide +kernel) (by decide +kernel)
set_option maxRecDepth 20000 in
theorem gX7_pair_X7_within : GoodIn wsX7_pair (va_wsS RX7 100 yX7_within wsX7_within) := goodIn_app (goodIn_of _ (by decide +kernel)) ggX7_pair_X7_within
set_option maxRecDepth 20000 in
theorem ggX7_pair_X4_scan : GoodIn wsX7_pair wsX4_scan := goodIn_r _ [12, 13, 14, 15, 16, 17, 18, 19, 20, 11, 21, 22, 23, 24, 25, 26, 27, 28, 29, 30, 31, 32, 33, 34, 35, 36, 37, 38, 39, 40, 41, 42, 43, 44, 52, 53, 54, 55, 56, 57, 58, 59, 60, 61] (by decide +kernel) (by decide +kernel)
set_option maxRecDepth 20000 in
theorem gX7_pair_X4_scan : GoodIn wsX7_pair (wsV RX7 166 RX4 yX4_scan wsX4_scan) := goodIn_app (goodIn_of _ (by decide +kernel)) ggX7_pair_X4_scan
theorem dX7_pair_0 : decode cX7_pair 0 = .ok (.iload_n 1, 1) := by decide +kernel
theorem dX7_pair_1 : decode cX7_pair 1 = .ok (.iconst 0, 1) := by decide +kernel
theorem dX7_pair_2 : decode cX7_pair 2 = .ok (.iconst 2, 1) := by decide +kernel
theorem dX7_pair_3 : decode cX7_pair 3 = .ok (.invokestatic 100, 3) := by decide +kernel
theorem dX7_pair_6 : decode cX7_pair 6 = .ok (.ifCond .eq 12, 3) := by decide +kernel
theorem dX7_pair_9 : decode cX7_pair 9 = .ok (.iload_n 3, 1) := by decide +kernel
theorem dX7_pair_10 : decode cX7_pair 10 = .ok (.iconst 0, 1) := by decide +kernel
theorem dX7_pair_11 : decode cX7_pair 11 = .ok (.iconst 1, 1) := by decide +kernel
theorem dX7_pair_12 : decode cX7_pair 12 = .ok (.invokestatic 100, 3) := by decide +kernel
theorem dX7_pair_15 : decode cX7_pair 15 = .ok (.ifCond .ne 6, 3) := by decide +kernel
theorem dX7_pair_18 : decode cX7_pair 18 = .ok (.bipush (-2), 2) := by decide +kernel
theorem dX7_pair_20 : decode cX7_pair 20 = .ok (.ireturn, 1) := by decide +kernel
theorem dX7_pair_21 : decode cX7_pair 21 = .ok (.aload_n 0, 1) := by decide +kernel
theorem dX7_pair_22 : decode cX7_pair 22 = .ok (.getfield 40, 3) := by decide +kernel
theorem dX7_pair_25 : decode cX7_pair 25 = .ok (.iload_n 1, 1) := by decide +kernel
theorem dX7_pair_26 : decode cX7_pair 26 = .ok (.iload_n 2, 1) := by decide +kernel
theorem dX7_pair_27 : decode cX7_pair 27 = .ok (.invokevirtual 166, 3) := by decide +kernel
theorem dX7_pair_30 : decode cX7_pair 30 = .ok (.istore 4, 2) := by decide +kernel
theorem dX7_pair_32 : decode cX7_pair 32 = .ok (.iload_n 2, 1) := by decide +kernel
theorem dX7_pair_33 : decode cX7_pair 33 = .ok (.iconst 0, 1) := by decide +kernel
theorem dX7_pair_34 : decode cX7_pair 34 = .ok (.iload 4, 2) := by decide +kernel
theorem dX7_pair_36 : decode cX7_pair 36 = .ok (.iconst 1, 1) := by decide +kernel
theorem dX7_pair_37 : decode cX7_pair 37 = .ok (.isub, 1) := by decide +kernel
theorem dX7_pair_38 : decode cX7_pair 38 = .ok (.invokestatic 100, 3) := by decide +kernel
theorem dX7_pair_41 : decode cX7_pair 41 = .ok (.ifCond .ne 6, 3) := by decide +kernel
theorem dX7_pair_44 : decode cX7_pair 44 = .ok (.bipush (-2), 2) := by decide +kernel
theorem dX7_pair_46 : decode cX7_pair 46 = .ok (.ireturn, 1) := by decide +kernel
theorem dX7_pair_47 : decode cX7_pair 47 = .ok (.iload_n 3, 1) := by decide +kernel
theorem dX7_pair_48 : decode cX7_pair 48 = .ok (.ifCond .ne 13, 3) := by decide +kernel
theorem dX7_pair_51 : decode cX7_pair 51 = .ok (.aload_n 0, 1) := by decide +kernel
theorem dX7_pair_52 : decode cX7_pair 52 = .ok (.getfield 40, 3) := by decide +kernel
theorem dX7_pair_55 : decode cX7_pair 55 = .ok (.getfield 170, 3) := by decide +kernel
theorem dX7_pair_58 : decode cX7_pair 58 = .ok (.goto 10, 3) := by decide +kernel
theorem dX7_pair_61 : decode cX7_pair 61 = .ok (.aload_n 0, 1) := by decide +kernel
theorem dX7_pair_62 : decode cX7_pair 62 = .ok (.getfield 40, 3) := by decide +kernel
theorem dX7_pair_65 : decode cX7_pair 65 = .ok (.getfield 173, 3) := by decide +kernel
theorem dX7_pair_68 : decode cX7_pair 68 = .ok (.ireturn, 1) := by decide +kernel
set_option maxRecDepth 20000 in
theorem ggX7_voice_X7_within : GoodIn wsX7_voice wsX7_within := goodIn_r _ [5] (by decide +kernel) (by decide +kernel)
set_option maxRecDepth 20000 in
theorem gX7_voice_X7_within : GoodIn wsX7_voice (va_wsS RX7 100 yX7_within wsX7_within) := goodIn_app (goodIn_of _ (by decide +kernel)) ggX7_voice_X7_within
set_option maxRecDepth 20000 in
theorem ggX7_voice_X6_lowestIn : GoodIn wsX7_voice wsX6_lowestIn := goodIn_r _ [10, 11, 12, 13, 33, 34, 35, 36, 37, 38, 39] (by decide +kernel) (by decide +kernel)
set_option maxRecDepth 20000 in
theorem gX7_voice_X6_lowestIn : GoodIn wsX7_voice (wsV RX7 176 RX6 yX6_lowestIn wsX6_lowestIn) := goodIn_app (goodIn_of _ (by decide +kernel)) ggX7_voice_X6_lowestIn
set_option maxRecDepth 20000 in
theorem ggX7_voice_X6_highestIn : GoodIn wsX7_voice wsX6_highestIn := goodIn_r _ [17, 11, 12, 13, 18, 19, 20, 21, 33, 34, 35, 36, 37, 38, 39] (by decide +kernel) (by decide +kernel)
set_option maxRecDepth 20000 in
theorem gX7_voice_X6_highestIn : GoodIn wsX7_voice (wsV RX7 179 RX6 yX6_highestIn wsX6_highestIn) := goodIn_app (goodIn_of _ (by decide +kernel)) ggX7_voice_X6_highestIn
set_option maxRecDepth 20000 in
theorem ggX7_voice_X6_notesIn : GoodIn wsX7_voice wsX6_notesIn := goodIn_r _ [25, 11, 12, 33, 34, 35, 36, 37, 38, 39] (by decide +kernel) (by decide +kernel)
set_option maxRecDepth 20000 in
theorem gX7_voice_X6_notesIn : GoodIn wsX7_voice (wsV RX7 182 RX6 yX6_notesIn wsX6_notesIn) := goodIn_app (goodIn_of _ (by decide +kernel)) ggX7_voice_X6_notesIn
theorem dX7_voice_0 : decode cX7_voice 0 = .ok (.iload_n 1, 1) := by decide +kernel
theorem dX7_voice_1 : decode cX7_voice 1 = .ok (.iconst 0, 1) := by decide +kernel
theorem dX7_voice_2 : decode cX7_voice 2 = .ok (.iconst 3, 1) := by decide +kernel
theorem dX7_voice_3 : decode cX7_voice 3 = .ok (.invokestatic 100, 3) := by decide +kernel
theorem dX7_voice_6 : decode cX7_voice 6 = .ok (.ifCond .ne 6, 3) := by decide +kernel
theorem dX7_voice_9 : decode cX7_voice 9 = .ok (.bipush (-2), 2) := by decide +kernel
theorem dX7_voice_11 : decode cX7_voice 11 = .ok (.ireturn, 1) := by decide +kernel
theorem dX7_voice_12 : decode cX7_voice 12 = .ok (.iload_n 2, 1) := by decide +kernel
theorem dX7_voice_13 : decode cX7_voice 13 = .ok (.tableswitch 54 0 2 #[27, 36, 45], 27) := by decide +kernel
theorem dX7_voice_40 : decode cX7_voice 40 = .ok (.aload_n 0, 1) := by decide +kernel
theorem dX7_voice_41 : decode cX7_voice 41 = .ok (.getfield 10, 3) := by decide +kernel
theorem dX7_voice_44 : decode cX7_voice 44 = .ok (.iload_n 1, 1) := by decide +kernel
theorem dX7_voice_45 : decode cX7_voice 45 = .ok (.invokevirtual 176, 3) := by decide +kernel
theorem dX7_voice_48 : decode cX7_voice 48 = .ok (.ireturn, 1) := by decide +kernel
theorem dX7_voice_49 : decode cX7_voice 49 = .ok (.aload_n 0, 1) := by decide +kernel
theorem dX7_voice_50 : decode cX7_voice 50 = .ok (.getfield 10, 3) := by decide +kernel
theorem dX7_voice_53 : decode cX7_voice 53 = .ok (.iload_n 1, 1) := by decide +kernel
theorem dX7_voice_54 : decode cX7_voice 54 = .ok (.invokevirtual 179, 3) := by decide +kernel
theorem dX7_voice_57 : decode cX7_voice 57 = .ok (.ireturn, 1) := by decide +kernel
theorem dX7_voice_58 : decode cX7_voice 58 = .ok (.aload_n 0, 1) := by decide +kernel
theorem dX7_voice_59 : decode cX7_voice 59 = .ok (.getfield 10, 3) := by decide +kernel
theorem dX7_voice_62 : decode cX7_voice 62 = .ok (.iload_n 1, 1) := by decide +kernel
theorem dX7_voice_63 : decode cX7_voice 63 = .ok (.invokevirtual 182, 3) := by decide +kernel
theorem dX7_voice_66 : decode cX7_voice 66 = .ok (.ireturn, 1) := by decide +kernel
theorem dX7_voice_67 : decode cX7_voice 67 = .ok (.bipush (-2), 2) := by decide +kernel
theorem dX7_voice_69 : decode cX7_voice 69 = .ok (.ireturn, 1) := by decide +kernel
set_option maxRecDepth 20000 in
theorem ggX7_told_X6_notesIn : GoodIn wsX7_told wsX6_notesIn := goodIn_r _ [7, 8, 9, 46, 47, 48, 49, 50, 51, 52] (by decide +kernel) (by decide +kernel)
set_option maxRecDepth 20000 in
theorem gX7_told_X6_notesIn : GoodIn wsX7_told (wsV RX7 182 RX6 yX6_notesIn wsX6_notesIn) := goodIn_app (goodIn_of _ (by decide +kernel)) ggX7_told_X6_notesIn
set_option maxRecDepth 20000 in
theorem ggX7_told_X6_theEnd : GoodIn wsX7_told wsX6_theEnd := goodIn_r _ [13, 8, 14, 15, 16, 17, 18, 46, 47, 48, 49, 50, 51, 52] (by decide +kernel) (by decide +kernel)
set_option maxRecDepth 20000 in
theorem gX7_told_X6_theEnd : GoodIn wsX7_told (wsV RX7 185 RX6 yX6_theEnd wsX6_theEnd) := goodIn_app (goodIn_of _ (by decide +kernel)) ggX7_told_X6_theEnd
set_option maxRecDepth 20000 in
theorem ggX7_told_X6_isWhole : GoodIn wsX7_told wsX6_isWhole := goodIn_r _ [22, 8, 9, 23, 24, 25, 6, 26, 27, 28, 29, 30, 31, 32, 33, 14, 46, 47, 48, 49, 50, 51, 52] (by decide +kernel) (by decide +kernel)
set_option maxRecDepth 20000 in
theorem gX7_told_X6_isWhole : GoodIn wsX7_told (wsV RX7 119 RX6 yX6_isWhole wsX6_isWhole) := goodIn_app (goodIn_of _ (by decide +kernel)) ggX7_told_X6_isWhole
set_option maxRecDepth 20000 in
theorem ggX7_told_X6_voicesUsed : GoodIn wsX7_told wsX6_voicesUsed := goodIn_r _ [37, 38, 4, 5, 6, 7, 8, 9, 46, 47, 48, 49, 50, 51, 52] (by decide +kernel) (by decide +kernel)
set_option maxRecDepth 20000 in
theorem gX7_told_X6_voicesUsed : GoodIn wsX7_told (wsV RX7 188 RX6 yX6_voicesUsed wsX6_voicesUsed) := goodIn_app (goodIn_of _ (by decide +kernel)) ggX7_told_X6_voicesUsed
theorem dX7_told_0 : decode cX7_told 0 = .ok (.iload_n 1, 1) := by decide +kernel
theorem dX7_told_1 : decode cX7_told 1 = .ok (.tableswitch 92 0 4 #[35, 43, 60, 68, 84], 35) := by decide +kernel
theorem dX7_told_36 : decode cX7_told 36 = .ok (.aload_n 0, 1) := by decide +kernel
theorem dX7_told_37 : decode cX7_told 37 = .ok (.getfield 10, 3) := by decide +kernel
theorem dX7_told_40 : decode cX7_told 40 = .ok (.getfield 74, 3) := by decide +kernel
theorem dX7_told_43 : decode cX7_told 43 = .ok (.ireturn, 1) := by decide +kernel
theorem dX7_told_44 : decode cX7_told 44 = .ok (.aload_n 0, 1) := by decide +kernel
theorem dX7_told_45 : decode cX7_told 45 = .ok (.getfield 10, 3) := by decide +kernel
theorem dX7_told_48 : decode cX7_told 48 = .ok (.getfield 74, 3) := by decide +kernel
theorem dX7_told_51 : decode cX7_told 51 = .ok (.aload_n 0, 1) := by decide +kernel
theorem dX7_told_52 : decode cX7_told 52 = .ok (.getfield 10, 3) := by decide +kernel
theorem dX7_told_55 : decode cX7_told 55 = .ok (.iconst (-1), 1) := by decide +kernel
theorem dX7_told_56 : decode cX7_told 56 = .ok (.invokevirtual 182, 3) := by decide +kernel
theorem dX7_told_59 : decode cX7_told 59 = .ok (.isub, 1) := by decide +kernel
theorem dX7_told_60 : decode cX7_told 60 = .ok (.ireturn, 1) := by decide +kernel
theorem dX7_told_61 : decode cX7_told 61 = .ok (.aload_n 0, 1) := by decide +kernel
theorem dX7_told_62 : decode cX7_told 62 = .ok (.getfield 10, 3) := by decide +kernel
theorem dX7_told_65 : decode cX7_told 65 = .ok (.invokevirtual 185, 3) := by decide +kernel
theorem dX7_told_68 : decode cX7_told 68 = .ok (.ireturn, 1) := by decide +kernel
theorem dX7_told_69 : decode cX7_told 69 = .ok (.aload_n 0, 1) := by decide +kernel
theorem dX7_told_70 : decode cX7_told 70 = .ok (.getfield 10, 3) := by decide +kernel
theorem dX7_told_73 : decode cX7_told 73 = .ok (.invokevirtual 119, 3) := by decide +kernel
theorem dX7_told_76 : decode cX7_told 76 = .ok (.ifCond .eq 7, 3) := by decide +kernel
theorem dX7_told_79 : decode cX7_told 79 = .ok (.iconst 1, 1) := by decide +kernel
theorem dX7_told_80 : decode cX7_told 80 = .ok (.goto 4, 3) := by decide +kernel
theorem dX7_told_83 : decode cX7_told 83 = .ok (.iconst 0, 1) := by decide +kernel
theorem dX7_told_84 : decode cX7_told 84 = .ok (.ireturn, 1) := by decide +kernel
theorem dX7_told_85 : decode cX7_told 85 = .ok (.aload_n 0, 1) := by decide +kernel
theorem dX7_told_86 : decode cX7_told 86 = .ok (.getfield 10, 3) := by decide +kernel
theorem dX7_told_89 : decode cX7_told 89 = .ok (.invokevirtual 188, 3) := by decide +kernel
theorem dX7_told_92 : decode cX7_told 92 = .ok (.ireturn, 1) := by decide +kernel
theorem dX7_told_93 : decode cX7_told 93 = .ok (.bipush (-2), 2) := by decide +kernel
theorem dX7_told_95 : decode cX7_told 95 = .ok (.ireturn, 1) := by decide +kernel
theorem dX7_within_0 : decode cX7_within 0 = .ok (.iload_n 1, 1) := by decide +kernel
theorem dX7_within_1 : decode cX7_within 1 = .ok (.iload_n 0, 1) := by decide +kernel
theorem dX7_within_2 : decode cX7_within 2 = .ok (.if_icmp .gt 12, 3) := by decide +kernel
theorem dX7_within_5 : decode cX7_within 5 = .ok (.iload_n 0, 1) := by decide +kernel
theorem dX7_within_6 : decode cX7_within 6 = .ok (.iload_n 2, 1) := by decide +kernel
theorem dX7_within_7 : decode cX7_within 7 = .ok (.if_icmp .gt 7, 3) := by decide +kernel
theorem dX7_within_10 : decode cX7_within 10 = .ok (.iconst 1, 1) := by decide +kernel
theorem dX7_within_11 : decode cX7_within 11 = .ok (.goto 4, 3) := by decide +kernel
theorem dX7_within_14 : decode cX7_within 14 = .ok (.iconst 0, 1) := by decide +kernel
theorem dX7_within_15 : decode cX7_within 15 = .ok (.ireturn, 1) := by decide +kernel
set_option maxRecDepth 20000 in
theorem ggX7_canSound_X7_within : GoodIn wsX7_canSound wsX7_within := goodIn_r _ [5] (by decide +kernel) (by decide +kernel)
set_option maxRecDepth 20000 in
theorem gX7_canSound_X7_within : GoodIn wsX7_canSound (va_wsS RX7 100 yX7_within wsX7_within) := goodIn_app (goodIn_of _ (by decide +kernel)) ggX7_canSound_X7_within
theorem dX7_canSound_0 : decode cX7_canSound 0 = .ok (.iconst 0, 1) := by decide +kernel
theorem dX7_canSound_1 : decode cX7_canSound 1 = .ok (.iload_n 0, 1) := by decide +kernel
theorem dX7_canSound_2 : decode cX7_canSound 2 = .ok (.if_icmp .gt 28, 3) := by decide +kernel
theorem dX7_canSound_5 : decode cX7_canSound 5 = .ok (.iload_n 0, 1) := by decide +kernel
theorem dX7_canSound_6 : decode cX7_canSound 6 = .ok (.iload_n 1, 1) := by decide +kernel
theorem dX7_canSound_7 : decode cX7_canSound 7 = .ok (.if_icmp .ge 23, 3) := by decide +kernel
theorem dX7_canSound_10 : decode cX7_canSound 10 = .ok (.iload_n 1, 1) := by decide +kernel
theorem dX7_canSound_11 : decode cX7_canSound 11 = .ok (.ldc 147, 2) := by decide +kernel
theorem dX7_canSound_13 : decode cX7_canSound 13 = .ok (.if_icmp .gt 17, 3) := by decide +kernel
theorem dX7_canSound_16 : decode cX7_canSound 16 = .ok (.iload_n 2, 1) := by decide +kernel
theorem dX7_canSound_17 : decode cX7_canSound 17 = .ok (.iconst 0, 1) := by decide +kernel
theorem dX7_canSound_18 : decode cX7_canSound 18 = .ok (.bipush 127, 2) := by decide +kernel
theorem dX7_canSound_20 : decode cX7_canSound 20 = .ok (.invokestatic 100, 3) := by decide +kernel
theorem dX7_canSound_23 : decode cX7_canSound 23 = .ok (.ifCond .eq 7, 3) := by decide +kernel
theorem dX7_canSound_26 : decode cX7_canSound 26 = .ok (.iconst 1, 1) := by decide +kernel
theorem dX7_canSound_27 : decode cX7_canSound 27 = .ok (.goto 4, 3) := by decide +kernel
theorem dX7_canSound_30 : decode cX7_canSound 30 = .ok (.iconst 0, 1) := by decide +kernel
theorem dX7_canSound_31 : decode cX7_canSound 31 = .ok (.ireturn, 1) := by decide +kernel
theorem dX8_init_0 : decode cX8_init 0 = .ok (.aload_n 0, 1) := by decide +kernel
theorem dX8_init_1 : decode cX8_init 1 = .ok (.invokespecial 1, 3) := by decide +kernel
theorem dX8_init_4 : decode cX8_init 4 = .ok (.aload_n 0, 1) := by decide +kernel
theorem dX8_init_5 : decode cX8_init 5 = .ok (.bipush 60, 2) := by decide +kernel
theorem dX8_init_7 : decode cX8_init 7 = .ok (.newarray .int, 2) := by decide +kernel
theorem dX8_init_9 : decode cX8_init 9 = .ok (.putfield 7, 3) := by decide +kernel
theorem dX8_init_12 : decode cX8_init 12 = .ok (.aload_n 0, 1) := by decide +kernel
theorem dX8_init_13 : decode cX8_init 13 = .ok (.bipush 60, 2) := by decide +kernel
theorem dX8_init_15 : decode cX8_init 15 = .ok (.newarray .int, 2) := by decide +kernel
theorem dX8_init_17 : decode cX8_init 17 = .ok (.putfield 13, 3) := by decide +kernel
theorem dX8_init_20 : decode cX8_init 20 = .ok (.aload_n 0, 1) := by decide +kernel
theorem dX8_init_21 : decode cX8_init 21 = .ok (.bipush 60, 2) := by decide +kernel
theorem dX8_init_23 : decode cX8_init 23 = .ok (.newarray .int, 2) := by decide +kernel
theorem dX8_init_25 : decode cX8_init 25 = .ok (.putfield 16, 3) := by decide +kernel
theorem dX8_init_28 : decode cX8_init 28 = .ok (.aload_n 0, 1) := by decide +kernel
theorem dX8_init_29 : decode cX8_init 29 = .ok (.bipush 60, 2) := by decide +kernel
theorem dX8_init_31 : decode cX8_init 31 = .ok (.newarray .int, 2) := by decide +kernel
theorem dX8_init_33 : decode cX8_init 33 = .ok (.putfield 19, 3) := by decide +kernel
theorem dX8_init_36 : decode cX8_init 36 = .ok (.aload_n 0, 1) := by decide +kernel
theorem dX8_init_37 : decode cX8_init 37 = .ok (.iconst 4, 1) := by decide +kernel
theorem dX8_init_38 : decode cX8_init 38 = .ok (.newarray .int, 2) := by decide +kernel
theorem dX8_init_40 : decode cX8_init 40 = .ok (.dup, 1) := by decide +kernel
theorem dX8_init_41 : decode cX8_init 41 = .ok (.iconst 0, 1) := by decide +kernel
theorem dX8_init_42 : decode cX8_init 42 = .ok (.iconst 1, 1) := by decide +kernel
theorem dX8_init_43 : decode cX8_init 43 = .ok (.iastore, 1) := by decide +kernel
theorem dX8_init_44 : decode cX8_init 44 = .ok (.dup, 1) := by decide +kernel
theorem dX8_init_45 : decode cX8_init 45 = .ok (.iconst 1, 1) := by decide +kernel
theorem dX8_init_46 : decode cX8_init 46 = .ok (.iconst 1, 1) := by decide +kernel
theorem dX8_init_47 : decode cX8_init 47 = .ok (.iastore, 1) := by decide +kernel
theorem dX8_init_48 : decode cX8_init 48 = .ok (.dup, 1) := by decide +kernel
theorem dX8_init_49 : decode cX8_init 49 = .ok (.iconst 2, 1) := by decide +kernel
theorem dX8_init_50 : decode cX8_init 50 = .ok (.bipush 12, 2) := by decide +kernel
theorem dX8_init_52 : decode cX8_init 52 = .ok (.iastore, 1) := by decide +kernel
theorem dX8_init_53 : decode cX8_init 53 = .ok (.dup, 1) := by decide +kernel
theorem dX8_init_54 : decode cX8_init 54 = .ok (.iconst 3, 1) := by decide +kernel
theorem dX8_init_55 : decode cX8_init 55 = .ok (.iconst 0, 1) := by decide +kernel
theorem dX8_init_56 : decode cX8_init 56 = .ok (.iastore, 1) := by decide +kernel
theorem dX8_init_57 : decode cX8_init 57 = .ok (.putfield 22, 3) := by decide +kernel
theorem dX8_init_60 : decode cX8_init 60 = .ok (.aload_n 0, 1) := by decide +kernel
theorem dX8_init_61 : decode cX8_init 61 = .ok (.bipush 60, 2) := by decide +kernel
theorem dX8_init_63 : decode cX8_init 63 = .ok (.newarray .int, 2) := by decide +kernel
theorem dX8_init_65 : decode cX8_init 65 = .ok (.putfield 25, 3) := by decide +kernel
theorem dX8_init_68 : decode cX8_init 68 = .ok (.aload_n 0, 1) := by decide +kernel
theorem dX8_init_69 : decode cX8_init 69 = .ok (.bipush 60, 2) := by decide +kernel
theorem dX8_init_71 : decode cX8_init 71 = .ok (.newarray .int, 2) := by decide +kernel
theorem dX8_init_73 : decode cX8_init 73 = .ok (.putfield 28, 3) := by decide +kernel
theorem dX8_init_76 : decode cX8_init 76 = .ok (.aload_n 0, 1) := by decide +kernel
theorem dX8_init_77 : decode cX8_init 77 = .ok (.iconst 4, 1) := by decide +kernel
theorem dX8_init_78 : decode cX8_init 78 = .ok (.newarray .int, 2) := by decide +kernel
theorem dX8_init_80 : decode cX8_init 80 = .ok (.putfield 31, 3) := by decide +kernel
theorem dX8_init_83 : decode cX8_init 83 = .ok (.aload_n 0, 1) := by decide +kernel
theorem dX8_init_84 : decode cX8_init 84 = .ok (.ldc 34, 2) := by decide +kernel
theorem dX8_init_86 : decode cX8_init 86 = .ok (.newarray .int, 2) := by decide +kernel
theorem dX8_init_88 : decode cX8_init 88 = .ok (.putfield 35, 3) := by decide +kernel
theorem dX8_init_91 : decode cX8_init 91 = .ok (.return_, 1) := by decide +kernel
theorem dX8_clear_0 : decode cX8_clear 0 = .ok (.aload_n 0, 1) := by decide +kernel
theorem dX8_clear_1 : decode cX8_clear 1 = .ok (.getfield 38, 3) := by decide +kernel
theorem dX8_clear_4 : decode cX8_clear 4 = .ok (.istore_n 1, 1) := by decide +kernel
theorem dX8_clear_5 : decode cX8_clear 5 = .ok (.aload_n 0, 1) := by decide +kernel
theorem dX8_clear_6 : decode cX8_clear 6 = .ok (.iconst 0, 1) := by decide +kernel
theorem dX8_clear_7 : decode cX8_clear 7 = .ok (.putfield 38, 3) := by decide +kernel
theorem dX8_clear_10 : decode cX8_clear 10 = .ok (.aload_n 0, 1) := by decide +kernel
theorem dX8_clear_11 : decode cX8_clear 11 = .ok (.getfield 22, 3) := by decide +kernel
theorem dX8_clear_14 : decode cX8_clear 14 = .ok (.iconst 0, 1) := by decide +kernel
theorem dX8_clear_15 : decode cX8_clear 15 = .ok (.iconst 1, 1) := by decide +kernel
theorem dX8_clear_16 : decode cX8_clear 16 = .ok (.iastore, 1) := by decide +kernel
theorem dX8_clear_17 : decode cX8_clear 17 = .ok (.aload_n 0, 1) := by decide +kernel
theorem dX8_clear_18 : decode cX8_clear 18 = .ok (.getfield 22, 3) := by decide +kernel
theorem dX8_clear_21 : decode cX8_clear 21 = .ok (.iconst 1, 1) := by decide +kernel
theorem dX8_clear_22 : decode cX8_clear 22 = .ok (.iconst 1, 1) := by decide +kernel
theorem dX8_clear_23 : decode cX8_clear 23 = .ok (.iastore, 1) := by decide +kernel
theorem dX8_clear_24 : decode cX8_clear 24 = .ok (.aload_n 0, 1) := by decide +kernel
theorem dX8_clear_25 : decode cX8_clear 25 = .ok (.getfield 22, 3) := by decide +kernel
theorem dX8_clear_28 : decode cX8_clear 28 = .ok (.iconst 2, 1) := by decide +kernel
theorem dX8_clear_29 : decode cX8_clear 29 = .ok (.bipush 12, 2) := by decide +kernel
theorem dX8_clear_31 : decode cX8_clear 31 = .ok (.iastore, 1) := by decide +kernel
theorem dX8_clear_32 : decode cX8_clear 32 = .ok (.aload_n 0, 1) := by decide +kernel
theorem dX8_clear_33 : decode cX8_clear 33 = .ok (.getfield 22, 3) := by decide +kernel
theorem dX8_clear_36 : decode cX8_clear 36 = .ok (.iconst 3, 1) := by decide +kernel
theorem dX8_clear_37 : decode cX8_clear 37 = .ok (.iconst 0, 1) := by decide +kernel
theorem dX8_clear_38 : decode cX8_clear 38 = .ok (.iastore, 1) := by decide +kernel
theorem dX8_clear_39 : decode cX8_clear 39 = .ok (.iload_n 1, 1) := by decide +kernel
theorem dX8_clear_40 : decode cX8_clear 40 = .ok (.ireturn, 1) := by decide +kernel
theorem dX8_isNote_0 : decode cX8_isNote 0 = .ok (.iload_n 0, 1) := by decide +kernel
theorem dX8_isNote_1 : decode cX8_isNote 1 = .ok (.ifCond .lt 28, 3) := by decide +kernel
theorem dX8_isNote_4 : decode cX8_isNote 4 = .ok (.iload_n 1, 1) := by decide +kernel
theorem dX8_isNote_5 : decode cX8_isNote 5 = .ok (.ldc 42, 2) := by decide +kernel
theorem dX8_isNote_7 : decode cX8_isNote 7 = .ok (.if_icmp .gt 22, 3) := by decide +kernel
theorem dX8_isNote_10 : decode cX8_isNote 10 = .ok (.iload_n 0, 1) := by decide +kernel
theorem dX8_isNote_11 : decode cX8_isNote 11 = .ok (.iload_n 1, 1) := by decide +kernel
theorem dX8_isNote_12 : decode cX8_isNote 12 = .ok (.if_icmp .ge 17, 3) := by decide +kernel
theorem dX8_isNote_15 : decode cX8_isNote 15 = .ok (.iload_n 2, 1) := by decide +kernel
theorem dX8_isNote_16 : decode cX8_isNote 16 = .ok (.ifCond .lt 13, 3) := by decide +kernel
theorem dX8_isNote_19 : decode cX8_isNote 19 = .ok (.iload_n 2, 1) := by decide +kernel
theorem dX8_isNote_20 : decode cX8_isNote 20 = .ok (.bipush 127, 2) := by decide +kernel
theorem dX8_isNote_22 : decode cX8_isNote 22 = .ok (.if_icmp .gt 7, 3) := by decide +kernel
theorem dX8_isNote_25 : decode cX8_isNote 25 = .ok (.iconst 1, 1) := by decide +kernel
theorem dX8_isNote_26 : decode cX8_isNote 26 = .ok (.goto 4, 3) := by decide +kernel
theorem dX8_isNote_29 : decode cX8_isNote 29 = .ok (.iconst 0, 1) := by decide +kernel
theorem dX8_isNote_30 : decode cX8_isNote 30 = .ok (.ireturn, 1) := by decide +kernel
theorem dX8_ahead_0 : decode cX8_ahead 0 = .ok (.aload_n 0, 1) := by decide +kernel
theorem dX8_ahead_1 : decode cX8_ahead 1 = .ok (.getfield 7, 3) := by decide +kernel
theorem dX8_ahead_4 : decode cX8_ahead 4 = .ok (.iload_n 1, 1) := by decide +kernel
theorem dX8_ahead_5 : decode cX8_ahead 5 = .ok (.iaload, 1) := by decide +kernel
theorem dX8_ahead_6 : decode cX8_ahead 6 = .ok (.aload_n 0, 1) := by decide +kernel
theorem dX8_ahead_7 : decode cX8_ahead 7 = .ok (.getfield 7, 3) := by decide +kernel
theorem dX8_ahead_10 : decode cX8_ahead 10 = .ok (.iload_n 2, 1) := by decide +kernel
theorem dX8_ahead_11 : decode cX8_ahead 11 = .ok (.iaload, 1) := by decide +kernel
theorem dX8_ahead_12 : decode cX8_ahead 12 = .ok (.if_icmp .eq 26, 3) := by decide +kernel
theorem dX8_ahead_15 : decode cX8_ahead 15 = .ok (.aload_n 0, 1) := by decide +kernel
theorem dX8_ahead_16 : decode cX8_ahead 16 = .ok (.getfield 7, 3) := by decide +kernel
theorem dX8_ahead_19 : decode cX8_ahead 19 = .ok (.iload_n 1, 1) := by decide +kernel
theorem dX8_ahead_20 : decode cX8_ahead 20 = .ok (.iaload, 1) := by decide +kernel
theorem dX8_ahead_21 : decode cX8_ahead 21 = .ok (.aload_n 0, 1) := by decide +kernel
theorem dX8_ahead_22 : decode cX8_ahead 22 = .ok (.getfield 7, 3) := by decide +kernel
theorem dX8_ahead_25 : decode cX8_ahead 25 = .ok (.iload_n 2, 1) := by decide +kernel
theorem dX8_ahead_26 : decode cX8_ahead 26 = .ok (.iaload, 1) := by decide +kernel
theorem dX8_ahead_27 : decode cX8_ahead 27 = .ok (.if_icmp .ge 7, 3) := by decide +kernel
theorem dX8_ahead_30 : decode cX8_ahead 30 = .ok (.iconst 1, 1) := by decide +kernel
theorem dX8_ahead_31 : decode cX8_ahead 31 = .ok (.goto 55, 3) := by decide +kernel
theorem dX8_ahead_34 : decode cX8_ahead 34 = .ok (.iconst 0, 1) := by decide +kernel
theorem dX8_ahead_35 : decode cX8_ahead 35 = .ok (.goto 51, 3) := by decide +kernel
theorem dX8_ahead_38 : decode cX8_ahead 38 = .ok (.aload_n 0, 1) := by decide +kernel
theorem dX8_ahead_39 : decode cX8_ahead 39 = .ok (.getfield 16, 3) := by decide +kernel
theorem dX8_ahead_42 : decode cX8_ahead 42 = .ok (.iload_n 1, 1) := by decide +kernel
theorem dX8_ahead_43 : decode cX8_ahead 43 = .ok (.iaload, 1) := by decide +kernel
theorem dX8_ahead_44 : decode cX8_ahead 44 = .ok (.aload_n 0, 1) := by decide +kernel
theorem dX8_ahead_45 : decode cX8_ahead 45 = .ok (.getfield 16, 3) := by decide +kernel
theorem dX8_ahead_48 : decode cX8_ahead 48 = .ok (.iload_n 2, 1) := by decide +kernel
theorem dX8_ahead_49 : decode cX8_ahead 49 = .ok (.iaload, 1) := by decide +kernel
theorem dX8_ahead_50 : decode cX8_ahead 50 = .ok (.if_icmp .eq 26, 3) := by decide +kernel
theorem dX8_ahead_53 : decode cX8_ahead 53 = .ok (.aload_n 0, 1) := by decide +kernel
theorem dX8_ahead_54 : decode cX8_ahead 54 = .ok (.getfield 16, 3) := by decide +kernel
theorem dX8_ahead_57 : decode cX8_ahead 57 = .ok (.iload_n 1, 1) := by decide +kernel
theorem dX8_ahead_58 : decode cX8_ahead 58 = .ok (.iaload, 1) := by decide +kernel
theorem dX8_ahead_59 : decode cX8_ahead 59 = .ok (.aload_n 0, 1) := by decide +kernel
theorem dX8_ahead_60 : decode cX8_ahead 60 = .ok (.getfield 16, 3) := by decide +kernel
theorem dX8_ahead_63 : decode cX8_ahead 63 = .ok (.iload_n 2, 1) := by decide +kernel
theorem dX8_ahead_64 : decode cX8_ahead 64 = .ok (.iaload, 1) := by decide +kernel
theorem dX8_ahead_65 : decode cX8_ahead 65 = .ok (.if_icmp .le 7, 3) := by decide +kernel
theorem dX8_ahead_68 : decode cX8_ahead 68 = .ok (.iconst 1, 1) := by decide +kernel
theorem dX8_ahead_69 : decode cX8_ahead 69 = .ok (.goto 17, 3) := by decide +kernel
theorem dX8_ahead_72 : decode cX8_ahead 72 = .ok (.iconst 0, 1) := by decide +kernel
theorem dX8_ahead_73 : decode cX8_ahead 73 = .ok (.goto 13, 3) := by decide +kernel
theorem dX8_ahead_76 : decode cX8_ahead 76 = .ok (.iload_n 1, 1) := by decide +kernel
theorem dX8_ahead_77 : decode cX8_ahead 77 = .ok (.iload_n 2, 1) := by decide +kernel
theorem dX8_ahead_78 : decode cX8_ahead 78 = .ok (.if_icmp .ge 7, 3) := by decide +kernel
theorem dX8_ahead_81 : decode cX8_ahead 81 = .ok (.iconst 1, 1) := by decide +kernel
theorem dX8_ahead_82 : decode cX8_ahead 82 = .ok (.goto 4, 3) := by decide +kernel
theorem dX8_ahead_85 : decode cX8_ahead 85 = .ok (.iconst 0, 1) := by decide +kernel
theorem dX8_ahead_86 : decode cX8_ahead 86 = .ok (.ireturn, 1) := by decide +kernel
set_option maxRecDepth 20000 in
theorem ggX8_rank_X8_ahead : GoodIn wsX8_rank wsX8_ahead := goodIn_r _ [6, 7, 8, 9, 10, 11, 12, 13, 14, 15, 16, 17, 18] (by decide +kernel) (by decide +kernel)
set_option maxRecDepth 20000 in
theorem gX8_rank_X8_ahead : GoodIn wsX8_rank (wsV RX8 43 RX8 yX8_ahead wsX8_ahead) := goodIn_app (goodIn_of _ (by decide +kernel)) ggX8_rank_X8_ahead
theorem dX8_rank_0 : decode cX8_rank 0 = .ok (.iconst 0, 1) := by decide +kernel
theorem dX8_rank_1 : decode cX8_rank 1 = .ok (.istore_n 2, 1) := by decide +kernel
theorem dX8_rank_2 : decode cX8_rank 2 = .ok (.iconst 0, 1) := by decide +kernel
theorem dX8_rank_3 : decode cX8_rank 3 = .ok (.istore_n 3, 1) := by decide +kernel
theorem dX8_rank_4 : decode cX8_rank 4 = .ok (.iload_n 3, 1) := by decide +kernel
theorem dX8_rank_5 : decode cX8_rank 5 = .ok (.aload_n 0, 1) := by decide +kernel
theorem dX8_rank_6 : decode cX8_rank 6 = .ok (.getfield 38, 3) := by decide +kernel
theorem dX8_rank_9 : decode cX8_rank 9 = .ok (.if_icmp .ge 31, 3) := by decide +kernel
theorem dX8_rank_12 : decode cX8_rank 12 = .ok (.iload_n 2, 1) := by decide +kernel
theorem dX8_rank_13 : decode cX8_rank 13 = .ok (.iload_n 3, 1) := by decide +kernel
theorem dX8_rank_14 : decode cX8_rank 14 = .ok (.iload_n 1, 1) := by decide +kernel
theorem dX8_rank_15 : decode cX8_rank 15 = .ok (.if_icmp .eq 16, 3) := by decide +kernel
theorem dX8_rank_18 : decode cX8_rank 18 = .ok (.aload_n 0, 1) := by decide +kernel
theorem dX8_rank_19 : decode cX8_rank 19 = .ok (.iload_n 3, 1) := by decide +kernel
theorem dX8_rank_20 : decode cX8_rank 20 = .ok (.iload_n 1, 1) := by decide +kernel
theorem dX8_rank_21 : decode cX8_rank 21 = .ok (.invokevirtual 43, 3) := by decide +kernel
theorem dX8_rank_24 : decode cX8_rank 24 = .ok (.ifCond .eq 7, 3) := by decide +kernel
theorem dX8_rank_27 : decode cX8_rank 27 = .ok (.iconst 1, 1) := by decide +kernel
theorem dX8_rank_28 : decode cX8_rank 28 = .ok (.goto 4, 3) := by decide +kernel
theorem dX8_rank_31 : decode cX8_rank 31 = .ok (.iconst 0, 1) := by decide +kernel
theorem dX8_rank_32 : decode cX8_rank 32 = .ok (.iadd, 1) := by decide +kernel
theorem dX8_rank_33 : decode cX8_rank 33 = .ok (.istore_n 2, 1) := by decide +kernel
theorem dX8_rank_34 : decode cX8_rank 34 = .ok (.iinc 3 1, 3) := by decide +kernel
theorem dX8_rank_37 : decode cX8_rank 37 = .ok (.goto (-33), 3) := by decide +kernel
theorem dX8_rank_40 : decode cX8_rank 40 = .ok (.iload_n 2, 1) := by decide +kernel
theorem dX8_rank_41 : decode cX8_rank 41 = .ok (.ireturn, 1) := by decide +kernel
set_option maxRecDepth 20000 in
theorem ggX8_sort_X8_rank : GoodIn wsX8_sort wsX8_rank := goodIn_r _ [7, 1, 8, 9, 10, 6, 11, 12, 13, 14, 15, 16, 17, 18, 19, 20, 21, 22, 23] (by decide +kernel) (by decide +kernel)
set_option maxRecDepth 20000 in
theorem gX8_sort_X8_rank : GoodIn wsX8_sort (wsV RX8 47 RX8 yX8_rank wsX8_rank) := goodIn_app (goodIn_of _ (by decide +kernel)) ggX8_sort_X8_rank
theorem dX8_sort_0 : decode cX8_sort 0 = .ok (.iconst 0, 1) := by decide +kernel
theorem dX8_sort_1 : decode cX8_sort 1 = .ok (.istore_n 1, 1) := by decide +kernel
theorem dX8_sort_2 : decode cX8_sort 2 = .ok (.iload_n 1, 1) := by decide +kernel
theorem dX8_sort_3 : decode cX8_sort 3 = .ok (.aload_n 0, 1) := by decide +kernel
theorem dX8_sort_4 : decode cX8_sort 4 = .ok (.getfield 38, 3) := by decide +kernel
theorem dX8_sort_7 : decode cX8_sort 7 = .ok (.if_icmp .ge 20, 3) := by decide +kernel
theorem dX8_sort_10 : decode cX8_sort 10 = .ok (.aload_n 0, 1) := by decide +kernel
theorem dX8_sort_11 : decode cX8_sort 11 = .ok (.getfield 25, 3) := by decide +kernel
theorem dX8_sort_14 : decode cX8_sort 14 = .ok (.aload_n 0, 1) := by decide +kernel
theorem dX8_sort_15 : decode cX8_sort 15 = .ok (.iload_n 1, 1) := by decide +kernel
theorem dX8_sort_16 : decode cX8_sort 16 = .ok (.invokevirtual 47, 3) := by decide +kernel
theorem dX8_sort_19 : decode cX8_sort 19 = .ok (.iload_n 1, 1) := by decide +kernel
theorem dX8_sort_20 : decode cX8_sort 20 = .ok (.iastore, 1) := by decide +kernel
theorem dX8_sort_21 : decode cX8_sort 21 = .ok (.iinc 1 1, 3) := by decide +kernel
theorem dX8_sort_24 : decode cX8_sort 24 = .ok (.goto (-22), 3) := by decide +kernel
theorem dX8_sort_27 : decode cX8_sort 27 = .ok (.return_, 1) := by decide +kernel
theorem dX8_together_0 : decode cX8_together 0 = .ok (.aload_n 0, 1) := by decide +kernel
theorem dX8_together_1 : decode cX8_together 1 = .ok (.getfield 7, 3) := by decide +kernel
theorem dX8_together_4 : decode cX8_together 4 = .ok (.iload_n 1, 1) := by decide +kernel
theorem dX8_together_5 : decode cX8_together 5 = .ok (.iaload, 1) := by decide +kernel
theorem dX8_together_6 : decode cX8_together 6 = .ok (.aload_n 0, 1) := by decide +kernel
theorem dX8_together_7 : decode cX8_together 7 = .ok (.getfield 13, 3) := by decide +kernel
theorem dX8_together_10 : decode cX8_together 10 = .ok (.iload_n 2, 1) := by decide +kernel
theorem dX8_together_11 : decode cX8_together 11 = .ok (.iaload, 1) := by decide +kernel
theorem dX8_together_12 : decode cX8_together 12 = .ok (.if_icmp .ge 22, 3) := by decide +kernel
theorem dX8_together_15 : decode cX8_together 15 = .ok (.aload_n 0, 1) := by decide +kernel
theorem dX8_together_16 : decode cX8_together 16 = .ok (.getfield 7, 3) := by decide +kernel
theorem dX8_together_19 : decode cX8_together 19 = .ok (.iload_n 2, 1) := by decide +kernel
theorem dX8_together_20 : decode cX8_together 20 = .ok (.iaload, 1) := by decide +kernel
theorem dX8_together_21 : decode cX8_together 21 = .ok (.aload_n 0, 1) := by decide +kernel
theorem dX8_together_22 : decode cX8_together 22 = .ok (.getfield 13, 3) := by decide +kernel
theorem dX8_together_25 : decode cX8_together 25 = .ok (.iload_n 1, 1) := by decide +kernel
theorem dX8_together_26 : decode cX8_together 26 = .ok (.iaload, 1) := by decide +kernel
theorem dX8_together_27 : decode cX8_together 27 = .ok (.if_icmp .ge 7, 3) := by decide +kernel
theorem dX8_together_30 : decode cX8_together 30 = .ok (.iconst 1, 1) := by decide +kernel
theorem dX8_together_31 : decode cX8_together 31 = .ok (.goto 4, 3) := by decide +kernel
theorem dX8_together_34 : decode cX8_together 34 = .ok (.iconst 0, 1) := by decide +kernel
theorem dX8_together_35 : decode cX8_together 35 = .ok (.ireturn, 1) := by decide +kernel
set_option maxRecDepth 20000 in
theorem ggX8_note_X8_isNote : GoodIn wsX8_note wsX8_isNote := goodIn_r _ [9, 10] (by decide +kernel) (by decide +kernel)
set_option maxRecDepth 20000 in
theorem gX8_note_X8_isNote : GoodIn wsX8_note (va_wsS RX8 51 yX8_isNote wsX8_isNote) := goodIn_app (goodIn_of _ (by decide +kernel)) ggX8_note_X8_isNote
set_option maxRecDepth 20000 in
theorem ggX8_note_X8_sort : GoodIn wsX8_note wsX8_sort := goodIn_r _ [14, 1, 15, 16, 17, 18, 8, 19, 20, 21, 22, 23, 2, 4, 24, 25, 26, 27, 28, 29, 30, 31, 32, 33] (by decide +kernel) (by decide +kernel)
set_option maxRecDepth 20000 in
theorem gX8_note_X8_sort : GoodIn wsX8_note (wsV RX8 55 RX8 yX8_sort wsX8_sort) := goodIn_app (goodIn_of _ (by decide +kernel)) ggX8_note_X8_sort
theorem dX8_note_0 : decode cX8_note 0 = .ok (.iload_n 1, 1) := by decide +kernel
theorem dX8_note_1 : decode cX8_note 1 = .ok (.iload_n 2, 1) := by decide +kernel
theorem dX8_note_2 : decode cX8_note 2 = .ok (.iload_n 3, 1) := by decide +kernel
theorem dX8_note_3 : decode cX8_note 3 = .ok (.invokestatic 51, 3) := by decide +kernel
theorem dX8_note_6 : decode cX8_note 6 = .ok (.ifCond .ne 6, 3) := by decide +kernel
theorem dX8_note_9 : decode cX8_note 9 = .ok (.bipush (-2), 2) := by decide +kernel
theorem dX8_note_11 : decode cX8_note 11 = .ok (.ireturn, 1) := by decide +kernel
theorem dX8_note_12 : decode cX8_note 12 = .ok (.aload_n 0, 1) := by decide +kernel
theorem dX8_note_13 : decode cX8_note 13 = .ok (.getfield 38, 3) := by decide +kernel
theorem dX8_note_16 : decode cX8_note 16 = .ok (.bipush 60, 2) := by decide +kernel
theorem dX8_note_18 : decode cX8_note 18 = .ok (.if_icmp .ne 6, 3) := by decide +kernel
theorem dX8_note_21 : decode cX8_note 21 = .ok (.bipush (-4), 2) := by decide +kernel
theorem dX8_note_23 : decode cX8_note 23 = .ok (.ireturn, 1) := by decide +kernel
theorem dX8_note_24 : decode cX8_note 24 = .ok (.aload_n 0, 1) := by decide +kernel
theorem dX8_note_25 : decode cX8_note 25 = .ok (.getfield 7, 3) := by decide +kernel
theorem dX8_note_28 : decode cX8_note 28 = .ok (.aload_n 0, 1) := by decide +kernel
theorem dX8_note_29 : decode cX8_note 29 = .ok (.getfield 38, 3) := by decide +kernel
theorem dX8_note_32 : decode cX8_note 32 = .ok (.iload_n 1, 1) := by decide +kernel
theorem dX8_note_33 : decode cX8_note 33 = .ok (.iastore, 1) := by decide +kernel
theorem dX8_note_34 : decode cX8_note 34 = .ok (.aload_n 0, 1) := by decide +kernel
theorem dX8_note_35 : decode cX8_note 35 = .ok (.getfield 13, 3) := by decide +kernel
theorem dX8_note_38 : decode cX8_note 38 = .ok (.aload_n 0, 1) := by decide +kernel
theorem dX8_note_39 : decode cX8_note 39 = .ok (.getfield 38, 3) := by decide +kernel
theorem dX8_note_42 : decode cX8_note 42 = .ok (.iload_n 2, 1) := by decide +kernel
theorem dX8_note_43 : decode cX8_note 43 = .ok (.iastore, 1) := by decide +kernel
theorem dX8_note_44 : decode cX8_note 44 = .ok (.aload_n 0, 1) := by decide +kernel
theorem dX8_note_45 : decode cX8_note 45 = .ok (.getfield 16, 3) := by decide +kernel
theorem dX8_note_48 : decode cX8_note 48 = .ok (.aload_n 0, 1) := by decide +kernel
theorem dX8_note_49 : decode cX8_note 49 = .ok (.getfield 38, 3) := by decide +kernel
theorem dX8_note_52 : decode cX8_note 52 = .ok (.iload_n 3, 1) := by decide +kernel
theorem dX8_note_53 : decode cX8_note 53 = .ok (.iastore, 1) := by decide +kernel
theorem dX8_note_54 : decode cX8_note 54 = .ok (.aload_n 0, 1) := by decide +kernel
theorem dX8_note_55 : decode cX8_note 55 = .ok (.getfield 19, 3) := by decide +kernel
theorem dX8_note_58 : decode cX8_note 58 = .ok (.aload_n 0, 1) := by decide +kernel
theorem dX8_note_59 : decode cX8_note 59 = .ok (.getfield 38, 3) := by decide +kernel
theorem dX8_note_62 : decode cX8_note 62 = .ok (.iconst (-1), 1) := by decide +kernel
theorem dX8_note_63 : decode cX8_note 63 = .ok (.iastore, 1) := by decide +kernel
theorem dX8_note_64 : decode cX8_note 64 = .ok (.aload_n 0, 1) := by decide +kernel
theorem dX8_note_65 : decode cX8_note 65 = .ok (.dup, 1) := by decide +kernel
theorem dX8_note_66 : decode cX8_note 66 = .ok (.getfield 38, 3) := by decide +kernel
theorem dX8_note_69 : decode cX8_note 69 = .ok (.iconst 1, 1) := by decide +kernel
theorem dX8_note_70 : decode cX8_note 70 = .ok (.iadd, 1) := by decide +kernel
theorem dX8_note_71 : decode cX8_note 71 = .ok (.putfield 38, 3) := by decide +kernel
theorem dX8_note_74 : decode cX8_note 74 = .ok (.aload_n 0, 1) := by decide +kernel
theorem dX8_note_75 : decode cX8_note 75 = .ok (.invokevirtual 55, 3) := by decide +kernel
theorem dX8_note_78 : decode cX8_note 78 = .ok (.aload_n 0, 1) := by decide +kernel
theorem dX8_note_79 : decode cX8_note 79 = .ok (.getfield 38, 3) := by decide +kernel
theorem dX8_note_82 : decode cX8_note 82 = .ok (.iconst 1, 1) := by decide +kernel
theorem dX8_note_83 : decode cX8_note 83 = .ok (.isub, 1) := by decide +kernel
theorem dX8_note_84 : decode cX8_note 84 = .ok (.ireturn, 1) := by decide +kernel
set_option maxRecDepth 20000 in
theorem ggX8_move_X8_isNote : GoodIn wsX8_move wsX8_isNote := goodIn_r _ [8, 9] (by decide +kernel) (by decide +kernel)
set_option maxRecDepth 20000 in
theorem gX8_move_X8_isNote : GoodIn wsX8_move (va_wsS RX8 51 yX8_isNote wsX8_isNote) := goodIn_app (goodIn_of _ (by decide +kernel)) ggX8_move_X8_isNote
set_option maxRecDepth 20000 in
theorem ggX8_move_X8_sort : GoodIn wsX8_move wsX8_sort := goodIn_r _ [13, 1, 14, 15, 16, 17, 7, 18, 19, 20, 21, 22, 2, 4, 23, 24, 25, 26, 27, 28, 29, 30, 31, 32] (by decide +kernel) (by decide +kernel)
set_option maxRecDepth 20000 in
theorem gX8_move_X8_sort : GoodIn wsX8_move (wsV RX8 55 RX8 yX8_sort wsX8_sort) := goodIn_app (goodIn_of _ (by decide +kernel)) ggX8_move_X8_sort
theorem dX8_move_0 : decode cX8_move 0 = .ok (.iload_n 1, 1) := by decide +kernel
theorem dX8_move_1 : decode cX8_move 1 = .ok (.ifCond .lt 21, 3) := by decide +kernel
theorem dX8_move_4 : decode cX8_move 4 = .ok (.iload_n 1, 1) := by decide +kernel
theorem dX8_move_5 : decode cX8_move 5 = .ok (.aload_n 0, 1) := by decide +kernel
theorem dX8_move_6 : decode cX8_move 6 = .ok (.getfield 38, 3) := by decide +kernel
theorem dX8_move_9 : decode cX8_move 9 = .ok (.if_icmp .ge 13, 3) := by decide +kernel
theorem dX8_move_12 : decode cX8_move 12 = .ok (.iload_n 2, 1) := by decide +kernel
theorem dX8_move_13 : decode cX8_move 13 = .ok (.iload_n 3, 1) := by decide +kernel
theorem dX8_move_14 : decode cX8_move 14 = .ok (.iload 4, 2) := by decide +kernel
theorem dX8_move_16 : decode cX8_move 16 = .ok (.invokestatic 51, 3) := by decide +kernel
theorem dX8_move_19 : decode cX8_move 19 = .ok (.ifCond .ne 6, 3) := by decide +kernel
theorem dX8_move_22 : decode cX8_move 22 = .ok (.bipush (-2), 2) := by decide +kernel
theorem dX8_move_24 : decode cX8_move 24 = .ok (.ireturn, 1) := by decide +kernel
theorem dX8_move_25 : decode cX8_move 25 = .ok (.aload_n 0, 1) := by decide +kernel
theorem dX8_move_26 : decode cX8_move 26 = .ok (.getfield 7, 3) := by decide +kernel
theorem dX8_move_29 : decode cX8_move 29 = .ok (.iload_n 1, 1) := by decide +kernel
theorem dX8_move_30 : decode cX8_move 30 = .ok (.iload_n 2, 1) := by decide +kernel
theorem dX8_move_31 : decode cX8_move 31 = .ok (.iastore, 1) := by decide +kernel
theorem dX8_move_32 : decode cX8_move 32 = .ok (.aload_n 0, 1) := by decide +kernel
theorem dX8_move_33 : decode cX8_move 33 = .ok (.getfield 13, 3) := by decide +kernel
theorem dX8_move_36 : decode cX8_move 36 = .ok (.iload_n 1, 1) := by decide +kernel
theorem dX8_move_37 : decode cX8_move 37 = .ok (.iload_n 3, 1) := by decide +kernel
theorem dX8_move_38 : decode cX8_move 38 = .ok (.iastore, 1) := by decide +kernel
theorem dX8_move_39 : decode cX8_move 39 = .ok (.aload_n 0, 1) := by decide +kernel
theorem dX8_move_40 : decode cX8_move 40 = .ok (.getfield 16, 3) := by decide +kernel
theorem dX8_move_43 : decode cX8_move 43 = .ok (.iload_n 1, 1) := by decide +kernel
theorem dX8_move_44 : decode cX8_move 44 = .ok (.iload 4, 2) := by decide +kernel
theorem dX8_move_46 : decode cX8_move 46 = .ok (.iastore, 1) := by decide +kernel
theorem dX8_move_47 : decode cX8_move 47 = .ok (.aload_n 0, 1) := by decide +kernel
theorem dX8_move_48 : decode cX8_move 48 = .ok (.invokevirtual 55, 3) := by decide +kernel
theorem dX8_move_51 : decode cX8_move 51 = .ok (.iconst 1, 1) := by decide +kernel
theorem dX8_move_52 : decode cX8_move 52 = .ok (.ireturn, 1) := by decide +kernel
theorem dX8_weigh_0 : decode cX8_weigh 0 = .ok (.iload_n 1, 1) := by decide +kernel
theorem dX8_weigh_1 : decode cX8_weigh 1 = .ok (.ifCond .lt 19, 3) := by decide +kernel
theorem dX8_weigh_4 : decode cX8_weigh 4 = .ok (.iload_n 1, 1) := by decide +kernel
theorem dX8_weigh_5 : decode cX8_weigh 5 = .ok (.iconst 3, 1) := by decide +kernel
theorem dX8_weigh_6 : decode cX8_weigh 6 = .ok (.if_icmp .gt 14, 3) := by decide +kernel
theorem dX8_weigh_9 : decode cX8_weigh 9 = .ok (.iload_n 2, 1) := by decide +kernel
theorem dX8_weigh_10 : decode cX8_weigh 10 = .ok (.ifCond .lt 10, 3) := by decide +kernel
