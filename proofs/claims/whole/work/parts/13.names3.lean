theorem inlX0 : ∀ w ∈ wsX00, w ∈ wsL_law := fun _ h => List.mem_append_left _ (List.mem_append_left _ (List.mem_append_left _ (List.mem_append_left _ (List.mem_append_right _ h))))
theorem inlX1 : ∀ w ∈ wsX10, w ∈ wsL_law := fun _ h => List.mem_append_left _ (List.mem_append_left _ (List.mem_append_right _ h))
theorem inlX2 : ∀ w ∈ wsX20, w ∈ wsL_law := fun _ h => List.mem_append_left _ (List.mem_append_right _ h)
theorem inlX3 : ∀ w ∈ wsX30, w ∈ wsL_law := fun _ h => List.mem_append_left _ (List.mem_append_left _ (List.mem_append_left _ (List.mem_append_right _ h)))
theorem inlX4 : ∀ w ∈ wsX40, w ∈ wsL_law := fun _ h => List.mem_append_left _ (List.mem_append_left _ (List.mem_append_left _ (List.mem_append_left _ (List.mem_append_left _ (List.mem_append_right _ h)))))
theorem inlX5 : ∀ w ∈ wsX50, w ∈ wsL_law := fun _ h => List.mem_append_left _ (List.mem_append_left _ (List.mem_append_left _ (List.mem_append_left _ (List.mem_append_left _ (List.mem_append_left _ (List.mem_append_right _ h))))))
theorem inlX6 : ∀ w ∈ wsX60, w ∈ wsL_law := fun _ h => List.mem_append_left _ (List.mem_append_left _ (List.mem_append_left _ (List.mem_append_left _ (List.mem_append_left _ (List.mem_append_left _ (List.mem_append_left _ (List.mem_append_right _ h)))))))
theorem inlX7 : ∀ w ∈ wsX70, w ∈ wsL_law := fun _ h => List.mem_append_left _ (List.mem_append_left _ (List.mem_append_left _ (List.mem_append_left _ (List.mem_append_left _ (List.mem_append_left _ (List.mem_append_left _ (List.mem_append_left _ (List.mem_append_left _ (List.mem_append_right _ h)))))))))
theorem inlX8 : ∀ w ∈ wsX80, w ∈ wsL_law := fun _ h => List.mem_append_left _ (List.mem_append_left _ (List.mem_append_left _ (List.mem_append_left _ (List.mem_append_left _ (List.mem_append_left _ (List.mem_append_left _ (List.mem_append_left _ (List.mem_append_right _ h))))))))
theorem inJx8e188 : ∀ w ∈ wsJx8e1880, w ∈ lw_tbl := by decide +kernel
theorem inJ9 : ∀ w ∈ wsJ90, w ∈ lw_tbl := by decide +kernel
theorem inJ10 : ∀ w ∈ wsJ100, w ∈ lw_tbl := by decide +kernel
theorem inJ7 : ∀ w ∈ wsJ70, w ∈ lw_tbl := by decide +kernel
theorem dX0_init_0 : decode cX0_init 0 = .ok (.aload_n 0, 1) := by decide +kernel
theorem dX0_init_1 : decode cX0_init 1 = .ok (.invokespecial 3, 3) := by decide +kernel
theorem dX0_init_4 : decode cX0_init 4 = .ok (.aload_n 0, 1) := by decide +kernel
theorem dX0_init_5 : decode cX0_init 5 = .ok (.aload_n 1, 1) := by decide +kernel
theorem dX0_init_6 : decode cX0_init 6 = .ok (.putfield 9, 3) := by decide +kernel
theorem dX0_init_9 : decode cX0_init 9 = .ok (.aload_n 0, 1) := by decide +kernel
theorem dX0_init_10 : decode cX0_init 10 = .ok (.aload_n 2, 1) := by decide +kernel
theorem dX0_init_11 : decode cX0_init 11 = .ok (.putfield 15, 3) := by decide +kernel
theorem dX0_init_14 : decode cX0_init 14 = .ok (.aload_n 0, 1) := by decide +kernel
theorem dX0_init_15 : decode cX0_init 15 = .ok (.aload_n 3, 1) := by decide +kernel
theorem dX0_init_16 : decode cX0_init 16 = .ok (.putfield 19, 3) := by decide +kernel
theorem dX0_init_19 : decode cX0_init 19 = .ok (.return_, 1) := by decide +kernel
set_option maxRecDepth 20000 in
theorem ggX0_part_X0_leaps : GoodIn wsX0_part wsX0_leaps := goodIn_r _ [5, 6, 7, 8, 9, 10, 11, 12, 13, 14, 15, 16, 17, 18, 19, 20, 21, 22, 82, 83, 84, 85, 86, 87, 88, 89, 90, 91] (by decide +kernel) (by decide +kernel)
set_option maxRecDepth 20000 in
theorem gX0_part_X0_leaps : GoodIn wsX0_part (wsV RX0 23 RX0 yX0_leaps wsX0_leaps) := goodIn_app (goodIn_of _ (by decide +kernel)) ggX0_part_X0_leaps
set_option maxRecDepth 20000 in
theorem ggX0_part_X0_gaps : GoodIn wsX0_part wsX0_gaps := goodIn_r _ [26, 6, 7, 27, 28, 13, 14, 15, 16, 17, 18, 19, 20, 21, 22, 82, 83, 84, 85, 86, 87, 88, 89, 90, 91] (by decide +kernel) (by decide +kernel)
set_option maxRecDepth 20000 in
theorem gX0_part_X0_gaps : GoodIn wsX0_part (wsV RX0 27 RX0 yX0_gaps wsX0_gaps) := goodIn_app (goodIn_of _ (by decide +kernel)) ggX0_part_X0_gaps
set_option maxRecDepth 20000 in
theorem ggX0_part_X0_crossings : GoodIn wsX0_part wsX0_crossings := goodIn_r _ [32, 33, 13, 34, 35, 36, 37, 38, 39, 40, 41, 42, 43, 44, 45, 46, 47, 48, 49, 50, 51, 17, 52, 53, 54, 55, 56, 57, 58, 59, 60, 61, 62, 63, 64, 65, 66, 67, 68, 69, 82, 83, 84, 92, 93, 94, 85, 86, 87, 88, 89, 90, 91] (by decide +kernel) (by decide +kernel)
set_option maxRecDepth 20000 in
theorem gX0_part_X0_crossings : GoodIn wsX0_part (wsV RX0 30 RX0 yX0_crossings wsX0_crossings) := goodIn_app (goodIn_of _ (by decide +kernel)) ggX0_part_X0_crossings
set_option maxRecDepth 20000 in
theorem ggX0_part_X0_used : GoodIn wsX0_part wsX0_used := goodIn_r _ [73, 6, 13, 74, 75, 76, 17, 77, 78, 79, 80, 81, 21, 19, 82, 83, 84, 85, 86, 87, 88, 89, 90, 91] (by decide +kernel) (by decide +kernel)
set_option maxRecDepth 20000 in
theorem gX0_part_X0_used : GoodIn wsX0_part (wsV RX0 33 RX0 yX0_used wsX0_used) := goodIn_app (goodIn_of _ (by decide +kernel)) ggX0_part_X0_used
theorem dX0_part_0 : decode cX0_part 0 = .ok (.iload_n 1, 1) := by decide +kernel
theorem dX0_part_1 : decode cX0_part 1 = .ok (.tableswitch 51 1 4 #[31, 36, 41, 46], 31) := by decide +kernel
theorem dX0_part_32 : decode cX0_part 32 = .ok (.aload_n 0, 1) := by decide +kernel
theorem dX0_part_33 : decode cX0_part 33 = .ok (.invokevirtual 23, 3) := by decide +kernel
theorem dX0_part_36 : decode cX0_part 36 = .ok (.ireturn, 1) := by decide +kernel
theorem dX0_part_37 : decode cX0_part 37 = .ok (.aload_n 0, 1) := by decide +kernel
theorem dX0_part_38 : decode cX0_part 38 = .ok (.invokevirtual 27, 3) := by decide +kernel
theorem dX0_part_41 : decode cX0_part 41 = .ok (.ireturn, 1) := by decide +kernel
theorem dX0_part_42 : decode cX0_part 42 = .ok (.aload_n 0, 1) := by decide +kernel
theorem dX0_part_43 : decode cX0_part 43 = .ok (.invokevirtual 30, 3) := by decide +kernel
theorem dX0_part_46 : decode cX0_part 46 = .ok (.ireturn, 1) := by decide +kernel
theorem dX0_part_47 : decode cX0_part 47 = .ok (.aload_n 0, 1) := by decide +kernel
theorem dX0_part_48 : decode cX0_part 48 = .ok (.invokevirtual 33, 3) := by decide +kernel
theorem dX0_part_51 : decode cX0_part 51 = .ok (.ireturn, 1) := by decide +kernel
theorem dX0_part_52 : decode cX0_part 52 = .ok (.aload_n 0, 1) := by decide +kernel
theorem dX0_part_53 : decode cX0_part 53 = .ok (.invokevirtual 23, 3) := by decide +kernel
theorem dX0_part_56 : decode cX0_part 56 = .ok (.aload_n 0, 1) := by decide +kernel
theorem dX0_part_57 : decode cX0_part 57 = .ok (.invokevirtual 27, 3) := by decide +kernel
theorem dX0_part_60 : decode cX0_part 60 = .ok (.iadd, 1) := by decide +kernel
theorem dX0_part_61 : decode cX0_part 61 = .ok (.aload_n 0, 1) := by decide +kernel
theorem dX0_part_62 : decode cX0_part 62 = .ok (.invokevirtual 30, 3) := by decide +kernel
theorem dX0_part_65 : decode cX0_part 65 = .ok (.iadd, 1) := by decide +kernel
theorem dX0_part_66 : decode cX0_part 66 = .ok (.aload_n 0, 1) := by decide +kernel
theorem dX0_part_67 : decode cX0_part 67 = .ok (.invokevirtual 33, 3) := by decide +kernel
theorem dX0_part_70 : decode cX0_part 70 = .ok (.iadd, 1) := by decide +kernel
theorem dX0_part_71 : decode cX0_part 71 = .ok (.ireturn, 1) := by decide +kernel
set_option maxRecDepth 20000 in
theorem ggX0_leaps_X6_following : GoodIn wsX0_leaps wsX6_following := goodIn_r _ [13, 14, 15, 16, 17, 21, 22, 23, 24, 25, 26, 27] (by decide +kernel) (by decide +kernel)
set_option maxRecDepth 20000 in
theorem gX0_leaps_X6_following : GoodIn wsX0_leaps (wsV RX0 42 RX6 yX6_following wsX6_following) := goodIn_app (goodIn_of _ (by decide +kernel)) ggX0_leaps_X6_following
theorem dX0_leaps_0 : decode cX0_leaps 0 = .ok (.iconst 0, 1) := by decide +kernel
theorem dX0_leaps_1 : decode cX0_leaps 1 = .ok (.istore_n 1, 1) := by decide +kernel
theorem dX0_leaps_2 : decode cX0_leaps 2 = .ok (.iconst 0, 1) := by decide +kernel
theorem dX0_leaps_3 : decode cX0_leaps 3 = .ok (.istore_n 2, 1) := by decide +kernel
theorem dX0_leaps_4 : decode cX0_leaps 4 = .ok (.iload_n 2, 1) := by decide +kernel
theorem dX0_leaps_5 : decode cX0_leaps 5 = .ok (.aload_n 0, 1) := by decide +kernel
theorem dX0_leaps_6 : decode cX0_leaps 6 = .ok (.getfield 9, 3) := by decide +kernel
theorem dX0_leaps_9 : decode cX0_leaps 9 = .ok (.getfield 36, 3) := by decide +kernel
theorem dX0_leaps_12 : decode cX0_leaps 12 = .ok (.if_icmp .ge 48, 3) := by decide +kernel
theorem dX0_leaps_15 : decode cX0_leaps 15 = .ok (.aload_n 0, 1) := by decide +kernel
theorem dX0_leaps_16 : decode cX0_leaps 16 = .ok (.getfield 9, 3) := by decide +kernel
theorem dX0_leaps_19 : decode cX0_leaps 19 = .ok (.iload_n 2, 1) := by decide +kernel
theorem dX0_leaps_20 : decode cX0_leaps 20 = .ok (.invokevirtual 42, 3) := by decide +kernel
theorem dX0_leaps_23 : decode cX0_leaps 23 = .ok (.istore_n 3, 1) := by decide +kernel
theorem dX0_leaps_24 : decode cX0_leaps 24 = .ok (.iload_n 3, 1) := by decide +kernel
theorem dX0_leaps_25 : decode cX0_leaps 25 = .ok (.iconst (-1), 1) := by decide +kernel
theorem dX0_leaps_26 : decode cX0_leaps 26 = .ok (.if_icmp .eq 28, 3) := by decide +kernel
theorem dX0_leaps_29 : decode cX0_leaps 29 = .ok (.iload_n 1, 1) := by decide +kernel
theorem dX0_leaps_30 : decode cX0_leaps 30 = .ok (.aload_n 0, 1) := by decide +kernel
theorem dX0_leaps_31 : decode cX0_leaps 31 = .ok (.getfield 9, 3) := by decide +kernel
theorem dX0_leaps_34 : decode cX0_leaps 34 = .ok (.getfield 46, 3) := by decide +kernel
theorem dX0_leaps_37 : decode cX0_leaps 37 = .ok (.iload_n 3, 1) := by decide +kernel
theorem dX0_leaps_38 : decode cX0_leaps 38 = .ok (.iaload, 1) := by decide +kernel
theorem dX0_leaps_39 : decode cX0_leaps 39 = .ok (.aload_n 0, 1) := by decide +kernel
theorem dX0_leaps_40 : decode cX0_leaps 40 = .ok (.getfield 9, 3) := by decide +kernel
theorem dX0_leaps_43 : decode cX0_leaps 43 = .ok (.getfield 46, 3) := by decide +kernel
theorem dX0_leaps_46 : decode cX0_leaps 46 = .ok (.iload_n 2, 1) := by decide +kernel
theorem dX0_leaps_47 : decode cX0_leaps 47 = .ok (.iaload, 1) := by decide +kernel
theorem dX0_leaps_48 : decode cX0_leaps 48 = .ok (.isub, 1) := by decide +kernel
theorem dX0_leaps_49 : decode cX0_leaps 49 = .ok (.invokestatic 49, 3) := by decide +kernel
theorem dX0_leaps_52 : decode cX0_leaps 52 = .ok (.iadd, 1) := by decide +kernel
theorem dX0_leaps_53 : decode cX0_leaps 53 = .ok (.istore_n 1, 1) := by decide +kernel
theorem dX0_leaps_54 : decode cX0_leaps 54 = .ok (.iinc 2 1, 3) := by decide +kernel
theorem dX0_leaps_57 : decode cX0_leaps 57 = .ok (.goto (-53), 3) := by decide +kernel
theorem dX0_leaps_60 : decode cX0_leaps 60 = .ok (.iload_n 1, 1) := by decide +kernel
theorem dX0_leaps_61 : decode cX0_leaps 61 = .ok (.aload_n 0, 1) := by decide +kernel
theorem dX0_leaps_62 : decode cX0_leaps 62 = .ok (.getfield 15, 3) := by decide +kernel
theorem dX0_leaps_65 : decode cX0_leaps 65 = .ok (.iconst 0, 1) := by decide +kernel
theorem dX0_leaps_66 : decode cX0_leaps 66 = .ok (.iaload, 1) := by decide +kernel
theorem dX0_leaps_67 : decode cX0_leaps 67 = .ok (.imul, 1) := by decide +kernel
theorem dX0_leaps_68 : decode cX0_leaps 68 = .ok (.ireturn, 1) := by decide +kernel
set_option maxRecDepth 20000 in
theorem ggX0_gaps_X6_following : GoodIn wsX0_gaps wsX6_following := goodIn_r _ [10, 11, 12, 13, 14, 18, 19, 20, 21, 22, 23, 24] (by decide +kernel) (by decide +kernel)
set_option maxRecDepth 20000 in
theorem gX0_gaps_X6_following : GoodIn wsX0_gaps (wsV RX0 42 RX6 yX6_following wsX6_following) := goodIn_app (goodIn_of _ (by decide +kernel)) ggX0_gaps_X6_following
theorem dX0_gaps_0 : decode cX0_gaps 0 = .ok (.iconst 0, 1) := by decide +kernel
theorem dX0_gaps_1 : decode cX0_gaps 1 = .ok (.istore_n 1, 1) := by decide +kernel
theorem dX0_gaps_2 : decode cX0_gaps 2 = .ok (.iconst 0, 1) := by decide +kernel
theorem dX0_gaps_3 : decode cX0_gaps 3 = .ok (.istore_n 2, 1) := by decide +kernel
theorem dX0_gaps_4 : decode cX0_gaps 4 = .ok (.iload_n 2, 1) := by decide +kernel
theorem dX0_gaps_5 : decode cX0_gaps 5 = .ok (.aload_n 0, 1) := by decide +kernel
theorem dX0_gaps_6 : decode cX0_gaps 6 = .ok (.getfield 9, 3) := by decide +kernel
theorem dX0_gaps_9 : decode cX0_gaps 9 = .ok (.getfield 36, 3) := by decide +kernel
theorem dX0_gaps_12 : decode cX0_gaps 12 = .ok (.if_icmp .ge 45, 3) := by decide +kernel
theorem dX0_gaps_15 : decode cX0_gaps 15 = .ok (.aload_n 0, 1) := by decide +kernel
theorem dX0_gaps_16 : decode cX0_gaps 16 = .ok (.getfield 9, 3) := by decide +kernel
theorem dX0_gaps_19 : decode cX0_gaps 19 = .ok (.iload_n 2, 1) := by decide +kernel
theorem dX0_gaps_20 : decode cX0_gaps 20 = .ok (.invokevirtual 42, 3) := by decide +kernel
theorem dX0_gaps_23 : decode cX0_gaps 23 = .ok (.istore_n 3, 1) := by decide +kernel
theorem dX0_gaps_24 : decode cX0_gaps 24 = .ok (.iload_n 3, 1) := by decide +kernel
theorem dX0_gaps_25 : decode cX0_gaps 25 = .ok (.iconst (-1), 1) := by decide +kernel
theorem dX0_gaps_26 : decode cX0_gaps 26 = .ok (.if_icmp .eq 25, 3) := by decide +kernel
theorem dX0_gaps_29 : decode cX0_gaps 29 = .ok (.iload_n 1, 1) := by decide +kernel
theorem dX0_gaps_30 : decode cX0_gaps 30 = .ok (.aload_n 0, 1) := by decide +kernel
theorem dX0_gaps_31 : decode cX0_gaps 31 = .ok (.getfield 9, 3) := by decide +kernel
theorem dX0_gaps_34 : decode cX0_gaps 34 = .ok (.getfield 54, 3) := by decide +kernel
theorem dX0_gaps_37 : decode cX0_gaps 37 = .ok (.iload_n 3, 1) := by decide +kernel
theorem dX0_gaps_38 : decode cX0_gaps 38 = .ok (.iaload, 1) := by decide +kernel
theorem dX0_gaps_39 : decode cX0_gaps 39 = .ok (.aload_n 0, 1) := by decide +kernel
theorem dX0_gaps_40 : decode cX0_gaps 40 = .ok (.getfield 9, 3) := by decide +kernel
theorem dX0_gaps_43 : decode cX0_gaps 43 = .ok (.getfield 57, 3) := by decide +kernel
theorem dX0_gaps_46 : decode cX0_gaps 46 = .ok (.iload_n 2, 1) := by decide +kernel
theorem dX0_gaps_47 : decode cX0_gaps 47 = .ok (.iaload, 1) := by decide +kernel
theorem dX0_gaps_48 : decode cX0_gaps 48 = .ok (.isub, 1) := by decide +kernel
theorem dX0_gaps_49 : decode cX0_gaps 49 = .ok (.iadd, 1) := by decide +kernel
theorem dX0_gaps_50 : decode cX0_gaps 50 = .ok (.istore_n 1, 1) := by decide +kernel
theorem dX0_gaps_51 : decode cX0_gaps 51 = .ok (.iinc 2 1, 3) := by decide +kernel
theorem dX0_gaps_54 : decode cX0_gaps 54 = .ok (.goto (-50), 3) := by decide +kernel
theorem dX0_gaps_57 : decode cX0_gaps 57 = .ok (.iload_n 1, 1) := by decide +kernel
theorem dX0_gaps_58 : decode cX0_gaps 58 = .ok (.aload_n 0, 1) := by decide +kernel
theorem dX0_gaps_59 : decode cX0_gaps 59 = .ok (.getfield 15, 3) := by decide +kernel
theorem dX0_gaps_62 : decode cX0_gaps 62 = .ok (.iconst 1, 1) := by decide +kernel
theorem dX0_gaps_63 : decode cX0_gaps 63 = .ok (.iaload, 1) := by decide +kernel
theorem dX0_gaps_64 : decode cX0_gaps 64 = .ok (.imul, 1) := by decide +kernel
theorem dX0_gaps_65 : decode cX0_gaps 65 = .ok (.ireturn, 1) := by decide +kernel
set_option maxRecDepth 20000 in
theorem ggX0_crossings_X4_scan : GoodIn wsX0_crossings wsX4_scan := goodIn_r _ [7, 8, 9, 10, 11, 12, 13, 14, 15, 6, 16, 17, 18, 19, 20, 21, 22, 23, 24, 25, 26, 27, 28, 29, 30, 31, 32, 33, 34, 35, 36, 37, 38, 39, 43, 44, 45, 46, 47, 48, 49, 50, 51, 52] (by decide +kernel) (by decide +kernel)
set_option maxRecDepth 20000 in
theorem gX0_crossings_X4_scan : GoodIn wsX0_crossings (wsV RX0 60 RX4 yX4_scan wsX4_scan) := goodIn_app (goodIn_of _ (by decide +kernel)) ggX0_crossings_X4_scan
theorem dX0_crossings_0 : decode cX0_crossings 0 = .ok (.aload_n 0, 1) := by decide +kernel
theorem dX0_crossings_1 : decode cX0_crossings 1 = .ok (.getfield 19, 3) := by decide +kernel
theorem dX0_crossings_4 : decode cX0_crossings 4 = .ok (.iconst 0, 1) := by decide +kernel
theorem dX0_crossings_5 : decode cX0_crossings 5 = .ok (.iconst (-1), 1) := by decide +kernel
theorem dX0_crossings_6 : decode cX0_crossings 6 = .ok (.invokevirtual 60, 3) := by decide +kernel
theorem dX0_crossings_9 : decode cX0_crossings 9 = .ok (.aload_n 0, 1) := by decide +kernel
theorem dX0_crossings_10 : decode cX0_crossings 10 = .ok (.getfield 15, 3) := by decide +kernel
theorem dX0_crossings_13 : decode cX0_crossings 13 = .ok (.iconst 2, 1) := by decide +kernel
theorem dX0_crossings_14 : decode cX0_crossings 14 = .ok (.iaload, 1) := by decide +kernel
theorem dX0_crossings_15 : decode cX0_crossings 15 = .ok (.imul, 1) := by decide +kernel
theorem dX0_crossings_16 : decode cX0_crossings 16 = .ok (.ireturn, 1) := by decide +kernel
set_option maxRecDepth 20000 in
theorem ggX0_used_X6_voicesUsed : GoodIn wsX0_used wsX6_voicesUsed := goodIn_r _ [7, 8, 9, 10, 6, 11, 12, 13, 17, 18, 19, 20, 21, 22, 23] (by decide +kernel) (by decide +kernel)
set_option maxRecDepth 20000 in
theorem gX0_used_X6_voicesUsed : GoodIn wsX0_used (wsV RX0 66 RX6 yX6_voicesUsed wsX6_voicesUsed) := goodIn_app (goodIn_of _ (by decide +kernel)) ggX0_used_X6_voicesUsed
theorem dX0_used_0 : decode cX0_used 0 = .ok (.aload_n 0, 1) := by decide +kernel
theorem dX0_used_1 : decode cX0_used 1 = .ok (.getfield 9, 3) := by decide +kernel
theorem dX0_used_4 : decode cX0_used 4 = .ok (.invokevirtual 66, 3) := by decide +kernel
theorem dX0_used_7 : decode cX0_used 7 = .ok (.aload_n 0, 1) := by decide +kernel
theorem dX0_used_8 : decode cX0_used 8 = .ok (.getfield 15, 3) := by decide +kernel
theorem dX0_used_11 : decode cX0_used 11 = .ok (.iconst 3, 1) := by decide +kernel
theorem dX0_used_12 : decode cX0_used 12 = .ok (.iaload, 1) := by decide +kernel
theorem dX0_used_13 : decode cX0_used 13 = .ok (.imul, 1) := by decide +kernel
theorem dX0_used_14 : decode cX0_used 14 = .ok (.ireturn, 1) := by decide +kernel
theorem dX1_init_0 : decode cX1_init 0 = .ok (.aload_n 0, 1) := by decide +kernel
theorem dX1_init_1 : decode cX1_init 1 = .ok (.invokespecial 3, 3) := by decide +kernel
theorem dX1_init_4 : decode cX1_init 4 = .ok (.aload_n 0, 1) := by decide +kernel
theorem dX1_init_5 : decode cX1_init 5 = .ok (.iconst 4, 1) := by decide +kernel
theorem dX1_init_6 : decode cX1_init 6 = .ok (.newarray .int, 2) := by decide +kernel
theorem dX1_init_8 : decode cX1_init 8 = .ok (.putfield 9, 3) := by decide +kernel
theorem dX1_init_11 : decode cX1_init 11 = .ok (.aload_n 0, 1) := by decide +kernel
theorem dX1_init_12 : decode cX1_init 12 = .ok (.iconst 0, 1) := by decide +kernel
theorem dX1_init_13 : decode cX1_init 13 = .ok (.newarray .int, 2) := by decide +kernel
theorem dX1_init_15 : decode cX1_init 15 = .ok (.putfield 15, 3) := by decide +kernel
theorem dX1_init_18 : decode cX1_init 18 = .ok (.aload_n 0, 1) := by decide +kernel
theorem dX1_init_19 : decode cX1_init 19 = .ok (.aload_n 1, 1) := by decide +kernel
theorem dX1_init_20 : decode cX1_init 20 = .ok (.putfield 18, 3) := by decide +kernel
theorem dX1_init_23 : decode cX1_init 23 = .ok (.aload_n 0, 1) := by decide +kernel
theorem dX1_init_24 : decode cX1_init 24 = .ok (.aload_n 2, 1) := by decide +kernel
theorem dX1_init_25 : decode cX1_init 25 = .ok (.putfield 22, 3) := by decide +kernel
theorem dX1_init_28 : decode cX1_init 28 = .ok (.return_, 1) := by decide +kernel
set_option maxRecDepth 20000 in
theorem ggX1_search_X1_makeStates : GoodIn wsX1_search wsX1_makeStates := goodIn_r _ [7, 1, 8, 9, 10, 11, 12, 13, 14, 15, 16, 17, 18, 19, 20, 21, 22, 23, 24, 25, 26, 27, 68, 69, 70, 71, 72, 73, 74, 75, 76, 77, 78, 79] (by decide +kernel) (by decide +kernel)
set_option maxRecDepth 20000 in
theorem gX1_search_X1_makeStates : GoodIn wsX1_search (wsV RX1 30 RX1 yX1_makeStates wsX1_makeStates) := goodIn_app (goodIn_of _ (by decide +kernel)) ggX1_search_X1_makeStates
set_option maxRecDepth 20000 in
theorem ggX1_search_X3_empty : GoodIn wsX1_search wsX3_empty := goodIn_r _ [32, 33, 34, 35, 23, 36, 80, 81, 82] (by decide +kernel) (by decide +kernel)
set_option maxRecDepth 20000 in
theorem gX1_search_X3_empty : GoodIn wsX1_search (wsV RX1 33 RX3 yX3_empty wsX3_empty) := goodIn_app (goodIn_of _ (by decide +kernel)) ggX1_search_X3_empty
set_option maxRecDepth 20000 in
theorem ggX1_search_X1_onward : GoodIn wsX1_search wsX1_onward := goodIn_r _ [40, 9, 10, 11, 41, 1, 2, 42, 43, 44, 31, 45, 33, 46, 47, 48, 49, 50, 51, 52, 15, 53, 54, 55, 56, 57, 58, 59, 60, 6, 61, 62, 63, 64, 65, 66, 67, 8, 37, 38, 39, 68, 69, 70, 71, 72, 80, 81, 82, 73, 74, 75, 76, 77, 78, 79] (by decide +kernel) (by decide +kernel)
set_option maxRecDepth 20000 in
theorem gX1_search_X1_onward : GoodIn wsX1_search (wsV RX1 38 RX1 yX1_onward wsX1_onward) := goodIn_app (goodIn_of _ (by decide +kernel)) ggX1_search_X1_onward
theorem dX1_search_0 : decode cX1_search 0 = .ok (.aload_n 0, 1) := by decide +kernel
theorem dX1_search_1 : decode cX1_search 1 = .ok (.iload_n 1, 1) := by decide +kernel
theorem dX1_search_2 : decode cX1_search 2 = .ok (.putfield 26, 3) := by decide +kernel
theorem dX1_search_5 : decode cX1_search 5 = .ok (.aload_n 0, 1) := by decide +kernel
theorem dX1_search_6 : decode cX1_search 6 = .ok (.invokevirtual 30, 3) := by decide +kernel
theorem dX1_search_9 : decode cX1_search 9 = .ok (.aload_n 0, 1) := by decide +kernel
theorem dX1_search_10 : decode cX1_search 10 = .ok (.getfield 22, 3) := by decide +kernel
theorem dX1_search_13 : decode cX1_search 13 = .ok (.invokevirtual 33, 3) := by decide +kernel
theorem dX1_search_16 : decode cX1_search 16 = .ok (.aload_n 0, 1) := by decide +kernel
theorem dX1_search_17 : decode cX1_search 17 = .ok (.iconst 0, 1) := by decide +kernel
theorem dX1_search_18 : decode cX1_search 18 = .ok (.iconst 0, 1) := by decide +kernel
theorem dX1_search_19 : decode cX1_search 19 = .ok (.invokevirtual 38, 3) := by decide +kernel
theorem dX1_search_22 : decode cX1_search 22 = .ok (.ireturn, 1) := by decide +kernel
set_option maxRecDepth 20000 in
theorem ggX1_giveFound_X3_empty : GoodIn wsX1_giveFound wsX3_empty := goodIn_r _ [11, 12, 13, 14, 15, 16, 67, 68, 69] (by decide +kernel) (by decide +kernel)
set_option maxRecDepth 20000 in
theorem gX1_giveFound_X3_empty : GoodIn wsX1_giveFound (wsV RX1 33 RX3 yX3_empty wsX3_empty) := goodIn_app (goodIn_of _ (by decide +kernel)) ggX1_giveFound_X3_empty
set_option maxRecDepth 20000 in
theorem ggX1_giveFound_X1_firstBest : GoodIn wsX1_giveFound wsX1_firstBest := goodIn_r _ [21, 22, 1, 2, 4, 23, 24, 25, 20, 26, 3, 27, 28, 29, 30, 10, 31, 12, 32, 33, 34, 35, 36, 37, 38, 39, 40, 41, 42, 43, 44, 45, 46, 47, 48, 5, 49, 50, 51, 52, 53, 54, 55, 56, 57, 58, 59, 60, 61, 62, 63, 64, 65, 66, 67, 68, 69] (by decide +kernel) (by decide +kernel)
set_option maxRecDepth 20000 in
theorem gX1_giveFound_X1_firstBest : GoodIn wsX1_giveFound (wsV RX1 50 RX1 yX1_firstBest wsX1_firstBest) := goodIn_app (goodIn_of _ (by decide +kernel)) ggX1_giveFound_X1_firstBest
set_option maxRecDepth 20000 in
theorem ggX1_giveFound_X1_stateBehind : GoodIn wsX1_giveFound wsX1_stateBehind := goodIn_r _ [52, 1, 5, 2, 53, 54, 55, 56, 57, 58, 59, 67, 68, 69, 60, 61, 62, 63, 64, 65, 66] (by decide +kernel) (by decide +kernel)
set_option maxRecDepth 20000 in
theorem gX1_giveFound_X1_stateBehind : GoodIn wsX1_giveFound (wsV RX1 53 RX1 yX1_stateBehind wsX1_stateBehind) := goodIn_app (goodIn_of _ (by decide +kernel)) ggX1_giveFound_X1_stateBehind
theorem dX1_giveFound_0 : decode cX1_giveFound 0 = .ok (.aload_n 0, 1) := by decide +kernel
theorem dX1_giveFound_1 : decode cX1_giveFound 1 = .ok (.getfield 22, 3) := by decide +kernel
theorem dX1_giveFound_4 : decode cX1_giveFound 4 = .ok (.invokevirtual 33, 3) := by decide +kernel
theorem dX1_giveFound_7 : decode cX1_giveFound 7 = .ok (.iconst 0, 1) := by decide +kernel
theorem dX1_giveFound_8 : decode cX1_giveFound 8 = .ok (.istore_n 1, 1) := by decide +kernel
theorem dX1_giveFound_9 : decode cX1_giveFound 9 = .ok (.iconst 0, 1) := by decide +kernel
theorem dX1_giveFound_10 : decode cX1_giveFound 10 = .ok (.istore_n 2, 1) := by decide +kernel
theorem dX1_giveFound_11 : decode cX1_giveFound 11 = .ok (.iload_n 2, 1) := by decide +kernel
theorem dX1_giveFound_12 : decode cX1_giveFound 12 = .ok (.aload_n 0, 1) := by decide +kernel
theorem dX1_giveFound_13 : decode cX1_giveFound 13 = .ok (.getfield 18, 3) := by decide +kernel
theorem dX1_giveFound_16 : decode cX1_giveFound 16 = .ok (.getfield 42, 3) := by decide +kernel
theorem dX1_giveFound_19 : decode cX1_giveFound 19 = .ok (.if_icmp .ge 58, 3) := by decide +kernel
theorem dX1_giveFound_22 : decode cX1_giveFound 22 = .ok (.aload_n 0, 1) := by decide +kernel
theorem dX1_giveFound_23 : decode cX1_giveFound 23 = .ok (.getfield 18, 3) := by decide +kernel
theorem dX1_giveFound_26 : decode cX1_giveFound 26 = .ok (.getfield 47, 3) := by decide +kernel
theorem dX1_giveFound_29 : decode cX1_giveFound 29 = .ok (.iload_n 2, 1) := by decide +kernel
theorem dX1_giveFound_30 : decode cX1_giveFound 30 = .ok (.iaload, 1) := by decide +kernel
theorem dX1_giveFound_31 : decode cX1_giveFound 31 = .ok (.istore_n 3, 1) := by decide +kernel
theorem dX1_giveFound_32 : decode cX1_giveFound 32 = .ok (.aload_n 0, 1) := by decide +kernel
theorem dX1_giveFound_33 : decode cX1_giveFound 33 = .ok (.iload_n 2, 1) := by decide +kernel
theorem dX1_giveFound_34 : decode cX1_giveFound 34 = .ok (.iload_n 1, 1) := by decide +kernel
theorem dX1_giveFound_35 : decode cX1_giveFound 35 = .ok (.invokevirtual 50, 3) := by decide +kernel
theorem dX1_giveFound_38 : decode cX1_giveFound 38 = .ok (.istore 4, 2) := by decide +kernel
theorem dX1_giveFound_40 : decode cX1_giveFound 40 = .ok (.aload_n 0, 1) := by decide +kernel
theorem dX1_giveFound_41 : decode cX1_giveFound 41 = .ok (.iload_n 2, 1) := by decide +kernel
theorem dX1_giveFound_42 : decode cX1_giveFound 42 = .ok (.iload_n 1, 1) := by decide +kernel
theorem dX1_giveFound_43 : decode cX1_giveFound 43 = .ok (.iload 4, 2) := by decide +kernel
theorem dX1_giveFound_45 : decode cX1_giveFound 45 = .ok (.invokevirtual 53, 3) := by decide +kernel
theorem dX1_giveFound_48 : decode cX1_giveFound 48 = .ok (.istore_n 1, 1) := by decide +kernel
theorem dX1_giveFound_49 : decode cX1_giveFound 49 = .ok (.aload_n 0, 1) := by decide +kernel
theorem dX1_giveFound_50 : decode cX1_giveFound 50 = .ok (.getfield 22, 3) := by decide +kernel
theorem dX1_giveFound_53 : decode cX1_giveFound 53 = .ok (.getfield 57, 3) := by decide +kernel
theorem dX1_giveFound_56 : decode cX1_giveFound 56 = .ok (.iload 4, 2) := by decide +kernel
theorem dX1_giveFound_58 : decode cX1_giveFound 58 = .ok (.iload_n 3, 1) := by decide +kernel
theorem dX1_giveFound_59 : decode cX1_giveFound 59 = .ok (.iastore, 1) := by decide +kernel
theorem dX1_giveFound_60 : decode cX1_giveFound 60 = .ok (.aload_n 0, 1) := by decide +kernel
theorem dX1_giveFound_61 : decode cX1_giveFound 61 = .ok (.getfield 18, 3) := by decide +kernel
theorem dX1_giveFound_64 : decode cX1_giveFound 64 = .ok (.getfield 60, 3) := by decide +kernel
theorem dX1_giveFound_67 : decode cX1_giveFound 67 = .ok (.iload_n 3, 1) := by decide +kernel
theorem dX1_giveFound_68 : decode cX1_giveFound 68 = .ok (.iload 4, 2) := by decide +kernel
theorem dX1_giveFound_70 : decode cX1_giveFound 70 = .ok (.iastore, 1) := by decide +kernel
theorem dX1_giveFound_71 : decode cX1_giveFound 71 = .ok (.iinc 2 1, 3) := by decide +kernel
theorem dX1_giveFound_74 : decode cX1_giveFound 74 = .ok (.goto (-63), 3) := by decide +kernel
theorem dX1_giveFound_77 : decode cX1_giveFound 77 = .ok (.return_, 1) := by decide +kernel
set_option maxRecDepth 20000 in
theorem ggX1_makeStates_J7_fill_fda19 : GoodIn wsX1_makeStates wsJ7_fill_fda19 := goodIn_r _ [18, 19, 20, 17, 21] (by decide +kernel) (by decide +kernel)
set_option maxRecDepth 20000 in
theorem gX1_makeStates_J7_fill_fda19 : GoodIn wsX1_makeStates (va_wsS RX1 72 yJ7_fill_fda19 wsJ7_fill_fda19) := goodIn_app (goodIn_of _ (by decide +kernel)) ggX1_makeStates_J7_fill_fda19
theorem dX1_makeStates_0 : decode cX1_makeStates 0 = .ok (.iconst 1, 1) := by decide +kernel
theorem dX1_makeStates_1 : decode cX1_makeStates 1 = .ok (.istore_n 1, 1) := by decide +kernel
theorem dX1_makeStates_2 : decode cX1_makeStates 2 = .ok (.iconst 0, 1) := by decide +kernel
theorem dX1_makeStates_3 : decode cX1_makeStates 3 = .ok (.istore_n 2, 1) := by decide +kernel
theorem dX1_makeStates_4 : decode cX1_makeStates 4 = .ok (.iload_n 2, 1) := by decide +kernel
theorem dX1_makeStates_5 : decode cX1_makeStates 5 = .ok (.aload_n 0, 1) := by decide +kernel
theorem dX1_makeStates_6 : decode cX1_makeStates 6 = .ok (.getfield 26, 3) := by decide +kernel
theorem dX1_makeStates_9 : decode cX1_makeStates 9 = .ok (.if_icmp .ge 26, 3) := by decide +kernel
theorem dX1_makeStates_12 : decode cX1_makeStates 12 = .ok (.aload_n 0, 1) := by decide +kernel
theorem dX1_makeStates_13 : decode cX1_makeStates 13 = .ok (.getfield 9, 3) := by decide +kernel
theorem dX1_makeStates_16 : decode cX1_makeStates 16 = .ok (.iload_n 2, 1) := by decide +kernel
theorem dX1_makeStates_17 : decode cX1_makeStates 17 = .ok (.iload_n 1, 1) := by decide +kernel
theorem dX1_makeStates_18 : decode cX1_makeStates 18 = .ok (.iastore, 1) := by decide +kernel
theorem dX1_makeStates_19 : decode cX1_makeStates 19 = .ok (.iload_n 1, 1) := by decide +kernel
theorem dX1_makeStates_20 : decode cX1_makeStates 20 = .ok (.aload_n 0, 1) := by decide +kernel
theorem dX1_makeStates_21 : decode cX1_makeStates 21 = .ok (.getfield 18, 3) := by decide +kernel
theorem dX1_makeStates_24 : decode cX1_makeStates 24 = .ok (.getfield 42, 3) := by decide +kernel
theorem dX1_makeStates_27 : decode cX1_makeStates 27 = .ok (.imul, 1) := by decide +kernel
theorem dX1_makeStates_28 : decode cX1_makeStates 28 = .ok (.istore_n 1, 1) := by decide +kernel
theorem dX1_makeStates_29 : decode cX1_makeStates 29 = .ok (.iinc 2 1, 3) := by decide +kernel
theorem dX1_makeStates_32 : decode cX1_makeStates 32 = .ok (.goto (-28), 3) := by decide +kernel
theorem dX1_makeStates_35 : decode cX1_makeStates 35 = .ok (.iload_n 1, 1) := by decide +kernel
theorem dX1_makeStates_36 : decode cX1_makeStates 36 = .ok (.aload_n 0, 1) := by decide +kernel
theorem dX1_makeStates_37 : decode cX1_makeStates 37 = .ok (.getfield 15, 3) := by decide +kernel
theorem dX1_makeStates_40 : decode cX1_makeStates 40 = .ok (.arraylength, 1) := by decide +kernel
theorem dX1_makeStates_41 : decode cX1_makeStates 41 = .ok (.if_icmp .le 25, 3) := by decide +kernel
theorem dX1_makeStates_44 : decode cX1_makeStates 44 = .ok (.aload_n 0, 1) := by decide +kernel
theorem dX1_makeStates_45 : decode cX1_makeStates 45 = .ok (.ldc 63, 2) := by decide +kernel
theorem dX1_makeStates_47 : decode cX1_makeStates 47 = .ok (.iload_n 1, 1) := by decide +kernel
theorem dX1_makeStates_48 : decode cX1_makeStates 48 = .ok (.iconst 2, 1) := by decide +kernel
theorem dX1_makeStates_49 : decode cX1_makeStates 49 = .ok (.aload_n 0, 1) := by decide +kernel
theorem dX1_makeStates_50 : decode cX1_makeStates 50 = .ok (.getfield 15, 3) := by decide +kernel
theorem dX1_makeStates_53 : decode cX1_makeStates 53 = .ok (.arraylength, 1) := by decide +kernel
theorem dX1_makeStates_54 : decode cX1_makeStates 54 = .ok (.imul, 1) := by decide +kernel
theorem dX1_makeStates_55 : decode cX1_makeStates 55 = .ok (.invokestatic 64, 3) := by decide +kernel
theorem dX1_makeStates_58 : decode cX1_makeStates 58 = .ok (.invokestatic 69, 3) := by decide +kernel
theorem dX1_makeStates_61 : decode cX1_makeStates 61 = .ok (.newarray .int, 2) := by decide +kernel
theorem dX1_makeStates_63 : decode cX1_makeStates 63 = .ok (.putfield 15, 3) := by decide +kernel
theorem dX1_makeStates_66 : decode cX1_makeStates 66 = .ok (.aload_n 0, 1) := by decide +kernel
theorem dX1_makeStates_67 : decode cX1_makeStates 67 = .ok (.getfield 15, 3) := by decide +kernel
theorem dX1_makeStates_70 : decode cX1_makeStates 70 = .ok (.iconst 0, 1) := by decide +kernel
theorem dX1_makeStates_71 : decode cX1_makeStates 71 = .ok (.iload_n 1, 1) := by decide +kernel
theorem dX1_makeStates_72 : decode cX1_makeStates 72 = .ok (.bipush (-2), 2) := by decide +kernel
theorem dX1_makeStates_74 : decode cX1_makeStates 74 = .ok (.invokestatic 72, 3) := by decide +kernel
theorem dX1_makeStates_77 : decode cX1_makeStates 77 = .ok (.return_, 1) := by decide +kernel
set_option maxRecDepth 20000 in
theorem ggX1_onward_X3_added : GoodIn wsX1_onward wsX3_added := goodIn_r _ [11, 12, 13, 14, 15, 16, 17, 18, 19, 20, 21, 22, 23, 24, 10, 25, 46, 47, 48, 49, 50, 51, 52, 53, 54, 55] (by decide +kernel) (by decide +kernel)
set_option maxRecDepth 20000 in
theorem gX1_onward_X3_added : GoodIn wsX1_onward (wsV RX1 78 RX3 yX3_added wsX3_added) := goodIn_app (goodIn_of _ (by decide +kernel)) ggX1_onward_X3_added
set_option maxRecDepth 20000 in
theorem ggX1_onward_X1_behind : GoodIn wsX1_onward wsX1_behind := goodIn_r _ [30, 6, 31, 1, 4, 32, 33, 34, 29, 35, 36, 37, 38, 39, 40, 0, 2, 3, 5, 7, 8, 9, 10, 11, 12, 13, 14, 15, 16, 17, 18, 19, 20, 21, 22, 23, 24, 25, 26, 27, 28, 41, 42, 43, 44, 45, 46, 47, 48, 49, 50, 51, 52, 53, 54, 55] (by decide +kernel) (by decide +kernel)
set_option maxRecDepth 20000 in
theorem gX1_onward_X1_behind : GoodIn wsX1_onward (wsV RX1 81 RX1 yX1_behind wsX1_behind) := goodIn_app (goodIn_of _ (by decide +kernel)) ggX1_onward_X1_behind
theorem dX1_onward_0 : decode cX1_onward 0 = .ok (.iload_n 1, 1) := by decide +kernel
theorem dX1_onward_1 : decode cX1_onward 1 = .ok (.aload_n 0, 1) := by decide +kernel
theorem dX1_onward_2 : decode cX1_onward 2 = .ok (.getfield 18, 3) := by decide +kernel
theorem dX1_onward_5 : decode cX1_onward 5 = .ok (.getfield 42, 3) := by decide +kernel
theorem dX1_onward_8 : decode cX1_onward 8 = .ok (.if_icmp .lt 5, 3) := by decide +kernel
theorem dX1_onward_11 : decode cX1_onward 11 = .ok (.iconst 0, 1) := by decide +kernel
theorem dX1_onward_12 : decode cX1_onward 12 = .ok (.ireturn, 1) := by decide +kernel
theorem dX1_onward_13 : decode cX1_onward 13 = .ok (.aload_n 0, 1) := by decide +kernel
theorem dX1_onward_14 : decode cX1_onward 14 = .ok (.getfield 15, 3) := by decide +kernel
theorem dX1_onward_17 : decode cX1_onward 17 = .ok (.iload_n 2, 1) := by decide +kernel
theorem dX1_onward_18 : decode cX1_onward 18 = .ok (.iaload, 1) := by decide +kernel
theorem dX1_onward_19 : decode cX1_onward 19 = .ok (.bipush (-2), 2) := by decide +kernel
theorem dX1_onward_21 : decode cX1_onward 21 = .ok (.if_icmp .eq 10, 3) := by decide +kernel
theorem dX1_onward_24 : decode cX1_onward 24 = .ok (.aload_n 0, 1) := by decide +kernel
theorem dX1_onward_25 : decode cX1_onward 25 = .ok (.getfield 15, 3) := by decide +kernel
theorem dX1_onward_28 : decode cX1_onward 28 = .ok (.iload_n 2, 1) := by decide +kernel
theorem dX1_onward_29 : decode cX1_onward 29 = .ok (.iaload, 1) := by decide +kernel
theorem dX1_onward_30 : decode cX1_onward 30 = .ok (.ireturn, 1) := by decide +kernel
theorem dX1_onward_31 : decode cX1_onward 31 = .ok (.aload_n 0, 1) := by decide +kernel
theorem dX1_onward_32 : decode cX1_onward 32 = .ok (.getfield 18, 3) := by decide +kernel
theorem dX1_onward_35 : decode cX1_onward 35 = .ok (.getfield 47, 3) := by decide +kernel
theorem dX1_onward_38 : decode cX1_onward 38 = .ok (.iload_n 1, 1) := by decide +kernel
theorem dX1_onward_39 : decode cX1_onward 39 = .ok (.iaload, 1) := by decide +kernel
theorem dX1_onward_40 : decode cX1_onward 40 = .ok (.istore_n 3, 1) := by decide +kernel
theorem dX1_onward_41 : decode cX1_onward 41 = .ok (.iconst (-1), 1) := by decide +kernel
theorem dX1_onward_42 : decode cX1_onward 42 = .ok (.istore 4, 2) := by decide +kernel
theorem dX1_onward_44 : decode cX1_onward 44 = .ok (.iconst 0, 1) := by decide +kernel
theorem dX1_onward_45 : decode cX1_onward 45 = .ok (.istore 5, 2) := by decide +kernel
theorem dX1_onward_47 : decode cX1_onward 47 = .ok (.iload 5, 2) := by decide +kernel
theorem dX1_onward_49 : decode cX1_onward 49 = .ok (.aload_n 0, 1) := by decide +kernel
theorem dX1_onward_50 : decode cX1_onward 50 = .ok (.getfield 26, 3) := by decide +kernel
theorem dX1_onward_53 : decode cX1_onward 53 = .ok (.if_icmp .ge 79, 3) := by decide +kernel
theorem dX1_onward_56 : decode cX1_onward 56 = .ok (.aload_n 0, 1) := by decide +kernel
theorem dX1_onward_57 : decode cX1_onward 57 = .ok (.getfield 22, 3) := by decide +kernel
theorem dX1_onward_60 : decode cX1_onward 60 = .ok (.iload_n 3, 1) := by decide +kernel
theorem dX1_onward_61 : decode cX1_onward 61 = .ok (.iload 5, 2) := by decide +kernel
theorem dX1_onward_63 : decode cX1_onward 63 = .ok (.invokevirtual 78, 3) := by decide +kernel
theorem dX1_onward_66 : decode cX1_onward 66 = .ok (.istore 6, 2) := by decide +kernel
theorem dX1_onward_68 : decode cX1_onward 68 = .ok (.iload 6, 2) := by decide +kernel
theorem dX1_onward_70 : decode cX1_onward 70 = .ok (.iconst (-1), 1) := by decide +kernel
theorem dX1_onward_71 : decode cX1_onward 71 = .ok (.if_icmp .eq 55, 3) := by decide +kernel
theorem dX1_onward_74 : decode cX1_onward 74 = .ok (.iload 4, 2) := by decide +kernel
theorem dX1_onward_76 : decode cX1_onward 76 = .ok (.iconst (-1), 1) := by decide +kernel
theorem dX1_onward_77 : decode cX1_onward 77 = .ok (.if_icmp .eq 10, 3) := by decide +kernel
theorem dX1_onward_80 : decode cX1_onward 80 = .ok (.iload 6, 2) := by decide +kernel
theorem dX1_onward_82 : decode cX1_onward 82 = .ok (.iload 4, 2) := by decide +kernel
theorem dX1_onward_84 : decode cX1_onward 84 = .ok (.if_icmp .ge 42, 3) := by decide +kernel
theorem dX1_onward_87 : decode cX1_onward 87 = .ok (.aload_n 0, 1) := by decide +kernel
theorem dX1_onward_88 : decode cX1_onward 88 = .ok (.iload_n 1, 1) := by decide +kernel
theorem dX1_onward_89 : decode cX1_onward 89 = .ok (.iload_n 2, 1) := by decide +kernel
theorem dX1_onward_90 : decode cX1_onward 90 = .ok (.iload 5, 2) := by decide +kernel
theorem dX1_onward_92 : decode cX1_onward 92 = .ok (.invokevirtual 81, 3) := by decide +kernel
theorem dX1_onward_95 : decode cX1_onward 95 = .ok (.istore 7, 2) := by decide +kernel
theorem dX1_onward_97 : decode cX1_onward 97 = .ok (.iload 7, 2) := by decide +kernel
theorem dX1_onward_99 : decode cX1_onward 99 = .ok (.iconst (-1), 1) := by decide +kernel
theorem dX1_onward_100 : decode cX1_onward 100 = .ok (.if_icmp .eq 26, 3) := by decide +kernel
theorem dX1_onward_103 : decode cX1_onward 103 = .ok (.iload 4, 2) := by decide +kernel
theorem dX1_onward_105 : decode cX1_onward 105 = .ok (.iconst (-1), 1) := by decide +kernel
theorem dX1_onward_106 : decode cX1_onward 106 = .ok (.if_icmp .eq 13, 3) := by decide +kernel
theorem dX1_onward_109 : decode cX1_onward 109 = .ok (.iload 6, 2) := by decide +kernel
theorem dX1_onward_111 : decode cX1_onward 111 = .ok (.iload 7, 2) := by decide +kernel
theorem dX1_onward_113 : decode cX1_onward 113 = .ok (.iadd, 1) := by decide +kernel
theorem dX1_onward_114 : decode cX1_onward 114 = .ok (.iload 4, 2) := by decide +kernel
theorem dX1_onward_116 : decode cX1_onward 116 = .ok (.if_icmp .ge 10, 3) := by decide +kernel
theorem dX1_onward_119 : decode cX1_onward 119 = .ok (.iload 6, 2) := by decide +kernel
theorem dX1_onward_121 : decode cX1_onward 121 = .ok (.iload 7, 2) := by decide +kernel
theorem dX1_onward_123 : decode cX1_onward 123 = .ok (.iadd, 1) := by decide +kernel
theorem dX1_onward_124 : decode cX1_onward 124 = .ok (.istore 4, 2) := by decide +kernel
theorem dX1_onward_126 : decode cX1_onward 126 = .ok (.iinc 5 1, 3) := by decide +kernel
theorem dX1_onward_129 : decode cX1_onward 129 = .ok (.goto (-82), 3) := by decide +kernel
theorem dX1_onward_132 : decode cX1_onward 132 = .ok (.aload_n 0, 1) := by decide +kernel
theorem dX1_onward_133 : decode cX1_onward 133 = .ok (.getfield 15, 3) := by decide +kernel
theorem dX1_onward_136 : decode cX1_onward 136 = .ok (.iload_n 2, 1) := by decide +kernel
theorem dX1_onward_137 : decode cX1_onward 137 = .ok (.iload 4, 2) := by decide +kernel
theorem dX1_onward_139 : decode cX1_onward 139 = .ok (.iastore, 1) := by decide +kernel
theorem dX1_onward_140 : decode cX1_onward 140 = .ok (.iload 4, 2) := by decide +kernel
theorem dX1_onward_142 : decode cX1_onward 142 = .ok (.ireturn, 1) := by decide +kernel
set_option maxRecDepth 20000 in
theorem ggX1_behind_X1_stateBehind : GoodIn wsX1_behind wsX1_stateBehind := goodIn_r _ [9, 1, 2, 3, 10, 11, 41, 42, 43, 44, 45, 46, 47, 48, 49, 50, 51, 52, 53, 54, 55] (by decide +kernel) (by decide +kernel)
set_option maxRecDepth 20000 in
theorem gX1_behind_X1_stateBehind : GoodIn wsX1_behind (wsV RX1 53 RX1 yX1_stateBehind wsX1_stateBehind) := goodIn_app (goodIn_of _ (by decide +kernel)) ggX1_behind_X1_stateBehind
set_option maxRecDepth 20000 in
theorem ggX1_behind_X1_onward : GoodIn wsX1_behind wsX1_onward := goodIn_r _ [15, 3, 16, 17, 4, 18, 1, 19, 20, 21, 22, 23, 24, 25, 26, 27, 28, 29, 30, 31, 32, 33, 34, 35, 36, 37, 38, 39, 40, 8, 0, 2, 5, 6, 7, 9, 10, 11, 12, 13, 14, 41, 42, 43, 44, 45, 46, 47, 48, 49, 50, 51, 52, 53, 54, 55] (by decide +kernel) (by decide +kernel)
set_option maxRecDepth 20000 in
theorem gX1_behind_X1_onward : GoodIn wsX1_behind (wsV RX1 38 RX1 yX1_onward wsX1_onward) := goodIn_app (goodIn_of _ (by decide +kernel)) ggX1_behind_X1_onward
theorem dX1_behind_0 : decode cX1_behind 0 = .ok (.aload_n 0, 1) := by decide +kernel
theorem dX1_behind_1 : decode cX1_behind 1 = .ok (.iload_n 1, 1) := by decide +kernel
theorem dX1_behind_2 : decode cX1_behind 2 = .ok (.iload_n 2, 1) := by decide +kernel
theorem dX1_behind_3 : decode cX1_behind 3 = .ok (.iload_n 3, 1) := by decide +kernel
theorem dX1_behind_4 : decode cX1_behind 4 = .ok (.invokevirtual 53, 3) := by decide +kernel
theorem dX1_behind_7 : decode cX1_behind 7 = .ok (.istore 4, 2) := by decide +kernel
theorem dX1_behind_9 : decode cX1_behind 9 = .ok (.aload_n 0, 1) := by decide +kernel
theorem dX1_behind_10 : decode cX1_behind 10 = .ok (.getfield 22, 3) := by decide +kernel
theorem dX1_behind_13 : decode cX1_behind 13 = .ok (.getfield 57, 3) := by decide +kernel
theorem dX1_behind_16 : decode cX1_behind 16 = .ok (.iload_n 3, 1) := by decide +kernel
theorem dX1_behind_17 : decode cX1_behind 17 = .ok (.iaload, 1) := by decide +kernel
theorem dX1_behind_18 : decode cX1_behind 18 = .ok (.istore 5, 2) := by decide +kernel
theorem dX1_behind_20 : decode cX1_behind 20 = .ok (.aload_n 0, 1) := by decide +kernel
theorem dX1_behind_21 : decode cX1_behind 21 = .ok (.getfield 22, 3) := by decide +kernel
theorem dX1_behind_24 : decode cX1_behind 24 = .ok (.getfield 57, 3) := by decide +kernel
theorem dX1_behind_27 : decode cX1_behind 27 = .ok (.iload_n 3, 1) := by decide +kernel
theorem dX1_behind_28 : decode cX1_behind 28 = .ok (.aload_n 0, 1) := by decide +kernel
theorem dX1_behind_29 : decode cX1_behind 29 = .ok (.getfield 18, 3) := by decide +kernel
theorem dX1_behind_32 : decode cX1_behind 32 = .ok (.getfield 47, 3) := by decide +kernel
theorem dX1_behind_35 : decode cX1_behind 35 = .ok (.iload_n 1, 1) := by decide +kernel
theorem dX1_behind_36 : decode cX1_behind 36 = .ok (.iaload, 1) := by decide +kernel
theorem dX1_behind_37 : decode cX1_behind 37 = .ok (.iastore, 1) := by decide +kernel
theorem dX1_behind_38 : decode cX1_behind 38 = .ok (.aload_n 0, 1) := by decide +kernel
theorem dX1_behind_39 : decode cX1_behind 39 = .ok (.iload_n 1, 1) := by decide +kernel
theorem dX1_behind_40 : decode cX1_behind 40 = .ok (.iconst 1, 1) := by decide +kernel
theorem dX1_behind_41 : decode cX1_behind 41 = .ok (.iadd, 1) := by decide +kernel
theorem dX1_behind_42 : decode cX1_behind 42 = .ok (.iload 4, 2) := by decide +kernel
theorem dX1_behind_44 : decode cX1_behind 44 = .ok (.invokevirtual 38, 3) := by decide +kernel
theorem dX1_behind_47 : decode cX1_behind 47 = .ok (.istore 6, 2) := by decide +kernel
theorem dX1_behind_49 : decode cX1_behind 49 = .ok (.aload_n 0, 1) := by decide +kernel
theorem dX1_behind_50 : decode cX1_behind 50 = .ok (.getfield 22, 3) := by decide +kernel
theorem dX1_behind_53 : decode cX1_behind 53 = .ok (.getfield 57, 3) := by decide +kernel
theorem dX1_behind_56 : decode cX1_behind 56 = .ok (.iload_n 3, 1) := by decide +kernel
theorem dX1_behind_57 : decode cX1_behind 57 = .ok (.iload 5, 2) := by decide +kernel
theorem dX1_behind_59 : decode cX1_behind 59 = .ok (.iastore, 1) := by decide +kernel
theorem dX1_behind_60 : decode cX1_behind 60 = .ok (.iload 6, 2) := by decide +kernel
theorem dX1_behind_62 : decode cX1_behind 62 = .ok (.ireturn, 1) := by decide +kernel
theorem dX1_stateBehind_0 : decode cX1_stateBehind 0 = .ok (.aload_n 0, 1) := by decide +kernel
theorem dX1_stateBehind_1 : decode cX1_stateBehind 1 = .ok (.getfield 22, 3) := by decide +kernel
theorem dX1_stateBehind_4 : decode cX1_stateBehind 4 = .ok (.getfield 57, 3) := by decide +kernel
theorem dX1_stateBehind_7 : decode cX1_stateBehind 7 = .ok (.iload_n 3, 1) := by decide +kernel
theorem dX1_stateBehind_8 : decode cX1_stateBehind 8 = .ok (.iaload, 1) := by decide +kernel
theorem dX1_stateBehind_9 : decode cX1_stateBehind 9 = .ok (.istore 4, 2) := by decide +kernel
theorem dX1_stateBehind_11 : decode cX1_stateBehind 11 = .ok (.iload 4, 2) := by decide +kernel
theorem dX1_stateBehind_13 : decode cX1_stateBehind 13 = .ok (.iconst (-1), 1) := by decide +kernel
theorem dX1_stateBehind_14 : decode cX1_stateBehind 14 = .ok (.if_icmp .ne 7, 3) := by decide +kernel
theorem dX1_stateBehind_17 : decode cX1_stateBehind 17 = .ok (.iconst 0, 1) := by decide +kernel
theorem dX1_stateBehind_18 : decode cX1_stateBehind 18 = .ok (.goto 15, 3) := by decide +kernel
theorem dX1_stateBehind_21 : decode cX1_stateBehind 21 = .ok (.aload_n 0, 1) := by decide +kernel
theorem dX1_stateBehind_22 : decode cX1_stateBehind 22 = .ok (.getfield 18, 3) := by decide +kernel
theorem dX1_stateBehind_25 : decode cX1_stateBehind 25 = .ok (.getfield 84, 3) := by decide +kernel
theorem dX1_stateBehind_28 : decode cX1_stateBehind 28 = .ok (.iload 4, 2) := by decide +kernel
theorem dX1_stateBehind_30 : decode cX1_stateBehind 30 = .ok (.iaload, 1) := by decide +kernel
theorem dX1_stateBehind_31 : decode cX1_stateBehind 31 = .ok (.iconst 1, 1) := by decide +kernel
theorem dX1_stateBehind_32 : decode cX1_stateBehind 32 = .ok (.iadd, 1) := by decide +kernel
theorem dX1_stateBehind_33 : decode cX1_stateBehind 33 = .ok (.istore 5, 2) := by decide +kernel
theorem dX1_stateBehind_35 : decode cX1_stateBehind 35 = .ok (.iload_n 2, 1) := by decide +kernel
theorem dX1_stateBehind_36 : decode cX1_stateBehind 36 = .ok (.iload_n 1, 1) := by decide +kernel
theorem dX1_stateBehind_37 : decode cX1_stateBehind 37 = .ok (.iconst 1, 1) := by decide +kernel
theorem dX1_stateBehind_38 : decode cX1_stateBehind 38 = .ok (.iadd, 1) := by decide +kernel
theorem dX1_stateBehind_39 : decode cX1_stateBehind 39 = .ok (.iload 5, 2) := by decide +kernel
theorem dX1_stateBehind_41 : decode cX1_stateBehind 41 = .ok (.isub, 1) := by decide +kernel
theorem dX1_stateBehind_42 : decode cX1_stateBehind 42 = .ok (.aload_n 0, 1) := by decide +kernel
theorem dX1_stateBehind_43 : decode cX1_stateBehind 43 = .ok (.getfield 9, 3) := by decide +kernel
theorem dX1_stateBehind_46 : decode cX1_stateBehind 46 = .ok (.iload_n 3, 1) := by decide +kernel
theorem dX1_stateBehind_47 : decode cX1_stateBehind 47 = .ok (.iaload, 1) := by decide +kernel
theorem dX1_stateBehind_48 : decode cX1_stateBehind 48 = .ok (.imul, 1) := by decide +kernel
theorem dX1_stateBehind_49 : decode cX1_stateBehind 49 = .ok (.iadd, 1) := by decide +kernel
theorem dX1_stateBehind_50 : decode cX1_stateBehind 50 = .ok (.ireturn, 1) := by decide +kernel
set_option maxRecDepth 20000 in
theorem ggX1_firstBest_X1_onward : GoodIn wsX1_firstBest wsX1_onward := goodIn_r _ [9, 3, 10, 11, 4, 1, 2, 12, 13, 14, 15, 16, 17, 18, 19, 20, 21, 22, 23, 24, 25, 26, 27, 28, 29, 30, 31, 32, 33, 8, 34, 35, 36, 37, 38, 39, 40, 41, 5, 6, 7, 42, 43, 44, 45, 46, 54, 55, 56, 47, 48, 49, 50, 51, 52, 53] (by decide +kernel) (by decide +kernel)
set_option maxRecDepth 20000 in
theorem gX1_firstBest_X1_onward : GoodIn wsX1_firstBest (wsV RX1 38 RX1 yX1_onward wsX1_onward) := goodIn_app (goodIn_of _ (by decide +kernel)) ggX1_firstBest_X1_onward
set_option maxRecDepth 20000 in
theorem ggX1_firstBest_X3_added : GoodIn wsX1_firstBest wsX3_added := goodIn_r _ [16, 17, 18, 19, 20, 21, 22, 23, 24, 25, 26, 27, 28, 29, 15, 30, 54, 55, 56, 47, 48, 49, 50, 51, 52, 53] (by decide +kernel) (by decide +kernel)
set_option maxRecDepth 20000 in
theorem gX1_firstBest_X3_added : GoodIn wsX1_firstBest (wsV RX1 78 RX3 yX3_added wsX3_added) := goodIn_app (goodIn_of _ (by decide +kernel)) ggX1_firstBest_X3_added
set_option maxRecDepth 20000 in
theorem ggX1_firstBest_X1_behind : GoodIn wsX1_firstBest wsX1_behind := goodIn_r _ [34, 2, 35, 3, 4, 36, 37, 38, 8, 39, 40, 41, 5, 6, 7, 9, 10, 11, 1, 12, 13, 14, 15, 16, 17, 18, 19, 20, 21, 22, 23, 24, 25, 26, 27, 28, 29, 30, 31, 32, 33, 42, 43, 44, 45, 46, 54, 55, 56, 47, 48, 49, 50, 51, 52, 53] (by decide +kernel) (by decide +kernel)
set_option maxRecDepth 20000 in
theorem gX1_firstBest_X1_behind : GoodIn wsX1_firstBest (wsV RX1 81 RX1 yX1_behind wsX1_behind) := goodIn_app (goodIn_of _ (by decide +kernel)) ggX1_firstBest_X1_behind
theorem dX1_firstBest_0 : decode cX1_firstBest 0 = .ok (.aload_n 0, 1) := by decide +kernel
theorem dX1_firstBest_1 : decode cX1_firstBest 1 = .ok (.iload_n 1, 1) := by decide +kernel
theorem dX1_firstBest_2 : decode cX1_firstBest 2 = .ok (.iload_n 2, 1) := by decide +kernel
theorem dX1_firstBest_3 : decode cX1_firstBest 3 = .ok (.invokevirtual 38, 3) := by decide +kernel
theorem dX1_firstBest_6 : decode cX1_firstBest 6 = .ok (.istore_n 3, 1) := by decide +kernel
theorem dX1_firstBest_7 : decode cX1_firstBest 7 = .ok (.iconst 0, 1) := by decide +kernel
theorem dX1_firstBest_8 : decode cX1_firstBest 8 = .ok (.istore 4, 2) := by decide +kernel
theorem dX1_firstBest_10 : decode cX1_firstBest 10 = .ok (.iload 4, 2) := by decide +kernel
theorem dX1_firstBest_12 : decode cX1_firstBest 12 = .ok (.aload_n 0, 1) := by decide +kernel
theorem dX1_firstBest_13 : decode cX1_firstBest 13 = .ok (.getfield 26, 3) := by decide +kernel
theorem dX1_firstBest_16 : decode cX1_firstBest 16 = .ok (.if_icmp .ge 69, 3) := by decide +kernel
theorem dX1_firstBest_19 : decode cX1_firstBest 19 = .ok (.aload_n 0, 1) := by decide +kernel
theorem dX1_firstBest_20 : decode cX1_firstBest 20 = .ok (.getfield 22, 3) := by decide +kernel
theorem dX1_firstBest_23 : decode cX1_firstBest 23 = .ok (.aload_n 0, 1) := by decide +kernel
theorem dX1_firstBest_24 : decode cX1_firstBest 24 = .ok (.getfield 18, 3) := by decide +kernel
theorem dX1_firstBest_27 : decode cX1_firstBest 27 = .ok (.getfield 47, 3) := by decide +kernel
theorem dX1_firstBest_30 : decode cX1_firstBest 30 = .ok (.iload_n 1, 1) := by decide +kernel
theorem dX1_firstBest_31 : decode cX1_firstBest 31 = .ok (.iaload, 1) := by decide +kernel
theorem dX1_firstBest_32 : decode cX1_firstBest 32 = .ok (.iload 4, 2) := by decide +kernel
theorem dX1_firstBest_34 : decode cX1_firstBest 34 = .ok (.invokevirtual 78, 3) := by decide +kernel
theorem dX1_firstBest_37 : decode cX1_firstBest 37 = .ok (.istore 5, 2) := by decide +kernel
theorem dX1_firstBest_39 : decode cX1_firstBest 39 = .ok (.iload 5, 2) := by decide +kernel
theorem dX1_firstBest_41 : decode cX1_firstBest 41 = .ok (.iconst (-1), 1) := by decide +kernel
theorem dX1_firstBest_42 : decode cX1_firstBest 42 = .ok (.if_icmp .eq 37, 3) := by decide +kernel
theorem dX1_firstBest_45 : decode cX1_firstBest 45 = .ok (.iload 5, 2) := by decide +kernel
theorem dX1_firstBest_47 : decode cX1_firstBest 47 = .ok (.iload_n 3, 1) := by decide +kernel
theorem dX1_firstBest_48 : decode cX1_firstBest 48 = .ok (.if_icmp .gt 31, 3) := by decide +kernel
theorem dX1_firstBest_51 : decode cX1_firstBest 51 = .ok (.aload_n 0, 1) := by decide +kernel
theorem dX1_firstBest_52 : decode cX1_firstBest 52 = .ok (.iload_n 1, 1) := by decide +kernel
theorem dX1_firstBest_53 : decode cX1_firstBest 53 = .ok (.iload_n 2, 1) := by decide +kernel
theorem dX1_firstBest_54 : decode cX1_firstBest 54 = .ok (.iload 4, 2) := by decide +kernel
theorem dX1_firstBest_56 : decode cX1_firstBest 56 = .ok (.invokevirtual 81, 3) := by decide +kernel
theorem dX1_firstBest_59 : decode cX1_firstBest 59 = .ok (.istore 6, 2) := by decide +kernel
theorem dX1_firstBest_61 : decode cX1_firstBest 61 = .ok (.iload 6, 2) := by decide +kernel
theorem dX1_firstBest_63 : decode cX1_firstBest 63 = .ok (.iconst (-1), 1) := by decide +kernel
theorem dX1_firstBest_64 : decode cX1_firstBest 64 = .ok (.if_icmp .eq 15, 3) := by decide +kernel
theorem dX1_firstBest_67 : decode cX1_firstBest 67 = .ok (.iload 5, 2) := by decide +kernel
theorem dX1_firstBest_69 : decode cX1_firstBest 69 = .ok (.iload 6, 2) := by decide +kernel
theorem dX1_firstBest_71 : decode cX1_firstBest 71 = .ok (.iadd, 1) := by decide +kernel
theorem dX1_firstBest_72 : decode cX1_firstBest 72 = .ok (.iload_n 3, 1) := by decide +kernel
theorem dX1_firstBest_73 : decode cX1_firstBest 73 = .ok (.if_icmp .ne 6, 3) := by decide +kernel
theorem dX1_firstBest_76 : decode cX1_firstBest 76 = .ok (.iload 4, 2) := by decide +kernel
theorem dX1_firstBest_78 : decode cX1_firstBest 78 = .ok (.ireturn, 1) := by decide +kernel
theorem dX1_firstBest_79 : decode cX1_firstBest 79 = .ok (.iinc 4 1, 3) := by decide +kernel
theorem dX1_firstBest_82 : decode cX1_firstBest 82 = .ok (.goto (-72), 3) := by decide +kernel
theorem dX1_firstBest_85 : decode cX1_firstBest 85 = .ok (.iconst 0, 1) := by decide +kernel
theorem dX1_firstBest_86 : decode cX1_firstBest 86 = .ok (.ireturn, 1) := by decide +kernel
theorem dX2_init_0 : decode cX2_init 0 = .ok (.aload_n 0, 1) := by decide +kernel
theorem dX2_init_1 : decode cX2_init 1 = .ok (.invokespecial 3, 3) := by decide +kernel
theorem dX2_init_4 : decode cX2_init 4 = .ok (.aload_n 0, 1) := by decide +kernel
theorem dX2_init_5 : decode cX2_init 5 = .ok (.bipush 60, 2) := by decide +kernel
theorem dX2_init_7 : decode cX2_init 7 = .ok (.newarray .int, 2) := by decide +kernel
theorem dX2_init_9 : decode cX2_init 9 = .ok (.putfield 9, 3) := by decide +kernel
theorem dX2_init_12 : decode cX2_init 12 = .ok (.aload_n 0, 1) := by decide +kernel
theorem dX2_init_13 : decode cX2_init 13 = .ok (.aload_n 1, 1) := by decide +kernel
theorem dX2_init_14 : decode cX2_init 14 = .ok (.putfield 15, 3) := by decide +kernel
theorem dX2_init_17 : decode cX2_init 17 = .ok (.aload_n 0, 1) := by decide +kernel
theorem dX2_init_18 : decode cX2_init 18 = .ok (.aload_n 2, 1) := by decide +kernel
theorem dX2_init_19 : decode cX2_init 19 = .ok (.putfield 19, 3) := by decide +kernel
theorem dX2_init_22 : decode cX2_init 22 = .ok (.return_, 1) := by decide +kernel
set_option maxRecDepth 20000 in
theorem ggX2_go_X3_empty : GoodIn wsX2_go wsX3_empty := goodIn_r _ [16, 17, 18, 19, 20, 21, 54, 55, 56] (by decide +kernel) (by decide +kernel)
set_option maxRecDepth 20000 in
theorem gX2_go_X3_empty : GoodIn wsX2_go (wsV RX2 23 RX3 yX3_empty wsX3_empty) := goodIn_app (goodIn_of _ (by decide +kernel)) ggX2_go_X3_empty
set_option maxRecDepth 20000 in
theorem ggX2_go_X2_cheapest : GoodIn wsX2_go wsX2_cheapest := goodIn_r _ [26, 1, 27, 28, 29, 15, 30, 17, 31, 32, 33, 34, 35, 36, 37, 38, 39, 40, 41, 42, 43, 44, 45, 46, 54, 55, 56, 47, 48, 49, 50, 51, 52, 53] (by decide +kernel) (by decide +kernel)
set_option maxRecDepth 20000 in
theorem gX2_go_X2_cheapest : GoodIn wsX2_go (wsV RX2 37 RX2 yX2_cheapest wsX2_cheapest) := goodIn_app (goodIn_of _ (by decide +kernel)) ggX2_go_X2_cheapest
theorem dX2_go_0 : decode cX2_go 0 = .ok (.aload_n 0, 1) := by decide +kernel
theorem dX2_go_1 : decode cX2_go 1 = .ok (.getfield 19, 3) := by decide +kernel
theorem dX2_go_4 : decode cX2_go 4 = .ok (.invokevirtual 23, 3) := by decide +kernel
theorem dX2_go_7 : decode cX2_go 7 = .ok (.iconst 0, 1) := by decide +kernel
theorem dX2_go_8 : decode cX2_go 8 = .ok (.istore_n 2, 1) := by decide +kernel
theorem dX2_go_9 : decode cX2_go 9 = .ok (.iload_n 2, 1) := by decide +kernel
theorem dX2_go_10 : decode cX2_go 10 = .ok (.aload_n 0, 1) := by decide +kernel
theorem dX2_go_11 : decode cX2_go 11 = .ok (.getfield 15, 3) := by decide +kernel
theorem dX2_go_14 : decode cX2_go 14 = .ok (.getfield 28, 3) := by decide +kernel
theorem dX2_go_17 : decode cX2_go 17 = .ok (.if_icmp .ge 54, 3) := by decide +kernel
theorem dX2_go_20 : decode cX2_go 20 = .ok (.aload_n 0, 1) := by decide +kernel
theorem dX2_go_21 : decode cX2_go 21 = .ok (.getfield 15, 3) := by decide +kernel
theorem dX2_go_24 : decode cX2_go 24 = .ok (.getfield 34, 3) := by decide +kernel
theorem dX2_go_27 : decode cX2_go 27 = .ok (.iload_n 2, 1) := by decide +kernel
theorem dX2_go_28 : decode cX2_go 28 = .ok (.iaload, 1) := by decide +kernel
theorem dX2_go_29 : decode cX2_go 29 = .ok (.istore_n 3, 1) := by decide +kernel
theorem dX2_go_30 : decode cX2_go 30 = .ok (.aload_n 0, 1) := by decide +kernel
theorem dX2_go_31 : decode cX2_go 31 = .ok (.iload_n 3, 1) := by decide +kernel
theorem dX2_go_32 : decode cX2_go 32 = .ok (.iload_n 1, 1) := by decide +kernel
theorem dX2_go_33 : decode cX2_go 33 = .ok (.invokevirtual 37, 3) := by decide +kernel
theorem dX2_go_36 : decode cX2_go 36 = .ok (.istore 4, 2) := by decide +kernel
theorem dX2_go_38 : decode cX2_go 38 = .ok (.iload 4, 2) := by decide +kernel
theorem dX2_go_40 : decode cX2_go 40 = .ok (.iconst (-1), 1) := by decide +kernel
theorem dX2_go_41 : decode cX2_go 41 = .ok (.if_icmp .ne 5, 3) := by decide +kernel
theorem dX2_go_44 : decode cX2_go 44 = .ok (.iconst 0, 1) := by decide +kernel
theorem dX2_go_45 : decode cX2_go 45 = .ok (.ireturn, 1) := by decide +kernel
theorem dX2_go_46 : decode cX2_go 46 = .ok (.aload_n 0, 1) := by decide +kernel
theorem dX2_go_47 : decode cX2_go 47 = .ok (.getfield 19, 3) := by decide +kernel
theorem dX2_go_50 : decode cX2_go 50 = .ok (.getfield 41, 3) := by decide +kernel
theorem dX2_go_53 : decode cX2_go 53 = .ok (.iload 4, 2) := by decide +kernel
theorem dX2_go_55 : decode cX2_go 55 = .ok (.iload_n 3, 1) := by decide +kernel
theorem dX2_go_56 : decode cX2_go 56 = .ok (.iastore, 1) := by decide +kernel
theorem dX2_go_57 : decode cX2_go 57 = .ok (.aload_n 0, 1) := by decide +kernel
theorem dX2_go_58 : decode cX2_go 58 = .ok (.getfield 9, 3) := by decide +kernel
theorem dX2_go_61 : decode cX2_go 61 = .ok (.iload_n 3, 1) := by decide +kernel
theorem dX2_go_62 : decode cX2_go 62 = .ok (.iload 4, 2) := by decide +kernel
theorem dX2_go_64 : decode cX2_go 64 = .ok (.iastore, 1) := by decide +kernel
theorem dX2_go_65 : decode cX2_go 65 = .ok (.iinc 2 1, 3) := by decide +kernel
theorem dX2_go_68 : decode cX2_go 68 = .ok (.goto (-59), 3) := by decide +kernel
theorem dX2_go_71 : decode cX2_go 71 = .ok (.aload_n 0, 1) := by decide +kernel
theorem dX2_go_72 : decode cX2_go 72 = .ok (.getfield 9, 3) := by decide +kernel
theorem dX2_go_75 : decode cX2_go 75 = .ok (.iconst 0, 1) := by decide +kernel
theorem dX2_go_76 : decode cX2_go 76 = .ok (.aload_n 0, 1) := by decide +kernel
theorem dX2_go_77 : decode cX2_go 77 = .ok (.getfield 15, 3) := by decide +kernel
theorem dX2_go_80 : decode cX2_go 80 = .ok (.getfield 44, 3) := by decide +kernel
theorem dX2_go_83 : decode cX2_go 83 = .ok (.iconst 0, 1) := by decide +kernel
theorem dX2_go_84 : decode cX2_go 84 = .ok (.aload_n 0, 1) := by decide +kernel
theorem dX2_go_85 : decode cX2_go 85 = .ok (.getfield 15, 3) := by decide +kernel
theorem dX2_go_88 : decode cX2_go 88 = .ok (.getfield 28, 3) := by decide +kernel
theorem dX2_go_91 : decode cX2_go 91 = .ok (.invokestatic 47, 3) := by decide +kernel
theorem dX2_go_94 : decode cX2_go 94 = .ok (.iconst 1, 1) := by decide +kernel
theorem dX2_go_95 : decode cX2_go 95 = .ok (.ireturn, 1) := by decide +kernel
set_option maxRecDepth 20000 in
theorem ggX2_cheapest_X3_added : GoodIn wsX2_cheapest wsX3_added := goodIn_r _ [6, 7, 8, 9, 10, 11, 12, 13, 14, 15, 16, 17, 18, 19, 5, 20, 24, 25, 26, 27, 28, 29, 30, 31, 32, 33] (by decide +kernel) (by decide +kernel)
set_option maxRecDepth 20000 in
theorem gX2_cheapest_X3_added : GoodIn wsX2_cheapest (wsV RX2 53 RX3 yX3_added wsX3_added) := goodIn_app (goodIn_of _ (by decide +kernel)) ggX2_cheapest_X3_added
theorem dX2_cheapest_0 : decode cX2_cheapest 0 = .ok (.iconst (-1), 1) := by decide +kernel
theorem dX2_cheapest_1 : decode cX2_cheapest 1 = .ok (.istore_n 3, 1) := by decide +kernel
theorem dX2_cheapest_2 : decode cX2_cheapest 2 = .ok (.iconst (-1), 1) := by decide +kernel
theorem dX2_cheapest_3 : decode cX2_cheapest 3 = .ok (.istore 4, 2) := by decide +kernel
theorem dX2_cheapest_5 : decode cX2_cheapest 5 = .ok (.iconst 0, 1) := by decide +kernel
theorem dX2_cheapest_6 : decode cX2_cheapest 6 = .ok (.istore 5, 2) := by decide +kernel
theorem dX2_cheapest_8 : decode cX2_cheapest 8 = .ok (.iload 5, 2) := by decide +kernel
theorem dX2_cheapest_10 : decode cX2_cheapest 10 = .ok (.iload_n 2, 1) := by decide +kernel
theorem dX2_cheapest_11 : decode cX2_cheapest 11 = .ok (.if_icmp .ge 46, 3) := by decide +kernel
theorem dX2_cheapest_14 : decode cX2_cheapest 14 = .ok (.aload_n 0, 1) := by decide +kernel
theorem dX2_cheapest_15 : decode cX2_cheapest 15 = .ok (.getfield 19, 3) := by decide +kernel
theorem dX2_cheapest_18 : decode cX2_cheapest 18 = .ok (.iload_n 1, 1) := by decide +kernel
theorem dX2_cheapest_19 : decode cX2_cheapest 19 = .ok (.iload 5, 2) := by decide +kernel
theorem dX2_cheapest_21 : decode cX2_cheapest 21 = .ok (.invokevirtual 53, 3) := by decide +kernel
theorem dX2_cheapest_24 : decode cX2_cheapest 24 = .ok (.istore 6, 2) := by decide +kernel
theorem dX2_cheapest_26 : decode cX2_cheapest 26 = .ok (.iload 6, 2) := by decide +kernel
theorem dX2_cheapest_28 : decode cX2_cheapest 28 = .ok (.iconst (-1), 1) := by decide +kernel
theorem dX2_cheapest_29 : decode cX2_cheapest 29 = .ok (.if_icmp .eq 22, 3) := by decide +kernel
theorem dX2_cheapest_32 : decode cX2_cheapest 32 = .ok (.iload_n 3, 1) := by decide +kernel
theorem dX2_cheapest_33 : decode cX2_cheapest 33 = .ok (.iconst (-1), 1) := by decide +kernel
theorem dX2_cheapest_34 : decode cX2_cheapest 34 = .ok (.if_icmp .eq 10, 3) := by decide +kernel
theorem dX2_cheapest_37 : decode cX2_cheapest 37 = .ok (.iload 6, 2) := by decide +kernel
theorem dX2_cheapest_39 : decode cX2_cheapest 39 = .ok (.iload 4, 2) := by decide +kernel
theorem dX2_cheapest_41 : decode cX2_cheapest 41 = .ok (.if_icmp .ge 10, 3) := by decide +kernel
theorem dX2_cheapest_44 : decode cX2_cheapest 44 = .ok (.iload 5, 2) := by decide +kernel
theorem dX2_cheapest_46 : decode cX2_cheapest 46 = .ok (.istore_n 3, 1) := by decide +kernel
theorem dX2_cheapest_47 : decode cX2_cheapest 47 = .ok (.iload 6, 2) := by decide +kernel
theorem dX2_cheapest_49 : decode cX2_cheapest 49 = .ok (.istore 4, 2) := by decide +kernel
theorem dX2_cheapest_51 : decode cX2_cheapest 51 = .ok (.iinc 5 1, 3) := by decide +kernel
theorem dX2_cheapest_54 : decode cX2_cheapest 54 = .ok (.goto (-46), 3) := by decide +kernel
theorem dX2_cheapest_57 : decode cX2_cheapest 57 = .ok (.iload_n 3, 1) := by decide +kernel
theorem dX2_cheapest_58 : decode cX2_cheapest 58 = .ok (.ireturn, 1) := by decide +kernel
theorem dX3_init_0 : decode cX3_init 0 = .ok (.aload_n 0, 1) := by decide +kernel
theorem dX3_init_1 : decode cX3_init 1 = .ok (.invokespecial 3, 3) := by decide +kernel
theorem dX3_init_4 : decode cX3_init 4 = .ok (.aload_n 0, 1) := by decide +kernel
theorem dX3_init_5 : decode cX3_init 5 = .ok (.iconst 4, 1) := by decide +kernel
theorem dX3_init_6 : decode cX3_init 6 = .ok (.newarray .int, 2) := by decide +kernel
theorem dX3_init_8 : decode cX3_init 8 = .ok (.putfield 9, 3) := by decide +kernel
theorem dX3_init_11 : decode cX3_init 11 = .ok (.aload_n 0, 1) := by decide +kernel
theorem dX3_init_12 : decode cX3_init 12 = .ok (.aload_n 1, 1) := by decide +kernel
theorem dX3_init_13 : decode cX3_init 13 = .ok (.putfield 15, 3) := by decide +kernel
theorem dX3_init_16 : decode cX3_init 16 = .ok (.aload_n 0, 1) := by decide +kernel
theorem dX3_init_17 : decode cX3_init 17 = .ok (.aload_n 2, 1) := by decide +kernel
theorem dX3_init_18 : decode cX3_init 18 = .ok (.putfield 19, 3) := by decide +kernel
theorem dX3_init_21 : decode cX3_init 21 = .ok (.return_, 1) := by decide +kernel
set_option maxRecDepth 20000 in
theorem ggX3_empty_J7_fill_53178 : GoodIn wsX3_empty wsJ7_fill_53178 := goodIn_r _ [5] (by decide +kernel) (by decide +kernel)
set_option maxRecDepth 20000 in
theorem gX3_empty_J7_fill_53178 : GoodIn wsX3_empty (va_wsS RX3 22 yJ7_fill_53178 wsJ7_fill_53178) := goodIn_app (goodIn_of _ (by decide +kernel)) ggX3_empty_J7_fill_53178
theorem dX3_empty_0 : decode cX3_empty 0 = .ok (.aload_n 0, 1) := by decide +kernel
theorem dX3_empty_1 : decode cX3_empty 1 = .ok (.getfield 9, 3) := by decide +kernel
theorem dX3_empty_4 : decode cX3_empty 4 = .ok (.iconst (-1), 1) := by decide +kernel
theorem dX3_empty_5 : decode cX3_empty 5 = .ok (.invokestatic 22, 3) := by decide +kernel
theorem dX3_empty_8 : decode cX3_empty 8 = .ok (.return_, 1) := by decide +kernel
set_option maxRecDepth 20000 in
theorem ggX3_added_X3_crossed : GoodIn wsX3_added wsX3_crossed := goodIn_r _ [15, 1, 3, 5, 4, 6, 2, 16, 17, 18, 19, 20, 21, 22, 23, 24, 25] (by decide +kernel) (by decide +kernel)
set_option maxRecDepth 20000 in
theorem gX3_added_X3_crossed : GoodIn wsX3_added (wsV RX3 28 RX3 yX3_crossed wsX3_crossed) := goodIn_app (goodIn_of _ (by decide +kernel)) ggX3_added_X3_crossed
theorem dX3_added_0 : decode cX3_added 0 = .ok (.aload_n 0, 1) := by decide +kernel
theorem dX3_added_1 : decode cX3_added 1 = .ok (.getfield 9, 3) := by decide +kernel
theorem dX3_added_4 : decode cX3_added 4 = .ok (.iload_n 2, 1) := by decide +kernel
theorem dX3_added_5 : decode cX3_added 5 = .ok (.iaload, 1) := by decide +kernel
theorem dX3_added_6 : decode cX3_added 6 = .ok (.istore_n 3, 1) := by decide +kernel
theorem dX3_added_7 : decode cX3_added 7 = .ok (.iload_n 3, 1) := by decide +kernel
theorem dX3_added_8 : decode cX3_added 8 = .ok (.iconst (-1), 1) := by decide +kernel
theorem dX3_added_9 : decode cX3_added 9 = .ok (.if_icmp .ne 17, 3) := by decide +kernel
theorem dX3_added_12 : decode cX3_added 12 = .ok (.aload_n 0, 1) := by decide +kernel
theorem dX3_added_13 : decode cX3_added 13 = .ok (.getfield 19, 3) := by decide +kernel
theorem dX3_added_16 : decode cX3_added 16 = .ok (.iconst 3, 1) := by decide +kernel
theorem dX3_added_17 : decode cX3_added 17 = .ok (.iaload, 1) := by decide +kernel
theorem dX3_added_18 : decode cX3_added 18 = .ok (.aload_n 0, 1) := by decide +kernel
theorem dX3_added_19 : decode cX3_added 19 = .ok (.iload_n 1, 1) := by decide +kernel
theorem dX3_added_20 : decode cX3_added 20 = .ok (.iload_n 2, 1) := by decide +kernel
theorem dX3_added_21 : decode cX3_added 21 = .ok (.invokevirtual 28, 3) := by decide +kernel
theorem dX3_added_24 : decode cX3_added 24 = .ok (.iadd, 1) := by decide +kernel
theorem dX3_added_25 : decode cX3_added 25 = .ok (.ireturn, 1) := by decide +kernel
theorem dX3_added_26 : decode cX3_added 26 = .ok (.aload_n 0, 1) := by decide +kernel
theorem dX3_added_27 : decode cX3_added 27 = .ok (.getfield 15, 3) := by decide +kernel
theorem dX3_added_30 : decode cX3_added 30 = .ok (.getfield 32, 3) := by decide +kernel
theorem dX3_added_33 : decode cX3_added 33 = .ok (.iload_n 1, 1) := by decide +kernel
theorem dX3_added_34 : decode cX3_added 34 = .ok (.iaload, 1) := by decide +kernel
theorem dX3_added_35 : decode cX3_added 35 = .ok (.aload_n 0, 1) := by decide +kernel
theorem dX3_added_36 : decode cX3_added 36 = .ok (.getfield 15, 3) := by decide +kernel
theorem dX3_added_39 : decode cX3_added 39 = .ok (.getfield 37, 3) := by decide +kernel
theorem dX3_added_42 : decode cX3_added 42 = .ok (.iload_n 3, 1) := by decide +kernel
theorem dX3_added_43 : decode cX3_added 43 = .ok (.iaload, 1) := by decide +kernel
theorem dX3_added_44 : decode cX3_added 44 = .ok (.isub, 1) := by decide +kernel
theorem dX3_added_45 : decode cX3_added 45 = .ok (.istore 4, 2) := by decide +kernel
theorem dX3_added_47 : decode cX3_added 47 = .ok (.iload 4, 2) := by decide +kernel
theorem dX3_added_49 : decode cX3_added 49 = .ok (.ifCond .ge 5, 3) := by decide +kernel
theorem dX3_added_52 : decode cX3_added 52 = .ok (.iconst (-1), 1) := by decide +kernel
theorem dX3_added_53 : decode cX3_added 53 = .ok (.ireturn, 1) := by decide +kernel
theorem dX3_added_54 : decode cX3_added 54 = .ok (.aload_n 0, 1) := by decide +kernel
theorem dX3_added_55 : decode cX3_added 55 = .ok (.getfield 15, 3) := by decide +kernel
theorem dX3_added_58 : decode cX3_added 58 = .ok (.getfield 40, 3) := by decide +kernel
theorem dX3_added_61 : decode cX3_added 61 = .ok (.iload_n 1, 1) := by decide +kernel
theorem dX3_added_62 : decode cX3_added 62 = .ok (.iaload, 1) := by decide +kernel
theorem dX3_added_63 : decode cX3_added 63 = .ok (.aload_n 0, 1) := by decide +kernel
theorem dX3_added_64 : decode cX3_added 64 = .ok (.getfield 15, 3) := by decide +kernel
theorem dX3_added_67 : decode cX3_added 67 = .ok (.getfield 40, 3) := by decide +kernel
theorem dX3_added_70 : decode cX3_added 70 = .ok (.iload_n 3, 1) := by decide +kernel
theorem dX3_added_71 : decode cX3_added 71 = .ok (.iaload, 1) := by decide +kernel
theorem dX3_added_72 : decode cX3_added 72 = .ok (.isub, 1) := by decide +kernel
theorem dX3_added_73 : decode cX3_added 73 = .ok (.invokestatic 43, 3) := by decide +kernel
theorem dX3_added_76 : decode cX3_added 76 = .ok (.istore 5, 2) := by decide +kernel
theorem dX3_added_78 : decode cX3_added 78 = .ok (.iload 5, 2) := by decide +kernel
theorem dX3_added_80 : decode cX3_added 80 = .ok (.aload_n 0, 1) := by decide +kernel
theorem dX3_added_81 : decode cX3_added 81 = .ok (.getfield 19, 3) := by decide +kernel
theorem dX3_added_84 : decode cX3_added 84 = .ok (.iconst 0, 1) := by decide +kernel
theorem dX3_added_85 : decode cX3_added 85 = .ok (.iaload, 1) := by decide +kernel
theorem dX3_added_86 : decode cX3_added 86 = .ok (.imul, 1) := by decide +kernel
theorem dX3_added_87 : decode cX3_added 87 = .ok (.iload 4, 2) := by decide +kernel
theorem dX3_added_89 : decode cX3_added 89 = .ok (.aload_n 0, 1) := by decide +kernel
theorem dX3_added_90 : decode cX3_added 90 = .ok (.getfield 19, 3) := by decide +kernel
theorem dX3_added_93 : decode cX3_added 93 = .ok (.iconst 1, 1) := by decide +kernel
theorem dX3_added_94 : decode cX3_added 94 = .ok (.iaload, 1) := by decide +kernel
theorem dX3_added_95 : decode cX3_added 95 = .ok (.imul, 1) := by decide +kernel
theorem dX3_added_96 : decode cX3_added 96 = .ok (.iadd, 1) := by decide +kernel
theorem dX3_added_97 : decode cX3_added 97 = .ok (.aload_n 0, 1) := by decide +kernel
theorem dX3_added_98 : decode cX3_added 98 = .ok (.iload_n 1, 1) := by decide +kernel
theorem dX3_added_99 : decode cX3_added 99 = .ok (.iload_n 2, 1) := by decide +kernel
theorem dX3_added_100 : decode cX3_added 100 = .ok (.invokevirtual 28, 3) := by decide +kernel
theorem dX3_added_103 : decode cX3_added 103 = .ok (.iadd, 1) := by decide +kernel
theorem dX3_added_104 : decode cX3_added 104 = .ok (.ireturn, 1) := by decide +kernel
theorem dX3_crossed_0 : decode cX3_crossed 0 = .ok (.iconst 0, 1) := by decide +kernel
theorem dX3_crossed_1 : decode cX3_crossed 1 = .ok (.istore_n 3, 1) := by decide +kernel
theorem dX3_crossed_2 : decode cX3_crossed 2 = .ok (.iconst 0, 1) := by decide +kernel
theorem dX3_crossed_3 : decode cX3_crossed 3 = .ok (.istore 4, 2) := by decide +kernel
theorem dX3_crossed_5 : decode cX3_crossed 5 = .ok (.iload 4, 2) := by decide +kernel
theorem dX3_crossed_7 : decode cX3_crossed 7 = .ok (.iconst 4, 1) := by decide +kernel
theorem dX3_crossed_8 : decode cX3_crossed 8 = .ok (.if_icmp .ge 99, 3) := by decide +kernel
theorem dX3_crossed_11 : decode cX3_crossed 11 = .ok (.aload_n 0, 1) := by decide +kernel
theorem dX3_crossed_12 : decode cX3_crossed 12 = .ok (.getfield 9, 3) := by decide +kernel
theorem dX3_crossed_15 : decode cX3_crossed 15 = .ok (.iload 4, 2) := by decide +kernel
theorem dX3_crossed_17 : decode cX3_crossed 17 = .ok (.iaload, 1) := by decide +kernel
theorem dX3_crossed_18 : decode cX3_crossed 18 = .ok (.istore 5, 2) := by decide +kernel
theorem dX3_crossed_20 : decode cX3_crossed 20 = .ok (.iload 5, 2) := by decide +kernel
theorem dX3_crossed_22 : decode cX3_crossed 22 = .ok (.iconst (-1), 1) := by decide +kernel
theorem dX3_crossed_23 : decode cX3_crossed 23 = .ok (.if_icmp .eq 78, 3) := by decide +kernel
theorem dX3_crossed_26 : decode cX3_crossed 26 = .ok (.aload_n 0, 1) := by decide +kernel
theorem dX3_crossed_27 : decode cX3_crossed 27 = .ok (.getfield 15, 3) := by decide +kernel
theorem dX3_crossed_30 : decode cX3_crossed 30 = .ok (.getfield 37, 3) := by decide +kernel
theorem dX3_crossed_33 : decode cX3_crossed 33 = .ok (.iload 5, 2) := by decide +kernel
theorem dX3_crossed_35 : decode cX3_crossed 35 = .ok (.iaload, 1) := by decide +kernel
theorem dX3_crossed_36 : decode cX3_crossed 36 = .ok (.aload_n 0, 1) := by decide +kernel
theorem dX3_crossed_37 : decode cX3_crossed 37 = .ok (.getfield 15, 3) := by decide +kernel
theorem dX3_crossed_40 : decode cX3_crossed 40 = .ok (.getfield 32, 3) := by decide +kernel
theorem dX3_crossed_43 : decode cX3_crossed 43 = .ok (.iload_n 1, 1) := by decide +kernel
theorem dX3_crossed_44 : decode cX3_crossed 44 = .ok (.iaload, 1) := by decide +kernel
theorem dX3_crossed_45 : decode cX3_crossed 45 = .ok (.if_icmp .le 56, 3) := by decide +kernel
theorem dX3_crossed_48 : decode cX3_crossed 48 = .ok (.aload_n 0, 1) := by decide +kernel
theorem dX3_crossed_49 : decode cX3_crossed 49 = .ok (.getfield 15, 3) := by decide +kernel
theorem dX3_crossed_52 : decode cX3_crossed 52 = .ok (.getfield 40, 3) := by decide +kernel
theorem dX3_crossed_55 : decode cX3_crossed 55 = .ok (.iload_n 1, 1) := by decide +kernel
theorem dX3_crossed_56 : decode cX3_crossed 56 = .ok (.iaload, 1) := by decide +kernel
theorem dX3_crossed_57 : decode cX3_crossed 57 = .ok (.aload_n 0, 1) := by decide +kernel
theorem dX3_crossed_58 : decode cX3_crossed 58 = .ok (.getfield 15, 3) := by decide +kernel
theorem dX3_crossed_61 : decode cX3_crossed 61 = .ok (.getfield 40, 3) := by decide +kernel
theorem dX3_crossed_64 : decode cX3_crossed 64 = .ok (.iload 5, 2) := by decide +kernel
theorem dX3_crossed_66 : decode cX3_crossed 66 = .ok (.iaload, 1) := by decide +kernel
theorem dX3_crossed_67 : decode cX3_crossed 67 = .ok (.isub, 1) := by decide +kernel
theorem dX3_crossed_68 : decode cX3_crossed 68 = .ok (.istore 6, 2) := by decide +kernel
theorem dX3_crossed_70 : decode cX3_crossed 70 = .ok (.iload 4, 2) := by decide +kernel
theorem dX3_crossed_72 : decode cX3_crossed 72 = .ok (.iload_n 2, 1) := by decide +kernel
theorem dX3_crossed_73 : decode cX3_crossed 73 = .ok (.if_icmp .ge 8, 3) := by decide +kernel
theorem dX3_crossed_76 : decode cX3_crossed 76 = .ok (.iload 6, 2) := by decide +kernel
theorem dX3_crossed_78 : decode cX3_crossed 78 = .ok (.ifCond .gt 14, 3) := by decide +kernel
theorem dX3_crossed_81 : decode cX3_crossed 81 = .ok (.iload 4, 2) := by decide +kernel
theorem dX3_crossed_83 : decode cX3_crossed 83 = .ok (.iload_n 2, 1) := by decide +kernel
theorem dX3_crossed_84 : decode cX3_crossed 84 = .ok (.if_icmp .le 17, 3) := by decide +kernel
theorem dX3_crossed_87 : decode cX3_crossed 87 = .ok (.iload 6, 2) := by decide +kernel
theorem dX3_crossed_89 : decode cX3_crossed 89 = .ok (.ifCond .ge 12, 3) := by decide +kernel
theorem dX3_crossed_92 : decode cX3_crossed 92 = .ok (.iload_n 3, 1) := by decide +kernel
theorem dX3_crossed_93 : decode cX3_crossed 93 = .ok (.aload_n 0, 1) := by decide +kernel
theorem dX3_crossed_94 : decode cX3_crossed 94 = .ok (.getfield 19, 3) := by decide +kernel
theorem dX3_crossed_97 : decode cX3_crossed 97 = .ok (.iconst 2, 1) := by decide +kernel
theorem dX3_crossed_98 : decode cX3_crossed 98 = .ok (.iaload, 1) := by decide +kernel
theorem dX3_crossed_99 : decode cX3_crossed 99 = .ok (.iadd, 1) := by decide +kernel
theorem dX3_crossed_100 : decode cX3_crossed 100 = .ok (.istore_n 3, 1) := by decide +kernel
theorem dX3_crossed_101 : decode cX3_crossed 101 = .ok (.iinc 4 1, 3) := by decide +kernel
theorem dX3_crossed_104 : decode cX3_crossed 104 = .ok (.goto (-99), 3) := by decide +kernel
theorem dX3_crossed_107 : decode cX3_crossed 107 = .ok (.iload_n 3, 1) := by decide +kernel
theorem dX3_crossed_108 : decode cX3_crossed 108 = .ok (.ireturn, 1) := by decide +kernel
theorem dX4_init_0 : decode cX4_init 0 = .ok (.aload_n 0, 1) := by decide +kernel
theorem dX4_init_1 : decode cX4_init 1 = .ok (.invokespecial 3, 3) := by decide +kernel
theorem dX4_init_4 : decode cX4_init 4 = .ok (.aload_n 0, 1) := by decide +kernel
theorem dX4_init_5 : decode cX4_init 5 = .ok (.aload_n 1, 1) := by decide +kernel
theorem dX4_init_6 : decode cX4_init 6 = .ok (.putfield 9, 3) := by decide +kernel
theorem dX4_init_9 : decode cX4_init 9 = .ok (.return_, 1) := by decide +kernel
set_option maxRecDepth 20000 in
theorem ggX4_scan_X4_isPair : GoodIn wsX4_scan wsX4_isPair := goodIn_r _ [10, 1, 11, 12, 13, 14, 15, 16, 17, 18, 19, 20, 21, 9, 22, 23, 24, 25, 26, 27, 28, 29, 30, 31, 32, 33, 34, 35, 36, 37, 38, 39, 40, 41, 42, 43] (by decide +kernel) (by decide +kernel)
set_option maxRecDepth 20000 in
theorem gX4_scan_X4_isPair : GoodIn wsX4_scan (wsV RX4 25 RX4 yX4_isPair wsX4_isPair) := goodIn_app (goodIn_of _ (by decide +kernel)) ggX4_scan_X4_isPair
theorem dX4_scan_0 : decode cX4_scan 0 = .ok (.iconst 0, 1) := by decide +kernel
theorem dX4_scan_1 : decode cX4_scan 1 = .ok (.istore_n 3, 1) := by decide +kernel
theorem dX4_scan_2 : decode cX4_scan 2 = .ok (.iconst 0, 1) := by decide +kernel
theorem dX4_scan_3 : decode cX4_scan 3 = .ok (.istore 4, 2) := by decide +kernel
theorem dX4_scan_5 : decode cX4_scan 5 = .ok (.iload 4, 2) := by decide +kernel
theorem dX4_scan_7 : decode cX4_scan 7 = .ok (.aload_n 0, 1) := by decide +kernel
theorem dX4_scan_8 : decode cX4_scan 8 = .ok (.getfield 9, 3) := by decide +kernel
theorem dX4_scan_11 : decode cX4_scan 11 = .ok (.getfield 15, 3) := by decide +kernel
theorem dX4_scan_14 : decode cX4_scan 14 = .ok (.if_icmp .ge 97, 3) := by decide +kernel
theorem dX4_scan_17 : decode cX4_scan 17 = .ok (.iload 4, 2) := by decide +kernel
theorem dX4_scan_19 : decode cX4_scan 19 = .ok (.iconst 1, 1) := by decide +kernel
theorem dX4_scan_20 : decode cX4_scan 20 = .ok (.iadd, 1) := by decide +kernel
theorem dX4_scan_21 : decode cX4_scan 21 = .ok (.istore 5, 2) := by decide +kernel
theorem dX4_scan_23 : decode cX4_scan 23 = .ok (.iload 5, 2) := by decide +kernel
theorem dX4_scan_25 : decode cX4_scan 25 = .ok (.aload_n 0, 1) := by decide +kernel
theorem dX4_scan_26 : decode cX4_scan 26 = .ok (.getfield 9, 3) := by decide +kernel
theorem dX4_scan_29 : decode cX4_scan 29 = .ok (.getfield 15, 3) := by decide +kernel
theorem dX4_scan_32 : decode cX4_scan 32 = .ok (.if_icmp .ge 73, 3) := by decide +kernel
theorem dX4_scan_35 : decode cX4_scan 35 = .ok (.aload_n 0, 1) := by decide +kernel
theorem dX4_scan_36 : decode cX4_scan 36 = .ok (.iload_n 1, 1) := by decide +kernel
theorem dX4_scan_37 : decode cX4_scan 37 = .ok (.aload_n 0, 1) := by decide +kernel
theorem dX4_scan_38 : decode cX4_scan 38 = .ok (.getfield 9, 3) := by decide +kernel
theorem dX4_scan_41 : decode cX4_scan 41 = .ok (.getfield 21, 3) := by decide +kernel
theorem dX4_scan_44 : decode cX4_scan 44 = .ok (.iload 4, 2) := by decide +kernel
theorem dX4_scan_46 : decode cX4_scan 46 = .ok (.iaload, 1) := by decide +kernel
theorem dX4_scan_47 : decode cX4_scan 47 = .ok (.aload_n 0, 1) := by decide +kernel
theorem dX4_scan_48 : decode cX4_scan 48 = .ok (.getfield 9, 3) := by decide +kernel
theorem dX4_scan_51 : decode cX4_scan 51 = .ok (.getfield 21, 3) := by decide +kernel
theorem dX4_scan_54 : decode cX4_scan 54 = .ok (.iload 5, 2) := by decide +kernel
theorem dX4_scan_56 : decode cX4_scan 56 = .ok (.iaload, 1) := by decide +kernel
theorem dX4_scan_57 : decode cX4_scan 57 = .ok (.invokevirtual 25, 3) := by decide +kernel
theorem dX4_scan_60 : decode cX4_scan 60 = .ok (.ifCond .eq 39, 3) := by decide +kernel
theorem dX4_scan_63 : decode cX4_scan 63 = .ok (.iload_n 3, 1) := by decide +kernel
theorem dX4_scan_64 : decode cX4_scan 64 = .ok (.iload_n 2, 1) := by decide +kernel
theorem dX4_scan_65 : decode cX4_scan 65 = .ok (.if_icmp .ne 31, 3) := by decide +kernel
theorem dX4_scan_68 : decode cX4_scan 68 = .ok (.aload_n 0, 1) := by decide +kernel
theorem dX4_scan_69 : decode cX4_scan 69 = .ok (.aload_n 0, 1) := by decide +kernel
theorem dX4_scan_70 : decode cX4_scan 70 = .ok (.getfield 9, 3) := by decide +kernel
theorem dX4_scan_73 : decode cX4_scan 73 = .ok (.getfield 21, 3) := by decide +kernel
theorem dX4_scan_76 : decode cX4_scan 76 = .ok (.iload 4, 2) := by decide +kernel
theorem dX4_scan_78 : decode cX4_scan 78 = .ok (.iaload, 1) := by decide +kernel
theorem dX4_scan_79 : decode cX4_scan 79 = .ok (.putfield 29, 3) := by decide +kernel
theorem dX4_scan_82 : decode cX4_scan 82 = .ok (.aload_n 0, 1) := by decide +kernel
theorem dX4_scan_83 : decode cX4_scan 83 = .ok (.aload_n 0, 1) := by decide +kernel
theorem dX4_scan_84 : decode cX4_scan 84 = .ok (.getfield 9, 3) := by decide +kernel
theorem dX4_scan_87 : decode cX4_scan 87 = .ok (.getfield 21, 3) := by decide +kernel
theorem dX4_scan_90 : decode cX4_scan 90 = .ok (.iload 5, 2) := by decide +kernel
theorem dX4_scan_92 : decode cX4_scan 92 = .ok (.iaload, 1) := by decide +kernel
theorem dX4_scan_93 : decode cX4_scan 93 = .ok (.putfield 32, 3) := by decide +kernel
theorem dX4_scan_96 : decode cX4_scan 96 = .ok (.iinc 3 1, 3) := by decide +kernel
theorem dX4_scan_99 : decode cX4_scan 99 = .ok (.iinc 5 1, 3) := by decide +kernel
theorem dX4_scan_102 : decode cX4_scan 102 = .ok (.goto (-79), 3) := by decide +kernel
theorem dX4_scan_105 : decode cX4_scan 105 = .ok (.iinc 4 1, 3) := by decide +kernel
theorem dX4_scan_108 : decode cX4_scan 108 = .ok (.goto (-103), 3) := by decide +kernel
theorem dX4_scan_111 : decode cX4_scan 111 = .ok (.iload_n 3, 1) := by decide +kernel
theorem dX4_scan_112 : decode cX4_scan 112 = .ok (.ireturn, 1) := by decide +kernel
set_option maxRecDepth 20000 in
theorem ggX4_isPair_X6_together : GoodIn wsX4_isPair wsX6_together := goodIn_r _ [7, 8, 9, 29, 30, 31, 32, 33, 34, 35] (by decide +kernel) (by decide +kernel)
set_option maxRecDepth 20000 in
theorem gX4_isPair_X6_together : GoodIn wsX4_isPair (wsV RX4 38 RX6 yX6_together wsX6_together) := goodIn_app (goodIn_of _ (by decide +kernel)) ggX4_isPair_X6_together
set_option maxRecDepth 20000 in
theorem ggX4_isPair_X4_isUnder : GoodIn wsX4_isPair wsX4_isUnder := goodIn_r _ [14, 1, 2, 15, 26, 27, 28, 29, 30, 31, 32, 33, 34, 35] (by decide +kernel) (by decide +kernel)
set_option maxRecDepth 20000 in
theorem gX4_isPair_X4_isUnder : GoodIn wsX4_isPair (wsV RX4 42 RX4 yX4_isUnder wsX4_isUnder) := goodIn_app (goodIn_of _ (by decide +kernel)) ggX4_isPair_X4_isUnder
set_option maxRecDepth 20000 in
theorem ggX4_isPair_X4_doMeet : GoodIn wsX4_isPair wsX4_doMeet := goodIn_r _ [19, 1, 2, 15, 26, 27, 28, 29, 30, 31, 32, 33, 34, 35] (by decide +kernel) (by decide +kernel)
set_option maxRecDepth 20000 in
theorem gX4_isPair_X4_doMeet : GoodIn wsX4_isPair (wsV RX4 45 RX4 yX4_doMeet wsX4_doMeet) := goodIn_app (goodIn_of _ (by decide +kernel)) ggX4_isPair_X4_doMeet
set_option maxRecDepth 20000 in
theorem ggX4_isPair_X4_sameSpan : GoodIn wsX4_isPair wsX4_sameSpan := goodIn_r _ [23, 1, 24, 25, 26, 27, 28, 29, 30, 31, 32, 33, 34, 35] (by decide +kernel) (by decide +kernel)
set_option maxRecDepth 20000 in
theorem gX4_isPair_X4_sameSpan : GoodIn wsX4_isPair (wsV RX4 48 RX4 yX4_sameSpan wsX4_sameSpan) := goodIn_app (goodIn_of _ (by decide +kernel)) ggX4_isPair_X4_sameSpan
theorem dX4_isPair_0 : decode cX4_isPair 0 = .ok (.aload_n 0, 1) := by decide +kernel
theorem dX4_isPair_1 : decode cX4_isPair 1 = .ok (.getfield 9, 3) := by decide +kernel
theorem dX4_isPair_4 : decode cX4_isPair 4 = .ok (.getfield 35, 3) := by decide +kernel
theorem dX4_isPair_7 : decode cX4_isPair 7 = .ok (.iload_n 2, 1) := by decide +kernel
theorem dX4_isPair_8 : decode cX4_isPair 8 = .ok (.iaload, 1) := by decide +kernel
theorem dX4_isPair_9 : decode cX4_isPair 9 = .ok (.iconst (-1), 1) := by decide +kernel
