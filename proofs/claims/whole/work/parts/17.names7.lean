theorem dX8_cost_137 : decode cX8_cost 137 = .ok (.iload_n 3, 1) := by decide +kernel
theorem dX8_cost_138 : decode cX8_cost 138 = .ok (.aload_n 0, 1) := by decide +kernel
theorem dX8_cost_139 : decode cX8_cost 139 = .ok (.getfield 22, 3) := by decide +kernel
theorem dX8_cost_142 : decode cX8_cost 142 = .ok (.iconst 1, 1) := by decide +kernel
theorem dX8_cost_143 : decode cX8_cost 143 = .ok (.iaload, 1) := by decide +kernel
theorem dX8_cost_144 : decode cX8_cost 144 = .ok (.imul, 1) := by decide +kernel
theorem dX8_cost_145 : decode cX8_cost 145 = .ok (.istore_n 3, 1) := by decide +kernel
theorem dX8_cost_146 : decode cX8_cost 146 = .ok (.aload_n 0, 1) := by decide +kernel
theorem dX8_cost_147 : decode cX8_cost 147 = .ok (.iconst 0, 1) := by decide +kernel
theorem dX8_cost_148 : decode cX8_cost 148 = .ok (.invokevirtual 102, 3) := by decide +kernel
theorem dX8_cost_151 : decode cX8_cost 151 = .ok (.aload_n 0, 1) := by decide +kernel
theorem dX8_cost_152 : decode cX8_cost 152 = .ok (.getfield 22, 3) := by decide +kernel
theorem dX8_cost_155 : decode cX8_cost 155 = .ok (.iconst 2, 1) := by decide +kernel
theorem dX8_cost_156 : decode cX8_cost 156 = .ok (.iaload, 1) := by decide +kernel
theorem dX8_cost_157 : decode cX8_cost 157 = .ok (.imul, 1) := by decide +kernel
theorem dX8_cost_158 : decode cX8_cost 158 = .ok (.istore 4, 2) := by decide +kernel
theorem dX8_cost_160 : decode cX8_cost 160 = .ok (.aload_n 0, 1) := by decide +kernel
theorem dX8_cost_161 : decode cX8_cost 161 = .ok (.invokevirtual 105, 3) := by decide +kernel
theorem dX8_cost_164 : decode cX8_cost 164 = .ok (.aload_n 0, 1) := by decide +kernel
theorem dX8_cost_165 : decode cX8_cost 165 = .ok (.getfield 22, 3) := by decide +kernel
theorem dX8_cost_168 : decode cX8_cost 168 = .ok (.iconst 3, 1) := by decide +kernel
theorem dX8_cost_169 : decode cX8_cost 169 = .ok (.iaload, 1) := by decide +kernel
theorem dX8_cost_170 : decode cX8_cost 170 = .ok (.imul, 1) := by decide +kernel
theorem dX8_cost_171 : decode cX8_cost 171 = .ok (.istore 5, 2) := by decide +kernel
theorem dX8_cost_173 : decode cX8_cost 173 = .ok (.iload_n 1, 1) := by decide +kernel
theorem dX8_cost_174 : decode cX8_cost 174 = .ok (.ifCond .ne 15, 3) := by decide +kernel
theorem dX8_cost_177 : decode cX8_cost 177 = .ok (.iload_n 2, 1) := by decide +kernel
theorem dX8_cost_178 : decode cX8_cost 178 = .ok (.iload_n 3, 1) := by decide +kernel
theorem dX8_cost_179 : decode cX8_cost 179 = .ok (.iadd, 1) := by decide +kernel
theorem dX8_cost_180 : decode cX8_cost 180 = .ok (.iload 4, 2) := by decide +kernel
theorem dX8_cost_182 : decode cX8_cost 182 = .ok (.iadd, 1) := by decide +kernel
theorem dX8_cost_183 : decode cX8_cost 183 = .ok (.iload 5, 2) := by decide +kernel
theorem dX8_cost_185 : decode cX8_cost 185 = .ok (.iadd, 1) := by decide +kernel
theorem dX8_cost_186 : decode cX8_cost 186 = .ok (.goto 33, 3) := by decide +kernel
theorem dX8_cost_189 : decode cX8_cost 189 = .ok (.iload_n 1, 1) := by decide +kernel
theorem dX8_cost_190 : decode cX8_cost 190 = .ok (.iconst 1, 1) := by decide +kernel
theorem dX8_cost_191 : decode cX8_cost 191 = .ok (.if_icmp .ne 7, 3) := by decide +kernel
theorem dX8_cost_194 : decode cX8_cost 194 = .ok (.iload_n 2, 1) := by decide +kernel
theorem dX8_cost_195 : decode cX8_cost 195 = .ok (.goto 24, 3) := by decide +kernel
theorem dX8_cost_198 : decode cX8_cost 198 = .ok (.iload_n 1, 1) := by decide +kernel
theorem dX8_cost_199 : decode cX8_cost 199 = .ok (.iconst 2, 1) := by decide +kernel
theorem dX8_cost_200 : decode cX8_cost 200 = .ok (.if_icmp .ne 7, 3) := by decide +kernel
theorem dX8_cost_203 : decode cX8_cost 203 = .ok (.iload_n 3, 1) := by decide +kernel
theorem dX8_cost_204 : decode cX8_cost 204 = .ok (.goto 15, 3) := by decide +kernel
theorem dX8_cost_207 : decode cX8_cost 207 = .ok (.iload_n 1, 1) := by decide +kernel
theorem dX8_cost_208 : decode cX8_cost 208 = .ok (.iconst 3, 1) := by decide +kernel
theorem dX8_cost_209 : decode cX8_cost 209 = .ok (.if_icmp .ne 8, 3) := by decide +kernel
theorem dX8_cost_212 : decode cX8_cost 212 = .ok (.iload 4, 2) := by decide +kernel
theorem dX8_cost_214 : decode cX8_cost 214 = .ok (.goto 5, 3) := by decide +kernel
theorem dX8_cost_217 : decode cX8_cost 217 = .ok (.iload 5, 2) := by decide +kernel
theorem dX8_cost_219 : decode cX8_cost 219 = .ok (.ireturn, 1) := by decide +kernel
set_option maxRecDepth 20000 in
theorem ggX8_of_X8_rank : GoodIn wsX8_of wsX8_rank := goodIn_r _ [10, 1, 11, 12, 13, 9, 14, 2, 4, 28, 29, 30, 31, 32, 33, 34, 35, 36, 37] (by decide +kernel) (by decide +kernel)
set_option maxRecDepth 20000 in
theorem gX8_of_X8_rank : GoodIn wsX8_of (wsV RX8 47 RX8 yX8_rank wsX8_rank) := goodIn_app (goodIn_of _ (by decide +kernel)) ggX8_of_X8_rank
set_option maxRecDepth 20000 in
theorem ggX8_of_X8_nextOf : GoodIn wsX8_of wsX8_nextOf := goodIn_r _ [18, 1, 5, 19, 6, 7, 8, 9, 10, 11, 12, 13, 14, 2, 4, 28, 29, 30, 31, 32, 33, 34, 35, 36, 37] (by decide +kernel) (by decide +kernel)
set_option maxRecDepth 20000 in
theorem gX8_of_X8_nextOf : GoodIn wsX8_of (wsV RX8 99 RX8 yX8_nextOf wsX8_nextOf) := goodIn_app (goodIn_of _ (by decide +kernel)) ggX8_of_X8_nextOf
set_option maxRecDepth 20000 in
theorem ggX8_of_X8_clashes : GoodIn wsX8_of wsX8_clashes := goodIn_r _ [23, 1, 5, 24, 25, 26, 9, 27, 2, 3, 28, 29, 30, 31, 32, 33, 34, 35, 36, 37] (by decide +kernel) (by decide +kernel)
set_option maxRecDepth 20000 in
theorem gX8_of_X8_clashes : GoodIn wsX8_of (wsV RX8 89 RX8 yX8_clashes wsX8_clashes) := goodIn_app (goodIn_of _ (by decide +kernel)) ggX8_of_X8_clashes
theorem dX8_of_0 : decode cX8_of 0 = .ok (.iload_n 1, 1) := by decide +kernel
theorem dX8_of_1 : decode cX8_of 1 = .ok (.ifCond .lt 21, 3) := by decide +kernel
theorem dX8_of_4 : decode cX8_of 4 = .ok (.iload_n 1, 1) := by decide +kernel
theorem dX8_of_5 : decode cX8_of 5 = .ok (.aload_n 0, 1) := by decide +kernel
theorem dX8_of_6 : decode cX8_of 6 = .ok (.getfield 38, 3) := by decide +kernel
theorem dX8_of_9 : decode cX8_of 9 = .ok (.if_icmp .ge 13, 3) := by decide +kernel
theorem dX8_of_12 : decode cX8_of 12 = .ok (.iload_n 2, 1) := by decide +kernel
theorem dX8_of_13 : decode cX8_of 13 = .ok (.ifCond .lt 9, 3) := by decide +kernel
theorem dX8_of_16 : decode cX8_of 16 = .ok (.iload_n 2, 1) := by decide +kernel
theorem dX8_of_17 : decode cX8_of 17 = .ok (.bipush 6, 2) := by decide +kernel
theorem dX8_of_19 : decode cX8_of 19 = .ok (.if_icmp .le 6, 3) := by decide +kernel
theorem dX8_of_22 : decode cX8_of 22 = .ok (.bipush (-2), 2) := by decide +kernel
theorem dX8_of_24 : decode cX8_of 24 = .ok (.ireturn, 1) := by decide +kernel
theorem dX8_of_25 : decode cX8_of 25 = .ok (.iload_n 2, 1) := by decide +kernel
theorem dX8_of_26 : decode cX8_of 26 = .ok (.tableswitch 78 0 5 #[38, 45, 52, 59, 66, 72], 38) := by decide +kernel
theorem dX8_of_64 : decode cX8_of 64 = .ok (.aload_n 0, 1) := by decide +kernel
theorem dX8_of_65 : decode cX8_of 65 = .ok (.getfield 7, 3) := by decide +kernel
theorem dX8_of_68 : decode cX8_of 68 = .ok (.iload_n 1, 1) := by decide +kernel
theorem dX8_of_69 : decode cX8_of 69 = .ok (.iaload, 1) := by decide +kernel
theorem dX8_of_70 : decode cX8_of 70 = .ok (.ireturn, 1) := by decide +kernel
theorem dX8_of_71 : decode cX8_of 71 = .ok (.aload_n 0, 1) := by decide +kernel
theorem dX8_of_72 : decode cX8_of 72 = .ok (.getfield 13, 3) := by decide +kernel
theorem dX8_of_75 : decode cX8_of 75 = .ok (.iload_n 1, 1) := by decide +kernel
theorem dX8_of_76 : decode cX8_of 76 = .ok (.iaload, 1) := by decide +kernel
theorem dX8_of_77 : decode cX8_of 77 = .ok (.ireturn, 1) := by decide +kernel
theorem dX8_of_78 : decode cX8_of 78 = .ok (.aload_n 0, 1) := by decide +kernel
theorem dX8_of_79 : decode cX8_of 79 = .ok (.getfield 16, 3) := by decide +kernel
theorem dX8_of_82 : decode cX8_of 82 = .ok (.iload_n 1, 1) := by decide +kernel
theorem dX8_of_83 : decode cX8_of 83 = .ok (.iaload, 1) := by decide +kernel
theorem dX8_of_84 : decode cX8_of 84 = .ok (.ireturn, 1) := by decide +kernel
theorem dX8_of_85 : decode cX8_of 85 = .ok (.aload_n 0, 1) := by decide +kernel
theorem dX8_of_86 : decode cX8_of 86 = .ok (.getfield 19, 3) := by decide +kernel
theorem dX8_of_89 : decode cX8_of 89 = .ok (.iload_n 1, 1) := by decide +kernel
theorem dX8_of_90 : decode cX8_of 90 = .ok (.iaload, 1) := by decide +kernel
theorem dX8_of_91 : decode cX8_of 91 = .ok (.ireturn, 1) := by decide +kernel
theorem dX8_of_92 : decode cX8_of 92 = .ok (.aload_n 0, 1) := by decide +kernel
theorem dX8_of_93 : decode cX8_of 93 = .ok (.iload_n 1, 1) := by decide +kernel
theorem dX8_of_94 : decode cX8_of 94 = .ok (.invokevirtual 47, 3) := by decide +kernel
theorem dX8_of_97 : decode cX8_of 97 = .ok (.ireturn, 1) := by decide +kernel
theorem dX8_of_98 : decode cX8_of 98 = .ok (.aload_n 0, 1) := by decide +kernel
theorem dX8_of_99 : decode cX8_of 99 = .ok (.iload_n 1, 1) := by decide +kernel
theorem dX8_of_100 : decode cX8_of 100 = .ok (.invokevirtual 99, 3) := by decide +kernel
theorem dX8_of_103 : decode cX8_of 103 = .ok (.ireturn, 1) := by decide +kernel
theorem dX8_of_104 : decode cX8_of 104 = .ok (.aload_n 0, 1) := by decide +kernel
theorem dX8_of_105 : decode cX8_of 105 = .ok (.iload_n 1, 1) := by decide +kernel
theorem dX8_of_106 : decode cX8_of 106 = .ok (.invokevirtual 89, 3) := by decide +kernel
theorem dX8_of_109 : decode cX8_of 109 = .ok (.ireturn, 1) := by decide +kernel
theorem dX8_ranked_0 : decode cX8_ranked 0 = .ok (.iload_n 1, 1) := by decide +kernel
theorem dX8_ranked_1 : decode cX8_ranked 1 = .ok (.ifCond .lt 11, 3) := by decide +kernel
theorem dX8_ranked_4 : decode cX8_ranked 4 = .ok (.iload_n 1, 1) := by decide +kernel
theorem dX8_ranked_5 : decode cX8_ranked 5 = .ok (.aload_n 0, 1) := by decide +kernel
theorem dX8_ranked_6 : decode cX8_ranked 6 = .ok (.getfield 38, 3) := by decide +kernel
theorem dX8_ranked_9 : decode cX8_ranked 9 = .ok (.if_icmp .lt 8, 3) := by decide +kernel
theorem dX8_ranked_12 : decode cX8_ranked 12 = .ok (.bipush (-2), 2) := by decide +kernel
theorem dX8_ranked_14 : decode cX8_ranked 14 = .ok (.goto 9, 3) := by decide +kernel
theorem dX8_ranked_17 : decode cX8_ranked 17 = .ok (.aload_n 0, 1) := by decide +kernel
theorem dX8_ranked_18 : decode cX8_ranked 18 = .ok (.getfield 25, 3) := by decide +kernel
theorem dX8_ranked_21 : decode cX8_ranked 21 = .ok (.iload_n 1, 1) := by decide +kernel
theorem dX8_ranked_22 : decode cX8_ranked 22 = .ok (.iaload, 1) := by decide +kernel
theorem dX8_ranked_23 : decode cX8_ranked 23 = .ok (.ireturn, 1) := by decide +kernel
theorem dX8_at_0 : decode cX8_at 0 = .ok (.iconst 0, 1) := by decide +kernel
theorem dX8_at_1 : decode cX8_at 1 = .ok (.istore_n 2, 1) := by decide +kernel
theorem dX8_at_2 : decode cX8_at 2 = .ok (.iconst 0, 1) := by decide +kernel
theorem dX8_at_3 : decode cX8_at 3 = .ok (.istore_n 3, 1) := by decide +kernel
theorem dX8_at_4 : decode cX8_at 4 = .ok (.iload_n 3, 1) := by decide +kernel
theorem dX8_at_5 : decode cX8_at 5 = .ok (.aload_n 0, 1) := by decide +kernel
theorem dX8_at_6 : decode cX8_at 6 = .ok (.getfield 38, 3) := by decide +kernel
theorem dX8_at_9 : decode cX8_at 9 = .ok (.if_icmp .ge 37, 3) := by decide +kernel
theorem dX8_at_12 : decode cX8_at 12 = .ok (.iload_n 2, 1) := by decide +kernel
theorem dX8_at_13 : decode cX8_at 13 = .ok (.aload_n 0, 1) := by decide +kernel
theorem dX8_at_14 : decode cX8_at 14 = .ok (.getfield 7, 3) := by decide +kernel
theorem dX8_at_17 : decode cX8_at 17 = .ok (.iload_n 3, 1) := by decide +kernel
theorem dX8_at_18 : decode cX8_at 18 = .ok (.iaload, 1) := by decide +kernel
theorem dX8_at_19 : decode cX8_at 19 = .ok (.iload_n 1, 1) := by decide +kernel
theorem dX8_at_20 : decode cX8_at 20 = .ok (.if_icmp .gt 17, 3) := by decide +kernel
theorem dX8_at_23 : decode cX8_at 23 = .ok (.iload_n 1, 1) := by decide +kernel
theorem dX8_at_24 : decode cX8_at 24 = .ok (.aload_n 0, 1) := by decide +kernel
theorem dX8_at_25 : decode cX8_at 25 = .ok (.getfield 13, 3) := by decide +kernel
theorem dX8_at_28 : decode cX8_at 28 = .ok (.iload_n 3, 1) := by decide +kernel
theorem dX8_at_29 : decode cX8_at 29 = .ok (.iaload, 1) := by decide +kernel
theorem dX8_at_30 : decode cX8_at 30 = .ok (.if_icmp .ge 7, 3) := by decide +kernel
theorem dX8_at_33 : decode cX8_at 33 = .ok (.iconst 1, 1) := by decide +kernel
theorem dX8_at_34 : decode cX8_at 34 = .ok (.goto 4, 3) := by decide +kernel
theorem dX8_at_37 : decode cX8_at 37 = .ok (.iconst 0, 1) := by decide +kernel
theorem dX8_at_38 : decode cX8_at 38 = .ok (.iadd, 1) := by decide +kernel
theorem dX8_at_39 : decode cX8_at 39 = .ok (.istore_n 2, 1) := by decide +kernel
theorem dX8_at_40 : decode cX8_at 40 = .ok (.iinc 3 1, 3) := by decide +kernel
theorem dX8_at_43 : decode cX8_at 43 = .ok (.goto (-39), 3) := by decide +kernel
theorem dX8_at_46 : decode cX8_at 46 = .ok (.iload_n 2, 1) := by decide +kernel
theorem dX8_at_47 : decode cX8_at 47 = .ok (.ireturn, 1) := by decide +kernel
set_option maxRecDepth 20000 in
theorem ggX8_sounding_X8_at : GoodIn wsX8_sounding wsX8_at := goodIn_r _ [6, 7, 8, 9, 10, 11, 12, 13, 14, 15, 16, 17, 18, 19] (by decide +kernel) (by decide +kernel)
set_option maxRecDepth 20000 in
theorem gX8_sounding_X8_at : GoodIn wsX8_sounding (wsV RX8 109 RX8 yX8_at wsX8_at) := goodIn_app (goodIn_of _ (by decide +kernel)) ggX8_sounding_X8_at
theorem dX8_sounding_0 : decode cX8_sounding 0 = .ok (.iload_n 1, 1) := by decide +kernel
theorem dX8_sounding_1 : decode cX8_sounding 1 = .ok (.ifCond .lt 9, 3) := by decide +kernel
theorem dX8_sounding_4 : decode cX8_sounding 4 = .ok (.iload_n 1, 1) := by decide +kernel
theorem dX8_sounding_5 : decode cX8_sounding 5 = .ok (.ldc 42, 2) := by decide +kernel
theorem dX8_sounding_7 : decode cX8_sounding 7 = .ok (.if_icmp .le 8, 3) := by decide +kernel
theorem dX8_sounding_10 : decode cX8_sounding 10 = .ok (.bipush (-2), 2) := by decide +kernel
theorem dX8_sounding_12 : decode cX8_sounding 12 = .ok (.goto 8, 3) := by decide +kernel
theorem dX8_sounding_15 : decode cX8_sounding 15 = .ok (.aload_n 0, 1) := by decide +kernel
theorem dX8_sounding_16 : decode cX8_sounding 16 = .ok (.iload_n 1, 1) := by decide +kernel
theorem dX8_sounding_17 : decode cX8_sounding 17 = .ok (.invokevirtual 109, 3) := by decide +kernel
theorem dX8_sounding_20 : decode cX8_sounding 20 = .ok (.ireturn, 1) := by decide +kernel
set_option maxRecDepth 20000 in
theorem ggX8_needed_X8_at : GoodIn wsX8_needed wsX8_at := goodIn_r _ [7, 1, 2, 8, 9, 10, 11, 12, 13, 14, 15, 16, 17, 18] (by decide +kernel) (by decide +kernel)
set_option maxRecDepth 20000 in
theorem gX8_needed_X8_at : GoodIn wsX8_needed (wsV RX8 109 RX8 yX8_at wsX8_at) := goodIn_app (goodIn_of _ (by decide +kernel)) ggX8_needed_X8_at
theorem dX8_needed_0 : decode cX8_needed 0 = .ok (.iconst 0, 1) := by decide +kernel
theorem dX8_needed_1 : decode cX8_needed 1 = .ok (.istore_n 1, 1) := by decide +kernel
theorem dX8_needed_2 : decode cX8_needed 2 = .ok (.iconst 0, 1) := by decide +kernel
theorem dX8_needed_3 : decode cX8_needed 3 = .ok (.istore_n 2, 1) := by decide +kernel
theorem dX8_needed_4 : decode cX8_needed 4 = .ok (.iload_n 2, 1) := by decide +kernel
theorem dX8_needed_5 : decode cX8_needed 5 = .ok (.aload_n 0, 1) := by decide +kernel
theorem dX8_needed_6 : decode cX8_needed 6 = .ok (.getfield 38, 3) := by decide +kernel
theorem dX8_needed_9 : decode cX8_needed 9 = .ok (.if_icmp .ge 38, 3) := by decide +kernel
theorem dX8_needed_12 : decode cX8_needed 12 = .ok (.aload_n 0, 1) := by decide +kernel
theorem dX8_needed_13 : decode cX8_needed 13 = .ok (.aload_n 0, 1) := by decide +kernel
theorem dX8_needed_14 : decode cX8_needed 14 = .ok (.getfield 7, 3) := by decide +kernel
theorem dX8_needed_17 : decode cX8_needed 17 = .ok (.iload_n 2, 1) := by decide +kernel
theorem dX8_needed_18 : decode cX8_needed 18 = .ok (.iaload, 1) := by decide +kernel
theorem dX8_needed_19 : decode cX8_needed 19 = .ok (.invokevirtual 109, 3) := by decide +kernel
theorem dX8_needed_22 : decode cX8_needed 22 = .ok (.iload_n 1, 1) := by decide +kernel
theorem dX8_needed_23 : decode cX8_needed 23 = .ok (.if_icmp .le 16, 3) := by decide +kernel
theorem dX8_needed_26 : decode cX8_needed 26 = .ok (.aload_n 0, 1) := by decide +kernel
theorem dX8_needed_27 : decode cX8_needed 27 = .ok (.aload_n 0, 1) := by decide +kernel
theorem dX8_needed_28 : decode cX8_needed 28 = .ok (.getfield 7, 3) := by decide +kernel
theorem dX8_needed_31 : decode cX8_needed 31 = .ok (.iload_n 2, 1) := by decide +kernel
theorem dX8_needed_32 : decode cX8_needed 32 = .ok (.iaload, 1) := by decide +kernel
theorem dX8_needed_33 : decode cX8_needed 33 = .ok (.invokevirtual 109, 3) := by decide +kernel
theorem dX8_needed_36 : decode cX8_needed 36 = .ok (.goto 4, 3) := by decide +kernel
theorem dX8_needed_39 : decode cX8_needed 39 = .ok (.iload_n 1, 1) := by decide +kernel
theorem dX8_needed_40 : decode cX8_needed 40 = .ok (.istore_n 1, 1) := by decide +kernel
theorem dX8_needed_41 : decode cX8_needed 41 = .ok (.iinc 2 1, 3) := by decide +kernel
theorem dX8_needed_44 : decode cX8_needed 44 = .ok (.goto (-40), 3) := by decide +kernel
theorem dX8_needed_47 : decode cX8_needed 47 = .ok (.iload_n 1, 1) := by decide +kernel
theorem dX8_needed_48 : decode cX8_needed 48 = .ok (.ireturn, 1) := by decide +kernel
theorem dX8_theEnd_0 : decode cX8_theEnd 0 = .ok (.iconst 0, 1) := by decide +kernel
theorem dX8_theEnd_1 : decode cX8_theEnd 1 = .ok (.istore_n 1, 1) := by decide +kernel
theorem dX8_theEnd_2 : decode cX8_theEnd 2 = .ok (.iconst 0, 1) := by decide +kernel
theorem dX8_theEnd_3 : decode cX8_theEnd 3 = .ok (.istore_n 2, 1) := by decide +kernel
theorem dX8_theEnd_4 : decode cX8_theEnd 4 = .ok (.iload_n 2, 1) := by decide +kernel
theorem dX8_theEnd_5 : decode cX8_theEnd 5 = .ok (.aload_n 0, 1) := by decide +kernel
theorem dX8_theEnd_6 : decode cX8_theEnd 6 = .ok (.getfield 38, 3) := by decide +kernel
theorem dX8_theEnd_9 : decode cX8_theEnd 9 = .ok (.if_icmp .ge 30, 3) := by decide +kernel
theorem dX8_theEnd_12 : decode cX8_theEnd 12 = .ok (.aload_n 0, 1) := by decide +kernel
theorem dX8_theEnd_13 : decode cX8_theEnd 13 = .ok (.getfield 13, 3) := by decide +kernel
theorem dX8_theEnd_16 : decode cX8_theEnd 16 = .ok (.iload_n 2, 1) := by decide +kernel
theorem dX8_theEnd_17 : decode cX8_theEnd 17 = .ok (.iaload, 1) := by decide +kernel
theorem dX8_theEnd_18 : decode cX8_theEnd 18 = .ok (.iload_n 1, 1) := by decide +kernel
theorem dX8_theEnd_19 : decode cX8_theEnd 19 = .ok (.if_icmp .le 12, 3) := by decide +kernel
theorem dX8_theEnd_22 : decode cX8_theEnd 22 = .ok (.aload_n 0, 1) := by decide +kernel
theorem dX8_theEnd_23 : decode cX8_theEnd 23 = .ok (.getfield 13, 3) := by decide +kernel
theorem dX8_theEnd_26 : decode cX8_theEnd 26 = .ok (.iload_n 2, 1) := by decide +kernel
theorem dX8_theEnd_27 : decode cX8_theEnd 27 = .ok (.iaload, 1) := by decide +kernel
theorem dX8_theEnd_28 : decode cX8_theEnd 28 = .ok (.goto 4, 3) := by decide +kernel
theorem dX8_theEnd_31 : decode cX8_theEnd 31 = .ok (.iload_n 1, 1) := by decide +kernel
theorem dX8_theEnd_32 : decode cX8_theEnd 32 = .ok (.istore_n 1, 1) := by decide +kernel
theorem dX8_theEnd_33 : decode cX8_theEnd 33 = .ok (.iinc 2 1, 3) := by decide +kernel
theorem dX8_theEnd_36 : decode cX8_theEnd 36 = .ok (.goto (-32), 3) := by decide +kernel
theorem dX8_theEnd_39 : decode cX8_theEnd 39 = .ok (.iload_n 1, 1) := by decide +kernel
theorem dX8_theEnd_40 : decode cX8_theEnd 40 = .ok (.ireturn, 1) := by decide +kernel
theorem dX8_isOf_0 : decode cX8_isOf 0 = .ok (.iload_n 2, 1) := by decide +kernel
theorem dX8_isOf_1 : decode cX8_isOf 1 = .ok (.iconst 4, 1) := by decide +kernel
theorem dX8_isOf_2 : decode cX8_isOf 2 = .ok (.if_icmp .ne 20, 3) := by decide +kernel
theorem dX8_isOf_5 : decode cX8_isOf 5 = .ok (.aload_n 0, 1) := by decide +kernel
theorem dX8_isOf_6 : decode cX8_isOf 6 = .ok (.getfield 19, 3) := by decide +kernel
theorem dX8_isOf_9 : decode cX8_isOf 9 = .ok (.iload_n 1, 1) := by decide +kernel
theorem dX8_isOf_10 : decode cX8_isOf 10 = .ok (.iaload, 1) := by decide +kernel
theorem dX8_isOf_11 : decode cX8_isOf 11 = .ok (.ifCond .lt 7, 3) := by decide +kernel
theorem dX8_isOf_14 : decode cX8_isOf 14 = .ok (.iconst 1, 1) := by decide +kernel
theorem dX8_isOf_15 : decode cX8_isOf 15 = .ok (.goto 22, 3) := by decide +kernel
theorem dX8_isOf_18 : decode cX8_isOf 18 = .ok (.iconst 0, 1) := by decide +kernel
theorem dX8_isOf_19 : decode cX8_isOf 19 = .ok (.goto 18, 3) := by decide +kernel
theorem dX8_isOf_22 : decode cX8_isOf 22 = .ok (.aload_n 0, 1) := by decide +kernel
theorem dX8_isOf_23 : decode cX8_isOf 23 = .ok (.getfield 19, 3) := by decide +kernel
theorem dX8_isOf_26 : decode cX8_isOf 26 = .ok (.iload_n 1, 1) := by decide +kernel
theorem dX8_isOf_27 : decode cX8_isOf 27 = .ok (.iaload, 1) := by decide +kernel
theorem dX8_isOf_28 : decode cX8_isOf 28 = .ok (.iload_n 2, 1) := by decide +kernel
theorem dX8_isOf_29 : decode cX8_isOf 29 = .ok (.if_icmp .ne 7, 3) := by decide +kernel
theorem dX8_isOf_32 : decode cX8_isOf 32 = .ok (.iconst 1, 1) := by decide +kernel
theorem dX8_isOf_33 : decode cX8_isOf 33 = .ok (.goto 4, 3) := by decide +kernel
theorem dX8_isOf_36 : decode cX8_isOf 36 = .ok (.iconst 0, 1) := by decide +kernel
theorem dX8_isOf_37 : decode cX8_isOf 37 = .ok (.ireturn, 1) := by decide +kernel
set_option maxRecDepth 20000 in
theorem ggX8_silence_X8_isOf : GoodIn wsX8_silence wsX8_isOf := goodIn_r _ [8, 9, 10, 11, 12, 13, 14, 15, 16, 17, 18, 19] (by decide +kernel) (by decide +kernel)
set_option maxRecDepth 20000 in
theorem gX8_silence_X8_isOf : GoodIn wsX8_silence (wsV RX8 112 RX8 yX8_isOf wsX8_isOf) := goodIn_app (goodIn_of _ (by decide +kernel)) ggX8_silence_X8_isOf
theorem dX8_silence_0 : decode cX8_silence 0 = .ok (.iload_n 2, 1) := by decide +kernel
theorem dX8_silence_1 : decode cX8_silence 1 = .ok (.istore_n 3, 1) := by decide +kernel
theorem dX8_silence_2 : decode cX8_silence 2 = .ok (.iconst 1, 1) := by decide +kernel
theorem dX8_silence_3 : decode cX8_silence 3 = .ok (.istore 4, 2) := by decide +kernel
theorem dX8_silence_5 : decode cX8_silence 5 = .ok (.iload 4, 2) := by decide +kernel
theorem dX8_silence_7 : decode cX8_silence 7 = .ok (.ifCond .eq 70, 3) := by decide +kernel
theorem dX8_silence_10 : decode cX8_silence 10 = .ok (.iconst 0, 1) := by decide +kernel
theorem dX8_silence_11 : decode cX8_silence 11 = .ok (.istore 4, 2) := by decide +kernel
theorem dX8_silence_13 : decode cX8_silence 13 = .ok (.iconst 0, 1) := by decide +kernel
theorem dX8_silence_14 : decode cX8_silence 14 = .ok (.istore 5, 2) := by decide +kernel
theorem dX8_silence_16 : decode cX8_silence 16 = .ok (.iload 5, 2) := by decide +kernel
theorem dX8_silence_18 : decode cX8_silence 18 = .ok (.aload_n 0, 1) := by decide +kernel
theorem dX8_silence_19 : decode cX8_silence 19 = .ok (.getfield 38, 3) := by decide +kernel
theorem dX8_silence_22 : decode cX8_silence 22 = .ok (.if_icmp .ge 52, 3) := by decide +kernel
theorem dX8_silence_25 : decode cX8_silence 25 = .ok (.aload_n 0, 1) := by decide +kernel
theorem dX8_silence_26 : decode cX8_silence 26 = .ok (.iload 5, 2) := by decide +kernel
theorem dX8_silence_28 : decode cX8_silence 28 = .ok (.iload_n 1, 1) := by decide +kernel
theorem dX8_silence_29 : decode cX8_silence 29 = .ok (.invokevirtual 112, 3) := by decide +kernel
theorem dX8_silence_32 : decode cX8_silence 32 = .ok (.ifCond .eq 36, 3) := by decide +kernel
theorem dX8_silence_35 : decode cX8_silence 35 = .ok (.aload_n 0, 1) := by decide +kernel
theorem dX8_silence_36 : decode cX8_silence 36 = .ok (.getfield 7, 3) := by decide +kernel
theorem dX8_silence_39 : decode cX8_silence 39 = .ok (.iload 5, 2) := by decide +kernel
theorem dX8_silence_41 : decode cX8_silence 41 = .ok (.iaload, 1) := by decide +kernel
theorem dX8_silence_42 : decode cX8_silence 42 = .ok (.iload_n 3, 1) := by decide +kernel
theorem dX8_silence_43 : decode cX8_silence 43 = .ok (.if_icmp .gt 25, 3) := by decide +kernel
theorem dX8_silence_46 : decode cX8_silence 46 = .ok (.iload_n 3, 1) := by decide +kernel
theorem dX8_silence_47 : decode cX8_silence 47 = .ok (.aload_n 0, 1) := by decide +kernel
theorem dX8_silence_48 : decode cX8_silence 48 = .ok (.getfield 13, 3) := by decide +kernel
theorem dX8_silence_51 : decode cX8_silence 51 = .ok (.iload 5, 2) := by decide +kernel
theorem dX8_silence_53 : decode cX8_silence 53 = .ok (.iaload, 1) := by decide +kernel
theorem dX8_silence_54 : decode cX8_silence 54 = .ok (.if_icmp .ge 14, 3) := by decide +kernel
theorem dX8_silence_57 : decode cX8_silence 57 = .ok (.aload_n 0, 1) := by decide +kernel
theorem dX8_silence_58 : decode cX8_silence 58 = .ok (.getfield 13, 3) := by decide +kernel
theorem dX8_silence_61 : decode cX8_silence 61 = .ok (.iload 5, 2) := by decide +kernel
theorem dX8_silence_63 : decode cX8_silence 63 = .ok (.iaload, 1) := by decide +kernel
theorem dX8_silence_64 : decode cX8_silence 64 = .ok (.istore_n 3, 1) := by decide +kernel
theorem dX8_silence_65 : decode cX8_silence 65 = .ok (.iconst 1, 1) := by decide +kernel
theorem dX8_silence_66 : decode cX8_silence 66 = .ok (.istore 4, 2) := by decide +kernel
theorem dX8_silence_68 : decode cX8_silence 68 = .ok (.iinc 5 1, 3) := by decide +kernel
theorem dX8_silence_71 : decode cX8_silence 71 = .ok (.goto (-55), 3) := by decide +kernel
theorem dX8_silence_74 : decode cX8_silence 74 = .ok (.goto (-69), 3) := by decide +kernel
theorem dX8_silence_77 : decode cX8_silence 77 = .ok (.iload_n 3, 1) := by decide +kernel
theorem dX8_silence_78 : decode cX8_silence 78 = .ok (.ireturn, 1) := by decide +kernel
set_option maxRecDepth 20000 in
theorem ggX8_sound_X8_theEnd : GoodIn wsX8_sound wsX8_theEnd := goodIn_r _ [7, 1, 8, 14, 15, 16, 17, 18, 19, 20, 21, 22, 23] (by decide +kernel) (by decide +kernel)
set_option maxRecDepth 20000 in
theorem gX8_sound_X8_theEnd : GoodIn wsX8_sound (wsV RX8 115 RX8 yX8_theEnd wsX8_theEnd) := goodIn_app (goodIn_of _ (by decide +kernel)) ggX8_sound_X8_theEnd
set_option maxRecDepth 20000 in
theorem ggX8_sound_X8_isOf : GoodIn wsX8_sound wsX8_isOf := goodIn_r _ [12, 13, 14, 15, 16, 17, 18, 19, 20, 21, 22, 23] (by decide +kernel) (by decide +kernel)
set_option maxRecDepth 20000 in
theorem gX8_sound_X8_isOf : GoodIn wsX8_sound (wsV RX8 112 RX8 yX8_isOf wsX8_isOf) := goodIn_app (goodIn_of _ (by decide +kernel)) ggX8_sound_X8_isOf
theorem dX8_sound_0 : decode cX8_sound 0 = .ok (.aload_n 0, 1) := by decide +kernel
theorem dX8_sound_1 : decode cX8_sound 1 = .ok (.invokevirtual 115, 3) := by decide +kernel
theorem dX8_sound_4 : decode cX8_sound 4 = .ok (.istore_n 3, 1) := by decide +kernel
theorem dX8_sound_5 : decode cX8_sound 5 = .ok (.iconst 0, 1) := by decide +kernel
theorem dX8_sound_6 : decode cX8_sound 6 = .ok (.istore 4, 2) := by decide +kernel
theorem dX8_sound_8 : decode cX8_sound 8 = .ok (.iload 4, 2) := by decide +kernel
theorem dX8_sound_10 : decode cX8_sound 10 = .ok (.aload_n 0, 1) := by decide +kernel
theorem dX8_sound_11 : decode cX8_sound 11 = .ok (.getfield 38, 3) := by decide +kernel
theorem dX8_sound_14 : decode cX8_sound 14 = .ok (.if_icmp .ge 53, 3) := by decide +kernel
theorem dX8_sound_17 : decode cX8_sound 17 = .ok (.aload_n 0, 1) := by decide +kernel
theorem dX8_sound_18 : decode cX8_sound 18 = .ok (.iload 4, 2) := by decide +kernel
theorem dX8_sound_20 : decode cX8_sound 20 = .ok (.iload_n 1, 1) := by decide +kernel
theorem dX8_sound_21 : decode cX8_sound 21 = .ok (.invokevirtual 112, 3) := by decide +kernel
theorem dX8_sound_24 : decode cX8_sound 24 = .ok (.ifCond .eq 35, 3) := by decide +kernel
theorem dX8_sound_27 : decode cX8_sound 27 = .ok (.aload_n 0, 1) := by decide +kernel
theorem dX8_sound_28 : decode cX8_sound 28 = .ok (.getfield 7, 3) := by decide +kernel
theorem dX8_sound_31 : decode cX8_sound 31 = .ok (.iload 4, 2) := by decide +kernel
theorem dX8_sound_33 : decode cX8_sound 33 = .ok (.iaload, 1) := by decide +kernel
theorem dX8_sound_34 : decode cX8_sound 34 = .ok (.iload_n 2, 1) := by decide +kernel
theorem dX8_sound_35 : decode cX8_sound 35 = .ok (.if_icmp .lt 24, 3) := by decide +kernel
theorem dX8_sound_38 : decode cX8_sound 38 = .ok (.aload_n 0, 1) := by decide +kernel
theorem dX8_sound_39 : decode cX8_sound 39 = .ok (.getfield 7, 3) := by decide +kernel
theorem dX8_sound_42 : decode cX8_sound 42 = .ok (.iload 4, 2) := by decide +kernel
theorem dX8_sound_44 : decode cX8_sound 44 = .ok (.iaload, 1) := by decide +kernel
theorem dX8_sound_45 : decode cX8_sound 45 = .ok (.iload_n 3, 1) := by decide +kernel
theorem dX8_sound_46 : decode cX8_sound 46 = .ok (.if_icmp .ge 13, 3) := by decide +kernel
theorem dX8_sound_49 : decode cX8_sound 49 = .ok (.aload_n 0, 1) := by decide +kernel
theorem dX8_sound_50 : decode cX8_sound 50 = .ok (.getfield 7, 3) := by decide +kernel
theorem dX8_sound_53 : decode cX8_sound 53 = .ok (.iload 4, 2) := by decide +kernel
theorem dX8_sound_55 : decode cX8_sound 55 = .ok (.iaload, 1) := by decide +kernel
theorem dX8_sound_56 : decode cX8_sound 56 = .ok (.goto 4, 3) := by decide +kernel
theorem dX8_sound_59 : decode cX8_sound 59 = .ok (.iload_n 3, 1) := by decide +kernel
theorem dX8_sound_60 : decode cX8_sound 60 = .ok (.istore_n 3, 1) := by decide +kernel
theorem dX8_sound_61 : decode cX8_sound 61 = .ok (.iinc 4 1, 3) := by decide +kernel
theorem dX8_sound_64 : decode cX8_sound 64 = .ok (.goto (-56), 3) := by decide +kernel
theorem dX8_sound_67 : decode cX8_sound 67 = .ok (.iload_n 3, 1) := by decide +kernel
theorem dX8_sound_68 : decode cX8_sound 68 = .ok (.ireturn, 1) := by decide +kernel
set_option maxRecDepth 20000 in
theorem ggX8_restOf_X8_theEnd : GoodIn wsX8_restOf wsX8_theEnd := goodIn_r _ [5, 6, 7, 22, 23, 24, 25, 26, 27, 28, 29, 30, 31] (by decide +kernel) (by decide +kernel)
set_option maxRecDepth 20000 in
theorem gX8_restOf_X8_theEnd : GoodIn wsX8_restOf (wsV RX8 115 RX8 yX8_theEnd wsX8_theEnd) := goodIn_app (goodIn_of _ (by decide +kernel)) ggX8_restOf_X8_theEnd
set_option maxRecDepth 20000 in
theorem ggX8_restOf_X8_silence : GoodIn wsX8_restOf wsX8_silence := goodIn_r _ [11, 6, 12, 7, 13, 14, 15, 4, 16, 17, 22, 23, 24, 25, 26, 27, 28, 29, 30, 31] (by decide +kernel) (by decide +kernel)
set_option maxRecDepth 20000 in
theorem gX8_restOf_X8_silence : GoodIn wsX8_restOf (wsV RX8 118 RX8 yX8_silence wsX8_silence) := goodIn_app (goodIn_of _ (by decide +kernel)) ggX8_restOf_X8_silence
set_option maxRecDepth 20000 in
theorem ggX8_restOf_X8_sound : GoodIn wsX8_restOf wsX8_sound := goodIn_r _ [21, 6, 12, 1, 2, 3, 4, 5, 7, 13, 14, 15, 16, 17, 22, 23, 24, 25, 26, 27, 28, 29, 30, 31] (by decide +kernel) (by decide +kernel)
set_option maxRecDepth 20000 in
theorem gX8_restOf_X8_sound : GoodIn wsX8_restOf (wsV RX8 121 RX8 yX8_sound wsX8_sound) := goodIn_app (goodIn_of _ (by decide +kernel)) ggX8_restOf_X8_sound
theorem dX8_restOf_0 : decode cX8_restOf 0 = .ok (.aload_n 0, 1) := by decide +kernel
theorem dX8_restOf_1 : decode cX8_restOf 1 = .ok (.invokevirtual 115, 3) := by decide +kernel
theorem dX8_restOf_4 : decode cX8_restOf 4 = .ok (.istore 4, 2) := by decide +kernel
theorem dX8_restOf_6 : decode cX8_restOf 6 = .ok (.iconst 0, 1) := by decide +kernel
theorem dX8_restOf_7 : decode cX8_restOf 7 = .ok (.istore 5, 2) := by decide +kernel
theorem dX8_restOf_9 : decode cX8_restOf 9 = .ok (.aload_n 0, 1) := by decide +kernel
theorem dX8_restOf_10 : decode cX8_restOf 10 = .ok (.iload_n 1, 1) := by decide +kernel
theorem dX8_restOf_11 : decode cX8_restOf 11 = .ok (.iconst 0, 1) := by decide +kernel
theorem dX8_restOf_12 : decode cX8_restOf 12 = .ok (.invokevirtual 118, 3) := by decide +kernel
theorem dX8_restOf_15 : decode cX8_restOf 15 = .ok (.istore 6, 2) := by decide +kernel
theorem dX8_restOf_17 : decode cX8_restOf 17 = .ok (.iload 6, 2) := by decide +kernel
theorem dX8_restOf_19 : decode cX8_restOf 19 = .ok (.iload 4, 2) := by decide +kernel
theorem dX8_restOf_21 : decode cX8_restOf 21 = .ok (.if_icmp .ge 45, 3) := by decide +kernel
theorem dX8_restOf_24 : decode cX8_restOf 24 = .ok (.aload_n 0, 1) := by decide +kernel
theorem dX8_restOf_25 : decode cX8_restOf 25 = .ok (.iload_n 1, 1) := by decide +kernel
theorem dX8_restOf_26 : decode cX8_restOf 26 = .ok (.iload 6, 2) := by decide +kernel
theorem dX8_restOf_28 : decode cX8_restOf 28 = .ok (.invokevirtual 121, 3) := by decide +kernel
theorem dX8_restOf_31 : decode cX8_restOf 31 = .ok (.istore 7, 2) := by decide +kernel
theorem dX8_restOf_33 : decode cX8_restOf 33 = .ok (.iload 5, 2) := by decide +kernel
theorem dX8_restOf_35 : decode cX8_restOf 35 = .ok (.iload_n 2, 1) := by decide +kernel
theorem dX8_restOf_36 : decode cX8_restOf 36 = .ok (.if_icmp .ne 15, 3) := by decide +kernel
theorem dX8_restOf_39 : decode cX8_restOf 39 = .ok (.iload_n 3, 1) := by decide +kernel
theorem dX8_restOf_40 : decode cX8_restOf 40 = .ok (.ifCond .eq 8, 3) := by decide +kernel
theorem dX8_restOf_43 : decode cX8_restOf 43 = .ok (.iload 7, 2) := by decide +kernel
theorem dX8_restOf_45 : decode cX8_restOf 45 = .ok (.goto 5, 3) := by decide +kernel
theorem dX8_restOf_48 : decode cX8_restOf 48 = .ok (.iload 6, 2) := by decide +kernel
theorem dX8_restOf_50 : decode cX8_restOf 50 = .ok (.ireturn, 1) := by decide +kernel
theorem dX8_restOf_51 : decode cX8_restOf 51 = .ok (.iinc 5 1, 3) := by decide +kernel
theorem dX8_restOf_54 : decode cX8_restOf 54 = .ok (.aload_n 0, 1) := by decide +kernel
theorem dX8_restOf_55 : decode cX8_restOf 55 = .ok (.iload_n 1, 1) := by decide +kernel
theorem dX8_restOf_56 : decode cX8_restOf 56 = .ok (.iload 7, 2) := by decide +kernel
theorem dX8_restOf_58 : decode cX8_restOf 58 = .ok (.invokevirtual 118, 3) := by decide +kernel
theorem dX8_restOf_61 : decode cX8_restOf 61 = .ok (.istore 6, 2) := by decide +kernel
theorem dX8_restOf_63 : decode cX8_restOf 63 = .ok (.goto (-46), 3) := by decide +kernel
theorem dX8_restOf_66 : decode cX8_restOf 66 = .ok (.iload_n 2, 1) := by decide +kernel
theorem dX8_restOf_67 : decode cX8_restOf 67 = .ok (.ifCond .ge 8, 3) := by decide +kernel
theorem dX8_restOf_70 : decode cX8_restOf 70 = .ok (.iload 5, 2) := by decide +kernel
theorem dX8_restOf_72 : decode cX8_restOf 72 = .ok (.goto 5, 3) := by decide +kernel
theorem dX8_restOf_75 : decode cX8_restOf 75 = .ok (.bipush (-2), 2) := by decide +kernel
theorem dX8_restOf_77 : decode cX8_restOf 77 = .ok (.ireturn, 1) := by decide +kernel
set_option maxRecDepth 20000 in
theorem ggX8_rests_X8_restOf : GoodIn wsX8_rests wsX8_restOf := goodIn_r _ [5, 6, 7, 8, 4, 9, 10, 11, 12, 13, 14, 15, 16, 17, 18, 19, 20, 21, 22, 23, 24, 25, 26, 27, 28, 29, 30, 31, 32, 33, 34, 35] (by decide +kernel) (by decide +kernel)
set_option maxRecDepth 20000 in
theorem gX8_rests_X8_restOf : GoodIn wsX8_rests (wsV RX8 124 RX8 yX8_restOf wsX8_restOf) := goodIn_app (goodIn_of _ (by decide +kernel)) ggX8_rests_X8_restOf
theorem dX8_rests_0 : decode cX8_rests 0 = .ok (.iload_n 1, 1) := by decide +kernel
theorem dX8_rests_1 : decode cX8_rests 1 = .ok (.ifCond .lt 8, 3) := by decide +kernel
theorem dX8_rests_4 : decode cX8_rests 4 = .ok (.iload_n 1, 1) := by decide +kernel
theorem dX8_rests_5 : decode cX8_rests 5 = .ok (.iconst 4, 1) := by decide +kernel
theorem dX8_rests_6 : decode cX8_rests 6 = .ok (.if_icmp .le 8, 3) := by decide +kernel
theorem dX8_rests_9 : decode cX8_rests 9 = .ok (.bipush (-2), 2) := by decide +kernel
theorem dX8_rests_11 : decode cX8_rests 11 = .ok (.goto 10, 3) := by decide +kernel
theorem dX8_rests_14 : decode cX8_rests 14 = .ok (.aload_n 0, 1) := by decide +kernel
theorem dX8_rests_15 : decode cX8_rests 15 = .ok (.iload_n 1, 1) := by decide +kernel
theorem dX8_rests_16 : decode cX8_rests 16 = .ok (.iconst (-1), 1) := by decide +kernel
theorem dX8_rests_17 : decode cX8_rests 17 = .ok (.iconst 0, 1) := by decide +kernel
theorem dX8_rests_18 : decode cX8_rests 18 = .ok (.invokevirtual 124, 3) := by decide +kernel
theorem dX8_rests_21 : decode cX8_rests 21 = .ok (.ireturn, 1) := by decide +kernel
set_option maxRecDepth 20000 in
theorem ggX8_rest_X8_restOf : GoodIn wsX8_rest wsX8_restOf := goodIn_r _ [5, 6, 7, 8, 4, 9, 10, 11, 12, 13, 14, 15, 16, 17, 18, 19, 20, 21, 22, 23, 24, 25, 26, 27, 28, 29, 30, 31, 32, 33, 34, 35] (by decide +kernel) (by decide +kernel)
set_option maxRecDepth 20000 in
theorem gX8_rest_X8_restOf : GoodIn wsX8_rest (wsV RX8 124 RX8 yX8_restOf wsX8_restOf) := goodIn_app (goodIn_of _ (by decide +kernel)) ggX8_rest_X8_restOf
theorem dX8_rest_0 : decode cX8_rest 0 = .ok (.iload_n 1, 1) := by decide +kernel
theorem dX8_rest_1 : decode cX8_rest 1 = .ok (.ifCond .lt 21, 3) := by decide +kernel
theorem dX8_rest_4 : decode cX8_rest 4 = .ok (.iload_n 1, 1) := by decide +kernel
theorem dX8_rest_5 : decode cX8_rest 5 = .ok (.iconst 4, 1) := by decide +kernel
theorem dX8_rest_6 : decode cX8_rest 6 = .ok (.if_icmp .gt 16, 3) := by decide +kernel
theorem dX8_rest_9 : decode cX8_rest 9 = .ok (.iload_n 2, 1) := by decide +kernel
theorem dX8_rest_10 : decode cX8_rest 10 = .ok (.ifCond .lt 12, 3) := by decide +kernel
theorem dX8_rest_13 : decode cX8_rest 13 = .ok (.iload_n 3, 1) := by decide +kernel
theorem dX8_rest_14 : decode cX8_rest 14 = .ok (.ifCond .lt 8, 3) := by decide +kernel
theorem dX8_rest_17 : decode cX8_rest 17 = .ok (.iload_n 3, 1) := by decide +kernel
theorem dX8_rest_18 : decode cX8_rest 18 = .ok (.iconst 1, 1) := by decide +kernel
theorem dX8_rest_19 : decode cX8_rest 19 = .ok (.if_icmp .le 6, 3) := by decide +kernel
theorem dX8_rest_22 : decode cX8_rest 22 = .ok (.bipush (-2), 2) := by decide +kernel
theorem dX8_rest_24 : decode cX8_rest 24 = .ok (.ireturn, 1) := by decide +kernel
theorem dX8_rest_25 : decode cX8_rest 25 = .ok (.aload_n 0, 1) := by decide +kernel
theorem dX8_rest_26 : decode cX8_rest 26 = .ok (.iload_n 1, 1) := by decide +kernel
theorem dX8_rest_27 : decode cX8_rest 27 = .ok (.iload_n 2, 1) := by decide +kernel
theorem dX8_rest_28 : decode cX8_rest 28 = .ok (.iload_n 3, 1) := by decide +kernel
theorem dX8_rest_29 : decode cX8_rest 29 = .ok (.iconst 1, 1) := by decide +kernel
theorem dX8_rest_30 : decode cX8_rest 30 = .ok (.if_icmp .ne 7, 3) := by decide +kernel
theorem dX8_rest_33 : decode cX8_rest 33 = .ok (.iconst 1, 1) := by decide +kernel
theorem dX8_rest_34 : decode cX8_rest 34 = .ok (.goto 4, 3) := by decide +kernel
theorem dX8_rest_37 : decode cX8_rest 37 = .ok (.iconst 0, 1) := by decide +kernel
theorem dX8_rest_38 : decode cX8_rest 38 = .ok (.invokevirtual 124, 3) := by decide +kernel
theorem dX8_rest_41 : decode cX8_rest 41 = .ok (.ireturn, 1) := by decide +kernel
set_option maxRecDepth 20000 in
theorem ggX8_isPair_X8_together : GoodIn wsX8_isPair wsX8_together := goodIn_r _ [9, 3, 4, 10, 11, 12, 13, 14, 15, 16, 17, 18, 19] (by decide +kernel) (by decide +kernel)
set_option maxRecDepth 20000 in
theorem gX8_isPair_X8_together : GoodIn wsX8_isPair (wsV RX8 59 RX8 yX8_together wsX8_together) := goodIn_app (goodIn_of _ (by decide +kernel)) ggX8_isPair_X8_together
theorem dX8_isPair_0 : decode cX8_isPair 0 = .ok (.aload_n 0, 1) := by decide +kernel
theorem dX8_isPair_1 : decode cX8_isPair 1 = .ok (.getfield 19, 3) := by decide +kernel
theorem dX8_isPair_4 : decode cX8_isPair 4 = .ok (.iload_n 1, 1) := by decide +kernel
theorem dX8_isPair_5 : decode cX8_isPair 5 = .ok (.iaload, 1) := by decide +kernel
theorem dX8_isPair_6 : decode cX8_isPair 6 = .ok (.ifCond .lt 36, 3) := by decide +kernel
theorem dX8_isPair_9 : decode cX8_isPair 9 = .ok (.aload_n 0, 1) := by decide +kernel
theorem dX8_isPair_10 : decode cX8_isPair 10 = .ok (.getfield 19, 3) := by decide +kernel
theorem dX8_isPair_13 : decode cX8_isPair 13 = .ok (.iload_n 2, 1) := by decide +kernel
theorem dX8_isPair_14 : decode cX8_isPair 14 = .ok (.iaload, 1) := by decide +kernel
theorem dX8_isPair_15 : decode cX8_isPair 15 = .ok (.ifCond .lt 27, 3) := by decide +kernel
theorem dX8_isPair_18 : decode cX8_isPair 18 = .ok (.aload_n 0, 1) := by decide +kernel
theorem dX8_isPair_19 : decode cX8_isPair 19 = .ok (.getfield 19, 3) := by decide +kernel
theorem dX8_isPair_22 : decode cX8_isPair 22 = .ok (.iload_n 1, 1) := by decide +kernel
theorem dX8_isPair_23 : decode cX8_isPair 23 = .ok (.iaload, 1) := by decide +kernel
theorem dX8_isPair_24 : decode cX8_isPair 24 = .ok (.aload_n 0, 1) := by decide +kernel
theorem dX8_isPair_25 : decode cX8_isPair 25 = .ok (.getfield 19, 3) := by decide +kernel
theorem dX8_isPair_28 : decode cX8_isPair 28 = .ok (.iload_n 2, 1) := by decide +kernel
theorem dX8_isPair_29 : decode cX8_isPair 29 = .ok (.iaload, 1) := by decide +kernel
theorem dX8_isPair_30 : decode cX8_isPair 30 = .ok (.if_icmp .eq 12, 3) := by decide +kernel
theorem dX8_isPair_33 : decode cX8_isPair 33 = .ok (.aload_n 0, 1) := by decide +kernel
theorem dX8_isPair_34 : decode cX8_isPair 34 = .ok (.iload_n 1, 1) := by decide +kernel
theorem dX8_isPair_35 : decode cX8_isPair 35 = .ok (.iload_n 2, 1) := by decide +kernel
theorem dX8_isPair_36 : decode cX8_isPair 36 = .ok (.invokevirtual 59, 3) := by decide +kernel
theorem dX8_isPair_39 : decode cX8_isPair 39 = .ok (.ifCond .ne 5, 3) := by decide +kernel
theorem dX8_isPair_42 : decode cX8_isPair 42 = .ok (.iconst 0, 1) := by decide +kernel
theorem dX8_isPair_43 : decode cX8_isPair 43 = .ok (.ireturn, 1) := by decide +kernel
theorem dX8_isPair_44 : decode cX8_isPair 44 = .ok (.iload_n 3, 1) := by decide +kernel
theorem dX8_isPair_45 : decode cX8_isPair 45 = .ok (.ifCond .ne 62, 3) := by decide +kernel
theorem dX8_isPair_48 : decode cX8_isPair 48 = .ok (.aload_n 0, 1) := by decide +kernel
theorem dX8_isPair_49 : decode cX8_isPair 49 = .ok (.getfield 19, 3) := by decide +kernel
theorem dX8_isPair_52 : decode cX8_isPair 52 = .ok (.iload_n 1, 1) := by decide +kernel
theorem dX8_isPair_53 : decode cX8_isPair 53 = .ok (.iaload, 1) := by decide +kernel
theorem dX8_isPair_54 : decode cX8_isPair 54 = .ok (.aload_n 0, 1) := by decide +kernel
theorem dX8_isPair_55 : decode cX8_isPair 55 = .ok (.getfield 19, 3) := by decide +kernel
theorem dX8_isPair_58 : decode cX8_isPair 58 = .ok (.iload_n 2, 1) := by decide +kernel
theorem dX8_isPair_59 : decode cX8_isPair 59 = .ok (.iaload, 1) := by decide +kernel
theorem dX8_isPair_60 : decode cX8_isPair 60 = .ok (.if_icmp .ge 26, 3) := by decide +kernel
theorem dX8_isPair_63 : decode cX8_isPair 63 = .ok (.aload_n 0, 1) := by decide +kernel
theorem dX8_isPair_64 : decode cX8_isPair 64 = .ok (.getfield 16, 3) := by decide +kernel
theorem dX8_isPair_67 : decode cX8_isPair 67 = .ok (.iload_n 1, 1) := by decide +kernel
theorem dX8_isPair_68 : decode cX8_isPair 68 = .ok (.iaload, 1) := by decide +kernel
theorem dX8_isPair_69 : decode cX8_isPair 69 = .ok (.aload_n 0, 1) := by decide +kernel
theorem dX8_isPair_70 : decode cX8_isPair 70 = .ok (.getfield 16, 3) := by decide +kernel
theorem dX8_isPair_73 : decode cX8_isPair 73 = .ok (.iload_n 2, 1) := by decide +kernel
theorem dX8_isPair_74 : decode cX8_isPair 74 = .ok (.iaload, 1) := by decide +kernel
theorem dX8_isPair_75 : decode cX8_isPair 75 = .ok (.if_icmp .ge 7, 3) := by decide +kernel
theorem dX8_isPair_78 : decode cX8_isPair 78 = .ok (.iconst 1, 1) := by decide +kernel
theorem dX8_isPair_79 : decode cX8_isPair 79 = .ok (.goto 27, 3) := by decide +kernel
theorem dX8_isPair_82 : decode cX8_isPair 82 = .ok (.iconst 0, 1) := by decide +kernel
theorem dX8_isPair_83 : decode cX8_isPair 83 = .ok (.goto 23, 3) := by decide +kernel
theorem dX8_isPair_86 : decode cX8_isPair 86 = .ok (.aload_n 0, 1) := by decide +kernel
theorem dX8_isPair_87 : decode cX8_isPair 87 = .ok (.getfield 16, 3) := by decide +kernel
theorem dX8_isPair_90 : decode cX8_isPair 90 = .ok (.iload_n 2, 1) := by decide +kernel
theorem dX8_isPair_91 : decode cX8_isPair 91 = .ok (.iaload, 1) := by decide +kernel
theorem dX8_isPair_92 : decode cX8_isPair 92 = .ok (.aload_n 0, 1) := by decide +kernel
theorem dX8_isPair_93 : decode cX8_isPair 93 = .ok (.getfield 16, 3) := by decide +kernel
theorem dX8_isPair_96 : decode cX8_isPair 96 = .ok (.iload_n 1, 1) := by decide +kernel
theorem dX8_isPair_97 : decode cX8_isPair 97 = .ok (.iaload, 1) := by decide +kernel
theorem dX8_isPair_98 : decode cX8_isPair 98 = .ok (.if_icmp .ge 7, 3) := by decide +kernel
theorem dX8_isPair_101 : decode cX8_isPair 101 = .ok (.iconst 1, 1) := by decide +kernel
theorem dX8_isPair_102 : decode cX8_isPair 102 = .ok (.goto 4, 3) := by decide +kernel
theorem dX8_isPair_105 : decode cX8_isPair 105 = .ok (.iconst 0, 1) := by decide +kernel
theorem dX8_isPair_106 : decode cX8_isPair 106 = .ok (.ireturn, 1) := by decide +kernel
theorem dX8_isPair_107 : decode cX8_isPair 107 = .ok (.aload_n 0, 1) := by decide +kernel
theorem dX8_isPair_108 : decode cX8_isPair 108 = .ok (.getfield 16, 3) := by decide +kernel
theorem dX8_isPair_111 : decode cX8_isPair 111 = .ok (.iload_n 1, 1) := by decide +kernel
theorem dX8_isPair_112 : decode cX8_isPair 112 = .ok (.iaload, 1) := by decide +kernel
theorem dX8_isPair_113 : decode cX8_isPair 113 = .ok (.aload_n 0, 1) := by decide +kernel
theorem dX8_isPair_114 : decode cX8_isPair 114 = .ok (.getfield 16, 3) := by decide +kernel
theorem dX8_isPair_117 : decode cX8_isPair 117 = .ok (.iload_n 2, 1) := by decide +kernel
theorem dX8_isPair_118 : decode cX8_isPair 118 = .ok (.iaload, 1) := by decide +kernel
theorem dX8_isPair_119 : decode cX8_isPair 119 = .ok (.if_icmp .ne 42, 3) := by decide +kernel
theorem dX8_isPair_122 : decode cX8_isPair 122 = .ok (.iload_n 3, 1) := by decide +kernel
theorem dX8_isPair_123 : decode cX8_isPair 123 = .ok (.iconst 1, 1) := by decide +kernel
theorem dX8_isPair_124 : decode cX8_isPair 124 = .ok (.if_icmp .eq 33, 3) := by decide +kernel
theorem dX8_isPair_127 : decode cX8_isPair 127 = .ok (.aload_n 0, 1) := by decide +kernel
theorem dX8_isPair_128 : decode cX8_isPair 128 = .ok (.getfield 7, 3) := by decide +kernel
theorem dX8_isPair_131 : decode cX8_isPair 131 = .ok (.iload_n 1, 1) := by decide +kernel
theorem dX8_isPair_132 : decode cX8_isPair 132 = .ok (.iaload, 1) := by decide +kernel
theorem dX8_isPair_133 : decode cX8_isPair 133 = .ok (.aload_n 0, 1) := by decide +kernel
theorem dX8_isPair_134 : decode cX8_isPair 134 = .ok (.getfield 7, 3) := by decide +kernel
theorem dX8_isPair_137 : decode cX8_isPair 137 = .ok (.iload_n 2, 1) := by decide +kernel
theorem dX8_isPair_138 : decode cX8_isPair 138 = .ok (.iaload, 1) := by decide +kernel
theorem dX8_isPair_139 : decode cX8_isPair 139 = .ok (.if_icmp .ne 22, 3) := by decide +kernel
theorem dX8_isPair_142 : decode cX8_isPair 142 = .ok (.aload_n 0, 1) := by decide +kernel
theorem dX8_isPair_143 : decode cX8_isPair 143 = .ok (.getfield 13, 3) := by decide +kernel
theorem dX8_isPair_146 : decode cX8_isPair 146 = .ok (.iload_n 1, 1) := by decide +kernel
theorem dX8_isPair_147 : decode cX8_isPair 147 = .ok (.iaload, 1) := by decide +kernel
theorem dX8_isPair_148 : decode cX8_isPair 148 = .ok (.aload_n 0, 1) := by decide +kernel
theorem dX8_isPair_149 : decode cX8_isPair 149 = .ok (.getfield 13, 3) := by decide +kernel
theorem dX8_isPair_152 : decode cX8_isPair 152 = .ok (.iload_n 2, 1) := by decide +kernel
theorem dX8_isPair_153 : decode cX8_isPair 153 = .ok (.iaload, 1) := by decide +kernel
theorem dX8_isPair_154 : decode cX8_isPair 154 = .ok (.if_icmp .ne 7, 3) := by decide +kernel
theorem dX8_isPair_157 : decode cX8_isPair 157 = .ok (.iconst 1, 1) := by decide +kernel
theorem dX8_isPair_158 : decode cX8_isPair 158 = .ok (.goto 4, 3) := by decide +kernel
theorem dX8_isPair_161 : decode cX8_isPair 161 = .ok (.iconst 0, 1) := by decide +kernel
theorem dX8_isPair_162 : decode cX8_isPair 162 = .ok (.ireturn, 1) := by decide +kernel
set_option maxRecDepth 20000 in
theorem ggX8_pairOf_X8_isPair : GoodIn wsX8_pairOf wsX8_isPair := goodIn_r _ [7, 8, 9, 10, 11, 12, 13, 14, 6, 15, 16, 17, 18, 19, 20, 21, 22, 23, 24, 25] (by decide +kernel) (by decide +kernel)
set_option maxRecDepth 20000 in
theorem gX8_pairOf_X8_isPair : GoodIn wsX8_pairOf (wsV RX8 128 RX8 yX8_isPair wsX8_isPair) := goodIn_app (goodIn_of _ (by decide +kernel)) ggX8_pairOf_X8_isPair
theorem dX8_pairOf_0 : decode cX8_pairOf 0 = .ok (.iconst 0, 1) := by decide +kernel
theorem dX8_pairOf_1 : decode cX8_pairOf 1 = .ok (.istore 4, 2) := by decide +kernel
theorem dX8_pairOf_3 : decode cX8_pairOf 3 = .ok (.iconst 0, 1) := by decide +kernel
theorem dX8_pairOf_4 : decode cX8_pairOf 4 = .ok (.istore 5, 2) := by decide +kernel
theorem dX8_pairOf_6 : decode cX8_pairOf 6 = .ok (.iload 5, 2) := by decide +kernel
theorem dX8_pairOf_8 : decode cX8_pairOf 8 = .ok (.aload_n 0, 1) := by decide +kernel
theorem dX8_pairOf_9 : decode cX8_pairOf 9 = .ok (.getfield 38, 3) := by decide +kernel
theorem dX8_pairOf_12 : decode cX8_pairOf 12 = .ok (.if_icmp .ge 83, 3) := by decide +kernel
theorem dX8_pairOf_15 : decode cX8_pairOf 15 = .ok (.iload 5, 2) := by decide +kernel
theorem dX8_pairOf_17 : decode cX8_pairOf 17 = .ok (.iconst 1, 1) := by decide +kernel
theorem dX8_pairOf_18 : decode cX8_pairOf 18 = .ok (.iadd, 1) := by decide +kernel
theorem dX8_pairOf_19 : decode cX8_pairOf 19 = .ok (.istore 6, 2) := by decide +kernel
theorem dX8_pairOf_21 : decode cX8_pairOf 21 = .ok (.iload 6, 2) := by decide +kernel
theorem dX8_pairOf_23 : decode cX8_pairOf 23 = .ok (.aload_n 0, 1) := by decide +kernel
theorem dX8_pairOf_24 : decode cX8_pairOf 24 = .ok (.getfield 38, 3) := by decide +kernel
theorem dX8_pairOf_27 : decode cX8_pairOf 27 = .ok (.if_icmp .ge 62, 3) := by decide +kernel
theorem dX8_pairOf_30 : decode cX8_pairOf 30 = .ok (.aload_n 0, 1) := by decide +kernel
theorem dX8_pairOf_31 : decode cX8_pairOf 31 = .ok (.aload_n 0, 1) := by decide +kernel
theorem dX8_pairOf_32 : decode cX8_pairOf 32 = .ok (.getfield 25, 3) := by decide +kernel
theorem dX8_pairOf_35 : decode cX8_pairOf 35 = .ok (.iload 5, 2) := by decide +kernel
theorem dX8_pairOf_37 : decode cX8_pairOf 37 = .ok (.iaload, 1) := by decide +kernel
theorem dX8_pairOf_38 : decode cX8_pairOf 38 = .ok (.aload_n 0, 1) := by decide +kernel
theorem dX8_pairOf_39 : decode cX8_pairOf 39 = .ok (.getfield 25, 3) := by decide +kernel
theorem dX8_pairOf_42 : decode cX8_pairOf 42 = .ok (.iload 6, 2) := by decide +kernel
theorem dX8_pairOf_44 : decode cX8_pairOf 44 = .ok (.iaload, 1) := by decide +kernel
theorem dX8_pairOf_45 : decode cX8_pairOf 45 = .ok (.iload_n 1, 1) := by decide +kernel
theorem dX8_pairOf_46 : decode cX8_pairOf 46 = .ok (.invokevirtual 128, 3) := by decide +kernel
theorem dX8_pairOf_49 : decode cX8_pairOf 49 = .ok (.ifCond .eq 34, 3) := by decide +kernel
theorem dX8_pairOf_52 : decode cX8_pairOf 52 = .ok (.iload 4, 2) := by decide +kernel
theorem dX8_pairOf_54 : decode cX8_pairOf 54 = .ok (.iload_n 2, 1) := by decide +kernel
theorem dX8_pairOf_55 : decode cX8_pairOf 55 = .ok (.if_icmp .ne 25, 3) := by decide +kernel
theorem dX8_pairOf_58 : decode cX8_pairOf 58 = .ok (.iload_n 3, 1) := by decide +kernel
theorem dX8_pairOf_59 : decode cX8_pairOf 59 = .ok (.ifCond .ne 13, 3) := by decide +kernel
theorem dX8_pairOf_62 : decode cX8_pairOf 62 = .ok (.aload_n 0, 1) := by decide +kernel
theorem dX8_pairOf_63 : decode cX8_pairOf 63 = .ok (.getfield 25, 3) := by decide +kernel
theorem dX8_pairOf_66 : decode cX8_pairOf 66 = .ok (.iload 5, 2) := by decide +kernel
theorem dX8_pairOf_68 : decode cX8_pairOf 68 = .ok (.iaload, 1) := by decide +kernel
theorem dX8_pairOf_69 : decode cX8_pairOf 69 = .ok (.goto 10, 3) := by decide +kernel
theorem dX8_pairOf_72 : decode cX8_pairOf 72 = .ok (.aload_n 0, 1) := by decide +kernel
theorem dX8_pairOf_73 : decode cX8_pairOf 73 = .ok (.getfield 25, 3) := by decide +kernel
theorem dX8_pairOf_76 : decode cX8_pairOf 76 = .ok (.iload 6, 2) := by decide +kernel
theorem dX8_pairOf_78 : decode cX8_pairOf 78 = .ok (.iaload, 1) := by decide +kernel
theorem dX8_pairOf_79 : decode cX8_pairOf 79 = .ok (.ireturn, 1) := by decide +kernel
theorem dX8_pairOf_80 : decode cX8_pairOf 80 = .ok (.iinc 4 1, 3) := by decide +kernel
theorem dX8_pairOf_83 : decode cX8_pairOf 83 = .ok (.iinc 6 1, 3) := by decide +kernel
theorem dX8_pairOf_86 : decode cX8_pairOf 86 = .ok (.goto (-65), 3) := by decide +kernel
theorem dX8_pairOf_89 : decode cX8_pairOf 89 = .ok (.iinc 5 1, 3) := by decide +kernel
theorem dX8_pairOf_92 : decode cX8_pairOf 92 = .ok (.goto (-86), 3) := by decide +kernel
theorem dX8_pairOf_95 : decode cX8_pairOf 95 = .ok (.iload_n 2, 1) := by decide +kernel
theorem dX8_pairOf_96 : decode cX8_pairOf 96 = .ok (.ifCond .ge 8, 3) := by decide +kernel
theorem dX8_pairOf_99 : decode cX8_pairOf 99 = .ok (.iload 4, 2) := by decide +kernel
theorem dX8_pairOf_101 : decode cX8_pairOf 101 = .ok (.goto 5, 3) := by decide +kernel
theorem dX8_pairOf_104 : decode cX8_pairOf 104 = .ok (.bipush (-2), 2) := by decide +kernel
theorem dX8_pairOf_106 : decode cX8_pairOf 106 = .ok (.ireturn, 1) := by decide +kernel
set_option maxRecDepth 20000 in
theorem ggX8_pairs_X8_pairOf : GoodIn wsX8_pairs wsX8_pairOf := goodIn_r _ [5, 6, 7, 8, 9, 10, 4, 11, 12, 13, 14, 15, 16, 17, 18, 19, 20, 21, 22, 23, 24, 25, 26, 27, 28, 29] (by decide +kernel) (by decide +kernel)
set_option maxRecDepth 20000 in
theorem gX8_pairs_X8_pairOf : GoodIn wsX8_pairs (wsV RX8 131 RX8 yX8_pairOf wsX8_pairOf) := goodIn_app (goodIn_of _ (by decide +kernel)) ggX8_pairs_X8_pairOf
theorem dX8_pairs_0 : decode cX8_pairs 0 = .ok (.iload_n 1, 1) := by decide +kernel
theorem dX8_pairs_1 : decode cX8_pairs 1 = .ok (.ifCond .lt 8, 3) := by decide +kernel
theorem dX8_pairs_4 : decode cX8_pairs 4 = .ok (.iload_n 1, 1) := by decide +kernel
theorem dX8_pairs_5 : decode cX8_pairs 5 = .ok (.iconst 2, 1) := by decide +kernel
theorem dX8_pairs_6 : decode cX8_pairs 6 = .ok (.if_icmp .le 8, 3) := by decide +kernel
theorem dX8_pairs_9 : decode cX8_pairs 9 = .ok (.bipush (-2), 2) := by decide +kernel
theorem dX8_pairs_11 : decode cX8_pairs 11 = .ok (.goto 10, 3) := by decide +kernel
theorem dX8_pairs_14 : decode cX8_pairs 14 = .ok (.aload_n 0, 1) := by decide +kernel
theorem dX8_pairs_15 : decode cX8_pairs 15 = .ok (.iload_n 1, 1) := by decide +kernel
theorem dX8_pairs_16 : decode cX8_pairs 16 = .ok (.iconst (-1), 1) := by decide +kernel
theorem dX8_pairs_17 : decode cX8_pairs 17 = .ok (.iconst 0, 1) := by decide +kernel
theorem dX8_pairs_18 : decode cX8_pairs 18 = .ok (.invokevirtual 131, 3) := by decide +kernel
theorem dX8_pairs_21 : decode cX8_pairs 21 = .ok (.ireturn, 1) := by decide +kernel
set_option maxRecDepth 20000 in
theorem ggX8_pair_X8_pairOf : GoodIn wsX8_pair wsX8_pairOf := goodIn_r _ [5, 6, 7, 8, 9, 10, 4, 11, 12, 13, 14, 15, 16, 17, 18, 19, 20, 21, 22, 23, 24, 25, 26, 27, 28, 29] (by decide +kernel) (by decide +kernel)
set_option maxRecDepth 20000 in
theorem gX8_pair_X8_pairOf : GoodIn wsX8_pair (wsV RX8 131 RX8 yX8_pairOf wsX8_pairOf) := goodIn_app (goodIn_of _ (by decide +kernel)) ggX8_pair_X8_pairOf
theorem dX8_pair_0 : decode cX8_pair 0 = .ok (.iload_n 1, 1) := by decide +kernel
theorem dX8_pair_1 : decode cX8_pair 1 = .ok (.ifCond .lt 21, 3) := by decide +kernel
theorem dX8_pair_4 : decode cX8_pair 4 = .ok (.iload_n 1, 1) := by decide +kernel
theorem dX8_pair_5 : decode cX8_pair 5 = .ok (.iconst 2, 1) := by decide +kernel
theorem dX8_pair_6 : decode cX8_pair 6 = .ok (.if_icmp .gt 16, 3) := by decide +kernel
theorem dX8_pair_9 : decode cX8_pair 9 = .ok (.iload_n 2, 1) := by decide +kernel
theorem dX8_pair_10 : decode cX8_pair 10 = .ok (.ifCond .lt 12, 3) := by decide +kernel
theorem dX8_pair_13 : decode cX8_pair 13 = .ok (.iload_n 3, 1) := by decide +kernel
theorem dX8_pair_14 : decode cX8_pair 14 = .ok (.ifCond .lt 8, 3) := by decide +kernel
theorem dX8_pair_17 : decode cX8_pair 17 = .ok (.iload_n 3, 1) := by decide +kernel
theorem dX8_pair_18 : decode cX8_pair 18 = .ok (.iconst 1, 1) := by decide +kernel
theorem dX8_pair_19 : decode cX8_pair 19 = .ok (.if_icmp .le 6, 3) := by decide +kernel
theorem dX8_pair_22 : decode cX8_pair 22 = .ok (.bipush (-2), 2) := by decide +kernel
theorem dX8_pair_24 : decode cX8_pair 24 = .ok (.ireturn, 1) := by decide +kernel
theorem dX8_pair_25 : decode cX8_pair 25 = .ok (.aload_n 0, 1) := by decide +kernel
theorem dX8_pair_26 : decode cX8_pair 26 = .ok (.iload_n 1, 1) := by decide +kernel
theorem dX8_pair_27 : decode cX8_pair 27 = .ok (.iload_n 2, 1) := by decide +kernel
theorem dX8_pair_28 : decode cX8_pair 28 = .ok (.iload_n 3, 1) := by decide +kernel
theorem dX8_pair_29 : decode cX8_pair 29 = .ok (.invokevirtual 131, 3) := by decide +kernel
theorem dX8_pair_32 : decode cX8_pair 32 = .ok (.ireturn, 1) := by decide +kernel
set_option maxRecDepth 20000 in
theorem ggX8_voice_X8_size : GoodIn wsX8_voice wsX8_size := goodIn_r _ [8, 1, 2, 9, 10, 11, 12, 13, 14, 15, 16, 17, 18] (by decide +kernel) (by decide +kernel)
set_option maxRecDepth 20000 in
theorem gX8_voice_X8_size : GoodIn wsX8_voice (wsV RX8 92 RX8 yX8_size wsX8_size) := goodIn_app (goodIn_of _ (by decide +kernel)) ggX8_voice_X8_size
theorem dX8_voice_0 : decode cX8_voice 0 = .ok (.iload_n 1, 1) := by decide +kernel
theorem dX8_voice_1 : decode cX8_voice 1 = .ok (.ifCond .lt 17, 3) := by decide +kernel
theorem dX8_voice_4 : decode cX8_voice 4 = .ok (.iload_n 1, 1) := by decide +kernel
theorem dX8_voice_5 : decode cX8_voice 5 = .ok (.iconst 4, 1) := by decide +kernel
theorem dX8_voice_6 : decode cX8_voice 6 = .ok (.if_icmp .ge 12, 3) := by decide +kernel
theorem dX8_voice_9 : decode cX8_voice 9 = .ok (.iload_n 2, 1) := by decide +kernel
theorem dX8_voice_10 : decode cX8_voice 10 = .ok (.ifCond .lt 8, 3) := by decide +kernel
theorem dX8_voice_13 : decode cX8_voice 13 = .ok (.iload_n 2, 1) := by decide +kernel
theorem dX8_voice_14 : decode cX8_voice 14 = .ok (.iconst 2, 1) := by decide +kernel
theorem dX8_voice_15 : decode cX8_voice 15 = .ok (.if_icmp .le 6, 3) := by decide +kernel
theorem dX8_voice_18 : decode cX8_voice 18 = .ok (.bipush (-2), 2) := by decide +kernel
theorem dX8_voice_20 : decode cX8_voice 20 = .ok (.ireturn, 1) := by decide +kernel
theorem dX8_voice_21 : decode cX8_voice 21 = .ok (.iconst (-1), 1) := by decide +kernel
theorem dX8_voice_22 : decode cX8_voice 22 = .ok (.istore_n 3, 1) := by decide +kernel
theorem dX8_voice_23 : decode cX8_voice 23 = .ok (.iconst (-1), 1) := by decide +kernel
theorem dX8_voice_24 : decode cX8_voice 24 = .ok (.istore 4, 2) := by decide +kernel
theorem dX8_voice_26 : decode cX8_voice 26 = .ok (.iconst 0, 1) := by decide +kernel
theorem dX8_voice_27 : decode cX8_voice 27 = .ok (.istore 5, 2) := by decide +kernel
theorem dX8_voice_29 : decode cX8_voice 29 = .ok (.iload 5, 2) := by decide +kernel
theorem dX8_voice_31 : decode cX8_voice 31 = .ok (.aload_n 0, 1) := by decide +kernel
theorem dX8_voice_32 : decode cX8_voice 32 = .ok (.getfield 38, 3) := by decide +kernel
theorem dX8_voice_35 : decode cX8_voice 35 = .ok (.if_icmp .ge 73, 3) := by decide +kernel
theorem dX8_voice_38 : decode cX8_voice 38 = .ok (.aload_n 0, 1) := by decide +kernel
theorem dX8_voice_39 : decode cX8_voice 39 = .ok (.getfield 19, 3) := by decide +kernel
theorem dX8_voice_42 : decode cX8_voice 42 = .ok (.iload 5, 2) := by decide +kernel
theorem dX8_voice_44 : decode cX8_voice 44 = .ok (.iaload, 1) := by decide +kernel
theorem dX8_voice_45 : decode cX8_voice 45 = .ok (.iload_n 1, 1) := by decide +kernel
theorem dX8_voice_46 : decode cX8_voice 46 = .ok (.if_icmp .ne 56, 3) := by decide +kernel
theorem dX8_voice_49 : decode cX8_voice 49 = .ok (.iload_n 3, 1) := by decide +kernel
theorem dX8_voice_50 : decode cX8_voice 50 = .ok (.ifCond .lt 14, 3) := by decide +kernel
theorem dX8_voice_53 : decode cX8_voice 53 = .ok (.aload_n 0, 1) := by decide +kernel
theorem dX8_voice_54 : decode cX8_voice 54 = .ok (.getfield 16, 3) := by decide +kernel
theorem dX8_voice_57 : decode cX8_voice 57 = .ok (.iload 5, 2) := by decide +kernel
theorem dX8_voice_59 : decode cX8_voice 59 = .ok (.iaload, 1) := by decide +kernel
theorem dX8_voice_60 : decode cX8_voice 60 = .ok (.iload_n 3, 1) := by decide +kernel
theorem dX8_voice_61 : decode cX8_voice 61 = .ok (.if_icmp .ge 13, 3) := by decide +kernel
theorem dX8_voice_64 : decode cX8_voice 64 = .ok (.aload_n 0, 1) := by decide +kernel
theorem dX8_voice_65 : decode cX8_voice 65 = .ok (.getfield 16, 3) := by decide +kernel
theorem dX8_voice_68 : decode cX8_voice 68 = .ok (.iload 5, 2) := by decide +kernel
theorem dX8_voice_70 : decode cX8_voice 70 = .ok (.iaload, 1) := by decide +kernel
theorem dX8_voice_71 : decode cX8_voice 71 = .ok (.goto 4, 3) := by decide +kernel
theorem dX8_voice_74 : decode cX8_voice 74 = .ok (.iload_n 3, 1) := by decide +kernel
theorem dX8_voice_75 : decode cX8_voice 75 = .ok (.istore_n 3, 1) := by decide +kernel
theorem dX8_voice_76 : decode cX8_voice 76 = .ok (.aload_n 0, 1) := by decide +kernel
theorem dX8_voice_77 : decode cX8_voice 77 = .ok (.getfield 16, 3) := by decide +kernel
theorem dX8_voice_80 : decode cX8_voice 80 = .ok (.iload 5, 2) := by decide +kernel
theorem dX8_voice_82 : decode cX8_voice 82 = .ok (.iaload, 1) := by decide +kernel
theorem dX8_voice_83 : decode cX8_voice 83 = .ok (.iload 4, 2) := by decide +kernel
theorem dX8_voice_85 : decode cX8_voice 85 = .ok (.if_icmp .le 13, 3) := by decide +kernel
theorem dX8_voice_88 : decode cX8_voice 88 = .ok (.aload_n 0, 1) := by decide +kernel
theorem dX8_voice_89 : decode cX8_voice 89 = .ok (.getfield 16, 3) := by decide +kernel
theorem dX8_voice_92 : decode cX8_voice 92 = .ok (.iload 5, 2) := by decide +kernel
theorem dX8_voice_94 : decode cX8_voice 94 = .ok (.iaload, 1) := by decide +kernel
theorem dX8_voice_95 : decode cX8_voice 95 = .ok (.goto 5, 3) := by decide +kernel
theorem dX8_voice_98 : decode cX8_voice 98 = .ok (.iload 4, 2) := by decide +kernel
theorem dX8_voice_100 : decode cX8_voice 100 = .ok (.istore 4, 2) := by decide +kernel
theorem dX8_voice_102 : decode cX8_voice 102 = .ok (.iinc 5 1, 3) := by decide +kernel
theorem dX8_voice_105 : decode cX8_voice 105 = .ok (.goto (-76), 3) := by decide +kernel
theorem dX8_voice_108 : decode cX8_voice 108 = .ok (.iload_n 2, 1) := by decide +kernel
theorem dX8_voice_109 : decode cX8_voice 109 = .ok (.ifCond .ne 7, 3) := by decide +kernel
theorem dX8_voice_112 : decode cX8_voice 112 = .ok (.iload_n 3, 1) := by decide +kernel
theorem dX8_voice_113 : decode cX8_voice 113 = .ok (.goto 18, 3) := by decide +kernel
theorem dX8_voice_116 : decode cX8_voice 116 = .ok (.iload_n 2, 1) := by decide +kernel
theorem dX8_voice_117 : decode cX8_voice 117 = .ok (.iconst 1, 1) := by decide +kernel
theorem dX8_voice_118 : decode cX8_voice 118 = .ok (.if_icmp .ne 8, 3) := by decide +kernel
theorem dX8_voice_121 : decode cX8_voice 121 = .ok (.iload 4, 2) := by decide +kernel
theorem dX8_voice_123 : decode cX8_voice 123 = .ok (.goto 8, 3) := by decide +kernel
theorem dX8_voice_126 : decode cX8_voice 126 = .ok (.aload_n 0, 1) := by decide +kernel
theorem dX8_voice_127 : decode cX8_voice 127 = .ok (.iload_n 1, 1) := by decide +kernel
theorem dX8_voice_128 : decode cX8_voice 128 = .ok (.invokevirtual 92, 3) := by decide +kernel
theorem dX8_voice_131 : decode cX8_voice 131 = .ok (.ireturn, 1) := by decide +kernel
set_option maxRecDepth 20000 in
theorem ggX8_told_X8_size : GoodIn wsX8_told wsX8_size := goodIn_r _ [6, 1, 7, 30, 31, 32, 33, 34, 35, 36, 37, 38, 39] (by decide +kernel) (by decide +kernel)
set_option maxRecDepth 20000 in
theorem gX8_told_X8_size : GoodIn wsX8_told (wsV RX8 92 RX8 yX8_size wsX8_size) := goodIn_app (goodIn_of _ (by decide +kernel)) ggX8_told_X8_size
set_option maxRecDepth 20000 in
theorem ggX8_told_X8_theEnd : GoodIn wsX8_told wsX8_theEnd := goodIn_r _ [11, 1, 12, 30, 31, 32, 33, 34, 35, 36, 37, 38, 39] (by decide +kernel) (by decide +kernel)
set_option maxRecDepth 20000 in
theorem gX8_told_X8_theEnd : GoodIn wsX8_told (wsV RX8 115 RX8 yX8_theEnd wsX8_theEnd) := goodIn_app (goodIn_of _ (by decide +kernel)) ggX8_told_X8_theEnd
set_option maxRecDepth 20000 in
theorem ggX8_told_X8_isWhole : GoodIn wsX8_told wsX8_isWhole := goodIn_r _ [16, 1, 7, 17, 18, 19, 5, 20, 21, 22, 23, 24, 25, 12, 30, 31, 32, 33, 34, 35, 36, 37, 38, 39] (by decide +kernel) (by decide +kernel)
set_option maxRecDepth 20000 in
theorem gX8_told_X8_isWhole : GoodIn wsX8_told (wsV RX8 95 RX8 yX8_isWhole wsX8_isWhole) := goodIn_app (goodIn_of _ (by decide +kernel)) ggX8_told_X8_isWhole
set_option maxRecDepth 20000 in
theorem ggX8_told_X8_used : GoodIn wsX8_told wsX8_used := goodIn_r _ [29, 2, 3, 4, 5, 6, 1, 7, 30, 31, 32, 33, 34, 35, 36, 37, 38, 39] (by decide +kernel) (by decide +kernel)
set_option maxRecDepth 20000 in
theorem gX8_told_X8_used : GoodIn wsX8_told (wsV RX8 105 RX8 yX8_used wsX8_used) := goodIn_app (goodIn_of _ (by decide +kernel)) ggX8_told_X8_used
theorem dX8_told_0 : decode cX8_told 0 = .ok (.iload_n 1, 1) := by decide +kernel
theorem dX8_told_1 : decode cX8_told 1 = .ok (.ifCond .lt 8, 3) := by decide +kernel
theorem dX8_told_4 : decode cX8_told 4 = .ok (.iload_n 1, 1) := by decide +kernel
theorem dX8_told_5 : decode cX8_told 5 = .ok (.iconst 4, 1) := by decide +kernel
theorem dX8_told_6 : decode cX8_told 6 = .ok (.if_icmp .le 6, 3) := by decide +kernel
theorem dX8_told_9 : decode cX8_told 9 = .ok (.bipush (-2), 2) := by decide +kernel
theorem dX8_told_11 : decode cX8_told 11 = .ok (.ireturn, 1) := by decide +kernel
theorem dX8_told_12 : decode cX8_told 12 = .ok (.iload_n 1, 1) := by decide +kernel
theorem dX8_told_13 : decode cX8_told 13 = .ok (.ifCond .ne 10, 3) := by decide +kernel
theorem dX8_told_16 : decode cX8_told 16 = .ok (.aload_n 0, 1) := by decide +kernel
theorem dX8_told_17 : decode cX8_told 17 = .ok (.getfield 38, 3) := by decide +kernel
theorem dX8_told_20 : decode cX8_told 20 = .ok (.goto 57, 3) := by decide +kernel
theorem dX8_told_23 : decode cX8_told 23 = .ok (.iload_n 1, 1) := by decide +kernel
theorem dX8_told_24 : decode cX8_told 24 = .ok (.iconst 1, 1) := by decide +kernel
theorem dX8_told_25 : decode cX8_told 25 = .ok (.if_icmp .ne 16, 3) := by decide +kernel
theorem dX8_told_28 : decode cX8_told 28 = .ok (.aload_n 0, 1) := by decide +kernel
theorem dX8_told_29 : decode cX8_told 29 = .ok (.getfield 38, 3) := by decide +kernel
theorem dX8_told_32 : decode cX8_told 32 = .ok (.aload_n 0, 1) := by decide +kernel
theorem dX8_told_33 : decode cX8_told 33 = .ok (.iconst (-1), 1) := by decide +kernel
theorem dX8_told_34 : decode cX8_told 34 = .ok (.invokevirtual 92, 3) := by decide +kernel
theorem dX8_told_37 : decode cX8_told 37 = .ok (.isub, 1) := by decide +kernel
theorem dX8_told_38 : decode cX8_told 38 = .ok (.goto 39, 3) := by decide +kernel
theorem dX8_told_41 : decode cX8_told 41 = .ok (.iload_n 1, 1) := by decide +kernel
theorem dX8_told_42 : decode cX8_told 42 = .ok (.iconst 2, 1) := by decide +kernel
theorem dX8_told_43 : decode cX8_told 43 = .ok (.if_icmp .ne 10, 3) := by decide +kernel
theorem dX8_told_46 : decode cX8_told 46 = .ok (.aload_n 0, 1) := by decide +kernel
theorem dX8_told_47 : decode cX8_told 47 = .ok (.invokevirtual 115, 3) := by decide +kernel
theorem dX8_told_50 : decode cX8_told 50 = .ok (.goto 27, 3) := by decide +kernel
theorem dX8_told_53 : decode cX8_told 53 = .ok (.iload_n 1, 1) := by decide +kernel
theorem dX8_told_54 : decode cX8_told 54 = .ok (.iconst 3, 1) := by decide +kernel
theorem dX8_told_55 : decode cX8_told 55 = .ok (.if_icmp .ne 18, 3) := by decide +kernel
theorem dX8_told_58 : decode cX8_told 58 = .ok (.aload_n 0, 1) := by decide +kernel
theorem dX8_told_59 : decode cX8_told 59 = .ok (.invokevirtual 95, 3) := by decide +kernel
theorem dX8_told_62 : decode cX8_told 62 = .ok (.ifCond .eq 7, 3) := by decide +kernel
theorem dX8_told_65 : decode cX8_told 65 = .ok (.iconst 1, 1) := by decide +kernel
theorem dX8_told_66 : decode cX8_told 66 = .ok (.goto 11, 3) := by decide +kernel
theorem dX8_told_69 : decode cX8_told 69 = .ok (.iconst 0, 1) := by decide +kernel
theorem dX8_told_70 : decode cX8_told 70 = .ok (.goto 7, 3) := by decide +kernel
theorem dX8_told_73 : decode cX8_told 73 = .ok (.aload_n 0, 1) := by decide +kernel
theorem dX8_told_74 : decode cX8_told 74 = .ok (.invokevirtual 105, 3) := by decide +kernel
theorem dX8_told_77 : decode cX8_told 77 = .ok (.ireturn, 1) := by decide +kernel
theorem dJ9_abs_0f7a4_0 : decode cJ9_abs_0f7a4 0 = .ok (.iload_n 0, 1) := by decide +kernel
theorem dJ9_abs_0f7a4_1 : decode cJ9_abs_0f7a4 1 = .ok (.ifCond .ge 8, 3) := by decide +kernel
theorem dJ9_abs_0f7a4_4 : decode cJ9_abs_0f7a4 4 = .ok (.iload_n 0, 1) := by decide +kernel
theorem dJ9_abs_0f7a4_5 : decode cJ9_abs_0f7a4 5 = .ok (.ineg, 1) := by decide +kernel
theorem dJ9_abs_0f7a4_6 : decode cJ9_abs_0f7a4 6 = .ok (.goto 4, 3) := by decide +kernel
theorem dJ9_abs_0f7a4_9 : decode cJ9_abs_0f7a4 9 = .ok (.iload_n 0, 1) := by decide +kernel
theorem dJ9_abs_0f7a4_10 : decode cJ9_abs_0f7a4 10 = .ok (.ireturn, 1) := by decide +kernel
theorem dJ9_max_7cf53_0 : decode cJ9_max_7cf53 0 = .ok (.iload_n 0, 1) := by decide +kernel
theorem dJ9_max_7cf53_1 : decode cJ9_max_7cf53 1 = .ok (.iload_n 1, 1) := by decide +kernel
theorem dJ9_max_7cf53_2 : decode cJ9_max_7cf53 2 = .ok (.if_icmp .lt 7, 3) := by decide +kernel
theorem dJ9_max_7cf53_5 : decode cJ9_max_7cf53 5 = .ok (.iload_n 0, 1) := by decide +kernel
theorem dJ9_max_7cf53_6 : decode cJ9_max_7cf53 6 = .ok (.goto 4, 3) := by decide +kernel
theorem dJ9_max_7cf53_9 : decode cJ9_max_7cf53 9 = .ok (.iload_n 1, 1) := by decide +kernel
theorem dJ9_max_7cf53_10 : decode cJ9_max_7cf53 10 = .ok (.ireturn, 1) := by decide +kernel
theorem dJ9_min_7cf53_0 : decode cJ9_min_7cf53 0 = .ok (.iload_n 0, 1) := by decide +kernel
theorem dJ9_min_7cf53_1 : decode cJ9_min_7cf53 1 = .ok (.iload_n 1, 1) := by decide +kernel
theorem dJ9_min_7cf53_2 : decode cJ9_min_7cf53 2 = .ok (.if_icmp .gt 7, 3) := by decide +kernel
theorem dJ9_min_7cf53_5 : decode cJ9_min_7cf53 5 = .ok (.iload_n 0, 1) := by decide +kernel
theorem dJ9_min_7cf53_6 : decode cJ9_min_7cf53 6 = .ok (.goto 4, 3) := by decide +kernel
theorem dJ9_min_7cf53_9 : decode cJ9_min_7cf53 9 = .ok (.iload_n 1, 1) := by decide +kernel
theorem dJ9_min_7cf53_10 : decode cJ9_min_7cf53 10 = .ok (.ireturn, 1) := by decide +kernel
theorem dJ7_rangeCheck_23922_0 : decode cJ7_rangeCheck_23922 0 = .ok (.iload_n 1, 1) := by decide +kernel
theorem dJ7_rangeCheck_23922_1 : decode cJ7_rangeCheck_23922 1 = .ok (.iload_n 2, 1) := by decide +kernel
theorem dJ7_rangeCheck_23922_2 : decode cJ7_rangeCheck_23922 2 = .ok (.if_icmp .le 44, 3) := by decide +kernel
theorem dJ7_rangeCheck_23922_5 : decode cJ7_rangeCheck_23922 5 = .ok (.new 43, 3) := by decide +kernel
theorem dJ7_rangeCheck_23922_8 : decode cJ7_rangeCheck_23922 8 = .ok (.dup, 1) := by decide +kernel
theorem dJ7_rangeCheck_23922_9 : decode cJ7_rangeCheck_23922 9 = .ok (.new 45, 3) := by decide +kernel
theorem dJ7_rangeCheck_23922_12 : decode cJ7_rangeCheck_23922 12 = .ok (.dup, 1) := by decide +kernel
theorem dJ7_rangeCheck_23922_13 : decode cJ7_rangeCheck_23922 13 = .ok (.invokespecial 47, 3) := by decide +kernel
theorem dJ7_rangeCheck_23922_16 : decode cJ7_rangeCheck_23922 16 = .ok (.ldc 48, 2) := by decide +kernel
theorem dJ7_rangeCheck_23922_18 : decode cJ7_rangeCheck_23922 18 = .ok (.invokevirtual 50, 3) := by decide +kernel
theorem dJ7_rangeCheck_23922_21 : decode cJ7_rangeCheck_23922 21 = .ok (.iload_n 1, 1) := by decide +kernel
theorem dJ7_rangeCheck_23922_22 : decode cJ7_rangeCheck_23922 22 = .ok (.invokevirtual 54, 3) := by decide +kernel
theorem dJ7_rangeCheck_23922_25 : decode cJ7_rangeCheck_23922 25 = .ok (.ldc 57, 2) := by decide +kernel
theorem dJ7_rangeCheck_23922_27 : decode cJ7_rangeCheck_23922 27 = .ok (.invokevirtual 50, 3) := by decide +kernel
theorem dJ7_rangeCheck_23922_30 : decode cJ7_rangeCheck_23922 30 = .ok (.iload_n 2, 1) := by decide +kernel
theorem dJ7_rangeCheck_23922_31 : decode cJ7_rangeCheck_23922 31 = .ok (.invokevirtual 54, 3) := by decide +kernel
theorem dJ7_rangeCheck_23922_34 : decode cJ7_rangeCheck_23922 34 = .ok (.ldc 59, 2) := by decide +kernel
theorem dJ7_rangeCheck_23922_36 : decode cJ7_rangeCheck_23922 36 = .ok (.invokevirtual 50, 3) := by decide +kernel
theorem dJ7_rangeCheck_23922_39 : decode cJ7_rangeCheck_23922 39 = .ok (.invokevirtual 61, 3) := by decide +kernel
theorem dJ7_rangeCheck_23922_42 : decode cJ7_rangeCheck_23922 42 = .ok (.invokespecial 65, 3) := by decide +kernel
theorem dJ7_rangeCheck_23922_45 : decode cJ7_rangeCheck_23922 45 = .ok (.athrow, 1) := by decide +kernel
theorem dJ7_rangeCheck_23922_46 : decode cJ7_rangeCheck_23922 46 = .ok (.iload_n 1, 1) := by decide +kernel
theorem dJ7_rangeCheck_23922_47 : decode cJ7_rangeCheck_23922 47 = .ok (.ifCond .ge 12, 3) := by decide +kernel
theorem dJ7_rangeCheck_23922_50 : decode cJ7_rangeCheck_23922 50 = .ok (.new 68, 3) := by decide +kernel
theorem dJ7_rangeCheck_23922_53 : decode cJ7_rangeCheck_23922 53 = .ok (.dup, 1) := by decide +kernel
theorem dJ7_rangeCheck_23922_54 : decode cJ7_rangeCheck_23922 54 = .ok (.iload_n 1, 1) := by decide +kernel
theorem dJ7_rangeCheck_23922_55 : decode cJ7_rangeCheck_23922 55 = .ok (.invokespecial 70, 3) := by decide +kernel
theorem dJ7_rangeCheck_23922_58 : decode cJ7_rangeCheck_23922 58 = .ok (.athrow, 1) := by decide +kernel
theorem dJ7_rangeCheck_23922_59 : decode cJ7_rangeCheck_23922 59 = .ok (.iload_n 2, 1) := by decide +kernel
theorem dJ7_rangeCheck_23922_60 : decode cJ7_rangeCheck_23922 60 = .ok (.iload_n 0, 1) := by decide +kernel
theorem dJ7_rangeCheck_23922_61 : decode cJ7_rangeCheck_23922 61 = .ok (.if_icmp .le 12, 3) := by decide +kernel
theorem dJ7_rangeCheck_23922_64 : decode cJ7_rangeCheck_23922 64 = .ok (.new 68, 3) := by decide +kernel
theorem dJ7_rangeCheck_23922_67 : decode cJ7_rangeCheck_23922 67 = .ok (.dup, 1) := by decide +kernel
theorem dJ7_rangeCheck_23922_68 : decode cJ7_rangeCheck_23922 68 = .ok (.iload_n 2, 1) := by decide +kernel
theorem dJ7_rangeCheck_23922_69 : decode cJ7_rangeCheck_23922 69 = .ok (.invokespecial 70, 3) := by decide +kernel
theorem dJ7_rangeCheck_23922_72 : decode cJ7_rangeCheck_23922 72 = .ok (.athrow, 1) := by decide +kernel
theorem dJ7_rangeCheck_23922_73 : decode cJ7_rangeCheck_23922 73 = .ok (.return_, 1) := by decide +kernel
theorem dJ7_fill_53178_0 : decode cJ7_fill_53178 0 = .ok (.iconst 0, 1) := by decide +kernel
theorem dJ7_fill_53178_1 : decode cJ7_fill_53178 1 = .ok (.istore_n 2, 1) := by decide +kernel
theorem dJ7_fill_53178_2 : decode cJ7_fill_53178 2 = .ok (.aload_n 0, 1) := by decide +kernel
theorem dJ7_fill_53178_3 : decode cJ7_fill_53178 3 = .ok (.arraylength, 1) := by decide +kernel
theorem dJ7_fill_53178_4 : decode cJ7_fill_53178 4 = .ok (.istore_n 3, 1) := by decide +kernel
theorem dJ7_fill_53178_5 : decode cJ7_fill_53178 5 = .ok (.iload_n 2, 1) := by decide +kernel
theorem dJ7_fill_53178_6 : decode cJ7_fill_53178 6 = .ok (.iload_n 3, 1) := by decide +kernel
theorem dJ7_fill_53178_7 : decode cJ7_fill_53178 7 = .ok (.if_icmp .ge 13, 3) := by decide +kernel
theorem dJ7_fill_53178_10 : decode cJ7_fill_53178 10 = .ok (.aload_n 0, 1) := by decide +kernel
theorem dJ7_fill_53178_11 : decode cJ7_fill_53178 11 = .ok (.iload_n 2, 1) := by decide +kernel
theorem dJ7_fill_53178_12 : decode cJ7_fill_53178 12 = .ok (.iload_n 1, 1) := by decide +kernel
theorem dJ7_fill_53178_13 : decode cJ7_fill_53178 13 = .ok (.iastore, 1) := by decide +kernel
theorem dJ7_fill_53178_14 : decode cJ7_fill_53178 14 = .ok (.iinc 2 1, 3) := by decide +kernel
theorem dJ7_fill_53178_17 : decode cJ7_fill_53178 17 = .ok (.goto (-12), 3) := by decide +kernel
theorem dJ7_fill_53178_20 : decode cJ7_fill_53178 20 = .ok (.return_, 1) := by decide +kernel
set_option maxRecDepth 20000 in
theorem ggJ7_fill_fda19_J7_rangeCheck_23922 : GoodIn wsJ7_fill_fda19 wsJ7_rangeCheck_23922 := goodIn_r _ [4] (by decide +kernel) (by decide +kernel)
set_option maxRecDepth 20000 in
theorem gJ7_fill_fda19_J7_rangeCheck_23922 : GoodIn wsJ7_fill_fda19 (va_wsS RJ7 13 yJ7_rangeCheck_23922 wsJ7_rangeCheck_23922) := goodIn_app (goodIn_of _ (by decide +kernel)) ggJ7_fill_fda19_J7_rangeCheck_23922
theorem dJ7_fill_fda19_0 : decode cJ7_fill_fda19 0 = .ok (.aload_n 0, 1) := by decide +kernel
theorem dJ7_fill_fda19_1 : decode cJ7_fill_fda19 1 = .ok (.arraylength, 1) := by decide +kernel
theorem dJ7_fill_fda19_2 : decode cJ7_fill_fda19 2 = .ok (.iload_n 1, 1) := by decide +kernel
theorem dJ7_fill_fda19_3 : decode cJ7_fill_fda19 3 = .ok (.iload_n 2, 1) := by decide +kernel
theorem dJ7_fill_fda19_4 : decode cJ7_fill_fda19 4 = .ok (.invokestatic 13, 3) := by decide +kernel
theorem dJ7_fill_fda19_7 : decode cJ7_fill_fda19 7 = .ok (.iload_n 1, 1) := by decide +kernel
theorem dJ7_fill_fda19_8 : decode cJ7_fill_fda19 8 = .ok (.istore 4, 2) := by decide +kernel
theorem dJ7_fill_fda19_10 : decode cJ7_fill_fda19 10 = .ok (.iload 4, 2) := by decide +kernel
theorem dJ7_fill_fda19_12 : decode cJ7_fill_fda19 12 = .ok (.iload_n 2, 1) := by decide +kernel
theorem dJ7_fill_fda19_13 : decode cJ7_fill_fda19 13 = .ok (.if_icmp .ge 14, 3) := by decide +kernel
theorem dJ7_fill_fda19_16 : decode cJ7_fill_fda19 16 = .ok (.aload_n 0, 1) := by decide +kernel
theorem dJ7_fill_fda19_17 : decode cJ7_fill_fda19 17 = .ok (.iload 4, 2) := by decide +kernel
theorem dJ7_fill_fda19_19 : decode cJ7_fill_fda19 19 = .ok (.iload_n 3, 1) := by decide +kernel
theorem dJ7_fill_fda19_20 : decode cJ7_fill_fda19 20 = .ok (.iastore, 1) := by decide +kernel
theorem dJ7_fill_fda19_21 : decode cJ7_fill_fda19 21 = .ok (.iinc 4 1, 3) := by decide +kernel
theorem dJ7_fill_fda19_24 : decode cJ7_fill_fda19 24 = .ok (.goto (-14), 3) := by decide +kernel
theorem dJ7_fill_fda19_27 : decode cJ7_fill_fda19 27 = .ok (.return_, 1) := by decide +kernel
set_option maxRecDepth 20000 in
theorem ggL_law_X7_init : GoodIn wsL_law wsX7_init := goodIn_r _ [8, 9, 10, 11, 12, 13, 14, 15, 16, 17, 18, 19, 20, 21, 22, 23, 24, 25, 26, 27, 28, 29, 30, 31, 32, 33, 34, 35, 36, 37, 38, 39, 40, 41, 42, 43, 44, 45, 46, 47, 48, 49, 50, 51, 52, 53, 54, 55, 56, 57, 58, 59, 60, 61, 62, 63, 64, 65, 66, 67, 68, 69, 70, 71, 72, 73, 74, 75, 76, 77, 78, 79, 80, 81, 82, 83, 84, 85, 86, 87, 88, 89, 90, 91, 92, 93, 94, 95, 96, 97, 642, 643, 644, 645, 646, 647, 648, 625, 626, 627, 628, 629, 630, 631, 649, 650, 651, 652, 653, 654, 655, 656, 657, 658, 659, 660, 661, 662, 663, 664, 665, 666, 667, 668, 669] (by decide +kernel) (by decide +kernel)
set_option maxRecDepth 20000 in
theorem gL_law_X7_init : GoodIn wsL_law (wsX7_init) := ggL_law_X7_init
set_option maxRecDepth 20000 in
theorem ggL_law_X8_init : GoodIn wsL_law wsX8_init := goodIn_r _ [100, 101, 10, 11, 50, 102, 103, 104, 105, 106, 107, 108, 109, 110, 111, 632, 633, 634, 635, 636, 637, 638, 639, 640, 641] (by decide +kernel) (by decide +kernel)
set_option maxRecDepth 20000 in
theorem gL_law_X8_init : GoodIn wsL_law (wsX8_init) := ggL_law_X8_init
set_option maxRecDepth 20000 in
theorem ggL_law_X7_clear : GoodIn wsL_law wsX7_clear := goodIn_r _ [115, 15, 116, 16, 23, 117, 118, 119, 120, 625, 626, 627, 628, 629, 630, 631, 642, 643, 644, 645, 646, 647, 648] (by decide +kernel) (by decide +kernel)
set_option maxRecDepth 20000 in
theorem gL_law_X7_clear : GoodIn wsL_law (wsV RL 13 RX7 yX7_clear wsX7_clear) := goodIn_app (goodIn_of _ (by decide +kernel)) ggL_law_X7_clear
set_option maxRecDepth 20000 in
theorem ggL_law_X8_clear : GoodIn wsL_law wsX8_clear := goodIn_r _ [124, 125, 106, 632, 633, 634, 635, 636, 637, 638, 639, 640, 641] (by decide +kernel) (by decide +kernel)
set_option maxRecDepth 20000 in
theorem gL_law_X8_clear : GoodIn wsL_law (wsV RL 17 RX8 yX8_clear wsX8_clear) := goodIn_app (goodIn_of _ (by decide +kernel)) ggL_law_X8_clear
set_option maxRecDepth 20000 in
theorem ggL_law_X7_note : GoodIn wsL_law wsX7_note := goodIn_r _ [129, 15, 116, 130, 131, 2, 132, 133, 134, 135, 136, 137, 138, 139, 14, 140, 141, 54, 55, 142, 143, 144, 145, 51, 52, 53, 146, 147, 148, 149, 56, 150, 151, 152, 153, 625, 626, 627, 628, 629, 630, 631, 642, 643, 644, 645, 646, 647, 648] (by decide +kernel) (by decide +kernel)
set_option maxRecDepth 20000 in
theorem gL_law_X7_note : GoodIn wsL_law (wsV RL 18 RX7 yX7_note wsX7_note) := goodIn_app (goodIn_of _ (by decide +kernel)) ggL_law_X7_note
set_option maxRecDepth 20000 in
theorem ggL_law_X8_note : GoodIn wsL_law wsX8_note := goodIn_r _ [157, 125, 102, 103, 104, 105, 158, 159, 5, 160, 161, 162, 163, 164, 165, 107, 166, 167, 168, 169, 170, 171, 172, 173, 632, 633, 634, 635, 636, 637, 638, 639, 640, 641] (by decide +kernel) (by decide +kernel)
set_option maxRecDepth 20000 in
theorem gL_law_X8_note : GoodIn wsL_law (wsV RL 22 RX8 yX8_note wsX8_note) := goodIn_app (goodIn_of _ (by decide +kernel)) ggL_law_X8_note
set_option maxRecDepth 20000 in
theorem ggL_law_X7_move : GoodIn wsL_law wsX7_move := goodIn_r _ [177, 15, 178, 179, 180, 14, 181, 141, 135, 2, 136, 130, 131, 132, 133, 134, 182, 143, 144, 145, 51, 52, 53, 146, 147, 148, 149, 55, 56, 150, 151, 152, 153, 625, 626, 627, 628, 629, 630, 631, 642, 643, 644, 645, 646, 647, 648] (by decide +kernel) (by decide +kernel)
set_option maxRecDepth 20000 in
theorem gL_law_X7_move : GoodIn wsL_law (wsV RL 23 RX7 yX7_move wsX7_move) := goodIn_app (goodIn_of _ (by decide +kernel)) ggL_law_X7_move
set_option maxRecDepth 20000 in
theorem ggL_law_X8_move : GoodIn wsL_law wsX8_move := goodIn_r _ [186, 125, 102, 103, 104, 158, 159, 5, 160, 161, 162, 163, 164, 165, 107, 166, 167, 168, 169, 170, 171, 172, 173, 632, 633, 634, 635, 636, 637, 638, 639, 640, 641] (by decide +kernel) (by decide +kernel)
set_option maxRecDepth 20000 in
theorem gL_law_X8_move : GoodIn wsL_law (wsV RL 27 RX8 yX8_move wsX8_move) := goodIn_app (goodIn_of _ (by decide +kernel)) ggL_law_X8_move
set_option maxRecDepth 20000 in
theorem ggL_law_X7_weigh : GoodIn wsL_law wsX7_weigh := goodIn_r _ [190, 23, 134, 135, 2, 136, 625, 626, 627, 628, 629, 630, 631] (by decide +kernel) (by decide +kernel)
set_option maxRecDepth 20000 in
theorem gL_law_X7_weigh : GoodIn wsL_law (wsV RL 28 RX7 yX7_weigh wsX7_weigh) := goodIn_app (goodIn_of _ (by decide +kernel)) ggL_law_X7_weigh
