theorem dX8_weigh_13 : decode cX8_weigh 13 = .ok (.iload_n 2, 1) := by decide +kernel
theorem dX8_weigh_14 : decode cX8_weigh 14 = .ok (.sipush 1000, 3) := by decide +kernel
theorem dX8_weigh_17 : decode cX8_weigh 17 = .ok (.if_icmp .le 6, 3) := by decide +kernel
theorem dX8_weigh_20 : decode cX8_weigh 20 = .ok (.bipush (-2), 2) := by decide +kernel
theorem dX8_weigh_22 : decode cX8_weigh 22 = .ok (.ireturn, 1) := by decide +kernel
theorem dX8_weigh_23 : decode cX8_weigh 23 = .ok (.aload_n 0, 1) := by decide +kernel
theorem dX8_weigh_24 : decode cX8_weigh 24 = .ok (.getfield 22, 3) := by decide +kernel
theorem dX8_weigh_27 : decode cX8_weigh 27 = .ok (.iload_n 1, 1) := by decide +kernel
theorem dX8_weigh_28 : decode cX8_weigh 28 = .ok (.iaload, 1) := by decide +kernel
theorem dX8_weigh_29 : decode cX8_weigh 29 = .ok (.istore_n 3, 1) := by decide +kernel
theorem dX8_weigh_30 : decode cX8_weigh 30 = .ok (.aload_n 0, 1) := by decide +kernel
theorem dX8_weigh_31 : decode cX8_weigh 31 = .ok (.getfield 22, 3) := by decide +kernel
theorem dX8_weigh_34 : decode cX8_weigh 34 = .ok (.iload_n 1, 1) := by decide +kernel
theorem dX8_weigh_35 : decode cX8_weigh 35 = .ok (.iload_n 2, 1) := by decide +kernel
theorem dX8_weigh_36 : decode cX8_weigh 36 = .ok (.iastore, 1) := by decide +kernel
theorem dX8_weigh_37 : decode cX8_weigh 37 = .ok (.iload_n 3, 1) := by decide +kernel
theorem dX8_weigh_38 : decode cX8_weigh 38 = .ok (.ireturn, 1) := by decide +kernel
theorem dX8_put_0 : decode cX8_put 0 = .ok (.iload_n 1, 1) := by decide +kernel
theorem dX8_put_1 : decode cX8_put 1 = .ok (.ifCond .lt 21, 3) := by decide +kernel
theorem dX8_put_4 : decode cX8_put 4 = .ok (.iload_n 1, 1) := by decide +kernel
theorem dX8_put_5 : decode cX8_put 5 = .ok (.aload_n 0, 1) := by decide +kernel
theorem dX8_put_6 : decode cX8_put 6 = .ok (.getfield 38, 3) := by decide +kernel
theorem dX8_put_9 : decode cX8_put 9 = .ok (.if_icmp .ge 13, 3) := by decide +kernel
theorem dX8_put_12 : decode cX8_put 12 = .ok (.iload_n 2, 1) := by decide +kernel
theorem dX8_put_13 : decode cX8_put 13 = .ok (.iconst (-1), 1) := by decide +kernel
theorem dX8_put_14 : decode cX8_put 14 = .ok (.if_icmp .lt 8, 3) := by decide +kernel
theorem dX8_put_17 : decode cX8_put 17 = .ok (.iload_n 2, 1) := by decide +kernel
theorem dX8_put_18 : decode cX8_put 18 = .ok (.iconst 4, 1) := by decide +kernel
theorem dX8_put_19 : decode cX8_put 19 = .ok (.if_icmp .lt 6, 3) := by decide +kernel
theorem dX8_put_22 : decode cX8_put 22 = .ok (.bipush (-2), 2) := by decide +kernel
theorem dX8_put_24 : decode cX8_put 24 = .ok (.ireturn, 1) := by decide +kernel
theorem dX8_put_25 : decode cX8_put 25 = .ok (.aload_n 0, 1) := by decide +kernel
theorem dX8_put_26 : decode cX8_put 26 = .ok (.getfield 19, 3) := by decide +kernel
theorem dX8_put_29 : decode cX8_put 29 = .ok (.iload_n 1, 1) := by decide +kernel
theorem dX8_put_30 : decode cX8_put 30 = .ok (.iaload, 1) := by decide +kernel
theorem dX8_put_31 : decode cX8_put 31 = .ok (.istore_n 3, 1) := by decide +kernel
theorem dX8_put_32 : decode cX8_put 32 = .ok (.aload_n 0, 1) := by decide +kernel
theorem dX8_put_33 : decode cX8_put 33 = .ok (.getfield 19, 3) := by decide +kernel
theorem dX8_put_36 : decode cX8_put 36 = .ok (.iload_n 1, 1) := by decide +kernel
theorem dX8_put_37 : decode cX8_put 37 = .ok (.iload_n 2, 1) := by decide +kernel
theorem dX8_put_38 : decode cX8_put 38 = .ok (.iastore, 1) := by decide +kernel
theorem dX8_put_39 : decode cX8_put 39 = .ok (.iload_n 3, 1) := by decide +kernel
theorem dX8_put_40 : decode cX8_put 40 = .ok (.ireturn, 1) := by decide +kernel
theorem dX8_place_0 : decode cX8_place 0 = .ok (.iload_n 1, 1) := by decide +kernel
theorem dX8_place_1 : decode cX8_place 1 = .ok (.ldc 58, 2) := by decide +kernel
theorem dX8_place_3 : decode cX8_place 3 = .ok (.imul, 1) := by decide +kernel
theorem dX8_place_4 : decode cX8_place 4 = .ok (.aload_n 0, 1) := by decide +kernel
theorem dX8_place_5 : decode cX8_place 5 = .ok (.getfield 31, 3) := by decide +kernel
theorem dX8_place_8 : decode cX8_place 8 = .ok (.iconst 0, 1) := by decide +kernel
theorem dX8_place_9 : decode cX8_place 9 = .ok (.iaload, 1) := by decide +kernel
theorem dX8_place_10 : decode cX8_place 10 = .ok (.bipush 15, 2) := by decide +kernel
theorem dX8_place_12 : decode cX8_place 12 = .ok (.imul, 1) := by decide +kernel
theorem dX8_place_13 : decode cX8_place 13 = .ok (.aload_n 0, 1) := by decide +kernel
theorem dX8_place_14 : decode cX8_place 14 = .ok (.getfield 31, 3) := by decide +kernel
theorem dX8_place_17 : decode cX8_place 17 = .ok (.iconst 1, 1) := by decide +kernel
theorem dX8_place_18 : decode cX8_place 18 = .ok (.iaload, 1) := by decide +kernel
theorem dX8_place_19 : decode cX8_place 19 = .ok (.iadd, 1) := by decide +kernel
theorem dX8_place_20 : decode cX8_place 20 = .ok (.bipush 15, 2) := by decide +kernel
theorem dX8_place_22 : decode cX8_place 22 = .ok (.imul, 1) := by decide +kernel
theorem dX8_place_23 : decode cX8_place 23 = .ok (.aload_n 0, 1) := by decide +kernel
theorem dX8_place_24 : decode cX8_place 24 = .ok (.getfield 31, 3) := by decide +kernel
theorem dX8_place_27 : decode cX8_place 27 = .ok (.iconst 2, 1) := by decide +kernel
theorem dX8_place_28 : decode cX8_place 28 = .ok (.iaload, 1) := by decide +kernel
theorem dX8_place_29 : decode cX8_place 29 = .ok (.iadd, 1) := by decide +kernel
theorem dX8_place_30 : decode cX8_place 30 = .ok (.bipush 15, 2) := by decide +kernel
theorem dX8_place_32 : decode cX8_place 32 = .ok (.imul, 1) := by decide +kernel
theorem dX8_place_33 : decode cX8_place 33 = .ok (.iadd, 1) := by decide +kernel
theorem dX8_place_34 : decode cX8_place 34 = .ok (.aload_n 0, 1) := by decide +kernel
theorem dX8_place_35 : decode cX8_place 35 = .ok (.getfield 31, 3) := by decide +kernel
theorem dX8_place_38 : decode cX8_place 38 = .ok (.iconst 3, 1) := by decide +kernel
theorem dX8_place_39 : decode cX8_place 39 = .ok (.iaload, 1) := by decide +kernel
theorem dX8_place_40 : decode cX8_place 40 = .ok (.iadd, 1) := by decide +kernel
theorem dX8_place_41 : decode cX8_place 41 = .ok (.ireturn, 1) := by decide +kernel
set_option maxRecDepth 20000 in
theorem ggX8_price_X8_together : GoodIn wsX8_price wsX8_together := goodIn_r _ [12, 6, 7, 13, 14, 15, 16, 17, 18, 19, 20, 21, 22] (by decide +kernel) (by decide +kernel)
set_option maxRecDepth 20000 in
theorem gX8_price_X8_together : GoodIn wsX8_price (wsV RX8 59 RX8 yX8_together wsX8_together) := goodIn_app (goodIn_of _ (by decide +kernel)) ggX8_price_X8_together
theorem dX8_price_0 : decode cX8_price 0 = .ok (.aload_n 0, 1) := by decide +kernel
theorem dX8_price_1 : decode cX8_price 1 = .ok (.getfield 25, 3) := by decide +kernel
theorem dX8_price_4 : decode cX8_price 4 = .ok (.iload_n 1, 1) := by decide +kernel
theorem dX8_price_5 : decode cX8_price 5 = .ok (.iaload, 1) := by decide +kernel
theorem dX8_price_6 : decode cX8_price 6 = .ok (.istore_n 3, 1) := by decide +kernel
theorem dX8_price_7 : decode cX8_price 7 = .ok (.aload_n 0, 1) := by decide +kernel
theorem dX8_price_8 : decode cX8_price 8 = .ok (.getfield 22, 3) := by decide +kernel
theorem dX8_price_11 : decode cX8_price 11 = .ok (.iconst 3, 1) := by decide +kernel
theorem dX8_price_12 : decode cX8_price 12 = .ok (.iaload, 1) := by decide +kernel
theorem dX8_price_13 : decode cX8_price 13 = .ok (.istore 4, 2) := by decide +kernel
theorem dX8_price_15 : decode cX8_price 15 = .ok (.aload_n 0, 1) := by decide +kernel
theorem dX8_price_16 : decode cX8_price 16 = .ok (.getfield 31, 3) := by decide +kernel
theorem dX8_price_19 : decode cX8_price 19 = .ok (.iload_n 2, 1) := by decide +kernel
theorem dX8_price_20 : decode cX8_price 20 = .ok (.iaload, 1) := by decide +kernel
theorem dX8_price_21 : decode cX8_price 21 = .ok (.ifCond .le 113, 3) := by decide +kernel
theorem dX8_price_24 : decode cX8_price 24 = .ok (.aload_n 0, 1) := by decide +kernel
theorem dX8_price_25 : decode cX8_price 25 = .ok (.getfield 25, 3) := by decide +kernel
theorem dX8_price_28 : decode cX8_price 28 = .ok (.aload_n 0, 1) := by decide +kernel
theorem dX8_price_29 : decode cX8_price 29 = .ok (.getfield 31, 3) := by decide +kernel
theorem dX8_price_32 : decode cX8_price 32 = .ok (.iload_n 2, 1) := by decide +kernel
theorem dX8_price_33 : decode cX8_price 33 = .ok (.iaload, 1) := by decide +kernel
theorem dX8_price_34 : decode cX8_price 34 = .ok (.iconst 1, 1) := by decide +kernel
theorem dX8_price_35 : decode cX8_price 35 = .ok (.isub, 1) := by decide +kernel
theorem dX8_price_36 : decode cX8_price 36 = .ok (.iaload, 1) := by decide +kernel
theorem dX8_price_37 : decode cX8_price 37 = .ok (.istore 5, 2) := by decide +kernel
theorem dX8_price_39 : decode cX8_price 39 = .ok (.aload_n 0, 1) := by decide +kernel
theorem dX8_price_40 : decode cX8_price 40 = .ok (.iload 5, 2) := by decide +kernel
theorem dX8_price_42 : decode cX8_price 42 = .ok (.iload_n 3, 1) := by decide +kernel
theorem dX8_price_43 : decode cX8_price 43 = .ok (.invokevirtual 59, 3) := by decide +kernel
theorem dX8_price_46 : decode cX8_price 46 = .ok (.ifCond .eq 6, 3) := by decide +kernel
theorem dX8_price_49 : decode cX8_price 49 = .ok (.ldc 62, 2) := by decide +kernel
theorem dX8_price_51 : decode cX8_price 51 = .ok (.ireturn, 1) := by decide +kernel
theorem dX8_price_52 : decode cX8_price 52 = .ok (.aload_n 0, 1) := by decide +kernel
theorem dX8_price_53 : decode cX8_price 53 = .ok (.getfield 16, 3) := by decide +kernel
theorem dX8_price_56 : decode cX8_price 56 = .ok (.iload_n 3, 1) := by decide +kernel
theorem dX8_price_57 : decode cX8_price 57 = .ok (.iaload, 1) := by decide +kernel
theorem dX8_price_58 : decode cX8_price 58 = .ok (.aload_n 0, 1) := by decide +kernel
theorem dX8_price_59 : decode cX8_price 59 = .ok (.getfield 16, 3) := by decide +kernel
theorem dX8_price_62 : decode cX8_price 62 = .ok (.iload 5, 2) := by decide +kernel
theorem dX8_price_64 : decode cX8_price 64 = .ok (.iaload, 1) := by decide +kernel
theorem dX8_price_65 : decode cX8_price 65 = .ok (.if_icmp .le 20, 3) := by decide +kernel
theorem dX8_price_68 : decode cX8_price 68 = .ok (.aload_n 0, 1) := by decide +kernel
theorem dX8_price_69 : decode cX8_price 69 = .ok (.getfield 16, 3) := by decide +kernel
theorem dX8_price_72 : decode cX8_price 72 = .ok (.iload_n 3, 1) := by decide +kernel
theorem dX8_price_73 : decode cX8_price 73 = .ok (.iaload, 1) := by decide +kernel
theorem dX8_price_74 : decode cX8_price 74 = .ok (.aload_n 0, 1) := by decide +kernel
theorem dX8_price_75 : decode cX8_price 75 = .ok (.getfield 16, 3) := by decide +kernel
theorem dX8_price_78 : decode cX8_price 78 = .ok (.iload 5, 2) := by decide +kernel
theorem dX8_price_80 : decode cX8_price 80 = .ok (.iaload, 1) := by decide +kernel
theorem dX8_price_81 : decode cX8_price 81 = .ok (.isub, 1) := by decide +kernel
theorem dX8_price_82 : decode cX8_price 82 = .ok (.goto 17, 3) := by decide +kernel
theorem dX8_price_85 : decode cX8_price 85 = .ok (.aload_n 0, 1) := by decide +kernel
theorem dX8_price_86 : decode cX8_price 86 = .ok (.getfield 16, 3) := by decide +kernel
theorem dX8_price_89 : decode cX8_price 89 = .ok (.iload 5, 2) := by decide +kernel
theorem dX8_price_91 : decode cX8_price 91 = .ok (.iaload, 1) := by decide +kernel
theorem dX8_price_92 : decode cX8_price 92 = .ok (.aload_n 0, 1) := by decide +kernel
theorem dX8_price_93 : decode cX8_price 93 = .ok (.getfield 16, 3) := by decide +kernel
theorem dX8_price_96 : decode cX8_price 96 = .ok (.iload_n 3, 1) := by decide +kernel
theorem dX8_price_97 : decode cX8_price 97 = .ok (.iaload, 1) := by decide +kernel
theorem dX8_price_98 : decode cX8_price 98 = .ok (.isub, 1) := by decide +kernel
theorem dX8_price_99 : decode cX8_price 99 = .ok (.istore 6, 2) := by decide +kernel
theorem dX8_price_101 : decode cX8_price 101 = .ok (.iload 6, 2) := by decide +kernel
theorem dX8_price_103 : decode cX8_price 103 = .ok (.aload_n 0, 1) := by decide +kernel
theorem dX8_price_104 : decode cX8_price 104 = .ok (.getfield 22, 3) := by decide +kernel
theorem dX8_price_107 : decode cX8_price 107 = .ok (.iconst 0, 1) := by decide +kernel
theorem dX8_price_108 : decode cX8_price 108 = .ok (.iaload, 1) := by decide +kernel
theorem dX8_price_109 : decode cX8_price 109 = .ok (.imul, 1) := by decide +kernel
theorem dX8_price_110 : decode cX8_price 110 = .ok (.aload_n 0, 1) := by decide +kernel
theorem dX8_price_111 : decode cX8_price 111 = .ok (.getfield 7, 3) := by decide +kernel
theorem dX8_price_114 : decode cX8_price 114 = .ok (.iload_n 3, 1) := by decide +kernel
theorem dX8_price_115 : decode cX8_price 115 = .ok (.iaload, 1) := by decide +kernel
theorem dX8_price_116 : decode cX8_price 116 = .ok (.aload_n 0, 1) := by decide +kernel
theorem dX8_price_117 : decode cX8_price 117 = .ok (.getfield 13, 3) := by decide +kernel
theorem dX8_price_120 : decode cX8_price 120 = .ok (.iload 5, 2) := by decide +kernel
theorem dX8_price_122 : decode cX8_price 122 = .ok (.iaload, 1) := by decide +kernel
theorem dX8_price_123 : decode cX8_price 123 = .ok (.isub, 1) := by decide +kernel
theorem dX8_price_124 : decode cX8_price 124 = .ok (.aload_n 0, 1) := by decide +kernel
theorem dX8_price_125 : decode cX8_price 125 = .ok (.getfield 22, 3) := by decide +kernel
theorem dX8_price_128 : decode cX8_price 128 = .ok (.iconst 1, 1) := by decide +kernel
theorem dX8_price_129 : decode cX8_price 129 = .ok (.iaload, 1) := by decide +kernel
theorem dX8_price_130 : decode cX8_price 130 = .ok (.imul, 1) := by decide +kernel
theorem dX8_price_131 : decode cX8_price 131 = .ok (.iadd, 1) := by decide +kernel
theorem dX8_price_132 : decode cX8_price 132 = .ok (.istore 4, 2) := by decide +kernel
theorem dX8_price_134 : decode cX8_price 134 = .ok (.iconst 0, 1) := by decide +kernel
theorem dX8_price_135 : decode cX8_price 135 = .ok (.istore 5, 2) := by decide +kernel
theorem dX8_price_137 : decode cX8_price 137 = .ok (.iload 5, 2) := by decide +kernel
theorem dX8_price_139 : decode cX8_price 139 = .ok (.iconst 4, 1) := by decide +kernel
theorem dX8_price_140 : decode cX8_price 140 = .ok (.if_icmp .ge 112, 3) := by decide +kernel
theorem dX8_price_143 : decode cX8_price 143 = .ok (.iload 5, 2) := by decide +kernel
theorem dX8_price_145 : decode cX8_price 145 = .ok (.iload_n 2, 1) := by decide +kernel
theorem dX8_price_146 : decode cX8_price 146 = .ok (.if_icmp .eq 30, 3) := by decide +kernel
theorem dX8_price_149 : decode cX8_price 149 = .ok (.aload_n 0, 1) := by decide +kernel
theorem dX8_price_150 : decode cX8_price 150 = .ok (.getfield 31, 3) := by decide +kernel
theorem dX8_price_153 : decode cX8_price 153 = .ok (.iload 5, 2) := by decide +kernel
theorem dX8_price_155 : decode cX8_price 155 = .ok (.iaload, 1) := by decide +kernel
theorem dX8_price_156 : decode cX8_price 156 = .ok (.ifCond .le 20, 3) := by decide +kernel
theorem dX8_price_159 : decode cX8_price 159 = .ok (.aload_n 0, 1) := by decide +kernel
theorem dX8_price_160 : decode cX8_price 160 = .ok (.getfield 25, 3) := by decide +kernel
theorem dX8_price_163 : decode cX8_price 163 = .ok (.aload_n 0, 1) := by decide +kernel
theorem dX8_price_164 : decode cX8_price 164 = .ok (.getfield 31, 3) := by decide +kernel
theorem dX8_price_167 : decode cX8_price 167 = .ok (.iload 5, 2) := by decide +kernel
theorem dX8_price_169 : decode cX8_price 169 = .ok (.iaload, 1) := by decide +kernel
theorem dX8_price_170 : decode cX8_price 170 = .ok (.iconst 1, 1) := by decide +kernel
theorem dX8_price_171 : decode cX8_price 171 = .ok (.isub, 1) := by decide +kernel
theorem dX8_price_172 : decode cX8_price 172 = .ok (.iaload, 1) := by decide +kernel
theorem dX8_price_173 : decode cX8_price 173 = .ok (.goto 4, 3) := by decide +kernel
theorem dX8_price_176 : decode cX8_price 176 = .ok (.iconst (-1), 1) := by decide +kernel
theorem dX8_price_177 : decode cX8_price 177 = .ok (.istore 6, 2) := by decide +kernel
theorem dX8_price_179 : decode cX8_price 179 = .ok (.iload 6, 2) := by decide +kernel
theorem dX8_price_181 : decode cX8_price 181 = .ok (.ifCond .lt 65, 3) := by decide +kernel
theorem dX8_price_184 : decode cX8_price 184 = .ok (.aload_n 0, 1) := by decide +kernel
theorem dX8_price_185 : decode cX8_price 185 = .ok (.iload 6, 2) := by decide +kernel
theorem dX8_price_187 : decode cX8_price 187 = .ok (.iload_n 3, 1) := by decide +kernel
theorem dX8_price_188 : decode cX8_price 188 = .ok (.invokevirtual 59, 3) := by decide +kernel
theorem dX8_price_191 : decode cX8_price 191 = .ok (.ifCond .eq 55, 3) := by decide +kernel
theorem dX8_price_194 : decode cX8_price 194 = .ok (.iload 5, 2) := by decide +kernel
theorem dX8_price_196 : decode cX8_price 196 = .ok (.iload_n 2, 1) := by decide +kernel
theorem dX8_price_197 : decode cX8_price 197 = .ok (.if_icmp .ge 22, 3) := by decide +kernel
theorem dX8_price_200 : decode cX8_price 200 = .ok (.aload_n 0, 1) := by decide +kernel
theorem dX8_price_201 : decode cX8_price 201 = .ok (.getfield 16, 3) := by decide +kernel
theorem dX8_price_204 : decode cX8_price 204 = .ok (.iload 6, 2) := by decide +kernel
theorem dX8_price_206 : decode cX8_price 206 = .ok (.iaload, 1) := by decide +kernel
theorem dX8_price_207 : decode cX8_price 207 = .ok (.aload_n 0, 1) := by decide +kernel
theorem dX8_price_208 : decode cX8_price 208 = .ok (.getfield 16, 3) := by decide +kernel
theorem dX8_price_211 : decode cX8_price 211 = .ok (.iload_n 3, 1) := by decide +kernel
theorem dX8_price_212 : decode cX8_price 212 = .ok (.iaload, 1) := by decide +kernel
theorem dX8_price_213 : decode cX8_price 213 = .ok (.if_icmp .ge 33, 3) := by decide +kernel
theorem dX8_price_216 : decode cX8_price 216 = .ok (.goto 19, 3) := by decide +kernel
theorem dX8_price_219 : decode cX8_price 219 = .ok (.aload_n 0, 1) := by decide +kernel
theorem dX8_price_220 : decode cX8_price 220 = .ok (.getfield 16, 3) := by decide +kernel
theorem dX8_price_223 : decode cX8_price 223 = .ok (.iload_n 3, 1) := by decide +kernel
theorem dX8_price_224 : decode cX8_price 224 = .ok (.iaload, 1) := by decide +kernel
theorem dX8_price_225 : decode cX8_price 225 = .ok (.aload_n 0, 1) := by decide +kernel
theorem dX8_price_226 : decode cX8_price 226 = .ok (.getfield 16, 3) := by decide +kernel
theorem dX8_price_229 : decode cX8_price 229 = .ok (.iload 6, 2) := by decide +kernel
theorem dX8_price_231 : decode cX8_price 231 = .ok (.iaload, 1) := by decide +kernel
theorem dX8_price_232 : decode cX8_price 232 = .ok (.if_icmp .ge 14, 3) := by decide +kernel
theorem dX8_price_235 : decode cX8_price 235 = .ok (.iload 4, 2) := by decide +kernel
theorem dX8_price_237 : decode cX8_price 237 = .ok (.aload_n 0, 1) := by decide +kernel
theorem dX8_price_238 : decode cX8_price 238 = .ok (.getfield 22, 3) := by decide +kernel
theorem dX8_price_241 : decode cX8_price 241 = .ok (.iconst 2, 1) := by decide +kernel
theorem dX8_price_242 : decode cX8_price 242 = .ok (.iaload, 1) := by decide +kernel
theorem dX8_price_243 : decode cX8_price 243 = .ok (.iadd, 1) := by decide +kernel
theorem dX8_price_244 : decode cX8_price 244 = .ok (.istore 4, 2) := by decide +kernel
theorem dX8_price_246 : decode cX8_price 246 = .ok (.iinc 5 1, 3) := by decide +kernel
theorem dX8_price_249 : decode cX8_price 249 = .ok (.goto (-112), 3) := by decide +kernel
theorem dX8_price_252 : decode cX8_price 252 = .ok (.iload 4, 2) := by decide +kernel
theorem dX8_price_254 : decode cX8_price 254 = .ok (.ireturn, 1) := by decide +kernel
set_option maxRecDepth 20000 in
theorem ggX8_level_X8_place : GoodIn wsX8_level wsX8_place := goodIn_r _ [8, 9, 1, 32, 33, 34, 35, 36, 37, 38, 39, 40, 41] (by decide +kernel) (by decide +kernel)
set_option maxRecDepth 20000 in
theorem gX8_level_X8_place : GoodIn wsX8_level (wsV RX8 63 RX8 yX8_place wsX8_place) := goodIn_app (goodIn_of _ (by decide +kernel)) ggX8_level_X8_place
set_option maxRecDepth 20000 in
theorem ggX8_level_X8_leastOf : GoodIn wsX8_level wsX8_leastOf := goodIn_r _ [13, 14, 15, 16, 17, 7, 18, 1, 2, 19, 20, 21, 22, 23, 24, 25, 26, 27, 28, 29, 30, 31, 4, 5, 6, 8, 9, 32, 33, 34, 35, 36, 37, 38, 39, 40, 41] (by decide +kernel) (by decide +kernel)
set_option maxRecDepth 20000 in
theorem gX8_level_X8_leastOf : GoodIn wsX8_level (wsV RX8 66 RX8 yX8_leastOf wsX8_leastOf) := goodIn_app (goodIn_of _ (by decide +kernel)) ggX8_level_X8_leastOf
theorem dX8_level_0 : decode cX8_level 0 = .ok (.iconst 1, 1) := by decide +kernel
theorem dX8_level_1 : decode cX8_level 1 = .ok (.istore_n 3, 1) := by decide +kernel
theorem dX8_level_2 : decode cX8_level 2 = .ok (.iconst 0, 1) := by decide +kernel
theorem dX8_level_3 : decode cX8_level 3 = .ok (.istore 4, 2) := by decide +kernel
theorem dX8_level_5 : decode cX8_level 5 = .ok (.iload 4, 2) := by decide +kernel
theorem dX8_level_7 : decode cX8_level 7 = .ok (.iload_n 2, 1) := by decide +kernel
theorem dX8_level_8 : decode cX8_level 8 = .ok (.if_icmp .ge 15, 3) := by decide +kernel
theorem dX8_level_11 : decode cX8_level 11 = .ok (.iload_n 3, 1) := by decide +kernel
theorem dX8_level_12 : decode cX8_level 12 = .ok (.iload_n 1, 1) := by decide +kernel
theorem dX8_level_13 : decode cX8_level 13 = .ok (.iconst 1, 1) := by decide +kernel
theorem dX8_level_14 : decode cX8_level 14 = .ok (.iadd, 1) := by decide +kernel
theorem dX8_level_15 : decode cX8_level 15 = .ok (.imul, 1) := by decide +kernel
theorem dX8_level_16 : decode cX8_level 16 = .ok (.istore_n 3, 1) := by decide +kernel
theorem dX8_level_17 : decode cX8_level 17 = .ok (.iinc 4 1, 3) := by decide +kernel
theorem dX8_level_20 : decode cX8_level 20 = .ok (.goto (-15), 3) := by decide +kernel
theorem dX8_level_23 : decode cX8_level 23 = .ok (.iconst 0, 1) := by decide +kernel
theorem dX8_level_24 : decode cX8_level 24 = .ok (.istore 4, 2) := by decide +kernel
theorem dX8_level_26 : decode cX8_level 26 = .ok (.iload 4, 2) := by decide +kernel
theorem dX8_level_28 : decode cX8_level 28 = .ok (.iload_n 3, 1) := by decide +kernel
theorem dX8_level_29 : decode cX8_level 29 = .ok (.if_icmp .ge 135, 3) := by decide +kernel
theorem dX8_level_32 : decode cX8_level 32 = .ok (.iload 4, 2) := by decide +kernel
theorem dX8_level_34 : decode cX8_level 34 = .ok (.istore 5, 2) := by decide +kernel
theorem dX8_level_36 : decode cX8_level 36 = .ok (.iload_n 1, 1) := by decide +kernel
theorem dX8_level_37 : decode cX8_level 37 = .ok (.ifCond .ne 7, 3) := by decide +kernel
theorem dX8_level_40 : decode cX8_level 40 = .ok (.iconst 1, 1) := by decide +kernel
theorem dX8_level_41 : decode cX8_level 41 = .ok (.goto 4, 3) := by decide +kernel
theorem dX8_level_44 : decode cX8_level 44 = .ok (.iconst 0, 1) := by decide +kernel
theorem dX8_level_45 : decode cX8_level 45 = .ok (.istore 6, 2) := by decide +kernel
theorem dX8_level_47 : decode cX8_level 47 = .ok (.iconst 0, 1) := by decide +kernel
theorem dX8_level_48 : decode cX8_level 48 = .ok (.istore 7, 2) := by decide +kernel
theorem dX8_level_50 : decode cX8_level 50 = .ok (.iload 7, 2) := by decide +kernel
theorem dX8_level_52 : decode cX8_level 52 = .ok (.iconst 4, 1) := by decide +kernel
theorem dX8_level_53 : decode cX8_level 53 = .ok (.if_icmp .ge 72, 3) := by decide +kernel
theorem dX8_level_56 : decode cX8_level 56 = .ok (.aload_n 0, 1) := by decide +kernel
theorem dX8_level_57 : decode cX8_level 57 = .ok (.getfield 31, 3) := by decide +kernel
theorem dX8_level_60 : decode cX8_level 60 = .ok (.iload 7, 2) := by decide +kernel
theorem dX8_level_62 : decode cX8_level 62 = .ok (.iload 7, 2) := by decide +kernel
theorem dX8_level_64 : decode cX8_level 64 = .ok (.iload_n 2, 1) := by decide +kernel
theorem dX8_level_65 : decode cX8_level 65 = .ok (.if_icmp .ge 12, 3) := by decide +kernel
theorem dX8_level_68 : decode cX8_level 68 = .ok (.iload 5, 2) := by decide +kernel
theorem dX8_level_70 : decode cX8_level 70 = .ok (.iload_n 1, 1) := by decide +kernel
theorem dX8_level_71 : decode cX8_level 71 = .ok (.iconst 1, 1) := by decide +kernel
theorem dX8_level_72 : decode cX8_level 72 = .ok (.iadd, 1) := by decide +kernel
theorem dX8_level_73 : decode cX8_level 73 = .ok (.irem, 1) := by decide +kernel
theorem dX8_level_74 : decode cX8_level 74 = .ok (.goto 4, 3) := by decide +kernel
theorem dX8_level_77 : decode cX8_level 77 = .ok (.iconst 0, 1) := by decide +kernel
theorem dX8_level_78 : decode cX8_level 78 = .ok (.iastore, 1) := by decide +kernel
theorem dX8_level_79 : decode cX8_level 79 = .ok (.iload 7, 2) := by decide +kernel
theorem dX8_level_81 : decode cX8_level 81 = .ok (.iload_n 2, 1) := by decide +kernel
theorem dX8_level_82 : decode cX8_level 82 = .ok (.if_icmp .ge 12, 3) := by decide +kernel
theorem dX8_level_85 : decode cX8_level 85 = .ok (.iload 5, 2) := by decide +kernel
theorem dX8_level_87 : decode cX8_level 87 = .ok (.iload_n 1, 1) := by decide +kernel
theorem dX8_level_88 : decode cX8_level 88 = .ok (.iconst 1, 1) := by decide +kernel
theorem dX8_level_89 : decode cX8_level 89 = .ok (.iadd, 1) := by decide +kernel
theorem dX8_level_90 : decode cX8_level 90 = .ok (.idiv, 1) := by decide +kernel
theorem dX8_level_91 : decode cX8_level 91 = .ok (.goto 5, 3) := by decide +kernel
theorem dX8_level_94 : decode cX8_level 94 = .ok (.iload 5, 2) := by decide +kernel
theorem dX8_level_96 : decode cX8_level 96 = .ok (.istore 5, 2) := by decide +kernel
theorem dX8_level_98 : decode cX8_level 98 = .ok (.iload 6, 2) := by decide +kernel
theorem dX8_level_100 : decode cX8_level 100 = .ok (.aload_n 0, 1) := by decide +kernel
theorem dX8_level_101 : decode cX8_level 101 = .ok (.getfield 31, 3) := by decide +kernel
theorem dX8_level_104 : decode cX8_level 104 = .ok (.iload 7, 2) := by decide +kernel
theorem dX8_level_106 : decode cX8_level 106 = .ok (.iaload, 1) := by decide +kernel
theorem dX8_level_107 : decode cX8_level 107 = .ok (.iload_n 1, 1) := by decide +kernel
theorem dX8_level_108 : decode cX8_level 108 = .ok (.if_icmp .ne 7, 3) := by decide +kernel
theorem dX8_level_111 : decode cX8_level 111 = .ok (.iconst 1, 1) := by decide +kernel
theorem dX8_level_112 : decode cX8_level 112 = .ok (.goto 4, 3) := by decide +kernel
theorem dX8_level_115 : decode cX8_level 115 = .ok (.iconst 0, 1) := by decide +kernel
theorem dX8_level_116 : decode cX8_level 116 = .ok (.ior, 1) := by decide +kernel
theorem dX8_level_117 : decode cX8_level 117 = .ok (.istore 6, 2) := by decide +kernel
theorem dX8_level_119 : decode cX8_level 119 = .ok (.iinc 7 1, 3) := by decide +kernel
theorem dX8_level_122 : decode cX8_level 122 = .ok (.goto (-72), 3) := by decide +kernel
theorem dX8_level_125 : decode cX8_level 125 = .ok (.iload 6, 2) := by decide +kernel
theorem dX8_level_127 : decode cX8_level 127 = .ok (.ifCond .eq 31, 3) := by decide +kernel
theorem dX8_level_130 : decode cX8_level 130 = .ok (.aload_n 0, 1) := by decide +kernel
theorem dX8_level_131 : decode cX8_level 131 = .ok (.getfield 35, 3) := by decide +kernel
theorem dX8_level_134 : decode cX8_level 134 = .ok (.aload_n 0, 1) := by decide +kernel
theorem dX8_level_135 : decode cX8_level 135 = .ok (.iload_n 1, 1) := by decide +kernel
theorem dX8_level_136 : decode cX8_level 136 = .ok (.invokevirtual 63, 3) := by decide +kernel
theorem dX8_level_139 : decode cX8_level 139 = .ok (.iload_n 1, 1) := by decide +kernel
theorem dX8_level_140 : decode cX8_level 140 = .ok (.aload_n 0, 1) := by decide +kernel
theorem dX8_level_141 : decode cX8_level 141 = .ok (.getfield 38, 3) := by decide +kernel
theorem dX8_level_144 : decode cX8_level 144 = .ok (.if_icmp .ne 7, 3) := by decide +kernel
theorem dX8_level_147 : decode cX8_level 147 = .ok (.iconst 0, 1) := by decide +kernel
theorem dX8_level_148 : decode cX8_level 148 = .ok (.goto 9, 3) := by decide +kernel
theorem dX8_level_151 : decode cX8_level 151 = .ok (.aload_n 0, 1) := by decide +kernel
theorem dX8_level_152 : decode cX8_level 152 = .ok (.iload_n 1, 1) := by decide +kernel
theorem dX8_level_153 : decode cX8_level 153 = .ok (.iload_n 2, 1) := by decide +kernel
theorem dX8_level_154 : decode cX8_level 154 = .ok (.invokevirtual 66, 3) := by decide +kernel
theorem dX8_level_157 : decode cX8_level 157 = .ok (.iastore, 1) := by decide +kernel
theorem dX8_level_158 : decode cX8_level 158 = .ok (.iinc 4 1, 3) := by decide +kernel
theorem dX8_level_161 : decode cX8_level 161 = .ok (.goto (-135), 3) := by decide +kernel
theorem dX8_level_164 : decode cX8_level 164 = .ok (.return_, 1) := by decide +kernel
set_option maxRecDepth 20000 in
theorem ggX8_through_X8_price : GoodIn wsX8_through wsX8_price := goodIn_r _ [8, 9, 10, 2, 1, 11, 12, 13, 14, 15, 16, 7, 17, 23, 24, 25, 26, 27, 28, 29, 30, 31, 32] (by decide +kernel) (by decide +kernel)
set_option maxRecDepth 20000 in
theorem gX8_through_X8_price : GoodIn wsX8_through (wsV RX8 70 RX8 yX8_price wsX8_price) := goodIn_app (goodIn_of _ (by decide +kernel)) ggX8_through_X8_price
set_option maxRecDepth 20000 in
theorem ggX8_through_X8_place : GoodIn wsX8_through wsX8_place := goodIn_r _ [21, 22, 2, 23, 24, 25, 26, 27, 28, 29, 30, 31, 32] (by decide +kernel) (by decide +kernel)
set_option maxRecDepth 20000 in
theorem gX8_through_X8_place : GoodIn wsX8_through (wsV RX8 63 RX8 yX8_place wsX8_place) := goodIn_app (goodIn_of _ (by decide +kernel)) ggX8_through_X8_place
theorem dX8_through_0 : decode cX8_through 0 = .ok (.aload_n 0, 1) := by decide +kernel
theorem dX8_through_1 : decode cX8_through 1 = .ok (.iload_n 1, 1) := by decide +kernel
theorem dX8_through_2 : decode cX8_through 2 = .ok (.iload_n 2, 1) := by decide +kernel
theorem dX8_through_3 : decode cX8_through 3 = .ok (.invokevirtual 70, 3) := by decide +kernel
theorem dX8_through_6 : decode cX8_through 6 = .ok (.istore_n 3, 1) := by decide +kernel
theorem dX8_through_7 : decode cX8_through 7 = .ok (.iload_n 3, 1) := by decide +kernel
theorem dX8_through_8 : decode cX8_through 8 = .ok (.ldc 62, 2) := by decide +kernel
theorem dX8_through_10 : decode cX8_through 10 = .ok (.if_icmp .ne 6, 3) := by decide +kernel
theorem dX8_through_13 : decode cX8_through 13 = .ok (.ldc 62, 2) := by decide +kernel
theorem dX8_through_15 : decode cX8_through 15 = .ok (.ireturn, 1) := by decide +kernel
theorem dX8_through_16 : decode cX8_through 16 = .ok (.aload_n 0, 1) := by decide +kernel
theorem dX8_through_17 : decode cX8_through 17 = .ok (.getfield 31, 3) := by decide +kernel
theorem dX8_through_20 : decode cX8_through 20 = .ok (.iload_n 2, 1) := by decide +kernel
theorem dX8_through_21 : decode cX8_through 21 = .ok (.iaload, 1) := by decide +kernel
theorem dX8_through_22 : decode cX8_through 22 = .ok (.istore 4, 2) := by decide +kernel
theorem dX8_through_24 : decode cX8_through 24 = .ok (.aload_n 0, 1) := by decide +kernel
theorem dX8_through_25 : decode cX8_through 25 = .ok (.getfield 31, 3) := by decide +kernel
theorem dX8_through_28 : decode cX8_through 28 = .ok (.iload_n 2, 1) := by decide +kernel
theorem dX8_through_29 : decode cX8_through 29 = .ok (.iload_n 1, 1) := by decide +kernel
theorem dX8_through_30 : decode cX8_through 30 = .ok (.iconst 1, 1) := by decide +kernel
theorem dX8_through_31 : decode cX8_through 31 = .ok (.iadd, 1) := by decide +kernel
theorem dX8_through_32 : decode cX8_through 32 = .ok (.iastore, 1) := by decide +kernel
theorem dX8_through_33 : decode cX8_through 33 = .ok (.aload_n 0, 1) := by decide +kernel
theorem dX8_through_34 : decode cX8_through 34 = .ok (.getfield 35, 3) := by decide +kernel
theorem dX8_through_37 : decode cX8_through 37 = .ok (.aload_n 0, 1) := by decide +kernel
theorem dX8_through_38 : decode cX8_through 38 = .ok (.iload_n 1, 1) := by decide +kernel
theorem dX8_through_39 : decode cX8_through 39 = .ok (.iconst 1, 1) := by decide +kernel
theorem dX8_through_40 : decode cX8_through 40 = .ok (.iadd, 1) := by decide +kernel
theorem dX8_through_41 : decode cX8_through 41 = .ok (.invokevirtual 63, 3) := by decide +kernel
theorem dX8_through_44 : decode cX8_through 44 = .ok (.iaload, 1) := by decide +kernel
theorem dX8_through_45 : decode cX8_through 45 = .ok (.istore 5, 2) := by decide +kernel
theorem dX8_through_47 : decode cX8_through 47 = .ok (.aload_n 0, 1) := by decide +kernel
theorem dX8_through_48 : decode cX8_through 48 = .ok (.getfield 31, 3) := by decide +kernel
theorem dX8_through_51 : decode cX8_through 51 = .ok (.iload_n 2, 1) := by decide +kernel
theorem dX8_through_52 : decode cX8_through 52 = .ok (.iload 4, 2) := by decide +kernel
theorem dX8_through_54 : decode cX8_through 54 = .ok (.iastore, 1) := by decide +kernel
theorem dX8_through_55 : decode cX8_through 55 = .ok (.iload 5, 2) := by decide +kernel
theorem dX8_through_57 : decode cX8_through 57 = .ok (.ldc 62, 2) := by decide +kernel
theorem dX8_through_59 : decode cX8_through 59 = .ok (.if_icmp .ne 8, 3) := by decide +kernel
theorem dX8_through_62 : decode cX8_through 62 = .ok (.ldc 62, 2) := by decide +kernel
theorem dX8_through_64 : decode cX8_through 64 = .ok (.goto 7, 3) := by decide +kernel
theorem dX8_through_67 : decode cX8_through 67 = .ok (.iload_n 3, 1) := by decide +kernel
theorem dX8_through_68 : decode cX8_through 68 = .ok (.iload 5, 2) := by decide +kernel
theorem dX8_through_70 : decode cX8_through 70 = .ok (.iadd, 1) := by decide +kernel
theorem dX8_through_71 : decode cX8_through 71 = .ok (.ireturn, 1) := by decide +kernel
set_option maxRecDepth 20000 in
theorem ggX8_leastOf_X8_through : GoodIn wsX8_leastOf wsX8_through := goodIn_r _ [6, 1, 7, 8, 9, 10, 11, 5, 12, 13, 14, 15, 16, 17, 18, 19, 20, 21, 22, 23, 24, 25, 26, 27, 28, 29, 30, 31, 32, 33, 34, 35, 36] (by decide +kernel) (by decide +kernel)
set_option maxRecDepth 20000 in
theorem gX8_leastOf_X8_through : GoodIn wsX8_leastOf (wsV RX8 73 RX8 yX8_through wsX8_through) := goodIn_app (goodIn_of _ (by decide +kernel)) ggX8_leastOf_X8_through
theorem dX8_leastOf_0 : decode cX8_leastOf 0 = .ok (.ldc 62, 2) := by decide +kernel
theorem dX8_leastOf_2 : decode cX8_leastOf 2 = .ok (.istore_n 3, 1) := by decide +kernel
theorem dX8_leastOf_3 : decode cX8_leastOf 3 = .ok (.iconst 0, 1) := by decide +kernel
theorem dX8_leastOf_4 : decode cX8_leastOf 4 = .ok (.istore 4, 2) := by decide +kernel
theorem dX8_leastOf_6 : decode cX8_leastOf 6 = .ok (.iload 4, 2) := by decide +kernel
theorem dX8_leastOf_8 : decode cX8_leastOf 8 = .ok (.iload_n 2, 1) := by decide +kernel
theorem dX8_leastOf_9 : decode cX8_leastOf 9 = .ok (.if_icmp .ge 31, 3) := by decide +kernel
theorem dX8_leastOf_12 : decode cX8_leastOf 12 = .ok (.aload_n 0, 1) := by decide +kernel
theorem dX8_leastOf_13 : decode cX8_leastOf 13 = .ok (.iload_n 1, 1) := by decide +kernel
theorem dX8_leastOf_14 : decode cX8_leastOf 14 = .ok (.iload 4, 2) := by decide +kernel
theorem dX8_leastOf_16 : decode cX8_leastOf 16 = .ok (.invokevirtual 73, 3) := by decide +kernel
theorem dX8_leastOf_19 : decode cX8_leastOf 19 = .ok (.istore 5, 2) := by decide +kernel
theorem dX8_leastOf_21 : decode cX8_leastOf 21 = .ok (.iload 5, 2) := by decide +kernel
theorem dX8_leastOf_23 : decode cX8_leastOf 23 = .ok (.iload_n 3, 1) := by decide +kernel
theorem dX8_leastOf_24 : decode cX8_leastOf 24 = .ok (.if_icmp .ge 8, 3) := by decide +kernel
theorem dX8_leastOf_27 : decode cX8_leastOf 27 = .ok (.iload 5, 2) := by decide +kernel
theorem dX8_leastOf_29 : decode cX8_leastOf 29 = .ok (.goto 4, 3) := by decide +kernel
theorem dX8_leastOf_32 : decode cX8_leastOf 32 = .ok (.iload_n 3, 1) := by decide +kernel
theorem dX8_leastOf_33 : decode cX8_leastOf 33 = .ok (.istore_n 3, 1) := by decide +kernel
theorem dX8_leastOf_34 : decode cX8_leastOf 34 = .ok (.iinc 4 1, 3) := by decide +kernel
theorem dX8_leastOf_37 : decode cX8_leastOf 37 = .ok (.goto (-31), 3) := by decide +kernel
theorem dX8_leastOf_40 : decode cX8_leastOf 40 = .ok (.iload_n 3, 1) := by decide +kernel
theorem dX8_leastOf_41 : decode cX8_leastOf 41 = .ok (.ireturn, 1) := by decide +kernel
set_option maxRecDepth 20000 in
theorem ggX8_search_X8_level : GoodIn wsX8_search wsX8_level := goodIn_r _ [10, 2, 3, 1, 11, 12, 13, 9, 14, 15, 16, 17, 18, 19, 4, 20, 21, 22, 23, 24, 25, 26, 27, 28, 29, 30, 31, 32, 33, 34, 35, 36, 37, 38, 39, 40, 41, 42, 43, 44, 45, 46] (by decide +kernel) (by decide +kernel)
set_option maxRecDepth 20000 in
theorem gX8_search_X8_level : GoodIn wsX8_search (wsV RX8 76 RX8 yX8_level wsX8_level) := goodIn_app (goodIn_of _ (by decide +kernel)) ggX8_search_X8_level
set_option maxRecDepth 20000 in
theorem ggX8_search_X8_place : GoodIn wsX8_search wsX8_place := goodIn_r _ [14, 15, 2, 37, 38, 39, 40, 41, 42, 43, 44, 45, 46] (by decide +kernel) (by decide +kernel)
set_option maxRecDepth 20000 in
theorem gX8_search_X8_place : GoodIn wsX8_search (wsV RX8 63 RX8 yX8_place wsX8_place) := goodIn_app (goodIn_of _ (by decide +kernel)) ggX8_search_X8_place
set_option maxRecDepth 20000 in
theorem ggX8_search_X8_through : GoodIn wsX8_search wsX8_through := goodIn_r _ [23, 4, 2, 3, 24, 25, 26, 9, 27, 28, 29, 30, 31, 32, 33, 34, 35, 36, 11, 12, 13, 14, 15, 37, 38, 39, 40, 41, 42, 43, 44, 45, 46] (by decide +kernel) (by decide +kernel)
set_option maxRecDepth 20000 in
theorem gX8_search_X8_through : GoodIn wsX8_search (wsV RX8 73 RX8 yX8_through wsX8_through) := goodIn_app (goodIn_of _ (by decide +kernel)) ggX8_search_X8_through
theorem dX8_search_0 : decode cX8_search 0 = .ok (.aload_n 0, 1) := by decide +kernel
theorem dX8_search_1 : decode cX8_search 1 = .ok (.getfield 38, 3) := by decide +kernel
theorem dX8_search_4 : decode cX8_search 4 = .ok (.istore_n 2, 1) := by decide +kernel
theorem dX8_search_5 : decode cX8_search 5 = .ok (.iload_n 2, 1) := by decide +kernel
theorem dX8_search_6 : decode cX8_search 6 = .ok (.ifCond .lt 15, 3) := by decide +kernel
theorem dX8_search_9 : decode cX8_search 9 = .ok (.aload_n 0, 1) := by decide +kernel
theorem dX8_search_10 : decode cX8_search 10 = .ok (.iload_n 2, 1) := by decide +kernel
theorem dX8_search_11 : decode cX8_search 11 = .ok (.iload_n 1, 1) := by decide +kernel
theorem dX8_search_12 : decode cX8_search 12 = .ok (.invokevirtual 76, 3) := by decide +kernel
theorem dX8_search_15 : decode cX8_search 15 = .ok (.iinc 2 (-1), 3) := by decide +kernel
theorem dX8_search_18 : decode cX8_search 18 = .ok (.goto (-13), 3) := by decide +kernel
theorem dX8_search_21 : decode cX8_search 21 = .ok (.iconst 0, 1) := by decide +kernel
theorem dX8_search_22 : decode cX8_search 22 = .ok (.istore_n 2, 1) := by decide +kernel
theorem dX8_search_23 : decode cX8_search 23 = .ok (.iload_n 2, 1) := by decide +kernel
theorem dX8_search_24 : decode cX8_search 24 = .ok (.iconst 4, 1) := by decide +kernel
theorem dX8_search_25 : decode cX8_search 25 = .ok (.if_icmp .ge 16, 3) := by decide +kernel
theorem dX8_search_28 : decode cX8_search 28 = .ok (.aload_n 0, 1) := by decide +kernel
theorem dX8_search_29 : decode cX8_search 29 = .ok (.getfield 31, 3) := by decide +kernel
theorem dX8_search_32 : decode cX8_search 32 = .ok (.iload_n 2, 1) := by decide +kernel
theorem dX8_search_33 : decode cX8_search 33 = .ok (.iconst 0, 1) := by decide +kernel
theorem dX8_search_34 : decode cX8_search 34 = .ok (.iastore, 1) := by decide +kernel
theorem dX8_search_35 : decode cX8_search 35 = .ok (.iinc 2 1, 3) := by decide +kernel
theorem dX8_search_38 : decode cX8_search 38 = .ok (.goto (-15), 3) := by decide +kernel
theorem dX8_search_41 : decode cX8_search 41 = .ok (.aload_n 0, 1) := by decide +kernel
theorem dX8_search_42 : decode cX8_search 42 = .ok (.getfield 35, 3) := by decide +kernel
theorem dX8_search_45 : decode cX8_search 45 = .ok (.aload_n 0, 1) := by decide +kernel
theorem dX8_search_46 : decode cX8_search 46 = .ok (.iconst 0, 1) := by decide +kernel
theorem dX8_search_47 : decode cX8_search 47 = .ok (.invokevirtual 63, 3) := by decide +kernel
theorem dX8_search_50 : decode cX8_search 50 = .ok (.iaload, 1) := by decide +kernel
theorem dX8_search_51 : decode cX8_search 51 = .ok (.istore_n 2, 1) := by decide +kernel
theorem dX8_search_52 : decode cX8_search 52 = .ok (.iconst 0, 1) := by decide +kernel
theorem dX8_search_53 : decode cX8_search 53 = .ok (.istore_n 3, 1) := by decide +kernel
theorem dX8_search_54 : decode cX8_search 54 = .ok (.iload_n 3, 1) := by decide +kernel
theorem dX8_search_55 : decode cX8_search 55 = .ok (.aload_n 0, 1) := by decide +kernel
theorem dX8_search_56 : decode cX8_search 56 = .ok (.getfield 38, 3) := by decide +kernel
theorem dX8_search_59 : decode cX8_search 59 = .ok (.if_icmp .ge 66, 3) := by decide +kernel
theorem dX8_search_62 : decode cX8_search 62 = .ok (.iload_n 2, 1) := by decide +kernel
theorem dX8_search_63 : decode cX8_search 63 = .ok (.ldc 62, 2) := by decide +kernel
theorem dX8_search_65 : decode cX8_search 65 = .ok (.if_icmp .ge 60, 3) := by decide +kernel
theorem dX8_search_68 : decode cX8_search 68 = .ok (.aload_n 0, 1) := by decide +kernel
theorem dX8_search_69 : decode cX8_search 69 = .ok (.getfield 35, 3) := by decide +kernel
theorem dX8_search_72 : decode cX8_search 72 = .ok (.aload_n 0, 1) := by decide +kernel
theorem dX8_search_73 : decode cX8_search 73 = .ok (.iload_n 3, 1) := by decide +kernel
theorem dX8_search_74 : decode cX8_search 74 = .ok (.invokevirtual 63, 3) := by decide +kernel
theorem dX8_search_77 : decode cX8_search 77 = .ok (.iaload, 1) := by decide +kernel
theorem dX8_search_78 : decode cX8_search 78 = .ok (.istore 4, 2) := by decide +kernel
theorem dX8_search_80 : decode cX8_search 80 = .ok (.iconst 0, 1) := by decide +kernel
theorem dX8_search_81 : decode cX8_search 81 = .ok (.istore 5, 2) := by decide +kernel
theorem dX8_search_83 : decode cX8_search 83 = .ok (.aload_n 0, 1) := by decide +kernel
theorem dX8_search_84 : decode cX8_search 84 = .ok (.iload_n 3, 1) := by decide +kernel
theorem dX8_search_85 : decode cX8_search 85 = .ok (.iload 5, 2) := by decide +kernel
theorem dX8_search_87 : decode cX8_search 87 = .ok (.invokevirtual 73, 3) := by decide +kernel
theorem dX8_search_90 : decode cX8_search 90 = .ok (.iload 4, 2) := by decide +kernel
theorem dX8_search_92 : decode cX8_search 92 = .ok (.if_icmp .eq 9, 3) := by decide +kernel
theorem dX8_search_95 : decode cX8_search 95 = .ok (.iinc 5 1, 3) := by decide +kernel
theorem dX8_search_98 : decode cX8_search 98 = .ok (.goto (-15), 3) := by decide +kernel
theorem dX8_search_101 : decode cX8_search 101 = .ok (.aload_n 0, 1) := by decide +kernel
theorem dX8_search_102 : decode cX8_search 102 = .ok (.getfield 28, 3) := by decide +kernel
theorem dX8_search_105 : decode cX8_search 105 = .ok (.iload_n 3, 1) := by decide +kernel
theorem dX8_search_106 : decode cX8_search 106 = .ok (.iload 5, 2) := by decide +kernel
theorem dX8_search_108 : decode cX8_search 108 = .ok (.iastore, 1) := by decide +kernel
theorem dX8_search_109 : decode cX8_search 109 = .ok (.aload_n 0, 1) := by decide +kernel
theorem dX8_search_110 : decode cX8_search 110 = .ok (.getfield 31, 3) := by decide +kernel
theorem dX8_search_113 : decode cX8_search 113 = .ok (.iload 5, 2) := by decide +kernel
theorem dX8_search_115 : decode cX8_search 115 = .ok (.iload_n 3, 1) := by decide +kernel
theorem dX8_search_116 : decode cX8_search 116 = .ok (.iconst 1, 1) := by decide +kernel
theorem dX8_search_117 : decode cX8_search 117 = .ok (.iadd, 1) := by decide +kernel
theorem dX8_search_118 : decode cX8_search 118 = .ok (.iastore, 1) := by decide +kernel
theorem dX8_search_119 : decode cX8_search 119 = .ok (.iinc 3 1, 3) := by decide +kernel
theorem dX8_search_122 : decode cX8_search 122 = .ok (.goto (-68), 3) := by decide +kernel
theorem dX8_search_125 : decode cX8_search 125 = .ok (.iload_n 2, 1) := by decide +kernel
theorem dX8_search_126 : decode cX8_search 126 = .ok (.ireturn, 1) := by decide +kernel
set_option maxRecDepth 20000 in
theorem ggX8_least_X8_search : GoodIn wsX8_least wsX8_search := goodIn_r _ [7, 1, 8, 9, 2, 10, 11, 12, 13, 6, 14, 15, 16, 17, 18, 19, 20, 21, 22, 23, 24, 25, 26, 27, 28, 29, 30, 31, 32, 33, 34, 35, 36, 37, 38, 39, 40, 41, 42, 43, 44, 45, 46, 47, 48, 49, 50] (by decide +kernel) (by decide +kernel)
set_option maxRecDepth 20000 in
theorem gX8_least_X8_search : GoodIn wsX8_least (wsV RX8 80 RX8 yX8_search wsX8_search) := goodIn_app (goodIn_of _ (by decide +kernel)) ggX8_least_X8_search
theorem dX8_least_0 : decode cX8_least 0 = .ok (.iload_n 1, 1) := by decide +kernel
theorem dX8_least_1 : decode cX8_least 1 = .ok (.iconst 1, 1) := by decide +kernel
theorem dX8_least_2 : decode cX8_least 2 = .ok (.if_icmp .lt 8, 3) := by decide +kernel
theorem dX8_least_5 : decode cX8_least 5 = .ok (.iload_n 1, 1) := by decide +kernel
theorem dX8_least_6 : decode cX8_least 6 = .ok (.iconst 4, 1) := by decide +kernel
theorem dX8_least_7 : decode cX8_least 7 = .ok (.if_icmp .le 6, 3) := by decide +kernel
theorem dX8_least_10 : decode cX8_least 10 = .ok (.bipush (-2), 2) := by decide +kernel
theorem dX8_least_12 : decode cX8_least 12 = .ok (.ireturn, 1) := by decide +kernel
theorem dX8_least_13 : decode cX8_least 13 = .ok (.aload_n 0, 1) := by decide +kernel
theorem dX8_least_14 : decode cX8_least 14 = .ok (.getfield 38, 3) := by decide +kernel
theorem dX8_least_17 : decode cX8_least 17 = .ok (.bipush 14, 2) := by decide +kernel
theorem dX8_least_19 : decode cX8_least 19 = .ok (.if_icmp .le 6, 3) := by decide +kernel
theorem dX8_least_22 : decode cX8_least 22 = .ok (.bipush (-3), 2) := by decide +kernel
theorem dX8_least_24 : decode cX8_least 24 = .ok (.ireturn, 1) := by decide +kernel
theorem dX8_least_25 : decode cX8_least 25 = .ok (.aload_n 0, 1) := by decide +kernel
theorem dX8_least_26 : decode cX8_least 26 = .ok (.iload_n 1, 1) := by decide +kernel
theorem dX8_least_27 : decode cX8_least 27 = .ok (.invokevirtual 80, 3) := by decide +kernel
theorem dX8_least_30 : decode cX8_least 30 = .ok (.istore_n 2, 1) := by decide +kernel
theorem dX8_least_31 : decode cX8_least 31 = .ok (.iload_n 2, 1) := by decide +kernel
theorem dX8_least_32 : decode cX8_least 32 = .ok (.ldc 62, 2) := by decide +kernel
theorem dX8_least_34 : decode cX8_least 34 = .ok (.if_icmp .ne 7, 3) := by decide +kernel
theorem dX8_least_37 : decode cX8_least 37 = .ok (.iconst (-1), 1) := by decide +kernel
theorem dX8_least_38 : decode cX8_least 38 = .ok (.goto 4, 3) := by decide +kernel
theorem dX8_least_41 : decode cX8_least 41 = .ok (.iload_n 2, 1) := by decide +kernel
theorem dX8_least_42 : decode cX8_least 42 = .ok (.ireturn, 1) := by decide +kernel
theorem dX8_give_0 : decode cX8_give 0 = .ok (.iconst 0, 1) := by decide +kernel
theorem dX8_give_1 : decode cX8_give 1 = .ok (.istore_n 1, 1) := by decide +kernel
theorem dX8_give_2 : decode cX8_give 2 = .ok (.iload_n 1, 1) := by decide +kernel
theorem dX8_give_3 : decode cX8_give 3 = .ok (.aload_n 0, 1) := by decide +kernel
theorem dX8_give_4 : decode cX8_give 4 = .ok (.getfield 38, 3) := by decide +kernel
theorem dX8_give_7 : decode cX8_give 7 = .ok (.if_icmp .ge 26, 3) := by decide +kernel
theorem dX8_give_10 : decode cX8_give 10 = .ok (.aload_n 0, 1) := by decide +kernel
theorem dX8_give_11 : decode cX8_give 11 = .ok (.getfield 19, 3) := by decide +kernel
theorem dX8_give_14 : decode cX8_give 14 = .ok (.aload_n 0, 1) := by decide +kernel
theorem dX8_give_15 : decode cX8_give 15 = .ok (.getfield 25, 3) := by decide +kernel
theorem dX8_give_18 : decode cX8_give 18 = .ok (.iload_n 1, 1) := by decide +kernel
theorem dX8_give_19 : decode cX8_give 19 = .ok (.iaload, 1) := by decide +kernel
theorem dX8_give_20 : decode cX8_give 20 = .ok (.aload_n 0, 1) := by decide +kernel
theorem dX8_give_21 : decode cX8_give 21 = .ok (.getfield 28, 3) := by decide +kernel
theorem dX8_give_24 : decode cX8_give 24 = .ok (.iload_n 1, 1) := by decide +kernel
theorem dX8_give_25 : decode cX8_give 25 = .ok (.iaload, 1) := by decide +kernel
theorem dX8_give_26 : decode cX8_give 26 = .ok (.iastore, 1) := by decide +kernel
theorem dX8_give_27 : decode cX8_give 27 = .ok (.iinc 1 1, 3) := by decide +kernel
theorem dX8_give_30 : decode cX8_give 30 = .ok (.goto (-28), 3) := by decide +kernel
theorem dX8_give_33 : decode cX8_give 33 = .ok (.return_, 1) := by decide +kernel
set_option maxRecDepth 20000 in
theorem ggX8_find_X8_least : GoodIn wsX8_find wsX8_least := goodIn_r _ [5, 6, 7, 8, 9, 10, 4, 11, 12, 13, 14, 15, 16, 17, 18, 19, 20, 21, 22, 23, 24, 25, 26, 27, 28, 29, 30, 31, 32, 33, 34, 35, 36, 37, 38, 39, 40, 41, 42, 43, 44, 50, 51, 52, 53, 54, 55, 56, 57, 58, 59] (by decide +kernel) (by decide +kernel)
set_option maxRecDepth 20000 in
theorem gX8_find_X8_least : GoodIn wsX8_find (wsV RX8 83 RX8 yX8_least wsX8_least) := goodIn_app (goodIn_of _ (by decide +kernel)) ggX8_find_X8_least
set_option maxRecDepth 20000 in
theorem ggX8_find_X8_give : GoodIn wsX8_find wsX8_give := goodIn_r _ [48, 6, 49, 36, 14, 50, 51, 52, 53, 54, 55, 56, 57, 58, 59] (by decide +kernel) (by decide +kernel)
set_option maxRecDepth 20000 in
theorem gX8_find_X8_give : GoodIn wsX8_find (wsV RX8 86 RX8 yX8_give wsX8_give) := goodIn_app (goodIn_of _ (by decide +kernel)) ggX8_find_X8_give
theorem dX8_find_0 : decode cX8_find 0 = .ok (.aload_n 0, 1) := by decide +kernel
theorem dX8_find_1 : decode cX8_find 1 = .ok (.iload_n 1, 1) := by decide +kernel
theorem dX8_find_2 : decode cX8_find 2 = .ok (.invokevirtual 83, 3) := by decide +kernel
theorem dX8_find_5 : decode cX8_find 5 = .ok (.istore_n 2, 1) := by decide +kernel
theorem dX8_find_6 : decode cX8_find 6 = .ok (.iload_n 2, 1) := by decide +kernel
theorem dX8_find_7 : decode cX8_find 7 = .ok (.ifCond .lt 7, 3) := by decide +kernel
theorem dX8_find_10 : decode cX8_find 10 = .ok (.aload_n 0, 1) := by decide +kernel
theorem dX8_find_11 : decode cX8_find 11 = .ok (.invokevirtual 86, 3) := by decide +kernel
theorem dX8_find_14 : decode cX8_find 14 = .ok (.iload_n 2, 1) := by decide +kernel
theorem dX8_find_15 : decode cX8_find 15 = .ok (.ireturn, 1) := by decide +kernel
set_option maxRecDepth 20000 in
theorem ggX8_along_X8_price : GoodIn wsX8_along wsX8_price := goodIn_r _ [9, 10, 11, 1, 3, 12, 13, 14, 15, 16, 17, 8, 18, 24, 25, 26, 27, 28, 29, 30, 31, 32, 33] (by decide +kernel) (by decide +kernel)
set_option maxRecDepth 20000 in
theorem gX8_along_X8_price : GoodIn wsX8_along (wsV RX8 70 RX8 yX8_price wsX8_price) := goodIn_app (goodIn_of _ (by decide +kernel)) ggX8_along_X8_price
set_option maxRecDepth 20000 in
theorem ggX8_along_X8_give : GoodIn wsX8_along wsX8_give := goodIn_r _ [22, 2, 23, 10, 4, 24, 25, 26, 27, 28, 29, 30, 31, 32, 33] (by decide +kernel) (by decide +kernel)
set_option maxRecDepth 20000 in
theorem gX8_along_X8_give : GoodIn wsX8_along (wsV RX8 86 RX8 yX8_give wsX8_give) := goodIn_app (goodIn_of _ (by decide +kernel)) ggX8_along_X8_give
theorem dX8_along_0 : decode cX8_along 0 = .ok (.iload_n 1, 1) := by decide +kernel
theorem dX8_along_1 : decode cX8_along 1 = .ok (.iconst 1, 1) := by decide +kernel
theorem dX8_along_2 : decode cX8_along 2 = .ok (.if_icmp .lt 8, 3) := by decide +kernel
theorem dX8_along_5 : decode cX8_along 5 = .ok (.iload_n 1, 1) := by decide +kernel
theorem dX8_along_6 : decode cX8_along 6 = .ok (.iconst 4, 1) := by decide +kernel
theorem dX8_along_7 : decode cX8_along 7 = .ok (.if_icmp .le 6, 3) := by decide +kernel
theorem dX8_along_10 : decode cX8_along 10 = .ok (.bipush (-2), 2) := by decide +kernel
theorem dX8_along_12 : decode cX8_along 12 = .ok (.ireturn, 1) := by decide +kernel
theorem dX8_along_13 : decode cX8_along 13 = .ok (.iconst 0, 1) := by decide +kernel
theorem dX8_along_14 : decode cX8_along 14 = .ok (.istore_n 2, 1) := by decide +kernel
theorem dX8_along_15 : decode cX8_along 15 = .ok (.iload_n 2, 1) := by decide +kernel
theorem dX8_along_16 : decode cX8_along 16 = .ok (.iconst 4, 1) := by decide +kernel
theorem dX8_along_17 : decode cX8_along 17 = .ok (.if_icmp .ge 16, 3) := by decide +kernel
theorem dX8_along_20 : decode cX8_along 20 = .ok (.aload_n 0, 1) := by decide +kernel
theorem dX8_along_21 : decode cX8_along 21 = .ok (.getfield 31, 3) := by decide +kernel
theorem dX8_along_24 : decode cX8_along 24 = .ok (.iload_n 2, 1) := by decide +kernel
theorem dX8_along_25 : decode cX8_along 25 = .ok (.iconst 0, 1) := by decide +kernel
theorem dX8_along_26 : decode cX8_along 26 = .ok (.iastore, 1) := by decide +kernel
theorem dX8_along_27 : decode cX8_along 27 = .ok (.iinc 2 1, 3) := by decide +kernel
theorem dX8_along_30 : decode cX8_along 30 = .ok (.goto (-15), 3) := by decide +kernel
theorem dX8_along_33 : decode cX8_along 33 = .ok (.iconst 0, 1) := by decide +kernel
theorem dX8_along_34 : decode cX8_along 34 = .ok (.istore_n 2, 1) := by decide +kernel
theorem dX8_along_35 : decode cX8_along 35 = .ok (.iload_n 2, 1) := by decide +kernel
theorem dX8_along_36 : decode cX8_along 36 = .ok (.aload_n 0, 1) := by decide +kernel
theorem dX8_along_37 : decode cX8_along 37 = .ok (.getfield 38, 3) := by decide +kernel
theorem dX8_along_40 : decode cX8_along 40 = .ok (.if_icmp .ge 77, 3) := by decide +kernel
theorem dX8_along_43 : decode cX8_along 43 = .ok (.ldc 62, 2) := by decide +kernel
theorem dX8_along_45 : decode cX8_along 45 = .ok (.istore_n 3, 1) := by decide +kernel
theorem dX8_along_46 : decode cX8_along 46 = .ok (.iconst (-1), 1) := by decide +kernel
theorem dX8_along_47 : decode cX8_along 47 = .ok (.istore 4, 2) := by decide +kernel
theorem dX8_along_49 : decode cX8_along 49 = .ok (.iconst 0, 1) := by decide +kernel
theorem dX8_along_50 : decode cX8_along 50 = .ok (.istore 5, 2) := by decide +kernel
theorem dX8_along_52 : decode cX8_along 52 = .ok (.iload 5, 2) := by decide +kernel
theorem dX8_along_54 : decode cX8_along 54 = .ok (.iload_n 1, 1) := by decide +kernel
theorem dX8_along_55 : decode cX8_along 55 = .ok (.if_icmp .ge 31, 3) := by decide +kernel
theorem dX8_along_58 : decode cX8_along 58 = .ok (.aload_n 0, 1) := by decide +kernel
theorem dX8_along_59 : decode cX8_along 59 = .ok (.iload_n 2, 1) := by decide +kernel
theorem dX8_along_60 : decode cX8_along 60 = .ok (.iload 5, 2) := by decide +kernel
theorem dX8_along_62 : decode cX8_along 62 = .ok (.invokevirtual 70, 3) := by decide +kernel
theorem dX8_along_65 : decode cX8_along 65 = .ok (.istore 6, 2) := by decide +kernel
theorem dX8_along_67 : decode cX8_along 67 = .ok (.iload 6, 2) := by decide +kernel
theorem dX8_along_69 : decode cX8_along 69 = .ok (.iload_n 3, 1) := by decide +kernel
theorem dX8_along_70 : decode cX8_along 70 = .ok (.if_icmp .ge 10, 3) := by decide +kernel
theorem dX8_along_73 : decode cX8_along 73 = .ok (.iload 6, 2) := by decide +kernel
theorem dX8_along_75 : decode cX8_along 75 = .ok (.istore_n 3, 1) := by decide +kernel
theorem dX8_along_76 : decode cX8_along 76 = .ok (.iload 5, 2) := by decide +kernel
theorem dX8_along_78 : decode cX8_along 78 = .ok (.istore 4, 2) := by decide +kernel
theorem dX8_along_80 : decode cX8_along 80 = .ok (.iinc 5 1, 3) := by decide +kernel
theorem dX8_along_83 : decode cX8_along 83 = .ok (.goto (-31), 3) := by decide +kernel
theorem dX8_along_86 : decode cX8_along 86 = .ok (.iload 4, 2) := by decide +kernel
theorem dX8_along_88 : decode cX8_along 88 = .ok (.ifCond .ge 5, 3) := by decide +kernel
theorem dX8_along_91 : decode cX8_along 91 = .ok (.iconst (-1), 1) := by decide +kernel
theorem dX8_along_92 : decode cX8_along 92 = .ok (.ireturn, 1) := by decide +kernel
theorem dX8_along_93 : decode cX8_along 93 = .ok (.aload_n 0, 1) := by decide +kernel
theorem dX8_along_94 : decode cX8_along 94 = .ok (.getfield 28, 3) := by decide +kernel
theorem dX8_along_97 : decode cX8_along 97 = .ok (.iload_n 2, 1) := by decide +kernel
theorem dX8_along_98 : decode cX8_along 98 = .ok (.iload 4, 2) := by decide +kernel
theorem dX8_along_100 : decode cX8_along 100 = .ok (.iastore, 1) := by decide +kernel
theorem dX8_along_101 : decode cX8_along 101 = .ok (.aload_n 0, 1) := by decide +kernel
theorem dX8_along_102 : decode cX8_along 102 = .ok (.getfield 31, 3) := by decide +kernel
theorem dX8_along_105 : decode cX8_along 105 = .ok (.iload 4, 2) := by decide +kernel
theorem dX8_along_107 : decode cX8_along 107 = .ok (.iload_n 2, 1) := by decide +kernel
theorem dX8_along_108 : decode cX8_along 108 = .ok (.iconst 1, 1) := by decide +kernel
theorem dX8_along_109 : decode cX8_along 109 = .ok (.iadd, 1) := by decide +kernel
theorem dX8_along_110 : decode cX8_along 110 = .ok (.iastore, 1) := by decide +kernel
theorem dX8_along_111 : decode cX8_along 111 = .ok (.iinc 2 1, 3) := by decide +kernel
theorem dX8_along_114 : decode cX8_along 114 = .ok (.goto (-79), 3) := by decide +kernel
theorem dX8_along_117 : decode cX8_along 117 = .ok (.aload_n 0, 1) := by decide +kernel
theorem dX8_along_118 : decode cX8_along 118 = .ok (.invokevirtual 86, 3) := by decide +kernel
theorem dX8_along_121 : decode cX8_along 121 = .ok (.iconst 1, 1) := by decide +kernel
theorem dX8_along_122 : decode cX8_along 122 = .ok (.ireturn, 1) := by decide +kernel
set_option maxRecDepth 20000 in
theorem ggX8_clashes_X8_together : GoodIn wsX8_clashes wsX8_together := goodIn_r _ [7, 8, 9, 10, 11, 12, 13, 14, 15, 16, 17, 18, 19] (by decide +kernel) (by decide +kernel)
set_option maxRecDepth 20000 in
theorem gX8_clashes_X8_together : GoodIn wsX8_clashes (wsV RX8 59 RX8 yX8_together wsX8_together) := goodIn_app (goodIn_of _ (by decide +kernel)) ggX8_clashes_X8_together
theorem dX8_clashes_0 : decode cX8_clashes 0 = .ok (.iconst 0, 1) := by decide +kernel
theorem dX8_clashes_1 : decode cX8_clashes 1 = .ok (.istore_n 2, 1) := by decide +kernel
theorem dX8_clashes_2 : decode cX8_clashes 2 = .ok (.iconst 0, 1) := by decide +kernel
theorem dX8_clashes_3 : decode cX8_clashes 3 = .ok (.istore_n 3, 1) := by decide +kernel
theorem dX8_clashes_4 : decode cX8_clashes 4 = .ok (.iload_n 3, 1) := by decide +kernel
theorem dX8_clashes_5 : decode cX8_clashes 5 = .ok (.aload_n 0, 1) := by decide +kernel
theorem dX8_clashes_6 : decode cX8_clashes 6 = .ok (.getfield 38, 3) := by decide +kernel
theorem dX8_clashes_9 : decode cX8_clashes 9 = .ok (.if_icmp .ge 55, 3) := by decide +kernel
theorem dX8_clashes_12 : decode cX8_clashes 12 = .ok (.iload_n 2, 1) := by decide +kernel
theorem dX8_clashes_13 : decode cX8_clashes 13 = .ok (.iload_n 3, 1) := by decide +kernel
theorem dX8_clashes_14 : decode cX8_clashes 14 = .ok (.iload_n 1, 1) := by decide +kernel
theorem dX8_clashes_15 : decode cX8_clashes 15 = .ok (.if_icmp .eq 40, 3) := by decide +kernel
theorem dX8_clashes_18 : decode cX8_clashes 18 = .ok (.aload_n 0, 1) := by decide +kernel
theorem dX8_clashes_19 : decode cX8_clashes 19 = .ok (.getfield 19, 3) := by decide +kernel
theorem dX8_clashes_22 : decode cX8_clashes 22 = .ok (.iload_n 1, 1) := by decide +kernel
theorem dX8_clashes_23 : decode cX8_clashes 23 = .ok (.iaload, 1) := by decide +kernel
theorem dX8_clashes_24 : decode cX8_clashes 24 = .ok (.ifCond .lt 31, 3) := by decide +kernel
theorem dX8_clashes_27 : decode cX8_clashes 27 = .ok (.aload_n 0, 1) := by decide +kernel
theorem dX8_clashes_28 : decode cX8_clashes 28 = .ok (.getfield 19, 3) := by decide +kernel
theorem dX8_clashes_31 : decode cX8_clashes 31 = .ok (.iload_n 3, 1) := by decide +kernel
theorem dX8_clashes_32 : decode cX8_clashes 32 = .ok (.iaload, 1) := by decide +kernel
theorem dX8_clashes_33 : decode cX8_clashes 33 = .ok (.aload_n 0, 1) := by decide +kernel
theorem dX8_clashes_34 : decode cX8_clashes 34 = .ok (.getfield 19, 3) := by decide +kernel
theorem dX8_clashes_37 : decode cX8_clashes 37 = .ok (.iload_n 1, 1) := by decide +kernel
theorem dX8_clashes_38 : decode cX8_clashes 38 = .ok (.iaload, 1) := by decide +kernel
theorem dX8_clashes_39 : decode cX8_clashes 39 = .ok (.if_icmp .ne 16, 3) := by decide +kernel
theorem dX8_clashes_42 : decode cX8_clashes 42 = .ok (.aload_n 0, 1) := by decide +kernel
theorem dX8_clashes_43 : decode cX8_clashes 43 = .ok (.iload_n 3, 1) := by decide +kernel
theorem dX8_clashes_44 : decode cX8_clashes 44 = .ok (.iload_n 1, 1) := by decide +kernel
theorem dX8_clashes_45 : decode cX8_clashes 45 = .ok (.invokevirtual 59, 3) := by decide +kernel
theorem dX8_clashes_48 : decode cX8_clashes 48 = .ok (.ifCond .eq 7, 3) := by decide +kernel
theorem dX8_clashes_51 : decode cX8_clashes 51 = .ok (.iconst 1, 1) := by decide +kernel
theorem dX8_clashes_52 : decode cX8_clashes 52 = .ok (.goto 4, 3) := by decide +kernel
theorem dX8_clashes_55 : decode cX8_clashes 55 = .ok (.iconst 0, 1) := by decide +kernel
theorem dX8_clashes_56 : decode cX8_clashes 56 = .ok (.iadd, 1) := by decide +kernel
theorem dX8_clashes_57 : decode cX8_clashes 57 = .ok (.istore_n 2, 1) := by decide +kernel
theorem dX8_clashes_58 : decode cX8_clashes 58 = .ok (.iinc 3 1, 3) := by decide +kernel
theorem dX8_clashes_61 : decode cX8_clashes 61 = .ok (.goto (-57), 3) := by decide +kernel
theorem dX8_clashes_64 : decode cX8_clashes 64 = .ok (.iload_n 2, 1) := by decide +kernel
theorem dX8_clashes_65 : decode cX8_clashes 65 = .ok (.ireturn, 1) := by decide +kernel
set_option maxRecDepth 20000 in
theorem ggX8_isWhole_X8_clashes : GoodIn wsX8_isWhole wsX8_clashes := goodIn_r _ [7, 1, 2, 8, 9, 10, 6, 11, 12, 13, 14, 15, 16, 17, 18, 19, 20, 21, 22, 23] (by decide +kernel) (by decide +kernel)
set_option maxRecDepth 20000 in
theorem gX8_isWhole_X8_clashes : GoodIn wsX8_isWhole (wsV RX8 89 RX8 yX8_clashes wsX8_clashes) := goodIn_app (goodIn_of _ (by decide +kernel)) ggX8_isWhole_X8_clashes
theorem dX8_isWhole_0 : decode cX8_isWhole 0 = .ok (.iconst 1, 1) := by decide +kernel
theorem dX8_isWhole_1 : decode cX8_isWhole 1 = .ok (.istore_n 1, 1) := by decide +kernel
theorem dX8_isWhole_2 : decode cX8_isWhole 2 = .ok (.iconst 0, 1) := by decide +kernel
theorem dX8_isWhole_3 : decode cX8_isWhole 3 = .ok (.istore_n 2, 1) := by decide +kernel
theorem dX8_isWhole_4 : decode cX8_isWhole 4 = .ok (.iload_n 2, 1) := by decide +kernel
theorem dX8_isWhole_5 : decode cX8_isWhole 5 = .ok (.aload_n 0, 1) := by decide +kernel
theorem dX8_isWhole_6 : decode cX8_isWhole 6 = .ok (.getfield 38, 3) := by decide +kernel
theorem dX8_isWhole_9 : decode cX8_isWhole 9 = .ok (.if_icmp .ge 34, 3) := by decide +kernel
theorem dX8_isWhole_12 : decode cX8_isWhole 12 = .ok (.iload_n 1, 1) := by decide +kernel
theorem dX8_isWhole_13 : decode cX8_isWhole 13 = .ok (.aload_n 0, 1) := by decide +kernel
theorem dX8_isWhole_14 : decode cX8_isWhole 14 = .ok (.getfield 19, 3) := by decide +kernel
theorem dX8_isWhole_17 : decode cX8_isWhole 17 = .ok (.iload_n 2, 1) := by decide +kernel
theorem dX8_isWhole_18 : decode cX8_isWhole 18 = .ok (.iaload, 1) := by decide +kernel
theorem dX8_isWhole_19 : decode cX8_isWhole 19 = .ok (.ifCond .lt 15, 3) := by decide +kernel
theorem dX8_isWhole_22 : decode cX8_isWhole 22 = .ok (.aload_n 0, 1) := by decide +kernel
theorem dX8_isWhole_23 : decode cX8_isWhole 23 = .ok (.iload_n 2, 1) := by decide +kernel
theorem dX8_isWhole_24 : decode cX8_isWhole 24 = .ok (.invokevirtual 89, 3) := by decide +kernel
theorem dX8_isWhole_27 : decode cX8_isWhole 27 = .ok (.ifCond .ne 7, 3) := by decide +kernel
theorem dX8_isWhole_30 : decode cX8_isWhole 30 = .ok (.iconst 1, 1) := by decide +kernel
theorem dX8_isWhole_31 : decode cX8_isWhole 31 = .ok (.goto 4, 3) := by decide +kernel
theorem dX8_isWhole_34 : decode cX8_isWhole 34 = .ok (.iconst 0, 1) := by decide +kernel
theorem dX8_isWhole_35 : decode cX8_isWhole 35 = .ok (.iand, 1) := by decide +kernel
theorem dX8_isWhole_36 : decode cX8_isWhole 36 = .ok (.istore_n 1, 1) := by decide +kernel
theorem dX8_isWhole_37 : decode cX8_isWhole 37 = .ok (.iinc 2 1, 3) := by decide +kernel
theorem dX8_isWhole_40 : decode cX8_isWhole 40 = .ok (.goto (-36), 3) := by decide +kernel
theorem dX8_isWhole_43 : decode cX8_isWhole 43 = .ok (.iload_n 1, 1) := by decide +kernel
theorem dX8_isWhole_44 : decode cX8_isWhole 44 = .ok (.ireturn, 1) := by decide +kernel
set_option maxRecDepth 20000 in
theorem ggX8_nextOf_X8_rank : GoodIn wsX8_nextOf wsX8_rank := goodIn_r _ [8, 1, 9, 10, 11, 7, 12, 13, 14, 15, 16, 17, 18, 19, 20, 21, 22, 23, 24] (by decide +kernel) (by decide +kernel)
set_option maxRecDepth 20000 in
theorem gX8_nextOf_X8_rank : GoodIn wsX8_nextOf (wsV RX8 47 RX8 yX8_rank wsX8_rank) := goodIn_app (goodIn_of _ (by decide +kernel)) ggX8_nextOf_X8_rank
theorem dX8_nextOf_0 : decode cX8_nextOf 0 = .ok (.iconst (-1), 1) := by decide +kernel
theorem dX8_nextOf_1 : decode cX8_nextOf 1 = .ok (.istore_n 2, 1) := by decide +kernel
theorem dX8_nextOf_2 : decode cX8_nextOf 2 = .ok (.aload_n 0, 1) := by decide +kernel
theorem dX8_nextOf_3 : decode cX8_nextOf 3 = .ok (.getfield 38, 3) := by decide +kernel
theorem dX8_nextOf_6 : decode cX8_nextOf 6 = .ok (.iconst 1, 1) := by decide +kernel
theorem dX8_nextOf_7 : decode cX8_nextOf 7 = .ok (.isub, 1) := by decide +kernel
theorem dX8_nextOf_8 : decode cX8_nextOf 8 = .ok (.istore_n 3, 1) := by decide +kernel
theorem dX8_nextOf_9 : decode cX8_nextOf 9 = .ok (.iload_n 3, 1) := by decide +kernel
theorem dX8_nextOf_10 : decode cX8_nextOf 10 = .ok (.aload_n 0, 1) := by decide +kernel
theorem dX8_nextOf_11 : decode cX8_nextOf 11 = .ok (.iload_n 1, 1) := by decide +kernel
theorem dX8_nextOf_12 : decode cX8_nextOf 12 = .ok (.invokevirtual 47, 3) := by decide +kernel
theorem dX8_nextOf_15 : decode cX8_nextOf 15 = .ok (.if_icmp .le 49, 3) := by decide +kernel
theorem dX8_nextOf_18 : decode cX8_nextOf 18 = .ok (.aload_n 0, 1) := by decide +kernel
theorem dX8_nextOf_19 : decode cX8_nextOf 19 = .ok (.getfield 19, 3) := by decide +kernel
theorem dX8_nextOf_22 : decode cX8_nextOf 22 = .ok (.iload_n 1, 1) := by decide +kernel
theorem dX8_nextOf_23 : decode cX8_nextOf 23 = .ok (.iaload, 1) := by decide +kernel
theorem dX8_nextOf_24 : decode cX8_nextOf 24 = .ok (.ifCond .lt 40, 3) := by decide +kernel
theorem dX8_nextOf_27 : decode cX8_nextOf 27 = .ok (.aload_n 0, 1) := by decide +kernel
theorem dX8_nextOf_28 : decode cX8_nextOf 28 = .ok (.getfield 19, 3) := by decide +kernel
theorem dX8_nextOf_31 : decode cX8_nextOf 31 = .ok (.aload_n 0, 1) := by decide +kernel
theorem dX8_nextOf_32 : decode cX8_nextOf 32 = .ok (.getfield 25, 3) := by decide +kernel
theorem dX8_nextOf_35 : decode cX8_nextOf 35 = .ok (.iload_n 3, 1) := by decide +kernel
theorem dX8_nextOf_36 : decode cX8_nextOf 36 = .ok (.iaload, 1) := by decide +kernel
theorem dX8_nextOf_37 : decode cX8_nextOf 37 = .ok (.iaload, 1) := by decide +kernel
theorem dX8_nextOf_38 : decode cX8_nextOf 38 = .ok (.aload_n 0, 1) := by decide +kernel
theorem dX8_nextOf_39 : decode cX8_nextOf 39 = .ok (.getfield 19, 3) := by decide +kernel
theorem dX8_nextOf_42 : decode cX8_nextOf 42 = .ok (.iload_n 1, 1) := by decide +kernel
theorem dX8_nextOf_43 : decode cX8_nextOf 43 = .ok (.iaload, 1) := by decide +kernel
theorem dX8_nextOf_44 : decode cX8_nextOf 44 = .ok (.if_icmp .ne 12, 3) := by decide +kernel
theorem dX8_nextOf_47 : decode cX8_nextOf 47 = .ok (.aload_n 0, 1) := by decide +kernel
theorem dX8_nextOf_48 : decode cX8_nextOf 48 = .ok (.getfield 25, 3) := by decide +kernel
theorem dX8_nextOf_51 : decode cX8_nextOf 51 = .ok (.iload_n 3, 1) := by decide +kernel
theorem dX8_nextOf_52 : decode cX8_nextOf 52 = .ok (.iaload, 1) := by decide +kernel
theorem dX8_nextOf_53 : decode cX8_nextOf 53 = .ok (.goto 4, 3) := by decide +kernel
theorem dX8_nextOf_56 : decode cX8_nextOf 56 = .ok (.iload_n 2, 1) := by decide +kernel
theorem dX8_nextOf_57 : decode cX8_nextOf 57 = .ok (.istore_n 2, 1) := by decide +kernel
theorem dX8_nextOf_58 : decode cX8_nextOf 58 = .ok (.iinc 3 (-1), 3) := by decide +kernel
theorem dX8_nextOf_61 : decode cX8_nextOf 61 = .ok (.goto (-52), 3) := by decide +kernel
theorem dX8_nextOf_64 : decode cX8_nextOf 64 = .ok (.iload_n 2, 1) := by decide +kernel
theorem dX8_nextOf_65 : decode cX8_nextOf 65 = .ok (.ireturn, 1) := by decide +kernel
theorem dX8_size_0 : decode cX8_size 0 = .ok (.iconst 0, 1) := by decide +kernel
theorem dX8_size_1 : decode cX8_size 1 = .ok (.istore_n 2, 1) := by decide +kernel
theorem dX8_size_2 : decode cX8_size 2 = .ok (.iconst 0, 1) := by decide +kernel
theorem dX8_size_3 : decode cX8_size 3 = .ok (.istore_n 3, 1) := by decide +kernel
theorem dX8_size_4 : decode cX8_size 4 = .ok (.iload_n 3, 1) := by decide +kernel
theorem dX8_size_5 : decode cX8_size 5 = .ok (.aload_n 0, 1) := by decide +kernel
theorem dX8_size_6 : decode cX8_size 6 = .ok (.getfield 38, 3) := by decide +kernel
theorem dX8_size_9 : decode cX8_size 9 = .ok (.if_icmp .ge 27, 3) := by decide +kernel
theorem dX8_size_12 : decode cX8_size 12 = .ok (.iload_n 2, 1) := by decide +kernel
theorem dX8_size_13 : decode cX8_size 13 = .ok (.aload_n 0, 1) := by decide +kernel
theorem dX8_size_14 : decode cX8_size 14 = .ok (.getfield 19, 3) := by decide +kernel
theorem dX8_size_17 : decode cX8_size 17 = .ok (.iload_n 3, 1) := by decide +kernel
theorem dX8_size_18 : decode cX8_size 18 = .ok (.iaload, 1) := by decide +kernel
theorem dX8_size_19 : decode cX8_size 19 = .ok (.iload_n 1, 1) := by decide +kernel
theorem dX8_size_20 : decode cX8_size 20 = .ok (.if_icmp .ne 7, 3) := by decide +kernel
theorem dX8_size_23 : decode cX8_size 23 = .ok (.iconst 1, 1) := by decide +kernel
theorem dX8_size_24 : decode cX8_size 24 = .ok (.goto 4, 3) := by decide +kernel
theorem dX8_size_27 : decode cX8_size 27 = .ok (.iconst 0, 1) := by decide +kernel
theorem dX8_size_28 : decode cX8_size 28 = .ok (.iadd, 1) := by decide +kernel
theorem dX8_size_29 : decode cX8_size 29 = .ok (.istore_n 2, 1) := by decide +kernel
theorem dX8_size_30 : decode cX8_size 30 = .ok (.iinc 3 1, 3) := by decide +kernel
theorem dX8_size_33 : decode cX8_size 33 = .ok (.goto (-29), 3) := by decide +kernel
theorem dX8_size_36 : decode cX8_size 36 = .ok (.iload_n 2, 1) := by decide +kernel
theorem dX8_size_37 : decode cX8_size 37 = .ok (.ireturn, 1) := by decide +kernel
set_option maxRecDepth 20000 in
theorem ggX8_used_X8_size : GoodIn wsX8_used wsX8_size := goodIn_r _ [5, 6, 7, 8, 9, 10, 11, 12, 13, 14, 15, 16, 17] (by decide +kernel) (by decide +kernel)
set_option maxRecDepth 20000 in
theorem gX8_used_X8_size : GoodIn wsX8_used (wsV RX8 92 RX8 yX8_size wsX8_size) := goodIn_app (goodIn_of _ (by decide +kernel)) ggX8_used_X8_size
theorem dX8_used_0 : decode cX8_used 0 = .ok (.iconst 0, 1) := by decide +kernel
theorem dX8_used_1 : decode cX8_used 1 = .ok (.istore_n 1, 1) := by decide +kernel
theorem dX8_used_2 : decode cX8_used 2 = .ok (.iconst 0, 1) := by decide +kernel
theorem dX8_used_3 : decode cX8_used 3 = .ok (.istore_n 2, 1) := by decide +kernel
theorem dX8_used_4 : decode cX8_used 4 = .ok (.iload_n 2, 1) := by decide +kernel
theorem dX8_used_5 : decode cX8_used 5 = .ok (.iconst 4, 1) := by decide +kernel
theorem dX8_used_6 : decode cX8_used 6 = .ok (.if_icmp .ge 25, 3) := by decide +kernel
theorem dX8_used_9 : decode cX8_used 9 = .ok (.iload_n 1, 1) := by decide +kernel
theorem dX8_used_10 : decode cX8_used 10 = .ok (.aload_n 0, 1) := by decide +kernel
theorem dX8_used_11 : decode cX8_used 11 = .ok (.iload_n 2, 1) := by decide +kernel
theorem dX8_used_12 : decode cX8_used 12 = .ok (.invokevirtual 92, 3) := by decide +kernel
theorem dX8_used_15 : decode cX8_used 15 = .ok (.ifCond .le 7, 3) := by decide +kernel
theorem dX8_used_18 : decode cX8_used 18 = .ok (.iconst 1, 1) := by decide +kernel
theorem dX8_used_19 : decode cX8_used 19 = .ok (.goto 4, 3) := by decide +kernel
theorem dX8_used_22 : decode cX8_used 22 = .ok (.iconst 0, 1) := by decide +kernel
theorem dX8_used_23 : decode cX8_used 23 = .ok (.iadd, 1) := by decide +kernel
theorem dX8_used_24 : decode cX8_used 24 = .ok (.istore_n 1, 1) := by decide +kernel
theorem dX8_used_25 : decode cX8_used 25 = .ok (.iinc 2 1, 3) := by decide +kernel
theorem dX8_used_28 : decode cX8_used 28 = .ok (.goto (-24), 3) := by decide +kernel
theorem dX8_used_31 : decode cX8_used 31 = .ok (.iload_n 1, 1) := by decide +kernel
theorem dX8_used_32 : decode cX8_used 32 = .ok (.ireturn, 1) := by decide +kernel
set_option maxRecDepth 20000 in
theorem ggX8_cost_X8_isWhole : GoodIn wsX8_cost wsX8_isWhole := goodIn_r _ [10, 1, 11, 12, 13, 14, 9, 15, 16, 17, 18, 19, 3, 4, 53, 54, 55, 56, 57, 58, 59, 60, 61, 62] (by decide +kernel) (by decide +kernel)
set_option maxRecDepth 20000 in
theorem gX8_cost_X8_isWhole : GoodIn wsX8_cost (wsV RX8 95 RX8 yX8_isWhole wsX8_isWhole) := goodIn_app (goodIn_of _ (by decide +kernel)) ggX8_cost_X8_isWhole
set_option maxRecDepth 20000 in
theorem ggX8_cost_X8_nextOf : GoodIn wsX8_cost wsX8_nextOf := goodIn_r _ [23, 1, 11, 24, 25, 26, 27, 9, 28, 29, 30, 31, 32, 3, 2, 53, 54, 55, 56, 57, 58, 59, 60, 61, 62] (by decide +kernel) (by decide +kernel)
set_option maxRecDepth 20000 in
theorem gX8_cost_X8_nextOf : GoodIn wsX8_cost (wsV RX8 99 RX8 yX8_nextOf wsX8_nextOf) := goodIn_app (goodIn_of _ (by decide +kernel)) ggX8_cost_X8_nextOf
set_option maxRecDepth 20000 in
theorem ggX8_cost_X8_pairs : GoodIn wsX8_cost wsX8_pairs := goodIn_r _ [36, 37, 38, 39, 9, 40, 1, 24, 41, 42, 43, 44, 11, 2, 3, 4, 16, 17, 18, 19, 53, 54, 55, 56, 57, 58, 59, 60, 61, 62] (by decide +kernel) (by decide +kernel)
set_option maxRecDepth 20000 in
theorem gX8_cost_X8_pairs : GoodIn wsX8_cost (wsV RX8 102 RX8 yX8_pairs wsX8_pairs) := goodIn_app (goodIn_of _ (by decide +kernel)) ggX8_cost_X8_pairs
set_option maxRecDepth 20000 in
theorem ggX8_cost_X8_used : GoodIn wsX8_cost wsX8_used := goodIn_r _ [48, 49, 50, 51, 9, 52, 1, 11, 53, 54, 55, 56, 57, 58, 59, 60, 61, 62] (by decide +kernel) (by decide +kernel)
set_option maxRecDepth 20000 in
theorem gX8_cost_X8_used : GoodIn wsX8_cost (wsV RX8 105 RX8 yX8_used wsX8_used) := goodIn_app (goodIn_of _ (by decide +kernel)) ggX8_cost_X8_used
theorem dX8_cost_0 : decode cX8_cost 0 = .ok (.iload_n 1, 1) := by decide +kernel
theorem dX8_cost_1 : decode cX8_cost 1 = .ok (.ifCond .lt 8, 3) := by decide +kernel
theorem dX8_cost_4 : decode cX8_cost 4 = .ok (.iload_n 1, 1) := by decide +kernel
theorem dX8_cost_5 : decode cX8_cost 5 = .ok (.iconst 4, 1) := by decide +kernel
theorem dX8_cost_6 : decode cX8_cost 6 = .ok (.if_icmp .le 6, 3) := by decide +kernel
theorem dX8_cost_9 : decode cX8_cost 9 = .ok (.bipush (-2), 2) := by decide +kernel
theorem dX8_cost_11 : decode cX8_cost 11 = .ok (.ireturn, 1) := by decide +kernel
theorem dX8_cost_12 : decode cX8_cost 12 = .ok (.aload_n 0, 1) := by decide +kernel
theorem dX8_cost_13 : decode cX8_cost 13 = .ok (.invokevirtual 95, 3) := by decide +kernel
theorem dX8_cost_16 : decode cX8_cost 16 = .ok (.ifCond .ne 6, 3) := by decide +kernel
theorem dX8_cost_19 : decode cX8_cost 19 = .ok (.bipush (-3), 2) := by decide +kernel
theorem dX8_cost_21 : decode cX8_cost 21 = .ok (.ireturn, 1) := by decide +kernel
theorem dX8_cost_22 : decode cX8_cost 22 = .ok (.iconst 0, 1) := by decide +kernel
theorem dX8_cost_23 : decode cX8_cost 23 = .ok (.istore_n 2, 1) := by decide +kernel
theorem dX8_cost_24 : decode cX8_cost 24 = .ok (.iconst 0, 1) := by decide +kernel
theorem dX8_cost_25 : decode cX8_cost 25 = .ok (.istore_n 3, 1) := by decide +kernel
theorem dX8_cost_26 : decode cX8_cost 26 = .ok (.iconst 0, 1) := by decide +kernel
theorem dX8_cost_27 : decode cX8_cost 27 = .ok (.istore 4, 2) := by decide +kernel
theorem dX8_cost_29 : decode cX8_cost 29 = .ok (.iload 4, 2) := by decide +kernel
theorem dX8_cost_31 : decode cX8_cost 31 = .ok (.aload_n 0, 1) := by decide +kernel
theorem dX8_cost_32 : decode cX8_cost 32 = .ok (.getfield 38, 3) := by decide +kernel
theorem dX8_cost_35 : decode cX8_cost 35 = .ok (.if_icmp .ge 93, 3) := by decide +kernel
theorem dX8_cost_38 : decode cX8_cost 38 = .ok (.aload_n 0, 1) := by decide +kernel
theorem dX8_cost_39 : decode cX8_cost 39 = .ok (.iload 4, 2) := by decide +kernel
theorem dX8_cost_41 : decode cX8_cost 41 = .ok (.invokevirtual 99, 3) := by decide +kernel
theorem dX8_cost_44 : decode cX8_cost 44 = .ok (.istore 5, 2) := by decide +kernel
theorem dX8_cost_46 : decode cX8_cost 46 = .ok (.iload 5, 2) := by decide +kernel
theorem dX8_cost_48 : decode cX8_cost 48 = .ok (.ifCond .lt 74, 3) := by decide +kernel
theorem dX8_cost_51 : decode cX8_cost 51 = .ok (.iload_n 2, 1) := by decide +kernel
theorem dX8_cost_52 : decode cX8_cost 52 = .ok (.aload_n 0, 1) := by decide +kernel
theorem dX8_cost_53 : decode cX8_cost 53 = .ok (.getfield 16, 3) := by decide +kernel
theorem dX8_cost_56 : decode cX8_cost 56 = .ok (.iload 5, 2) := by decide +kernel
theorem dX8_cost_58 : decode cX8_cost 58 = .ok (.iaload, 1) := by decide +kernel
theorem dX8_cost_59 : decode cX8_cost 59 = .ok (.aload_n 0, 1) := by decide +kernel
theorem dX8_cost_60 : decode cX8_cost 60 = .ok (.getfield 16, 3) := by decide +kernel
theorem dX8_cost_63 : decode cX8_cost 63 = .ok (.iload 4, 2) := by decide +kernel
theorem dX8_cost_65 : decode cX8_cost 65 = .ok (.iaload, 1) := by decide +kernel
theorem dX8_cost_66 : decode cX8_cost 66 = .ok (.if_icmp .le 21, 3) := by decide +kernel
theorem dX8_cost_69 : decode cX8_cost 69 = .ok (.aload_n 0, 1) := by decide +kernel
theorem dX8_cost_70 : decode cX8_cost 70 = .ok (.getfield 16, 3) := by decide +kernel
theorem dX8_cost_73 : decode cX8_cost 73 = .ok (.iload 5, 2) := by decide +kernel
theorem dX8_cost_75 : decode cX8_cost 75 = .ok (.iaload, 1) := by decide +kernel
theorem dX8_cost_76 : decode cX8_cost 76 = .ok (.aload_n 0, 1) := by decide +kernel
theorem dX8_cost_77 : decode cX8_cost 77 = .ok (.getfield 16, 3) := by decide +kernel
theorem dX8_cost_80 : decode cX8_cost 80 = .ok (.iload 4, 2) := by decide +kernel
theorem dX8_cost_82 : decode cX8_cost 82 = .ok (.iaload, 1) := by decide +kernel
theorem dX8_cost_83 : decode cX8_cost 83 = .ok (.isub, 1) := by decide +kernel
theorem dX8_cost_84 : decode cX8_cost 84 = .ok (.goto 18, 3) := by decide +kernel
theorem dX8_cost_87 : decode cX8_cost 87 = .ok (.aload_n 0, 1) := by decide +kernel
theorem dX8_cost_88 : decode cX8_cost 88 = .ok (.getfield 16, 3) := by decide +kernel
theorem dX8_cost_91 : decode cX8_cost 91 = .ok (.iload 4, 2) := by decide +kernel
theorem dX8_cost_93 : decode cX8_cost 93 = .ok (.iaload, 1) := by decide +kernel
theorem dX8_cost_94 : decode cX8_cost 94 = .ok (.aload_n 0, 1) := by decide +kernel
theorem dX8_cost_95 : decode cX8_cost 95 = .ok (.getfield 16, 3) := by decide +kernel
theorem dX8_cost_98 : decode cX8_cost 98 = .ok (.iload 5, 2) := by decide +kernel
theorem dX8_cost_100 : decode cX8_cost 100 = .ok (.iaload, 1) := by decide +kernel
theorem dX8_cost_101 : decode cX8_cost 101 = .ok (.isub, 1) := by decide +kernel
theorem dX8_cost_102 : decode cX8_cost 102 = .ok (.iadd, 1) := by decide +kernel
theorem dX8_cost_103 : decode cX8_cost 103 = .ok (.istore_n 2, 1) := by decide +kernel
theorem dX8_cost_104 : decode cX8_cost 104 = .ok (.iload_n 3, 1) := by decide +kernel
theorem dX8_cost_105 : decode cX8_cost 105 = .ok (.aload_n 0, 1) := by decide +kernel
theorem dX8_cost_106 : decode cX8_cost 106 = .ok (.getfield 7, 3) := by decide +kernel
theorem dX8_cost_109 : decode cX8_cost 109 = .ok (.iload 5, 2) := by decide +kernel
theorem dX8_cost_111 : decode cX8_cost 111 = .ok (.iaload, 1) := by decide +kernel
theorem dX8_cost_112 : decode cX8_cost 112 = .ok (.aload_n 0, 1) := by decide +kernel
theorem dX8_cost_113 : decode cX8_cost 113 = .ok (.getfield 13, 3) := by decide +kernel
theorem dX8_cost_116 : decode cX8_cost 116 = .ok (.iload 4, 2) := by decide +kernel
theorem dX8_cost_118 : decode cX8_cost 118 = .ok (.iaload, 1) := by decide +kernel
theorem dX8_cost_119 : decode cX8_cost 119 = .ok (.isub, 1) := by decide +kernel
theorem dX8_cost_120 : decode cX8_cost 120 = .ok (.iadd, 1) := by decide +kernel
theorem dX8_cost_121 : decode cX8_cost 121 = .ok (.istore_n 3, 1) := by decide +kernel
theorem dX8_cost_122 : decode cX8_cost 122 = .ok (.iinc 4 1, 3) := by decide +kernel
theorem dX8_cost_125 : decode cX8_cost 125 = .ok (.goto (-96), 3) := by decide +kernel
theorem dX8_cost_128 : decode cX8_cost 128 = .ok (.iload_n 2, 1) := by decide +kernel
theorem dX8_cost_129 : decode cX8_cost 129 = .ok (.aload_n 0, 1) := by decide +kernel
theorem dX8_cost_130 : decode cX8_cost 130 = .ok (.getfield 22, 3) := by decide +kernel
theorem dX8_cost_133 : decode cX8_cost 133 = .ok (.iconst 0, 1) := by decide +kernel
theorem dX8_cost_134 : decode cX8_cost 134 = .ok (.iaload, 1) := by decide +kernel
theorem dX8_cost_135 : decode cX8_cost 135 = .ok (.imul, 1) := by decide +kernel
theorem dX8_cost_136 : decode cX8_cost 136 = .ok (.istore_n 2, 1) := by decide +kernel
