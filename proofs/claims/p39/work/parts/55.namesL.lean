theorem dL_cell_0 : decode cL_cell 0 = .ok (.iload_n 1, 1) := by decide +kernel
theorem dL_cell_1 : decode cL_cell 1 = .ok (.aload_n 0, 1) := by decide +kernel
theorem dL_cell_2 : decode cL_cell 2 = .ok (.arraylength, 1) := by decide +kernel
theorem dL_cell_3 : decode cL_cell 3 = .ok (.if_icmp .ge 9, 3) := by decide +kernel
theorem dL_cell_6 : decode cL_cell 6 = .ok (.aload_n 0, 1) := by decide +kernel
theorem dL_cell_7 : decode cL_cell 7 = .ok (.iload_n 1, 1) := by decide +kernel
theorem dL_cell_8 : decode cL_cell 8 = .ok (.iaload, 1) := by decide +kernel
theorem dL_cell_9 : decode cL_cell 9 = .ok (.goto 10, 3) := by decide +kernel
theorem dL_cell_12 : decode cL_cell 12 = .ok (.ldc 7, 2) := by decide +kernel
theorem dL_cell_14 : decode cL_cell 14 = .ok (.iload_n 1, 1) := by decide +kernel
theorem dL_cell_15 : decode cL_cell 15 = .ok (.imul, 1) := by decide +kernel
theorem dL_cell_16 : decode cL_cell 16 = .ok (.bipush 107, 2) := by decide +kernel
theorem dL_cell_18 : decode cL_cell 18 = .ok (.iadd, 1) := by decide +kernel
theorem dL_cell_19 : decode cL_cell 19 = .ok (.ldc 8, 2) := by decide +kernel
theorem dL_cell_21 : decode cL_cell 21 = .ok (.iand, 1) := by decide +kernel
theorem dL_cell_22 : decode cL_cell 22 = .ok (.ireturn, 1) := by decide +kernel
set_option maxRecDepth 20000 in
theorem ggL_sets_X7_mirror : GoodIn wsL_sets wsX7_mirror := goodIn_r _ [5, 6, 7, 8, 9, 10, 4, 11, 12, 13, 14, 15, 16, 17, 18, 19, 20, 21, 22, 23, 24, 25, 26, 27, 28, 29, 30, 31, 32, 33, 34, 35, 36, 37, 38, 39, 40, 41, 42, 43, 44, 45, 46, 47, 48, 49, 50, 51, 52, 53, 54, 55, 56, 57, 81, 82, 83, 84, 85, 86, 87, 88, 89, 90, 91, 92, 93, 94, 95, 96, 97, 98, 99, 100, 101, 102, 103, 104, 105, 106, 107, 108, 109, 110, 111, 112] rfl (by decide +kernel)
set_option maxRecDepth 20000 in
theorem gL_sets_X7_mirror : GoodIn wsL_sets (wsV RL 9 RX7 yX7_mirror wsX7_mirror) := goodIn_app (goodIn_of _ (by decide +kernel)) ggL_sets_X7_mirror
set_option maxRecDepth 20000 in
theorem ggL_sets_X7_meet : GoodIn wsL_sets wsX7_meet := goodIn_r _ [61, 6, 8, 62, 63, 64, 23, 65, 31, 66, 67, 4, 68, 12, 13, 14, 15, 16, 17, 18, 19, 20, 21, 22, 24, 25, 26, 27, 28, 29, 30, 69, 70, 71, 72, 36, 37, 38, 39, 40, 41, 42, 43, 44, 45, 46, 47, 48, 49, 50, 51, 52, 53, 54, 55, 56, 57, 73, 74, 75, 76, 77, 78, 79, 80, 81, 82, 83, 84, 85, 86, 87, 88, 89, 90, 91, 92, 93, 94, 95, 96, 97, 98, 99, 100, 101, 102, 103, 104, 105, 106, 107, 108, 109, 110, 111, 112] rfl (by decide +kernel)
set_option maxRecDepth 20000 in
theorem gL_sets_X7_meet : GoodIn wsL_sets (wsV RL 15 RX7 yX7_meet wsX7_meet) := goodIn_app (goodIn_of _ (by decide +kernel)) ggL_sets_X7_meet
theorem dL_sets_0 : decode cL_sets 0 = .ok (.iload_n 1, 1) := by decide +kernel
theorem dL_sets_1 : decode cL_sets 1 = .ok (.iconst 3, 1) := by decide +kernel
theorem dL_sets_2 : decode cL_sets 2 = .ok (.if_icmp .ne 7, 3) := by decide +kernel
theorem dL_sets_5 : decode cL_sets 5 = .ok (.iconst 2, 1) := by decide +kernel
theorem dL_sets_6 : decode cL_sets 6 = .ok (.goto 23, 3) := by decide +kernel
theorem dL_sets_9 : decode cL_sets 9 = .ok (.iload_n 1, 1) := by decide +kernel
theorem dL_sets_10 : decode cL_sets 10 = .ok (.iconst 4, 1) := by decide +kernel
theorem dL_sets_11 : decode cL_sets 11 = .ok (.if_icmp .ne 7, 3) := by decide +kernel
theorem dL_sets_14 : decode cL_sets 14 = .ok (.iconst 4, 1) := by decide +kernel
theorem dL_sets_15 : decode cL_sets 15 = .ok (.goto 14, 3) := by decide +kernel
theorem dL_sets_18 : decode cL_sets 18 = .ok (.iload_n 1, 1) := by decide +kernel
theorem dL_sets_19 : decode cL_sets 19 = .ok (.iconst 5, 1) := by decide +kernel
theorem dL_sets_20 : decode cL_sets 20 = .ok (.if_icmp .ne 8, 3) := by decide +kernel
theorem dL_sets_23 : decode cL_sets 23 = .ok (.bipush 6, 2) := by decide +kernel
theorem dL_sets_25 : decode cL_sets 25 = .ok (.goto 4, 3) := by decide +kernel
theorem dL_sets_28 : decode cL_sets 28 = .ok (.iload_n 2, 1) := by decide +kernel
theorem dL_sets_29 : decode cL_sets 29 = .ok (.istore_n 3, 1) := by decide +kernel
theorem dL_sets_30 : decode cL_sets 30 = .ok (.iconst 1, 1) := by decide +kernel
theorem dL_sets_31 : decode cL_sets 31 = .ok (.istore 4, 2) := by decide +kernel
theorem dL_sets_33 : decode cL_sets 33 = .ok (.iconst 0, 1) := by decide +kernel
theorem dL_sets_34 : decode cL_sets 34 = .ok (.istore 5, 2) := by decide +kernel
theorem dL_sets_36 : decode cL_sets 36 = .ok (.iload 5, 2) := by decide +kernel
theorem dL_sets_38 : decode cL_sets 38 = .ok (.iload_n 3, 1) := by decide +kernel
theorem dL_sets_39 : decode cL_sets 39 = .ok (.if_icmp .ge 31, 3) := by decide +kernel
theorem dL_sets_42 : decode cL_sets 42 = .ok (.iload 4, 2) := by decide +kernel
theorem dL_sets_44 : decode cL_sets 44 = .ok (.ifCond .eq 17, 3) := by decide +kernel
theorem dL_sets_47 : decode cL_sets 47 = .ok (.aload_n 0, 1) := by decide +kernel
theorem dL_sets_48 : decode cL_sets 48 = .ok (.iconst 0, 1) := by decide +kernel
theorem dL_sets_49 : decode cL_sets 49 = .ok (.invokevirtual 9, 3) := by decide +kernel
theorem dL_sets_52 : decode cL_sets 52 = .ok (.iload 5, 2) := by decide +kernel
theorem dL_sets_54 : decode cL_sets 54 = .ok (.if_icmp .ne 7, 3) := by decide +kernel
theorem dL_sets_57 : decode cL_sets 57 = .ok (.iconst 1, 1) := by decide +kernel
theorem dL_sets_58 : decode cL_sets 58 = .ok (.goto 4, 3) := by decide +kernel
theorem dL_sets_61 : decode cL_sets 61 = .ok (.iconst 0, 1) := by decide +kernel
theorem dL_sets_62 : decode cL_sets 62 = .ok (.istore 4, 2) := by decide +kernel
theorem dL_sets_64 : decode cL_sets 64 = .ok (.iinc 5 1, 3) := by decide +kernel
theorem dL_sets_67 : decode cL_sets 67 = .ok (.goto (-31), 3) := by decide +kernel
theorem dL_sets_70 : decode cL_sets 70 = .ok (.iload_n 1, 1) := by decide +kernel
theorem dL_sets_71 : decode cL_sets 71 = .ok (.iconst 2, 1) := by decide +kernel
theorem dL_sets_72 : decode cL_sets 72 = .ok (.if_icmp .ne 9, 3) := by decide +kernel
theorem dL_sets_75 : decode cL_sets 75 = .ok (.iload_n 3, 1) := by decide +kernel
theorem dL_sets_76 : decode cL_sets 76 = .ok (.iconst 1, 1) := by decide +kernel
theorem dL_sets_77 : decode cL_sets 77 = .ok (.isub, 1) := by decide +kernel
theorem dL_sets_78 : decode cL_sets 78 = .ok (.goto 13, 3) := by decide +kernel
theorem dL_sets_81 : decode cL_sets 81 = .ok (.iload_n 1, 1) := by decide +kernel
theorem dL_sets_82 : decode cL_sets 82 = .ok (.iconst 5, 1) := by decide +kernel
theorem dL_sets_83 : decode cL_sets 83 = .ok (.if_icmp .ne 7, 3) := by decide +kernel
theorem dL_sets_86 : decode cL_sets 86 = .ok (.iconst 5, 1) := by decide +kernel
theorem dL_sets_87 : decode cL_sets 87 = .ok (.goto 4, 3) := by decide +kernel
theorem dL_sets_90 : decode cL_sets 90 = .ok (.iload_n 3, 1) := by decide +kernel
theorem dL_sets_91 : decode cL_sets 91 = .ok (.istore 5, 2) := by decide +kernel
theorem dL_sets_93 : decode cL_sets 93 = .ok (.iconst 0, 1) := by decide +kernel
theorem dL_sets_94 : decode cL_sets 94 = .ok (.istore 6, 2) := by decide +kernel
theorem dL_sets_96 : decode cL_sets 96 = .ok (.iload 6, 2) := by decide +kernel
theorem dL_sets_98 : decode cL_sets 98 = .ok (.iconst 1, 1) := by decide +kernel
theorem dL_sets_99 : decode cL_sets 99 = .ok (.iadd, 1) := by decide +kernel
theorem dL_sets_100 : decode cL_sets 100 = .ok (.iload 5, 2) := by decide +kernel
theorem dL_sets_102 : decode cL_sets 102 = .ok (.if_icmp .ge 115, 3) := by decide +kernel
theorem dL_sets_105 : decode cL_sets 105 = .ok (.iload 6, 2) := by decide +kernel
theorem dL_sets_107 : decode cL_sets 107 = .ok (.iconst 2, 1) := by decide +kernel
theorem dL_sets_108 : decode cL_sets 108 = .ok (.iadd, 1) := by decide +kernel
theorem dL_sets_109 : decode cL_sets 109 = .ok (.iload_n 3, 1) := by decide +kernel
theorem dL_sets_110 : decode cL_sets 110 = .ok (.if_icmp .ne 7, 3) := by decide +kernel
theorem dL_sets_113 : decode cL_sets 113 = .ok (.iconst 1, 1) := by decide +kernel
theorem dL_sets_114 : decode cL_sets 114 = .ok (.goto 4, 3) := by decide +kernel
theorem dL_sets_117 : decode cL_sets 117 = .ok (.iconst 0, 1) := by decide +kernel
theorem dL_sets_118 : decode cL_sets 118 = .ok (.istore 7, 2) := by decide +kernel
theorem dL_sets_120 : decode cL_sets 120 = .ok (.iload_n 1, 1) := by decide +kernel
theorem dL_sets_121 : decode cL_sets 121 = .ok (.iconst 3, 1) := by decide +kernel
theorem dL_sets_122 : decode cL_sets 122 = .ok (.if_icmp .ne 7, 3) := by decide +kernel
theorem dL_sets_125 : decode cL_sets 125 = .ok (.iconst 3, 1) := by decide +kernel
theorem dL_sets_126 : decode cL_sets 126 = .ok (.goto 33, 3) := by decide +kernel
theorem dL_sets_129 : decode cL_sets 129 = .ok (.iload_n 1, 1) := by decide +kernel
theorem dL_sets_130 : decode cL_sets 130 = .ok (.iconst 1, 1) := by decide +kernel
theorem dL_sets_131 : decode cL_sets 131 = .ok (.if_icmp .ne 12, 3) := by decide +kernel
theorem dL_sets_134 : decode cL_sets 134 = .ok (.iload 7, 2) := by decide +kernel
theorem dL_sets_136 : decode cL_sets 136 = .ok (.ifCond .eq 7, 3) := by decide +kernel
theorem dL_sets_139 : decode cL_sets 139 = .ok (.iconst 2, 1) := by decide +kernel
theorem dL_sets_140 : decode cL_sets 140 = .ok (.goto 19, 3) := by decide +kernel
theorem dL_sets_143 : decode cL_sets 143 = .ok (.iload_n 1, 1) := by decide +kernel
theorem dL_sets_144 : decode cL_sets 144 = .ok (.iconst 4, 1) := by decide +kernel
theorem dL_sets_145 : decode cL_sets 145 = .ok (.if_icmp .ne 13, 3) := by decide +kernel
theorem dL_sets_148 : decode cL_sets 148 = .ok (.iload 6, 2) := by decide +kernel
theorem dL_sets_150 : decode cL_sets 150 = .ok (.iconst 1, 1) := by decide +kernel
theorem dL_sets_151 : decode cL_sets 151 = .ok (.if_icmp .ne 7, 3) := by decide +kernel
theorem dL_sets_154 : decode cL_sets 154 = .ok (.iconst 2, 1) := by decide +kernel
theorem dL_sets_155 : decode cL_sets 155 = .ok (.goto 4, 3) := by decide +kernel
theorem dL_sets_158 : decode cL_sets 158 = .ok (.iconst 1, 1) := by decide +kernel
theorem dL_sets_159 : decode cL_sets 159 = .ok (.istore 8, 2) := by decide +kernel
theorem dL_sets_161 : decode cL_sets 161 = .ok (.iload 4, 2) := by decide +kernel
theorem dL_sets_163 : decode cL_sets 163 = .ok (.ifCond .eq 45, 3) := by decide +kernel
theorem dL_sets_166 : decode cL_sets 166 = .ok (.aload_n 0, 1) := by decide +kernel
theorem dL_sets_167 : decode cL_sets 167 = .ok (.iload 6, 2) := by decide +kernel
theorem dL_sets_169 : decode cL_sets 169 = .ok (.iload 6, 2) := by decide +kernel
theorem dL_sets_171 : decode cL_sets 171 = .ok (.iconst 1, 1) := by decide +kernel
theorem dL_sets_172 : decode cL_sets 172 = .ok (.iadd, 1) := by decide +kernel
theorem dL_sets_173 : decode cL_sets 173 = .ok (.iload 8, 2) := by decide +kernel
theorem dL_sets_175 : decode cL_sets 175 = .ok (.iconst 1, 1) := by decide +kernel
theorem dL_sets_176 : decode cL_sets 176 = .ok (.invokevirtual 15, 3) := by decide +kernel
theorem dL_sets_179 : decode cL_sets 179 = .ok (.iload 8, 2) := by decide +kernel
theorem dL_sets_181 : decode cL_sets 181 = .ok (.iconst 1, 1) := by decide +kernel
theorem dL_sets_182 : decode cL_sets 182 = .ok (.if_icmp .ne 7, 3) := by decide +kernel
theorem dL_sets_185 : decode cL_sets 185 = .ok (.iconst 3, 1) := by decide +kernel
theorem dL_sets_186 : decode cL_sets 186 = .ok (.goto 15, 3) := by decide +kernel
theorem dL_sets_189 : decode cL_sets 189 = .ok (.iload 8, 2) := by decide +kernel
theorem dL_sets_191 : decode cL_sets 191 = .ok (.iconst 2, 1) := by decide +kernel
theorem dL_sets_192 : decode cL_sets 192 = .ok (.if_icmp .ne 7, 3) := by decide +kernel
theorem dL_sets_195 : decode cL_sets 195 = .ok (.iconst 4, 1) := by decide +kernel
theorem dL_sets_196 : decode cL_sets 196 = .ok (.goto 5, 3) := by decide +kernel
theorem dL_sets_199 : decode cL_sets 199 = .ok (.bipush 6, 2) := by decide +kernel
theorem dL_sets_201 : decode cL_sets 201 = .ok (.if_icmp .ne 7, 3) := by decide +kernel
theorem dL_sets_204 : decode cL_sets 204 = .ok (.iconst 1, 1) := by decide +kernel
theorem dL_sets_205 : decode cL_sets 205 = .ok (.goto 4, 3) := by decide +kernel
theorem dL_sets_208 : decode cL_sets 208 = .ok (.iconst 0, 1) := by decide +kernel
theorem dL_sets_209 : decode cL_sets 209 = .ok (.istore 4, 2) := by decide +kernel
theorem dL_sets_211 : decode cL_sets 211 = .ok (.iinc 6 1, 3) := by decide +kernel
theorem dL_sets_214 : decode cL_sets 214 = .ok (.goto (-118), 3) := by decide +kernel
theorem dL_sets_217 : decode cL_sets 217 = .ok (.iload_n 1, 1) := by decide +kernel
theorem dL_sets_218 : decode cL_sets 218 = .ok (.iconst 2, 1) := by decide +kernel
theorem dL_sets_219 : decode cL_sets 219 = .ok (.if_icmp .ne 36, 3) := by decide +kernel
theorem dL_sets_222 : decode cL_sets 222 = .ok (.iload_n 3, 1) := by decide +kernel
theorem dL_sets_223 : decode cL_sets 223 = .ok (.iconst 2, 1) := by decide +kernel
theorem dL_sets_224 : decode cL_sets 224 = .ok (.if_icmp .le 31, 3) := by decide +kernel
theorem dL_sets_227 : decode cL_sets 227 = .ok (.iload 4, 2) := by decide +kernel
theorem dL_sets_229 : decode cL_sets 229 = .ok (.ifCond .eq 23, 3) := by decide +kernel
theorem dL_sets_232 : decode cL_sets 232 = .ok (.aload_n 0, 1) := by decide +kernel
theorem dL_sets_233 : decode cL_sets 233 = .ok (.iload_n 3, 1) := by decide +kernel
theorem dL_sets_234 : decode cL_sets 234 = .ok (.iconst 3, 1) := by decide +kernel
theorem dL_sets_235 : decode cL_sets 235 = .ok (.isub, 1) := by decide +kernel
theorem dL_sets_236 : decode cL_sets 236 = .ok (.iload_n 3, 1) := by decide +kernel
theorem dL_sets_237 : decode cL_sets 237 = .ok (.iconst 1, 1) := by decide +kernel
theorem dL_sets_238 : decode cL_sets 238 = .ok (.isub, 1) := by decide +kernel
theorem dL_sets_239 : decode cL_sets 239 = .ok (.iconst 1, 1) := by decide +kernel
theorem dL_sets_240 : decode cL_sets 240 = .ok (.iconst 1, 1) := by decide +kernel
theorem dL_sets_241 : decode cL_sets 241 = .ok (.invokevirtual 15, 3) := by decide +kernel
theorem dL_sets_244 : decode cL_sets 244 = .ok (.iconst 3, 1) := by decide +kernel
theorem dL_sets_245 : decode cL_sets 245 = .ok (.if_icmp .ne 7, 3) := by decide +kernel
theorem dL_sets_248 : decode cL_sets 248 = .ok (.iconst 1, 1) := by decide +kernel
theorem dL_sets_249 : decode cL_sets 249 = .ok (.goto 4, 3) := by decide +kernel
theorem dL_sets_252 : decode cL_sets 252 = .ok (.iconst 0, 1) := by decide +kernel
theorem dL_sets_253 : decode cL_sets 253 = .ok (.istore 4, 2) := by decide +kernel
theorem dL_sets_255 : decode cL_sets 255 = .ok (.iload_n 1, 1) := by decide +kernel
theorem dL_sets_256 : decode cL_sets 256 = .ok (.iconst 5, 1) := by decide +kernel
theorem dL_sets_257 : decode cL_sets 257 = .ok (.if_icmp .ne 27, 3) := by decide +kernel
theorem dL_sets_260 : decode cL_sets 260 = .ok (.iload 4, 2) := by decide +kernel
theorem dL_sets_262 : decode cL_sets 262 = .ok (.ifCond .eq 19, 3) := by decide +kernel
theorem dL_sets_265 : decode cL_sets 265 = .ok (.aload_n 0, 1) := by decide +kernel
theorem dL_sets_266 : decode cL_sets 266 = .ok (.iconst 2, 1) := by decide +kernel
theorem dL_sets_267 : decode cL_sets 267 = .ok (.iconst 5, 1) := by decide +kernel
theorem dL_sets_268 : decode cL_sets 268 = .ok (.iconst 1, 1) := by decide +kernel
theorem dL_sets_269 : decode cL_sets 269 = .ok (.iconst 1, 1) := by decide +kernel
theorem dL_sets_270 : decode cL_sets 270 = .ok (.invokevirtual 15, 3) := by decide +kernel
theorem dL_sets_273 : decode cL_sets 273 = .ok (.iconst 3, 1) := by decide +kernel
theorem dL_sets_274 : decode cL_sets 274 = .ok (.if_icmp .ne 7, 3) := by decide +kernel
theorem dL_sets_277 : decode cL_sets 277 = .ok (.iconst 1, 1) := by decide +kernel
theorem dL_sets_278 : decode cL_sets 278 = .ok (.goto 4, 3) := by decide +kernel
theorem dL_sets_281 : decode cL_sets 281 = .ok (.iconst 0, 1) := by decide +kernel
theorem dL_sets_282 : decode cL_sets 282 = .ok (.istore 4, 2) := by decide +kernel
theorem dL_sets_284 : decode cL_sets 284 = .ok (.iload 4, 2) := by decide +kernel
theorem dL_sets_286 : decode cL_sets 286 = .ok (.ifCond .eq 7, 3) := by decide +kernel
theorem dL_sets_289 : decode cL_sets 289 = .ok (.iload_n 3, 1) := by decide +kernel
theorem dL_sets_290 : decode cL_sets 290 = .ok (.goto 4, 3) := by decide +kernel
theorem dL_sets_293 : decode cL_sets 293 = .ok (.iconst (-1), 1) := by decide +kernel
theorem dL_sets_294 : decode cL_sets 294 = .ok (.ireturn, 1) := by decide +kernel
set_option maxRecDepth 20000 in
theorem ggL_law_X7_init : GoodIn wsL_law wsX7_init := goodIn_r _ [6, 7, 8, 9, 10, 11, 12, 13, 14, 15, 16, 17, 18, 19, 20, 21, 22, 23, 24, 25, 26, 27, 28, 29, 30, 31, 32, 33, 34, 35, 36, 37, 38, 39, 40, 41, 42, 43, 44, 45, 46, 47, 48, 49, 50, 51, 52, 53, 54, 55, 56, 57, 58, 59, 60, 61, 62, 63, 64, 65, 66, 67, 68, 69, 70, 71, 72, 73, 74, 75, 76, 77, 78, 79, 80, 81, 82, 83, 84, 85, 86, 87, 88, 305, 306, 307, 293, 294, 295, 296, 297, 298, 299, 300, 301, 302, 303, 304, 308, 309, 310, 311, 312, 313, 314, 315, 316, 317, 318, 319, 320, 321, 322, 323, 324, 325, 326, 327, 328, 329, 330, 331] rfl (by decide +kernel)
set_option maxRecDepth 20000 in
theorem gL_law_X7_init : GoodIn wsL_law (wsX7_init) := ggL_law_X7_init
set_option maxRecDepth 20000 in
theorem ggL_law_L_cell : GoodIn wsL_law wsL_cell := goodIn_r _ [92, 93, 94] rfl (by decide +kernel)
set_option maxRecDepth 20000 in
theorem gL_law_L_cell : GoodIn wsL_law (va_wsS RL 20 yL_cell wsL_cell) := goodIn_app (goodIn_of _ (by decide +kernel)) ggL_law_L_cell
set_option maxRecDepth 20000 in
theorem ggL_law_L_sets : GoodIn wsL_law wsL_sets := goodIn_r _ [97, 98, 99, 100, 2, 101, 13, 102, 17, 103, 104, 105, 106, 107, 108, 16, 109, 56, 110, 111, 112, 113, 114, 12, 115, 49, 116, 117, 118, 119, 50, 120, 121, 122, 123, 124, 125, 126, 127, 128, 19, 129, 29, 33, 130, 131, 132, 28, 133, 134, 135, 136, 137, 138, 32, 139, 140, 141, 142, 143, 144, 145, 146, 147, 148, 149, 150, 151, 152, 153, 154, 155, 156, 157, 158, 159, 160, 161, 162, 163, 164, 293, 294, 295, 296, 297, 298, 299, 300, 301, 302, 303, 304, 305, 306, 307, 308, 309, 310, 326, 327, 314, 315, 316, 317, 318, 319, 320, 321, 322, 323, 324, 325] rfl (by decide +kernel)
set_option maxRecDepth 20000 in
theorem gL_law_L_sets : GoodIn wsL_law (va_wsS RL 26 yL_sets wsL_sets) := goodIn_app (goodIn_of _ (by decide +kernel)) ggL_law_L_sets
set_option maxRecDepth 20000 in
theorem ggL_law_X7_put : GoodIn wsL_law wsX7_put := goodIn_r _ [168, 13, 19, 129, 169, 170, 2, 171, 146, 147, 148, 12, 149, 120, 172, 173, 174, 35, 175, 68, 176, 293, 294, 295, 296, 297, 298, 299, 300, 301, 302, 303, 304, 326, 327, 305, 306, 307] rfl (by decide +kernel)
set_option maxRecDepth 20000 in
theorem gL_law_X7_put : GoodIn wsL_law (wsV RL 30 RX7 yX7_put wsX7_put) := goodIn_app (goodIn_of _ (by decide +kernel)) ggL_law_X7_put
set_option maxRecDepth 20000 in
theorem ggL_law_X7_way : GoodIn wsL_law wsX7_way := goodIn_r _ [180, 25, 38, 36, 169, 170, 2, 171, 181, 182, 183, 184, 19, 129, 185, 186, 187, 35, 188, 176, 68, 189, 190, 191, 192, 193, 117, 118, 119, 194, 195, 196, 24, 197, 63, 198, 199, 200, 201, 202, 203, 204, 205, 206, 207, 61, 64, 208, 209, 210, 211, 212, 213, 214, 215, 216, 217, 218, 12, 219, 220, 221, 222, 223, 224, 225, 120, 50, 226, 173, 174, 175, 227, 228, 229, 230, 231, 232, 233, 234, 235, 236, 237, 238, 239, 240, 241, 242, 243, 244, 245, 246, 247, 248, 249, 250, 251, 293, 294, 295, 296, 297, 298, 299, 300, 301, 302, 303, 304, 326, 327, 311, 312, 313, 305, 306, 307] rfl (by decide +kernel)
set_option maxRecDepth 20000 in
theorem gL_law_X7_way : GoodIn wsL_law (wsV RL 34 RX7 yX7_way wsX7_way) := goodIn_app (goodIn_of _ (by decide +kernel)) ggL_law_X7_way
set_option maxRecDepth 20000 in
theorem ggL_law_X7_at : GoodIn wsL_law wsX7_at := goodIn_r _ [255, 19, 129, 256, 169, 170, 2, 171, 293, 294, 295, 296, 297, 298, 299, 300, 301, 302, 303, 304, 326, 327] rfl (by decide +kernel)
set_option maxRecDepth 20000 in
theorem gL_law_X7_at : GoodIn wsL_law (wsV RL 38 RX7 yX7_at wsX7_at) := goodIn_app (goodIn_of _ (by decide +kernel)) ggL_law_X7_at
set_option maxRecDepth 20000 in
theorem ggL_law_X7_back : GoodIn wsL_law wsX7_back := goodIn_r _ [260, 36, 19, 169, 170, 2, 171, 185, 186, 187, 35, 188, 176, 68, 244, 245, 246, 247, 129, 248, 249, 250, 251, 193, 117, 118, 119, 293, 294, 295, 296, 297, 298, 299, 300, 301, 302, 303, 304, 326, 327] rfl (by decide +kernel)
set_option maxRecDepth 20000 in
theorem gL_law_X7_back : GoodIn wsL_law (wsV RL 41 RX7 yX7_back wsX7_back) := goodIn_app (goodIn_of _ (by decide +kernel)) ggL_law_X7_back
set_option maxRecDepth 20000 in
theorem ggL_law_X7_times : GoodIn wsL_law wsX7_times := goodIn_r _ [264, 19, 129, 36, 169, 170, 2, 171, 248, 249, 250, 35, 251, 68, 176, 193, 117, 118, 119, 189, 190, 191, 192, 244, 245, 246, 247, 293, 294, 295, 296, 297, 298, 299, 300, 301, 302, 303, 304, 326, 327] rfl (by decide +kernel)
set_option maxRecDepth 20000 in
theorem gL_law_X7_times : GoodIn wsL_law (wsV RL 44 RX7 yX7_times wsX7_times) := goodIn_app (goodIn_of _ (by decide +kernel)) ggL_law_X7_times
set_option maxRecDepth 20000 in
theorem ggL_law_X7_form : GoodIn wsL_law wsX7_form := goodIn_r _ [268, 25, 19, 36, 169, 170, 2, 171, 194, 195, 196, 24, 197, 63, 198, 199, 200, 201, 202, 203, 204, 205, 206, 207, 61, 64, 208, 209, 210, 211, 212, 213, 214, 215, 216, 217, 218, 12, 219, 220, 221, 222, 223, 224, 225, 120, 50, 226, 173, 174, 35, 175, 68, 176, 227, 228, 229, 230, 193, 117, 118, 119, 231, 232, 233, 234, 235, 236, 237, 238, 239, 240, 241, 242, 243, 244, 245, 246, 247, 129, 248, 249, 250, 251, 293, 294, 295, 296, 297, 298, 299, 300, 301, 302, 303, 304, 311, 312, 313, 326, 327, 305, 306, 307] rfl (by decide +kernel)
set_option maxRecDepth 20000 in
theorem gL_law_X7_form : GoodIn wsL_law (wsV RL 47 RX7 yX7_form wsX7_form) := goodIn_app (goodIn_of _ (by decide +kernel)) ggL_law_X7_form
set_option maxRecDepth 20000 in
theorem ggL_law_X7_same : GoodIn wsL_law wsX7_same := goodIn_r _ [272, 25, 19, 36, 37, 169, 170, 2, 171, 194, 195, 196, 24, 197, 63, 198, 199, 200, 201, 202, 203, 204, 205, 206, 207, 61, 64, 208, 209, 210, 211, 212, 213, 214, 215, 216, 217, 218, 12, 219, 220, 221, 222, 223, 224, 225, 120, 50, 226, 173, 174, 35, 175, 68, 176, 227, 228, 229, 230, 193, 117, 118, 119, 231, 232, 233, 234, 235, 236, 237, 238, 239, 240, 241, 242, 243, 273, 274, 275, 276, 293, 294, 295, 296, 297, 298, 299, 300, 301, 302, 303, 304, 311, 312, 313, 326, 327, 305, 306, 307] rfl (by decide +kernel)
set_option maxRecDepth 20000 in
theorem gL_law_X7_same : GoodIn wsL_law (wsV RL 50 RX7 yX7_same wsX7_same) := goodIn_app (goodIn_of _ (by decide +kernel)) ggL_law_X7_same
set_option maxRecDepth 20000 in
theorem ggL_law_X7_wall : GoodIn wsL_law wsX7_wall := goodIn_r _ [280, 13, 281, 25, 38, 36, 282, 129, 40, 256, 19, 169, 170, 2, 171, 146, 147, 148, 12, 149, 120, 181, 182, 183, 184, 185, 186, 187, 35, 188, 176, 68, 189, 190, 191, 192, 193, 117, 118, 119, 194, 195, 196, 24, 197, 63, 198, 199, 200, 201, 202, 203, 204, 205, 206, 207, 61, 64, 208, 209, 210, 211, 212, 213, 214, 215, 216, 217, 218, 219, 220, 221, 222, 223, 224, 225, 50, 226, 173, 174, 175, 227, 228, 229, 230, 231, 232, 233, 234, 235, 236, 237, 238, 239, 240, 241, 242, 243, 283, 284, 285, 286, 287, 288, 289, 290, 291, 292, 293, 294, 295, 296, 297, 298, 299, 300, 301, 302, 303, 304, 326, 327, 305, 306, 307, 311, 312, 313] rfl (by decide +kernel)
set_option maxRecDepth 20000 in
theorem gL_law_X7_wall : GoodIn wsL_law (wsV RL 53 RX7 yX7_wall wsX7_wall) := goodIn_app (goodIn_of _ (by decide +kernel)) ggL_law_X7_wall
theorem dL_law_0 : decode cL_law 0 = .ok (.new 10, 3) := by decide +kernel
theorem dL_law_3 : decode cL_law 3 = .ok (.dup, 1) := by decide +kernel
theorem dL_law_4 : decode cL_law 4 = .ok (.invokespecial 19, 3) := by decide +kernel
theorem dL_law_7 : decode cL_law 7 = .ok (.astore_n 1, 1) := by decide +kernel
theorem dL_law_8 : decode cL_law 8 = .ok (.aload_n 0, 1) := by decide +kernel
theorem dL_law_9 : decode cL_law 9 = .ok (.iconst 0, 1) := by decide +kernel
theorem dL_law_10 : decode cL_law 10 = .ok (.invokestatic 20, 3) := by decide +kernel
theorem dL_law_13 : decode cL_law 13 = .ok (.bipush 6, 2) := by decide +kernel
theorem dL_law_15 : decode cL_law 15 = .ok (.irem, 1) := by decide +kernel
theorem dL_law_16 : decode cL_law 16 = .ok (.istore_n 2, 1) := by decide +kernel
theorem dL_law_17 : decode cL_law 17 = .ok (.aload_n 1, 1) := by decide +kernel
theorem dL_law_18 : decode cL_law 18 = .ok (.iload_n 2, 1) := by decide +kernel
theorem dL_law_19 : decode cL_law 19 = .ok (.iload_n 2, 1) := by decide +kernel
theorem dL_law_20 : decode cL_law 20 = .ok (.iconst 2, 1) := by decide +kernel
theorem dL_law_21 : decode cL_law 21 = .ok (.if_icmp .ne 15, 3) := by decide +kernel
theorem dL_law_24 : decode cL_law 24 = .ok (.iconst 3, 1) := by decide +kernel
theorem dL_law_25 : decode cL_law 25 = .ok (.aload_n 0, 1) := by decide +kernel
theorem dL_law_26 : decode cL_law 26 = .ok (.iconst 1, 1) := by decide +kernel
theorem dL_law_27 : decode cL_law 27 = .ok (.invokestatic 20, 3) := by decide +kernel
theorem dL_law_30 : decode cL_law 30 = .ok (.iconst 3, 1) := by decide +kernel
theorem dL_law_31 : decode cL_law 31 = .ok (.irem, 1) := by decide +kernel
theorem dL_law_32 : decode cL_law 32 = .ok (.iadd, 1) := by decide +kernel
theorem dL_law_33 : decode cL_law 33 = .ok (.goto 12, 3) := by decide +kernel
theorem dL_law_36 : decode cL_law 36 = .ok (.iconst 1, 1) := by decide +kernel
theorem dL_law_37 : decode cL_law 37 = .ok (.aload_n 0, 1) := by decide +kernel
theorem dL_law_38 : decode cL_law 38 = .ok (.iconst 1, 1) := by decide +kernel
theorem dL_law_39 : decode cL_law 39 = .ok (.invokestatic 20, 3) := by decide +kernel
theorem dL_law_42 : decode cL_law 42 = .ok (.iconst 5, 1) := by decide +kernel
theorem dL_law_43 : decode cL_law 43 = .ok (.irem, 1) := by decide +kernel
theorem dL_law_44 : decode cL_law 44 = .ok (.iadd, 1) := by decide +kernel
theorem dL_law_45 : decode cL_law 45 = .ok (.invokestatic 26, 3) := by decide +kernel
theorem dL_law_48 : decode cL_law 48 = .ok (.istore_n 3, 1) := by decide +kernel
theorem dL_law_49 : decode cL_law 49 = .ok (.iload_n 3, 1) := by decide +kernel
theorem dL_law_50 : decode cL_law 50 = .ok (.ifCond .le 7, 3) := by decide +kernel
theorem dL_law_53 : decode cL_law 53 = .ok (.iconst 1, 1) := by decide +kernel
theorem dL_law_54 : decode cL_law 54 = .ok (.goto 4, 3) := by decide +kernel
theorem dL_law_57 : decode cL_law 57 = .ok (.iconst 0, 1) := by decide +kernel
theorem dL_law_58 : decode cL_law 58 = .ok (.istore 4, 2) := by decide +kernel
theorem dL_law_60 : decode cL_law 60 = .ok (.aload_n 0, 1) := by decide +kernel
theorem dL_law_61 : decode cL_law 61 = .ok (.iconst 2, 1) := by decide +kernel
theorem dL_law_62 : decode cL_law 62 = .ok (.invokestatic 20, 3) := by decide +kernel
theorem dL_law_65 : decode cL_law 65 = .ok (.bipush 14, 2) := by decide +kernel
theorem dL_law_67 : decode cL_law 67 = .ok (.irem, 1) := by decide +kernel
theorem dL_law_68 : decode cL_law 68 = .ok (.istore 5, 2) := by decide +kernel
theorem dL_law_70 : decode cL_law 70 = .ok (.aload_n 0, 1) := by decide +kernel
theorem dL_law_71 : decode cL_law 71 = .ok (.iconst 3, 1) := by decide +kernel
theorem dL_law_72 : decode cL_law 72 = .ok (.invokestatic 20, 3) := by decide +kernel
theorem dL_law_75 : decode cL_law 75 = .ok (.bipush 14, 2) := by decide +kernel
theorem dL_law_77 : decode cL_law 77 = .ok (.irem, 1) := by decide +kernel
theorem dL_law_78 : decode cL_law 78 = .ok (.istore 6, 2) := by decide +kernel
theorem dL_law_80 : decode cL_law 80 = .ok (.aload_n 0, 1) := by decide +kernel
theorem dL_law_81 : decode cL_law 81 = .ok (.iconst 4, 1) := by decide +kernel
theorem dL_law_82 : decode cL_law 82 = .ok (.invokestatic 20, 3) := by decide +kernel
theorem dL_law_85 : decode cL_law 85 = .ok (.bipush 14, 2) := by decide +kernel
theorem dL_law_87 : decode cL_law 87 = .ok (.irem, 1) := by decide +kernel
theorem dL_law_88 : decode cL_law 88 = .ok (.istore 7, 2) := by decide +kernel
theorem dL_law_90 : decode cL_law 90 = .ok (.iconst 0, 1) := by decide +kernel
theorem dL_law_91 : decode cL_law 91 = .ok (.istore 8, 2) := by decide +kernel
theorem dL_law_93 : decode cL_law 93 = .ok (.iload 8, 2) := by decide +kernel
theorem dL_law_95 : decode cL_law 95 = .ok (.iload 5, 2) := by decide +kernel
theorem dL_law_97 : decode cL_law 97 = .ok (.if_icmp .ge 39, 3) := by decide +kernel
theorem dL_law_100 : decode cL_law 100 = .ok (.iload 4, 2) := by decide +kernel
theorem dL_law_102 : decode cL_law 102 = .ok (.ifCond .eq 25, 3) := by decide +kernel
theorem dL_law_105 : decode cL_law 105 = .ok (.aload_n 1, 1) := by decide +kernel
theorem dL_law_106 : decode cL_law 106 = .ok (.iconst 0, 1) := by decide +kernel
theorem dL_law_107 : decode cL_law 107 = .ok (.aload_n 0, 1) := by decide +kernel
theorem dL_law_108 : decode cL_law 108 = .ok (.iconst 5, 1) := by decide +kernel
theorem dL_law_109 : decode cL_law 109 = .ok (.iload 8, 2) := by decide +kernel
theorem dL_law_111 : decode cL_law 111 = .ok (.iadd, 1) := by decide +kernel
theorem dL_law_112 : decode cL_law 112 = .ok (.invokestatic 20, 3) := by decide +kernel
theorem dL_law_115 : decode cL_law 115 = .ok (.iload_n 3, 1) := by decide +kernel
theorem dL_law_116 : decode cL_law 116 = .ok (.irem, 1) := by decide +kernel
theorem dL_law_117 : decode cL_law 117 = .ok (.invokevirtual 30, 3) := by decide +kernel
theorem dL_law_120 : decode cL_law 120 = .ok (.ifCond .le 7, 3) := by decide +kernel
theorem dL_law_123 : decode cL_law 123 = .ok (.iconst 1, 1) := by decide +kernel
theorem dL_law_124 : decode cL_law 124 = .ok (.goto 4, 3) := by decide +kernel
theorem dL_law_127 : decode cL_law 127 = .ok (.iconst 0, 1) := by decide +kernel
theorem dL_law_128 : decode cL_law 128 = .ok (.istore 4, 2) := by decide +kernel
theorem dL_law_130 : decode cL_law 130 = .ok (.iinc 8 1, 3) := by decide +kernel
theorem dL_law_133 : decode cL_law 133 = .ok (.goto (-40), 3) := by decide +kernel
theorem dL_law_136 : decode cL_law 136 = .ok (.iconst 0, 1) := by decide +kernel
theorem dL_law_137 : decode cL_law 137 = .ok (.istore 8, 2) := by decide +kernel
theorem dL_law_139 : decode cL_law 139 = .ok (.iload 8, 2) := by decide +kernel
theorem dL_law_141 : decode cL_law 141 = .ok (.iload 6, 2) := by decide +kernel
theorem dL_law_143 : decode cL_law 143 = .ok (.if_icmp .ge 40, 3) := by decide +kernel
theorem dL_law_146 : decode cL_law 146 = .ok (.iload 4, 2) := by decide +kernel
theorem dL_law_148 : decode cL_law 148 = .ok (.ifCond .eq 26, 3) := by decide +kernel
theorem dL_law_151 : decode cL_law 151 = .ok (.aload_n 1, 1) := by decide +kernel
theorem dL_law_152 : decode cL_law 152 = .ok (.iconst 1, 1) := by decide +kernel
theorem dL_law_153 : decode cL_law 153 = .ok (.aload_n 0, 1) := by decide +kernel
theorem dL_law_154 : decode cL_law 154 = .ok (.bipush 19, 2) := by decide +kernel
theorem dL_law_156 : decode cL_law 156 = .ok (.iload 8, 2) := by decide +kernel
theorem dL_law_158 : decode cL_law 158 = .ok (.iadd, 1) := by decide +kernel
theorem dL_law_159 : decode cL_law 159 = .ok (.invokestatic 20, 3) := by decide +kernel
theorem dL_law_162 : decode cL_law 162 = .ok (.iload_n 3, 1) := by decide +kernel
theorem dL_law_163 : decode cL_law 163 = .ok (.irem, 1) := by decide +kernel
theorem dL_law_164 : decode cL_law 164 = .ok (.invokevirtual 30, 3) := by decide +kernel
theorem dL_law_167 : decode cL_law 167 = .ok (.ifCond .le 7, 3) := by decide +kernel
theorem dL_law_170 : decode cL_law 170 = .ok (.iconst 1, 1) := by decide +kernel
theorem dL_law_171 : decode cL_law 171 = .ok (.goto 4, 3) := by decide +kernel
theorem dL_law_174 : decode cL_law 174 = .ok (.iconst 0, 1) := by decide +kernel
theorem dL_law_175 : decode cL_law 175 = .ok (.istore 4, 2) := by decide +kernel
theorem dL_law_177 : decode cL_law 177 = .ok (.iinc 8 1, 3) := by decide +kernel
theorem dL_law_180 : decode cL_law 180 = .ok (.goto (-41), 3) := by decide +kernel
theorem dL_law_183 : decode cL_law 183 = .ok (.iconst 0, 1) := by decide +kernel
theorem dL_law_184 : decode cL_law 184 = .ok (.istore 8, 2) := by decide +kernel
theorem dL_law_186 : decode cL_law 186 = .ok (.iload 8, 2) := by decide +kernel
theorem dL_law_188 : decode cL_law 188 = .ok (.iload 7, 2) := by decide +kernel
theorem dL_law_190 : decode cL_law 190 = .ok (.if_icmp .ge 40, 3) := by decide +kernel
theorem dL_law_193 : decode cL_law 193 = .ok (.iload 4, 2) := by decide +kernel
theorem dL_law_195 : decode cL_law 195 = .ok (.ifCond .eq 26, 3) := by decide +kernel
theorem dL_law_198 : decode cL_law 198 = .ok (.aload_n 1, 1) := by decide +kernel
theorem dL_law_199 : decode cL_law 199 = .ok (.iconst 2, 1) := by decide +kernel
theorem dL_law_200 : decode cL_law 200 = .ok (.aload_n 0, 1) := by decide +kernel
theorem dL_law_201 : decode cL_law 201 = .ok (.bipush 33, 2) := by decide +kernel
theorem dL_law_203 : decode cL_law 203 = .ok (.iload 8, 2) := by decide +kernel
theorem dL_law_205 : decode cL_law 205 = .ok (.iadd, 1) := by decide +kernel
theorem dL_law_206 : decode cL_law 206 = .ok (.invokestatic 20, 3) := by decide +kernel
theorem dL_law_209 : decode cL_law 209 = .ok (.iload_n 3, 1) := by decide +kernel
theorem dL_law_210 : decode cL_law 210 = .ok (.irem, 1) := by decide +kernel
theorem dL_law_211 : decode cL_law 211 = .ok (.invokevirtual 30, 3) := by decide +kernel
theorem dL_law_214 : decode cL_law 214 = .ok (.ifCond .le 7, 3) := by decide +kernel
theorem dL_law_217 : decode cL_law 217 = .ok (.iconst 1, 1) := by decide +kernel
theorem dL_law_218 : decode cL_law 218 = .ok (.goto 4, 3) := by decide +kernel
theorem dL_law_221 : decode cL_law 221 = .ok (.iconst 0, 1) := by decide +kernel
theorem dL_law_222 : decode cL_law 222 = .ok (.istore 4, 2) := by decide +kernel
theorem dL_law_224 : decode cL_law 224 = .ok (.iinc 8 1, 3) := by decide +kernel
theorem dL_law_227 : decode cL_law 227 = .ok (.goto (-41), 3) := by decide +kernel
theorem dL_law_230 : decode cL_law 230 = .ok (.aload_n 1, 1) := by decide +kernel
theorem dL_law_231 : decode cL_law 231 = .ok (.iconst 0, 1) := by decide +kernel
theorem dL_law_232 : decode cL_law 232 = .ok (.iconst 1, 1) := by decide +kernel
theorem dL_law_233 : decode cL_law 233 = .ok (.iconst 3, 1) := by decide +kernel
theorem dL_law_234 : decode cL_law 234 = .ok (.invokevirtual 34, 3) := by decide +kernel
theorem dL_law_237 : decode cL_law 237 = .ok (.istore 8, 2) := by decide +kernel
theorem dL_law_239 : decode cL_law 239 = .ok (.iload 4, 2) := by decide +kernel
theorem dL_law_241 : decode cL_law 241 = .ok (.ifCond .eq 164, 3) := by decide +kernel
theorem dL_law_244 : decode cL_law 244 = .ok (.iload 8, 2) := by decide +kernel
theorem dL_law_246 : decode cL_law 246 = .ok (.ifCond .lt 159, 3) := by decide +kernel
theorem dL_law_249 : decode cL_law 249 = .ok (.iload 8, 2) := by decide +kernel
theorem dL_law_251 : decode cL_law 251 = .ok (.aload_n 1, 1) := by decide +kernel
theorem dL_law_252 : decode cL_law 252 = .ok (.iconst 3, 1) := by decide +kernel
theorem dL_law_253 : decode cL_law 253 = .ok (.iconst (-1), 1) := by decide +kernel
theorem dL_law_254 : decode cL_law 254 = .ok (.invokevirtual 38, 3) := by decide +kernel
theorem dL_law_257 : decode cL_law 257 = .ok (.if_icmp .ne 148, 3) := by decide +kernel
theorem dL_law_260 : decode cL_law 260 = .ok (.aload_n 1, 1) := by decide +kernel
theorem dL_law_261 : decode cL_law 261 = .ok (.iconst 0, 1) := by decide +kernel
theorem dL_law_262 : decode cL_law 262 = .ok (.iconst 4, 1) := by decide +kernel
theorem dL_law_263 : decode cL_law 263 = .ok (.invokevirtual 41, 3) := by decide +kernel
theorem dL_law_266 : decode cL_law 266 = .ok (.iload 5, 2) := by decide +kernel
theorem dL_law_268 : decode cL_law 268 = .ok (.if_icmp .ne 137, 3) := by decide +kernel
theorem dL_law_271 : decode cL_law 271 = .ok (.aload_n 1, 1) := by decide +kernel
theorem dL_law_272 : decode cL_law 272 = .ok (.iconst 4, 1) := by decide +kernel
theorem dL_law_273 : decode cL_law 273 = .ok (.iconst 1, 1) := by decide +kernel
theorem dL_law_274 : decode cL_law 274 = .ok (.iconst 4, 1) := by decide +kernel
theorem dL_law_275 : decode cL_law 275 = .ok (.invokevirtual 44, 3) := by decide +kernel
theorem dL_law_278 : decode cL_law 278 = .ok (.iload 5, 2) := by decide +kernel
theorem dL_law_280 : decode cL_law 280 = .ok (.iload 6, 2) := by decide +kernel
theorem dL_law_282 : decode cL_law 282 = .ok (.iadd, 1) := by decide +kernel
theorem dL_law_283 : decode cL_law 283 = .ok (.if_icmp .ne 122, 3) := by decide +kernel
theorem dL_law_286 : decode cL_law 286 = .ok (.aload_n 1, 1) := by decide +kernel
theorem dL_law_287 : decode cL_law 287 = .ok (.iconst 4, 1) := by decide +kernel
theorem dL_law_288 : decode cL_law 288 = .ok (.iconst 4, 1) := by decide +kernel
theorem dL_law_289 : decode cL_law 289 = .ok (.invokevirtual 47, 3) := by decide +kernel
theorem dL_law_292 : decode cL_law 292 = .ok (.iload 8, 2) := by decide +kernel
theorem dL_law_294 : decode cL_law 294 = .ok (.if_icmp .ne 111, 3) := by decide +kernel
theorem dL_law_297 : decode cL_law 297 = .ok (.aload_n 1, 1) := by decide +kernel
theorem dL_law_298 : decode cL_law 298 = .ok (.iconst 3, 1) := by decide +kernel
theorem dL_law_299 : decode cL_law 299 = .ok (.iconst 4, 1) := by decide +kernel
theorem dL_law_300 : decode cL_law 300 = .ok (.invokevirtual 50, 3) := by decide +kernel
theorem dL_law_303 : decode cL_law 303 = .ok (.iconst 1, 1) := by decide +kernel
theorem dL_law_304 : decode cL_law 304 = .ok (.if_icmp .ne 101, 3) := by decide +kernel
theorem dL_law_307 : decode cL_law 307 = .ok (.aload_n 1, 1) := by decide +kernel
theorem dL_law_308 : decode cL_law 308 = .ok (.iconst 0, 1) := by decide +kernel
theorem dL_law_309 : decode cL_law 309 = .ok (.iconst 3, 1) := by decide +kernel
theorem dL_law_310 : decode cL_law 310 = .ok (.iconst 5, 1) := by decide +kernel
theorem dL_law_311 : decode cL_law 311 = .ok (.invokevirtual 44, 3) := by decide +kernel
theorem dL_law_314 : decode cL_law 314 = .ok (.iload 5, 2) := by decide +kernel
theorem dL_law_316 : decode cL_law 316 = .ok (.iload 8, 2) := by decide +kernel
theorem dL_law_318 : decode cL_law 318 = .ok (.iadd, 1) := by decide +kernel
theorem dL_law_319 : decode cL_law 319 = .ok (.if_icmp .ne 86, 3) := by decide +kernel
theorem dL_law_322 : decode cL_law 322 = .ok (.aload_n 1, 1) := by decide +kernel
theorem dL_law_323 : decode cL_law 323 = .ok (.iconst 5, 1) := by decide +kernel
theorem dL_law_324 : decode cL_law 324 = .ok (.iconst 1, 1) := by decide +kernel
theorem dL_law_325 : decode cL_law 325 = .ok (.invokevirtual 50, 3) := by decide +kernel
theorem dL_law_328 : decode cL_law 328 = .ok (.iconst 1, 1) := by decide +kernel
theorem dL_law_329 : decode cL_law 329 = .ok (.if_icmp .ne 76, 3) := by decide +kernel
theorem dL_law_332 : decode cL_law 332 = .ok (.aload_n 1, 1) := by decide +kernel
theorem dL_law_333 : decode cL_law 333 = .ok (.iconst 1, 1) := by decide +kernel
theorem dL_law_334 : decode cL_law 334 = .ok (.iconst 0, 1) := by decide +kernel
theorem dL_law_335 : decode cL_law 335 = .ok (.bipush 6, 2) := by decide +kernel
theorem dL_law_337 : decode cL_law 337 = .ok (.invokevirtual 34, 3) := by decide +kernel
theorem dL_law_340 : decode cL_law 340 = .ok (.iload 8, 2) := by decide +kernel
theorem dL_law_342 : decode cL_law 342 = .ok (.if_icmp .ne 63, 3) := by decide +kernel
theorem dL_law_345 : decode cL_law 345 = .ok (.aload_n 1, 1) := by decide +kernel
theorem dL_law_346 : decode cL_law 346 = .ok (.iconst 0, 1) := by decide +kernel
theorem dL_law_347 : decode cL_law 347 = .ok (.iconst 0, 1) := by decide +kernel
theorem dL_law_348 : decode cL_law 348 = .ok (.bipush 7, 2) := by decide +kernel
theorem dL_law_350 : decode cL_law 350 = .ok (.invokevirtual 34, 3) := by decide +kernel
theorem dL_law_353 : decode cL_law 353 = .ok (.ifCond .ne 52, 3) := by decide +kernel
theorem dL_law_356 : decode cL_law 356 = .ok (.aload_n 1, 1) := by decide +kernel
theorem dL_law_357 : decode cL_law 357 = .ok (.iconst 2, 1) := by decide +kernel
theorem dL_law_358 : decode cL_law 358 = .ok (.iconst 0, 1) := by decide +kernel
theorem dL_law_359 : decode cL_law 359 = .ok (.iconst 5, 1) := by decide +kernel
theorem dL_law_360 : decode cL_law 360 = .ok (.invokevirtual 44, 3) := by decide +kernel
theorem dL_law_363 : decode cL_law 363 = .ok (.iload 7, 2) := by decide +kernel
theorem dL_law_365 : decode cL_law 365 = .ok (.iload 5, 2) := by decide +kernel
theorem dL_law_367 : decode cL_law 367 = .ok (.iadd, 1) := by decide +kernel
theorem dL_law_368 : decode cL_law 368 = .ok (.if_icmp .ne 37, 3) := by decide +kernel
theorem dL_law_371 : decode cL_law 371 = .ok (.aload_n 1, 1) := by decide +kernel
theorem dL_law_372 : decode cL_law 372 = .ok (.iconst 2, 1) := by decide +kernel
theorem dL_law_373 : decode cL_law 373 = .ok (.iconst 1, 1) := by decide +kernel
theorem dL_law_374 : decode cL_law 374 = .ok (.bipush 6, 2) := by decide +kernel
theorem dL_law_376 : decode cL_law 376 = .ok (.invokevirtual 44, 3) := by decide +kernel
theorem dL_law_379 : decode cL_law 379 = .ok (.iload 7, 2) := by decide +kernel
theorem dL_law_381 : decode cL_law 381 = .ok (.iload 6, 2) := by decide +kernel
theorem dL_law_383 : decode cL_law 383 = .ok (.iadd, 1) := by decide +kernel
theorem dL_law_384 : decode cL_law 384 = .ok (.if_icmp .ne 21, 3) := by decide +kernel
theorem dL_law_387 : decode cL_law 387 = .ok (.aload_n 1, 1) := by decide +kernel
theorem dL_law_388 : decode cL_law 388 = .ok (.iconst 5, 1) := by decide +kernel
theorem dL_law_389 : decode cL_law 389 = .ok (.bipush 6, 2) := by decide +kernel
theorem dL_law_391 : decode cL_law 391 = .ok (.bipush 7, 2) := by decide +kernel
theorem dL_law_393 : decode cL_law 393 = .ok (.invokevirtual 34, 3) := by decide +kernel
theorem dL_law_396 : decode cL_law 396 = .ok (.iload 8, 2) := by decide +kernel
theorem dL_law_398 : decode cL_law 398 = .ok (.if_icmp .ne 7, 3) := by decide +kernel
theorem dL_law_401 : decode cL_law 401 = .ok (.iconst 1, 1) := by decide +kernel
theorem dL_law_402 : decode cL_law 402 = .ok (.goto 4, 3) := by decide +kernel
theorem dL_law_405 : decode cL_law 405 = .ok (.iconst 0, 1) := by decide +kernel
theorem dL_law_406 : decode cL_law 406 = .ok (.istore 4, 2) := by decide +kernel
theorem dL_law_408 : decode cL_law 408 = .ok (.iconst 0, 1) := by decide +kernel
theorem dL_law_409 : decode cL_law 409 = .ok (.istore 9, 2) := by decide +kernel
theorem dL_law_411 : decode cL_law 411 = .ok (.iload 9, 2) := by decide +kernel
theorem dL_law_413 : decode cL_law 413 = .ok (.iload 8, 2) := by decide +kernel
theorem dL_law_415 : decode cL_law 415 = .ok (.if_icmp .ge 39, 3) := by decide +kernel
theorem dL_law_418 : decode cL_law 418 = .ok (.iload 4, 2) := by decide +kernel
theorem dL_law_420 : decode cL_law 420 = .ok (.ifCond .eq 34, 3) := by decide +kernel
theorem dL_law_423 : decode cL_law 423 = .ok (.aload_n 1, 1) := by decide +kernel
theorem dL_law_424 : decode cL_law 424 = .ok (.bipush 7, 2) := by decide +kernel
theorem dL_law_426 : decode cL_law 426 = .ok (.iload 9, 2) := by decide +kernel
theorem dL_law_428 : decode cL_law 428 = .ok (.invokevirtual 38, 3) := by decide +kernel
theorem dL_law_431 : decode cL_law 431 = .ok (.aload_n 1, 1) := by decide +kernel
theorem dL_law_432 : decode cL_law 432 = .ok (.iconst 3, 1) := by decide +kernel
theorem dL_law_433 : decode cL_law 433 = .ok (.iload 9, 2) := by decide +kernel
theorem dL_law_435 : decode cL_law 435 = .ok (.invokevirtual 38, 3) := by decide +kernel
theorem dL_law_438 : decode cL_law 438 = .ok (.if_icmp .ne 7, 3) := by decide +kernel
theorem dL_law_441 : decode cL_law 441 = .ok (.iconst 1, 1) := by decide +kernel
theorem dL_law_442 : decode cL_law 442 = .ok (.goto 4, 3) := by decide +kernel
theorem dL_law_445 : decode cL_law 445 = .ok (.iconst 0, 1) := by decide +kernel
theorem dL_law_446 : decode cL_law 446 = .ok (.istore 4, 2) := by decide +kernel
theorem dL_law_448 : decode cL_law 448 = .ok (.iinc 9 1, 3) := by decide +kernel
theorem dL_law_451 : decode cL_law 451 = .ok (.goto (-40), 3) := by decide +kernel
theorem dL_law_454 : decode cL_law 454 = .ok (.iconst 0, 1) := by decide +kernel
theorem dL_law_455 : decode cL_law 455 = .ok (.istore 9, 2) := by decide +kernel
theorem dL_law_457 : decode cL_law 457 = .ok (.iload 9, 2) := by decide +kernel
theorem dL_law_459 : decode cL_law 459 = .ok (.iload 8, 2) := by decide +kernel
theorem dL_law_461 : decode cL_law 461 = .ok (.if_icmp .ge 186, 3) := by decide +kernel
theorem dL_law_464 : decode cL_law 464 = .ok (.iload 4, 2) := by decide +kernel
theorem dL_law_466 : decode cL_law 466 = .ok (.ifCond .eq 181, 3) := by decide +kernel
theorem dL_law_469 : decode cL_law 469 = .ok (.iconst 0, 1) := by decide +kernel
theorem dL_law_470 : decode cL_law 470 = .ok (.istore 10, 2) := by decide +kernel
theorem dL_law_472 : decode cL_law 472 = .ok (.iconst 0, 1) := by decide +kernel
theorem dL_law_473 : decode cL_law 473 = .ok (.istore 11, 2) := by decide +kernel
theorem dL_law_475 : decode cL_law 475 = .ok (.iload 11, 2) := by decide +kernel
theorem dL_law_477 : decode cL_law 477 = .ok (.iload_n 3, 1) := by decide +kernel
theorem dL_law_478 : decode cL_law 478 = .ok (.if_icmp .ge 59, 3) := by decide +kernel
theorem dL_law_481 : decode cL_law 481 = .ok (.aload_n 1, 1) := by decide +kernel
theorem dL_law_482 : decode cL_law 482 = .ok (.iconst 0, 1) := by decide +kernel
theorem dL_law_483 : decode cL_law 483 = .ok (.iconst 1, 1) := by decide +kernel
theorem dL_law_484 : decode cL_law 484 = .ok (.iload 9, 2) := by decide +kernel
theorem dL_law_486 : decode cL_law 486 = .ok (.iload 11, 2) := by decide +kernel
theorem dL_law_488 : decode cL_law 488 = .ok (.invokevirtual 53, 3) := by decide +kernel
theorem dL_law_491 : decode cL_law 491 = .ok (.lstore 12, 2) := by decide +kernel
theorem dL_law_493 : decode cL_law 493 = .ok (.iload 4, 2) := by decide +kernel
theorem dL_law_495 : decode cL_law 495 = .ok (.ifCond .eq 14, 3) := by decide +kernel
theorem dL_law_498 : decode cL_law 498 = .ok (.lload 12, 2) := by decide +kernel
theorem dL_law_500 : decode cL_law 500 = .ok (.lconst 0, 1) := by decide +kernel
theorem dL_law_501 : decode cL_law 501 = .ok (.lcmp, 1) := by decide +kernel
theorem dL_law_502 : decode cL_law 502 = .ok (.ifCond .lt 7, 3) := by decide +kernel
theorem dL_law_505 : decode cL_law 505 = .ok (.iconst 1, 1) := by decide +kernel
theorem dL_law_506 : decode cL_law 506 = .ok (.goto 4, 3) := by decide +kernel
theorem dL_law_509 : decode cL_law 509 = .ok (.iconst 0, 1) := by decide +kernel
theorem dL_law_510 : decode cL_law 510 = .ok (.istore 4, 2) := by decide +kernel
theorem dL_law_512 : decode cL_law 512 = .ok (.iload 10, 2) := by decide +kernel
theorem dL_law_514 : decode cL_law 514 = .ok (.ifCond .ne 10, 3) := by decide +kernel
theorem dL_law_517 : decode cL_law 517 = .ok (.lload 12, 2) := by decide +kernel
theorem dL_law_519 : decode cL_law 519 = .ok (.lconst 0, 1) := by decide +kernel
theorem dL_law_520 : decode cL_law 520 = .ok (.lcmp, 1) := by decide +kernel
theorem dL_law_521 : decode cL_law 521 = .ok (.ifCond .le 7, 3) := by decide +kernel
theorem dL_law_524 : decode cL_law 524 = .ok (.iconst 1, 1) := by decide +kernel
theorem dL_law_525 : decode cL_law 525 = .ok (.goto 4, 3) := by decide +kernel
theorem dL_law_528 : decode cL_law 528 = .ok (.iconst 0, 1) := by decide +kernel
theorem dL_law_529 : decode cL_law 529 = .ok (.istore 10, 2) := by decide +kernel
theorem dL_law_531 : decode cL_law 531 = .ok (.iinc 11 1, 3) := by decide +kernel
theorem dL_law_534 : decode cL_law 534 = .ok (.goto (-59), 3) := by decide +kernel
theorem dL_law_537 : decode cL_law 537 = .ok (.iload 4, 2) := by decide +kernel
theorem dL_law_539 : decode cL_law 539 = .ok (.ifCond .eq 12, 3) := by decide +kernel
theorem dL_law_542 : decode cL_law 542 = .ok (.iload 10, 2) := by decide +kernel
theorem dL_law_544 : decode cL_law 544 = .ok (.ifCond .eq 7, 3) := by decide +kernel
theorem dL_law_547 : decode cL_law 547 = .ok (.iconst 1, 1) := by decide +kernel
theorem dL_law_548 : decode cL_law 548 = .ok (.goto 4, 3) := by decide +kernel
theorem dL_law_551 : decode cL_law 551 = .ok (.iconst 0, 1) := by decide +kernel
theorem dL_law_552 : decode cL_law 552 = .ok (.istore 4, 2) := by decide +kernel
theorem dL_law_554 : decode cL_law 554 = .ok (.iconst 0, 1) := by decide +kernel
theorem dL_law_555 : decode cL_law 555 = .ok (.istore 11, 2) := by decide +kernel
theorem dL_law_557 : decode cL_law 557 = .ok (.iload 11, 2) := by decide +kernel
theorem dL_law_559 : decode cL_law 559 = .ok (.iload 9, 2) := by decide +kernel
theorem dL_law_561 : decode cL_law 561 = .ok (.if_icmp .ge 80, 3) := by decide +kernel
theorem dL_law_564 : decode cL_law 564 = .ok (.iload 4, 2) := by decide +kernel
theorem dL_law_566 : decode cL_law 566 = .ok (.ifCond .eq 75, 3) := by decide +kernel
theorem dL_law_569 : decode cL_law 569 = .ok (.iconst 1, 1) := by decide +kernel
theorem dL_law_570 : decode cL_law 570 = .ok (.istore 12, 2) := by decide +kernel
theorem dL_law_572 : decode cL_law 572 = .ok (.iconst 0, 1) := by decide +kernel
theorem dL_law_573 : decode cL_law 573 = .ok (.istore 13, 2) := by decide +kernel
theorem dL_law_575 : decode cL_law 575 = .ok (.iload 13, 2) := by decide +kernel
theorem dL_law_577 : decode cL_law 577 = .ok (.iload_n 3, 1) := by decide +kernel
theorem dL_law_578 : decode cL_law 578 = .ok (.if_icmp .ge 45, 3) := by decide +kernel
theorem dL_law_581 : decode cL_law 581 = .ok (.iload 12, 2) := by decide +kernel
theorem dL_law_583 : decode cL_law 583 = .ok (.ifCond .eq 31, 3) := by decide +kernel
theorem dL_law_586 : decode cL_law 586 = .ok (.aload_n 1, 1) := by decide +kernel
theorem dL_law_587 : decode cL_law 587 = .ok (.iconst 0, 1) := by decide +kernel
theorem dL_law_588 : decode cL_law 588 = .ok (.iconst 1, 1) := by decide +kernel
theorem dL_law_589 : decode cL_law 589 = .ok (.iload 11, 2) := by decide +kernel
theorem dL_law_591 : decode cL_law 591 = .ok (.iload 13, 2) := by decide +kernel
theorem dL_law_593 : decode cL_law 593 = .ok (.invokevirtual 53, 3) := by decide +kernel
theorem dL_law_596 : decode cL_law 596 = .ok (.aload_n 1, 1) := by decide +kernel
theorem dL_law_597 : decode cL_law 597 = .ok (.iconst 0, 1) := by decide +kernel
theorem dL_law_598 : decode cL_law 598 = .ok (.iconst 1, 1) := by decide +kernel
theorem dL_law_599 : decode cL_law 599 = .ok (.iload 9, 2) := by decide +kernel
theorem dL_law_601 : decode cL_law 601 = .ok (.iload 13, 2) := by decide +kernel
theorem dL_law_603 : decode cL_law 603 = .ok (.invokevirtual 53, 3) := by decide +kernel
theorem dL_law_606 : decode cL_law 606 = .ok (.lcmp, 1) := by decide +kernel
theorem dL_law_607 : decode cL_law 607 = .ok (.ifCond .ne 7, 3) := by decide +kernel
theorem dL_law_610 : decode cL_law 610 = .ok (.iconst 1, 1) := by decide +kernel
theorem dL_law_611 : decode cL_law 611 = .ok (.goto 4, 3) := by decide +kernel
theorem dL_law_614 : decode cL_law 614 = .ok (.iconst 0, 1) := by decide +kernel
theorem dL_law_615 : decode cL_law 615 = .ok (.istore 12, 2) := by decide +kernel
theorem dL_law_617 : decode cL_law 617 = .ok (.iinc 13 1, 3) := by decide +kernel
theorem dL_law_620 : decode cL_law 620 = .ok (.goto (-45), 3) := by decide +kernel
theorem dL_law_623 : decode cL_law 623 = .ok (.iload 12, 2) := by decide +kernel
theorem dL_law_625 : decode cL_law 625 = .ok (.ifCond .ne 7, 3) := by decide +kernel
theorem dL_law_628 : decode cL_law 628 = .ok (.iconst 1, 1) := by decide +kernel
theorem dL_law_629 : decode cL_law 629 = .ok (.goto 4, 3) := by decide +kernel
theorem dL_law_632 : decode cL_law 632 = .ok (.iconst 0, 1) := by decide +kernel
theorem dL_law_633 : decode cL_law 633 = .ok (.istore 4, 2) := by decide +kernel
theorem dL_law_635 : decode cL_law 635 = .ok (.iinc 11 1, 3) := by decide +kernel
theorem dL_law_638 : decode cL_law 638 = .ok (.goto (-81), 3) := by decide +kernel
theorem dL_law_641 : decode cL_law 641 = .ok (.iinc 9 1, 3) := by decide +kernel
theorem dL_law_644 : decode cL_law 644 = .ok (.goto (-187), 3) := by decide +kernel
theorem dL_law_647 : decode cL_law 647 = .ok (.iconst 0, 1) := by decide +kernel
theorem dL_law_648 : decode cL_law 648 = .ok (.istore 9, 2) := by decide +kernel
theorem dL_law_650 : decode cL_law 650 = .ok (.iload 9, 2) := by decide +kernel
theorem dL_law_652 : decode cL_law 652 = .ok (.iload 8, 2) := by decide +kernel
theorem dL_law_654 : decode cL_law 654 = .ok (.if_icmp .ge 103, 3) := by decide +kernel
theorem dL_law_657 : decode cL_law 657 = .ok (.iload 9, 2) := by decide +kernel
theorem dL_law_659 : decode cL_law 659 = .ok (.bipush 6, 2) := by decide +kernel
theorem dL_law_661 : decode cL_law 661 = .ok (.if_icmp .ge 96, 3) := by decide +kernel
theorem dL_law_664 : decode cL_law 664 = .ok (.iload 4, 2) := by decide +kernel
theorem dL_law_666 : decode cL_law 666 = .ok (.ifCond .eq 91, 3) := by decide +kernel
theorem dL_law_669 : decode cL_law 669 = .ok (.iconst 0, 1) := by decide +kernel
theorem dL_law_670 : decode cL_law 670 = .ok (.istore 10, 2) := by decide +kernel
theorem dL_law_672 : decode cL_law 672 = .ok (.iconst 0, 1) := by decide +kernel
theorem dL_law_673 : decode cL_law 673 = .ok (.istore 11, 2) := by decide +kernel
theorem dL_law_675 : decode cL_law 675 = .ok (.iload 11, 2) := by decide +kernel
theorem dL_law_677 : decode cL_law 677 = .ok (.iload 8, 2) := by decide +kernel
theorem dL_law_679 : decode cL_law 679 = .ok (.if_icmp .ge 68, 3) := by decide +kernel
theorem dL_law_682 : decode cL_law 682 = .ok (.iload 10, 2) := by decide +kernel
theorem dL_law_684 : decode cL_law 684 = .ok (.ifCond .ne 63, 3) := by decide +kernel
theorem dL_law_687 : decode cL_law 687 = .ok (.iconst 1, 1) := by decide +kernel
theorem dL_law_688 : decode cL_law 688 = .ok (.istore 10, 2) := by decide +kernel
theorem dL_law_690 : decode cL_law 690 = .ok (.iconst 0, 1) := by decide +kernel
theorem dL_law_691 : decode cL_law 691 = .ok (.istore 12, 2) := by decide +kernel
theorem dL_law_693 : decode cL_law 693 = .ok (.iload 12, 2) := by decide +kernel
theorem dL_law_695 : decode cL_law 695 = .ok (.iload_n 3, 1) := by decide +kernel
theorem dL_law_696 : decode cL_law 696 = .ok (.if_icmp .ge 45, 3) := by decide +kernel
theorem dL_law_699 : decode cL_law 699 = .ok (.iload 10, 2) := by decide +kernel
theorem dL_law_701 : decode cL_law 701 = .ok (.ifCond .eq 40, 3) := by decide +kernel
theorem dL_law_704 : decode cL_law 704 = .ok (.aload_n 1, 1) := by decide +kernel
theorem dL_law_705 : decode cL_law 705 = .ok (.iconst 1, 1) := by decide +kernel
theorem dL_law_706 : decode cL_law 706 = .ok (.iconst 0, 1) := by decide +kernel
theorem dL_law_707 : decode cL_law 707 = .ok (.iload 11, 2) := by decide +kernel
theorem dL_law_709 : decode cL_law 709 = .ok (.iload 12, 2) := by decide +kernel
theorem dL_law_711 : decode cL_law 711 = .ok (.invokevirtual 53, 3) := by decide +kernel
theorem dL_law_714 : decode cL_law 714 = .ok (.aload_n 1, 1) := by decide +kernel
theorem dL_law_715 : decode cL_law 715 = .ok (.iconst 0, 1) := by decide +kernel
theorem dL_law_716 : decode cL_law 716 = .ok (.iconst 1, 1) := by decide +kernel
theorem dL_law_717 : decode cL_law 717 = .ok (.iload 9, 2) := by decide +kernel
theorem dL_law_719 : decode cL_law 719 = .ok (.iload 12, 2) := by decide +kernel
theorem dL_law_721 : decode cL_law 721 = .ok (.invokevirtual 53, 3) := by decide +kernel
theorem dL_law_724 : decode cL_law 724 = .ok (.lcmp, 1) := by decide +kernel
theorem dL_law_725 : decode cL_law 725 = .ok (.ifCond .ne 7, 3) := by decide +kernel
theorem dL_law_728 : decode cL_law 728 = .ok (.iconst 1, 1) := by decide +kernel
theorem dL_law_729 : decode cL_law 729 = .ok (.goto 4, 3) := by decide +kernel
theorem dL_law_732 : decode cL_law 732 = .ok (.iconst 0, 1) := by decide +kernel
theorem dL_law_733 : decode cL_law 733 = .ok (.istore 10, 2) := by decide +kernel
theorem dL_law_735 : decode cL_law 735 = .ok (.iinc 12 1, 3) := by decide +kernel
theorem dL_law_738 : decode cL_law 738 = .ok (.goto (-45), 3) := by decide +kernel
theorem dL_law_741 : decode cL_law 741 = .ok (.iinc 11 1, 3) := by decide +kernel
theorem dL_law_744 : decode cL_law 744 = .ok (.goto (-69), 3) := by decide +kernel
theorem dL_law_747 : decode cL_law 747 = .ok (.iload 10, 2) := by decide +kernel
theorem dL_law_749 : decode cL_law 749 = .ok (.istore 4, 2) := by decide +kernel
theorem dL_law_751 : decode cL_law 751 = .ok (.iinc 9 1, 3) := by decide +kernel
theorem dL_law_754 : decode cL_law 754 = .ok (.goto (-104), 3) := by decide +kernel
theorem dL_law_757 : decode cL_law 757 = .ok (.iload 4, 2) := by decide +kernel
theorem dL_law_759 : decode cL_law 759 = .ok (.ifCond .eq 53, 3) := by decide +kernel
theorem dL_law_762 : decode cL_law 762 = .ok (.aload_n 1, 1) := by decide +kernel
theorem dL_law_763 : decode cL_law 763 = .ok (.iconst 0, 1) := by decide +kernel
theorem dL_law_764 : decode cL_law 764 = .ok (.iconst 1, 1) := by decide +kernel
theorem dL_law_765 : decode cL_law 765 = .ok (.iload 8, 2) := by decide +kernel
theorem dL_law_767 : decode cL_law 767 = .ok (.iconst 0, 1) := by decide +kernel
theorem dL_law_768 : decode cL_law 768 = .ok (.invokevirtual 53, 3) := by decide +kernel
theorem dL_law_771 : decode cL_law 771 = .ok (.ldc2_w 57, 3) := by decide +kernel
theorem dL_law_774 : decode cL_law 774 = .ok (.lcmp, 1) := by decide +kernel
theorem dL_law_775 : decode cL_law 775 = .ok (.ifCond .ne 37, 3) := by decide +kernel
theorem dL_law_778 : decode cL_law 778 = .ok (.aload_n 1, 1) := by decide +kernel
theorem dL_law_779 : decode cL_law 779 = .ok (.iconst 0, 1) := by decide +kernel
theorem dL_law_780 : decode cL_law 780 = .ok (.iconst 1, 1) := by decide +kernel
theorem dL_law_781 : decode cL_law 781 = .ok (.iconst (-1), 1) := by decide +kernel
theorem dL_law_782 : decode cL_law 782 = .ok (.iconst 0, 1) := by decide +kernel
theorem dL_law_783 : decode cL_law 783 = .ok (.invokevirtual 53, 3) := by decide +kernel
theorem dL_law_786 : decode cL_law 786 = .ok (.ldc2_w 57, 3) := by decide +kernel
theorem dL_law_789 : decode cL_law 789 = .ok (.lcmp, 1) := by decide +kernel
theorem dL_law_790 : decode cL_law 790 = .ok (.ifCond .ne 22, 3) := by decide +kernel
theorem dL_law_793 : decode cL_law 793 = .ok (.aload_n 1, 1) := by decide +kernel
theorem dL_law_794 : decode cL_law 794 = .ok (.iconst 0, 1) := by decide +kernel
theorem dL_law_795 : decode cL_law 795 = .ok (.iconst 1, 1) := by decide +kernel
theorem dL_law_796 : decode cL_law 796 = .ok (.iconst 0, 1) := by decide +kernel
theorem dL_law_797 : decode cL_law 797 = .ok (.iload_n 3, 1) := by decide +kernel
theorem dL_law_798 : decode cL_law 798 = .ok (.invokevirtual 53, 3) := by decide +kernel
theorem dL_law_801 : decode cL_law 801 = .ok (.ldc2_w 57, 3) := by decide +kernel
theorem dL_law_804 : decode cL_law 804 = .ok (.lcmp, 1) := by decide +kernel
theorem dL_law_805 : decode cL_law 805 = .ok (.ifCond .ne 7, 3) := by decide +kernel
theorem dL_law_808 : decode cL_law 808 = .ok (.iconst 1, 1) := by decide +kernel
theorem dL_law_809 : decode cL_law 809 = .ok (.goto 4, 3) := by decide +kernel
theorem dL_law_812 : decode cL_law 812 = .ok (.iconst 0, 1) := by decide +kernel
theorem dL_law_813 : decode cL_law 813 = .ok (.ireturn, 1) := by decide +kernel
