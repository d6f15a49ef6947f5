set_option maxRecDepth 20000 in
theorem ggX11_init_X11_clears : GoodIn wsX11_init wsX11_clears := goodIn_r _ [30, 31, 25, 32, 14, 48, 49, 50, 51, 52, 53, 54, 55, 56, 57, 58, 59, 60, 61, 62, 63, 64, 65, 66, 67, 68, 69, 70, 71, 72, 73, 74, 75, 76, 77, 78, 79] rfl (by decide +kernel)
set_option maxRecDepth 20000 in
theorem gX11_init_X11_clears : GoodIn wsX11_init (wsV RX11 68 RX11 yX11_clears wsX11_clears) := goodIn_app (goodIn_of _ (by decide +kernel)) ggX11_init_X11_clears
set_option maxRecDepth 20000 in
theorem ggX11_init_X11_comes : GoodIn wsX11_init wsX11_comes := goodIn_r _ [36, 10, 32, 11, 12, 13, 14, 48, 49, 50, 51, 52, 53, 54, 55, 56, 57, 58, 59, 60, 61, 62, 63, 64, 65, 66, 67, 68, 69, 70, 71, 72, 73, 74, 75, 76, 77, 78, 79] rfl (by decide +kernel)
set_option maxRecDepth 20000 in
theorem gX11_init_X11_comes : GoodIn wsX11_init (wsV RX11 71 RX11 yX11_comes wsX11_comes) := goodIn_app (goodIn_of _ (by decide +kernel)) ggX11_init_X11_comes
set_option maxRecDepth 20000 in
theorem ggX11_init_X11_settles : GoodIn wsX11_init wsX11_settles := goodIn_r _ [40, 31, 41, 25, 42, 32, 43, 5, 10, 6, 11, 7, 12, 8, 13, 9, 44, 45, 46, 29, 47, 14, 48, 49, 50, 51, 52, 53, 54, 55, 56, 57, 58, 59, 60, 61, 62, 63, 64, 65, 66, 67, 68, 69, 70, 71, 72, 73, 74, 75, 76, 77, 78, 79] rfl (by decide +kernel)
set_option maxRecDepth 20000 in
theorem gX11_init_X11_settles : GoodIn wsX11_init (wsV RX11 79 RX11 yX11_settles wsX11_settles) := goodIn_app (goodIn_of _ (by decide +kernel)) ggX11_init_X11_settles
theorem dX11_init_0 : decode cX11_init 0 = .ok (.aload_n 0, 1) := by decide +kernel
theorem dX11_init_1 : decode cX11_init 1 = .ok (.invokespecial 1, 3) := by decide +kernel
theorem dX11_init_4 : decode cX11_init 4 = .ok (.aload_n 0, 1) := by decide +kernel
theorem dX11_init_5 : decode cX11_init 5 = .ok (.bipush 8, 2) := by decide +kernel
theorem dX11_init_7 : decode cX11_init 7 = .ok (.newarray .int, 2) := by decide +kernel
theorem dX11_init_9 : decode cX11_init 9 = .ok (.putfield 7, 3) := by decide +kernel
theorem dX11_init_12 : decode cX11_init 12 = .ok (.aload_n 0, 1) := by decide +kernel
theorem dX11_init_13 : decode cX11_init 13 = .ok (.bipush 8, 2) := by decide +kernel
theorem dX11_init_15 : decode cX11_init 15 = .ok (.newarray .int, 2) := by decide +kernel
theorem dX11_init_17 : decode cX11_init 17 = .ok (.putfield 13, 3) := by decide +kernel
theorem dX11_init_20 : decode cX11_init 20 = .ok (.aload_n 0, 1) := by decide +kernel
theorem dX11_init_21 : decode cX11_init 21 = .ok (.bipush 8, 2) := by decide +kernel
theorem dX11_init_23 : decode cX11_init 23 = .ok (.newarray .int, 2) := by decide +kernel
theorem dX11_init_25 : decode cX11_init 25 = .ok (.putfield 16, 3) := by decide +kernel
theorem dX11_init_28 : decode cX11_init 28 = .ok (.aload_n 0, 1) := by decide +kernel
theorem dX11_init_29 : decode cX11_init 29 = .ok (.bipush 8, 2) := by decide +kernel
theorem dX11_init_31 : decode cX11_init 31 = .ok (.newarray .int, 2) := by decide +kernel
theorem dX11_init_33 : decode cX11_init 33 = .ok (.putfield 19, 3) := by decide +kernel
theorem dX11_init_36 : decode cX11_init 36 = .ok (.aload_n 0, 1) := by decide +kernel
theorem dX11_init_37 : decode cX11_init 37 = .ok (.bipush 8, 2) := by decide +kernel
theorem dX11_init_39 : decode cX11_init 39 = .ok (.newarray .int, 2) := by decide +kernel
theorem dX11_init_41 : decode cX11_init 41 = .ok (.putfield 22, 3) := by decide +kernel
theorem dX11_init_44 : decode cX11_init 44 = .ok (.aload_n 0, 1) := by decide +kernel
theorem dX11_init_45 : decode cX11_init 45 = .ok (.bipush 8, 2) := by decide +kernel
theorem dX11_init_47 : decode cX11_init 47 = .ok (.newarray .int, 2) := by decide +kernel
theorem dX11_init_49 : decode cX11_init 49 = .ok (.putfield 25, 3) := by decide +kernel
theorem dX11_init_52 : decode cX11_init 52 = .ok (.aload_n 0, 1) := by decide +kernel
theorem dX11_init_53 : decode cX11_init 53 = .ok (.bipush 8, 2) := by decide +kernel
theorem dX11_init_55 : decode cX11_init 55 = .ok (.newarray .int, 2) := by decide +kernel
theorem dX11_init_57 : decode cX11_init 57 = .ok (.putfield 28, 3) := by decide +kernel
theorem dX11_init_60 : decode cX11_init 60 = .ok (.aload_n 0, 1) := by decide +kernel
theorem dX11_init_61 : decode cX11_init 61 = .ok (.bipush 8, 2) := by decide +kernel
theorem dX11_init_63 : decode cX11_init 63 = .ok (.newarray .int, 2) := by decide +kernel
theorem dX11_init_65 : decode cX11_init 65 = .ok (.putfield 31, 3) := by decide +kernel
theorem dX11_init_68 : decode cX11_init 68 = .ok (.aload_n 0, 1) := by decide +kernel
theorem dX11_init_69 : decode cX11_init 69 = .ok (.bipush 8, 2) := by decide +kernel
theorem dX11_init_71 : decode cX11_init 71 = .ok (.newarray .int, 2) := by decide +kernel
theorem dX11_init_73 : decode cX11_init 73 = .ok (.putfield 34, 3) := by decide +kernel
theorem dX11_init_76 : decode cX11_init 76 = .ok (.aload_n 0, 1) := by decide +kernel
theorem dX11_init_77 : decode cX11_init 77 = .ok (.sipush 336, 3) := by decide +kernel
theorem dX11_init_80 : decode cX11_init 80 = .ok (.newarray .int, 2) := by decide +kernel
theorem dX11_init_82 : decode cX11_init 82 = .ok (.putfield 37, 3) := by decide +kernel
theorem dX11_init_85 : decode cX11_init 85 = .ok (.aload_n 0, 1) := by decide +kernel
theorem dX11_init_86 : decode cX11_init 86 = .ok (.sipush 200, 3) := by decide +kernel
theorem dX11_init_89 : decode cX11_init 89 = .ok (.newarray .byte, 2) := by decide +kernel
theorem dX11_init_91 : decode cX11_init 91 = .ok (.putfield 40, 3) := by decide +kernel
theorem dX11_init_94 : decode cX11_init 94 = .ok (.aload_n 0, 1) := by decide +kernel
theorem dX11_init_95 : decode cX11_init 95 = .ok (.bipush 6, 2) := by decide +kernel
theorem dX11_init_97 : decode cX11_init 97 = .ok (.newarray .int, 2) := by decide +kernel
theorem dX11_init_99 : decode cX11_init 99 = .ok (.putfield 44, 3) := by decide +kernel
theorem dX11_init_102 : decode cX11_init 102 = .ok (.aload_n 0, 1) := by decide +kernel
theorem dX11_init_103 : decode cX11_init 103 = .ok (.bipush 6, 2) := by decide +kernel
theorem dX11_init_105 : decode cX11_init 105 = .ok (.newarray .int, 2) := by decide +kernel
theorem dX11_init_107 : decode cX11_init 107 = .ok (.putfield 47, 3) := by decide +kernel
theorem dX11_init_110 : decode cX11_init 110 = .ok (.aload_n 0, 1) := by decide +kernel
theorem dX11_init_111 : decode cX11_init 111 = .ok (.bipush 8, 2) := by decide +kernel
theorem dX11_init_113 : decode cX11_init 113 = .ok (.newarray .int, 2) := by decide +kernel
theorem dX11_init_115 : decode cX11_init 115 = .ok (.putfield 50, 3) := by decide +kernel
theorem dX11_init_118 : decode cX11_init 118 = .ok (.aload_n 0, 1) := by decide +kernel
theorem dX11_init_119 : decode cX11_init 119 = .ok (.sipush 512, 3) := by decide +kernel
theorem dX11_init_122 : decode cX11_init 122 = .ok (.newarray .int, 2) := by decide +kernel
theorem dX11_init_124 : decode cX11_init 124 = .ok (.putfield 53, 3) := by decide +kernel
theorem dX11_init_127 : decode cX11_init 127 = .ok (.aload_n 0, 1) := by decide +kernel
theorem dX11_init_128 : decode cX11_init 128 = .ok (.bipush 90, 2) := by decide +kernel
theorem dX11_init_130 : decode cX11_init 130 = .ok (.newarray .int, 2) := by decide +kernel
theorem dX11_init_132 : decode cX11_init 132 = .ok (.putfield 56, 3) := by decide +kernel
theorem dX11_init_135 : decode cX11_init 135 = .ok (.aload_n 0, 1) := by decide +kernel
theorem dX11_init_136 : decode cX11_init 136 = .ok (.sipush 1000, 3) := by decide +kernel
theorem dX11_init_139 : decode cX11_init 139 = .ok (.newarray .int, 2) := by decide +kernel
theorem dX11_init_141 : decode cX11_init 141 = .ok (.putfield 59, 3) := by decide +kernel
theorem dX11_init_144 : decode cX11_init 144 = .ok (.aload_n 0, 1) := by decide +kernel
theorem dX11_init_145 : decode cX11_init 145 = .ok (.sipush 1000, 3) := by decide +kernel
theorem dX11_init_148 : decode cX11_init 148 = .ok (.newarray .int, 2) := by decide +kernel
theorem dX11_init_150 : decode cX11_init 150 = .ok (.putfield 62, 3) := by decide +kernel
theorem dX11_init_153 : decode cX11_init 153 = .ok (.aload_n 0, 1) := by decide +kernel
theorem dX11_init_154 : decode cX11_init 154 = .ok (.bipush 9, 2) := by decide +kernel
theorem dX11_init_156 : decode cX11_init 156 = .ok (.newarray .int, 2) := by decide +kernel
theorem dX11_init_158 : decode cX11_init 158 = .ok (.putfield 65, 3) := by decide +kernel
theorem dX11_init_161 : decode cX11_init 161 = .ok (.aload_n 0, 1) := by decide +kernel
theorem dX11_init_162 : decode cX11_init 162 = .ok (.invokevirtual 68, 3) := by decide +kernel
theorem dX11_init_165 : decode cX11_init 165 = .ok (.aload_n 0, 1) := by decide +kernel
theorem dX11_init_166 : decode cX11_init 166 = .ok (.iconst 0, 1) := by decide +kernel
theorem dX11_init_167 : decode cX11_init 167 = .ok (.iconst 0, 1) := by decide +kernel
theorem dX11_init_168 : decode cX11_init 168 = .ok (.bipush 9, 2) := by decide +kernel
theorem dX11_init_170 : decode cX11_init 170 = .ok (.iconst 2, 1) := by decide +kernel
theorem dX11_init_171 : decode cX11_init 171 = .ok (.bipush 8, 2) := by decide +kernel
theorem dX11_init_173 : decode cX11_init 173 = .ok (.invokevirtual 71, 3) := by decide +kernel
theorem dX11_init_176 : decode cX11_init 176 = .ok (.aload_n 0, 1) := by decide +kernel
theorem dX11_init_177 : decode cX11_init 177 = .ok (.iconst 1, 1) := by decide +kernel
theorem dX11_init_178 : decode cX11_init 178 = .ok (.iconst 0, 1) := by decide +kernel
theorem dX11_init_179 : decode cX11_init 179 = .ok (.bipush 15, 2) := by decide +kernel
theorem dX11_init_181 : decode cX11_init 181 = .ok (.iconst 4, 1) := by decide +kernel
theorem dX11_init_182 : decode cX11_init 182 = .ok (.bipush 6, 2) := by decide +kernel
theorem dX11_init_184 : decode cX11_init 184 = .ok (.invokevirtual 71, 3) := by decide +kernel
theorem dX11_init_187 : decode cX11_init 187 = .ok (.aload_n 0, 1) := by decide +kernel
theorem dX11_init_188 : decode cX11_init 188 = .ok (.iconst 2, 1) := by decide +kernel
theorem dX11_init_189 : decode cX11_init 189 = .ok (.iconst 2, 1) := by decide +kernel
theorem dX11_init_190 : decode cX11_init 190 = .ok (.bipush 7, 2) := by decide +kernel
theorem dX11_init_192 : decode cX11_init 192 = .ok (.iconst 3, 1) := by decide +kernel
theorem dX11_init_193 : decode cX11_init 193 = .ok (.iconst 5, 1) := by decide +kernel
theorem dX11_init_194 : decode cX11_init 194 = .ok (.invokevirtual 71, 3) := by decide +kernel
theorem dX11_init_197 : decode cX11_init 197 = .ok (.aload_n 0, 1) := by decide +kernel
theorem dX11_init_198 : decode cX11_init 198 = .ok (.iconst 0, 1) := by decide +kernel
theorem dX11_init_199 : decode cX11_init 199 = .ok (.iconst 2, 1) := by decide +kernel
theorem dX11_init_200 : decode cX11_init 200 = .ok (.iconst 4, 1) := by decide +kernel
theorem dX11_init_201 : decode cX11_init 201 = .ok (.iconst 1, 1) := by decide +kernel
theorem dX11_init_202 : decode cX11_init 202 = .ok (.bipush 9, 2) := by decide +kernel
theorem dX11_init_204 : decode cX11_init 204 = .ok (.invokevirtual 71, 3) := by decide +kernel
theorem dX11_init_207 : decode cX11_init 207 = .ok (.aload_n 0, 1) := by decide +kernel
theorem dX11_init_208 : decode cX11_init 208 = .ok (.iconst 3, 1) := by decide +kernel
theorem dX11_init_209 : decode cX11_init 209 = .ok (.iconst 3, 1) := by decide +kernel
theorem dX11_init_210 : decode cX11_init 210 = .ok (.bipush 11, 2) := by decide +kernel
theorem dX11_init_212 : decode cX11_init 212 = .ok (.iconst 2, 1) := by decide +kernel
theorem dX11_init_213 : decode cX11_init 213 = .ok (.bipush 7, 2) := by decide +kernel
theorem dX11_init_215 : decode cX11_init 215 = .ok (.invokevirtual 71, 3) := by decide +kernel
theorem dX11_init_218 : decode cX11_init 218 = .ok (.aload_n 0, 1) := by decide +kernel
theorem dX11_init_219 : decode cX11_init 219 = .ok (.iconst 0, 1) := by decide +kernel
theorem dX11_init_220 : decode cX11_init 220 = .ok (.iconst 4, 1) := by decide +kernel
theorem dX11_init_221 : decode cX11_init 221 = .ok (.bipush 20, 2) := by decide +kernel
theorem dX11_init_223 : decode cX11_init 223 = .ok (.iconst 5, 1) := by decide +kernel
theorem dX11_init_224 : decode cX11_init 224 = .ok (.bipush 10, 2) := by decide +kernel
theorem dX11_init_226 : decode cX11_init 226 = .ok (.invokevirtual 71, 3) := by decide +kernel
theorem dX11_init_229 : decode cX11_init 229 = .ok (.aload_n 0, 1) := by decide +kernel
theorem dX11_init_230 : decode cX11_init 230 = .ok (.getfield 37, 3) := by decide +kernel
theorem dX11_init_233 : decode cX11_init 233 = .ok (.sipush 328, 3) := by decide +kernel
theorem dX11_init_236 : decode cX11_init 236 = .ok (.iconst 2, 1) := by decide +kernel
theorem dX11_init_237 : decode cX11_init 237 = .ok (.iastore, 1) := by decide +kernel
theorem dX11_init_238 : decode cX11_init 238 = .ok (.aload_n 0, 1) := by decide +kernel
theorem dX11_init_239 : decode cX11_init 239 = .ok (.getfield 37, 3) := by decide +kernel
theorem dX11_init_242 : decode cX11_init 242 = .ok (.sipush 329, 3) := by decide +kernel
theorem dX11_init_245 : decode cX11_init 245 = .ok (.iconst 1, 1) := by decide +kernel
theorem dX11_init_246 : decode cX11_init 246 = .ok (.iastore, 1) := by decide +kernel
theorem dX11_init_247 : decode cX11_init 247 = .ok (.aload_n 0, 1) := by decide +kernel
theorem dX11_init_248 : decode cX11_init 248 = .ok (.getfield 37, 3) := by decide +kernel
theorem dX11_init_251 : decode cX11_init 251 = .ok (.sipush 317, 3) := by decide +kernel
theorem dX11_init_254 : decode cX11_init 254 = .ok (.iconst 5, 1) := by decide +kernel
theorem dX11_init_255 : decode cX11_init 255 = .ok (.iastore, 1) := by decide +kernel
theorem dX11_init_256 : decode cX11_init 256 = .ok (.aload_n 0, 1) := by decide +kernel
theorem dX11_init_257 : decode cX11_init 257 = .ok (.getfield 37, 3) := by decide +kernel
theorem dX11_init_260 : decode cX11_init 260 = .ok (.sipush 319, 3) := by decide +kernel
theorem dX11_init_263 : decode cX11_init 263 = .ok (.bipush 6, 2) := by decide +kernel
theorem dX11_init_265 : decode cX11_init 265 = .ok (.iastore, 1) := by decide +kernel
theorem dX11_init_266 : decode cX11_init 266 = .ok (.aload_n 0, 1) := by decide +kernel
theorem dX11_init_267 : decode cX11_init 267 = .ok (.getfield 37, 3) := by decide +kernel
theorem dX11_init_270 : decode cX11_init 270 = .ok (.sipush 320, 3) := by decide +kernel
theorem dX11_init_273 : decode cX11_init 273 = .ok (.iconst 2, 1) := by decide +kernel
theorem dX11_init_274 : decode cX11_init 274 = .ok (.iastore, 1) := by decide +kernel
theorem dX11_init_275 : decode cX11_init 275 = .ok (.aload_n 0, 1) := by decide +kernel
theorem dX11_init_276 : decode cX11_init 276 = .ok (.getfield 37, 3) := by decide +kernel
theorem dX11_init_279 : decode cX11_init 279 = .ok (.sipush 321, 3) := by decide +kernel
theorem dX11_init_282 : decode cX11_init 282 = .ok (.iconst 3, 1) := by decide +kernel
theorem dX11_init_283 : decode cX11_init 283 = .ok (.iastore, 1) := by decide +kernel
theorem dX11_init_284 : decode cX11_init 284 = .ok (.aload_n 0, 1) := by decide +kernel
theorem dX11_init_285 : decode cX11_init 285 = .ok (.bipush 9, 2) := by decide +kernel
theorem dX11_init_287 : decode cX11_init 287 = .ok (.putfield 75, 3) := by decide +kernel
theorem dX11_init_290 : decode cX11_init 290 = .ok (.aload_n 0, 1) := by decide +kernel
theorem dX11_init_291 : decode cX11_init 291 = .ok (.invokevirtual 79, 3) := by decide +kernel
theorem dX11_init_294 : decode cX11_init 294 = .ok (.return_, 1) := by decide +kernel
theorem dX11_in_0 : decode cX11_in 0 = .ok (.lload_n 0, 1) := by decide +kernel
theorem dX11_in_1 : decode cX11_in 1 = .ok (.lload_n 2, 1) := by decide +kernel
theorem dX11_in_2 : decode cX11_in 2 = .ok (.lcmp, 1) := by decide +kernel
theorem dX11_in_3 : decode cX11_in 3 = .ok (.ifCond .lt 14, 3) := by decide +kernel
theorem dX11_in_6 : decode cX11_in 6 = .ok (.lload_n 0, 1) := by decide +kernel
theorem dX11_in_7 : decode cX11_in 7 = .ok (.lload 4, 2) := by decide +kernel
theorem dX11_in_9 : decode cX11_in 9 = .ok (.lcmp, 1) := by decide +kernel
theorem dX11_in_10 : decode cX11_in 10 = .ok (.ifCond .gt 7, 3) := by decide +kernel
theorem dX11_in_13 : decode cX11_in 13 = .ok (.iconst 1, 1) := by decide +kernel
theorem dX11_in_14 : decode cX11_in 14 = .ok (.goto 4, 3) := by decide +kernel
theorem dX11_in_17 : decode cX11_in 17 = .ok (.iconst 0, 1) := by decide +kernel
theorem dX11_in_18 : decode cX11_in 18 = .ok (.ireturn, 1) := by decide +kernel
theorem dX11_has_0 : decode cX11_has 0 = .ok (.iload_n 0, 1) := by decide +kernel
theorem dX11_has_1 : decode cX11_has 1 = .ok (.iload_n 1, 1) := by decide +kernel
theorem dX11_has_2 : decode cX11_has 2 = .ok (.ishr, 1) := by decide +kernel
theorem dX11_has_3 : decode cX11_has 3 = .ok (.iconst 1, 1) := by decide +kernel
theorem dX11_has_4 : decode cX11_has 4 = .ok (.iand, 1) := by decide +kernel
theorem dX11_has_5 : decode cX11_has 5 = .ok (.iconst 1, 1) := by decide +kernel
theorem dX11_has_6 : decode cX11_has 6 = .ok (.if_icmp .ne 7, 3) := by decide +kernel
theorem dX11_has_9 : decode cX11_has 9 = .ok (.iconst 1, 1) := by decide +kernel
theorem dX11_has_10 : decode cX11_has 10 = .ok (.goto 4, 3) := by decide +kernel
theorem dX11_has_13 : decode cX11_has 13 = .ok (.iconst 0, 1) := by decide +kernel
theorem dX11_has_14 : decode cX11_has 14 = .ok (.ireturn, 1) := by decide +kernel
theorem dX11_smaller_0 : decode cX11_smaller 0 = .ok (.iload_n 0, 1) := by decide +kernel
theorem dX11_smaller_1 : decode cX11_smaller 1 = .ok (.iload_n 1, 1) := by decide +kernel
theorem dX11_smaller_2 : decode cX11_smaller 2 = .ok (.if_icmp .ge 7, 3) := by decide +kernel
theorem dX11_smaller_5 : decode cX11_smaller 5 = .ok (.iload_n 0, 1) := by decide +kernel
theorem dX11_smaller_6 : decode cX11_smaller 6 = .ok (.goto 4, 3) := by decide +kernel
theorem dX11_smaller_9 : decode cX11_smaller 9 = .ok (.iload_n 1, 1) := by decide +kernel
theorem dX11_smaller_10 : decode cX11_smaller 10 = .ok (.ireturn, 1) := by decide +kernel
theorem dX11_larger_0 : decode cX11_larger 0 = .ok (.iload_n 0, 1) := by decide +kernel
theorem dX11_larger_1 : decode cX11_larger 1 = .ok (.iload_n 1, 1) := by decide +kernel
theorem dX11_larger_2 : decode cX11_larger 2 = .ok (.if_icmp .ge 7, 3) := by decide +kernel
theorem dX11_larger_5 : decode cX11_larger 5 = .ok (.iload_n 1, 1) := by decide +kernel
theorem dX11_larger_6 : decode cX11_larger 6 = .ok (.goto 4, 3) := by decide +kernel
theorem dX11_larger_9 : decode cX11_larger 9 = .ok (.iload_n 0, 1) := by decide +kernel
theorem dX11_larger_10 : decode cX11_larger 10 = .ok (.ireturn, 1) := by decide +kernel
theorem dX11_clears_0 : decode cX11_clears 0 = .ok (.aload_n 0, 1) := by decide +kernel
theorem dX11_clears_1 : decode cX11_clears 1 = .ok (.iconst 5, 1) := by decide +kernel
theorem dX11_clears_2 : decode cX11_clears 2 = .ok (.putfield 82, 3) := by decide +kernel
theorem dX11_clears_5 : decode cX11_clears 5 = .ok (.aload_n 0, 1) := by decide +kernel
theorem dX11_clears_6 : decode cX11_clears 6 = .ok (.bipush 20, 2) := by decide +kernel
theorem dX11_clears_8 : decode cX11_clears 8 = .ok (.putfield 75, 3) := by decide +kernel
theorem dX11_clears_11 : decode cX11_clears 11 = .ok (.aload_n 0, 1) := by decide +kernel
theorem dX11_clears_12 : decode cX11_clears 12 = .ok (.iconst 0, 1) := by decide +kernel
theorem dX11_clears_13 : decode cX11_clears 13 = .ok (.putfield 85, 3) := by decide +kernel
theorem dX11_clears_16 : decode cX11_clears 16 = .ok (.iconst 0, 1) := by decide +kernel
theorem dX11_clears_17 : decode cX11_clears 17 = .ok (.istore_n 1, 1) := by decide +kernel
theorem dX11_clears_18 : decode cX11_clears 18 = .ok (.iload_n 1, 1) := by decide +kernel
theorem dX11_clears_19 : decode cX11_clears 19 = .ok (.bipush 28, 2) := by decide +kernel
theorem dX11_clears_21 : decode cX11_clears 21 = .ok (.if_icmp .ge 20, 3) := by decide +kernel
theorem dX11_clears_24 : decode cX11_clears 24 = .ok (.aload_n 0, 1) := by decide +kernel
theorem dX11_clears_25 : decode cX11_clears 25 = .ok (.getfield 37, 3) := by decide +kernel
theorem dX11_clears_28 : decode cX11_clears 28 = .ok (.sipush 308, 3) := by decide +kernel
theorem dX11_clears_31 : decode cX11_clears 31 = .ok (.iload_n 1, 1) := by decide +kernel
theorem dX11_clears_32 : decode cX11_clears 32 = .ok (.iadd, 1) := by decide +kernel
theorem dX11_clears_33 : decode cX11_clears 33 = .ok (.iconst 0, 1) := by decide +kernel
theorem dX11_clears_34 : decode cX11_clears 34 = .ok (.iastore, 1) := by decide +kernel
theorem dX11_clears_35 : decode cX11_clears 35 = .ok (.iinc 1 1, 3) := by decide +kernel
theorem dX11_clears_38 : decode cX11_clears 38 = .ok (.goto (-20), 3) := by decide +kernel
theorem dX11_clears_41 : decode cX11_clears 41 = .ok (.return_, 1) := by decide +kernel
theorem dX11_comes_0 : decode cX11_comes 0 = .ok (.aload_n 0, 1) := by decide +kernel
theorem dX11_comes_1 : decode cX11_comes 1 = .ok (.getfield 25, 3) := by decide +kernel
theorem dX11_comes_4 : decode cX11_comes 4 = .ok (.aload_n 0, 1) := by decide +kernel
theorem dX11_comes_5 : decode cX11_comes 5 = .ok (.getfield 85, 3) := by decide +kernel
theorem dX11_comes_8 : decode cX11_comes 8 = .ok (.iload_n 1, 1) := by decide +kernel
theorem dX11_comes_9 : decode cX11_comes 9 = .ok (.iastore, 1) := by decide +kernel
theorem dX11_comes_10 : decode cX11_comes 10 = .ok (.aload_n 0, 1) := by decide +kernel
theorem dX11_comes_11 : decode cX11_comes 11 = .ok (.getfield 28, 3) := by decide +kernel
theorem dX11_comes_14 : decode cX11_comes 14 = .ok (.aload_n 0, 1) := by decide +kernel
theorem dX11_comes_15 : decode cX11_comes 15 = .ok (.getfield 85, 3) := by decide +kernel
theorem dX11_comes_18 : decode cX11_comes 18 = .ok (.iload_n 2, 1) := by decide +kernel
theorem dX11_comes_19 : decode cX11_comes 19 = .ok (.iastore, 1) := by decide +kernel
theorem dX11_comes_20 : decode cX11_comes 20 = .ok (.aload_n 0, 1) := by decide +kernel
theorem dX11_comes_21 : decode cX11_comes 21 = .ok (.getfield 31, 3) := by decide +kernel
theorem dX11_comes_24 : decode cX11_comes 24 = .ok (.aload_n 0, 1) := by decide +kernel
theorem dX11_comes_25 : decode cX11_comes 25 = .ok (.getfield 85, 3) := by decide +kernel
theorem dX11_comes_28 : decode cX11_comes 28 = .ok (.iload_n 3, 1) := by decide +kernel
theorem dX11_comes_29 : decode cX11_comes 29 = .ok (.iastore, 1) := by decide +kernel
theorem dX11_comes_30 : decode cX11_comes 30 = .ok (.aload_n 0, 1) := by decide +kernel
theorem dX11_comes_31 : decode cX11_comes 31 = .ok (.getfield 34, 3) := by decide +kernel
theorem dX11_comes_34 : decode cX11_comes 34 = .ok (.aload_n 0, 1) := by decide +kernel
theorem dX11_comes_35 : decode cX11_comes 35 = .ok (.getfield 85, 3) := by decide +kernel
theorem dX11_comes_38 : decode cX11_comes 38 = .ok (.iload 4, 2) := by decide +kernel
theorem dX11_comes_40 : decode cX11_comes 40 = .ok (.iastore, 1) := by decide +kernel
theorem dX11_comes_41 : decode cX11_comes 41 = .ok (.aload_n 0, 1) := by decide +kernel
theorem dX11_comes_42 : decode cX11_comes 42 = .ok (.getfield 37, 3) := by decide +kernel
theorem dX11_comes_45 : decode cX11_comes 45 = .ok (.sipush 308, 3) := by decide +kernel
theorem dX11_comes_48 : decode cX11_comes 48 = .ok (.aload_n 0, 1) := by decide +kernel
theorem dX11_comes_49 : decode cX11_comes 49 = .ok (.getfield 85, 3) := by decide +kernel
theorem dX11_comes_52 : decode cX11_comes 52 = .ok (.iadd, 1) := by decide +kernel
theorem dX11_comes_53 : decode cX11_comes 53 = .ok (.iload 5, 2) := by decide +kernel
theorem dX11_comes_55 : decode cX11_comes 55 = .ok (.iastore, 1) := by decide +kernel
theorem dX11_comes_56 : decode cX11_comes 56 = .ok (.aload_n 0, 1) := by decide +kernel
theorem dX11_comes_57 : decode cX11_comes 57 = .ok (.dup, 1) := by decide +kernel
theorem dX11_comes_58 : decode cX11_comes 58 = .ok (.getfield 85, 3) := by decide +kernel
theorem dX11_comes_61 : decode cX11_comes 61 = .ok (.iconst 1, 1) := by decide +kernel
theorem dX11_comes_62 : decode cX11_comes 62 = .ok (.iadd, 1) := by decide +kernel
theorem dX11_comes_63 : decode cX11_comes 63 = .ok (.putfield 85, 3) := by decide +kernel
theorem dX11_comes_66 : decode cX11_comes 66 = .ok (.return_, 1) := by decide +kernel
set_option maxRecDepth 20000 in
theorem ggX11_settles_X11_copies : GoodIn wsX11_settles wsX11_copies := goodIn_r _ [20, 21, 22, 23, 24, 25, 26, 27, 28, 29, 30, 31, 32, 33, 34, 35, 36, 37, 38, 39, 40, 41, 42, 43, 44, 45, 46, 47, 48, 49, 50, 51, 52, 53] rfl (by decide +kernel)
set_option maxRecDepth 20000 in
theorem gX11_settles_X11_copies : GoodIn wsX11_settles (wsV RX11 97 RX11 yX11_copies wsX11_copies) := goodIn_app (goodIn_of _ (by decide +kernel)) ggX11_settles_X11_copies
theorem dX11_settles_0 : decode cX11_settles 0 = .ok (.aload_n 0, 1) := by decide +kernel
theorem dX11_settles_1 : decode cX11_settles 1 = .ok (.aload_n 0, 1) := by decide +kernel
theorem dX11_settles_2 : decode cX11_settles 2 = .ok (.getfield 82, 3) := by decide +kernel
theorem dX11_settles_5 : decode cX11_settles 5 = .ok (.putfield 88, 3) := by decide +kernel
theorem dX11_settles_8 : decode cX11_settles 8 = .ok (.aload_n 0, 1) := by decide +kernel
theorem dX11_settles_9 : decode cX11_settles 9 = .ok (.aload_n 0, 1) := by decide +kernel
theorem dX11_settles_10 : decode cX11_settles 10 = .ok (.getfield 75, 3) := by decide +kernel
theorem dX11_settles_13 : decode cX11_settles 13 = .ok (.putfield 91, 3) := by decide +kernel
theorem dX11_settles_16 : decode cX11_settles 16 = .ok (.aload_n 0, 1) := by decide +kernel
theorem dX11_settles_17 : decode cX11_settles 17 = .ok (.aload_n 0, 1) := by decide +kernel
theorem dX11_settles_18 : decode cX11_settles 18 = .ok (.getfield 85, 3) := by decide +kernel
theorem dX11_settles_21 : decode cX11_settles 21 = .ok (.putfield 94, 3) := by decide +kernel
theorem dX11_settles_24 : decode cX11_settles 24 = .ok (.iconst 0, 1) := by decide +kernel
theorem dX11_settles_25 : decode cX11_settles 25 = .ok (.istore_n 1, 1) := by decide +kernel
theorem dX11_settles_26 : decode cX11_settles 26 = .ok (.iload_n 1, 1) := by decide +kernel
theorem dX11_settles_27 : decode cX11_settles 27 = .ok (.bipush 8, 2) := by decide +kernel
theorem dX11_settles_29 : decode cX11_settles 29 = .ok (.if_icmp .ge 57, 3) := by decide +kernel
theorem dX11_settles_32 : decode cX11_settles 32 = .ok (.aload_n 0, 1) := by decide +kernel
theorem dX11_settles_33 : decode cX11_settles 33 = .ok (.getfield 7, 3) := by decide +kernel
theorem dX11_settles_36 : decode cX11_settles 36 = .ok (.iload_n 1, 1) := by decide +kernel
theorem dX11_settles_37 : decode cX11_settles 37 = .ok (.aload_n 0, 1) := by decide +kernel
theorem dX11_settles_38 : decode cX11_settles 38 = .ok (.getfield 25, 3) := by decide +kernel
theorem dX11_settles_41 : decode cX11_settles 41 = .ok (.iload_n 1, 1) := by decide +kernel
theorem dX11_settles_42 : decode cX11_settles 42 = .ok (.iaload, 1) := by decide +kernel
theorem dX11_settles_43 : decode cX11_settles 43 = .ok (.iastore, 1) := by decide +kernel
theorem dX11_settles_44 : decode cX11_settles 44 = .ok (.aload_n 0, 1) := by decide +kernel
theorem dX11_settles_45 : decode cX11_settles 45 = .ok (.getfield 13, 3) := by decide +kernel
theorem dX11_settles_48 : decode cX11_settles 48 = .ok (.iload_n 1, 1) := by decide +kernel
theorem dX11_settles_49 : decode cX11_settles 49 = .ok (.aload_n 0, 1) := by decide +kernel
theorem dX11_settles_50 : decode cX11_settles 50 = .ok (.getfield 28, 3) := by decide +kernel
theorem dX11_settles_53 : decode cX11_settles 53 = .ok (.iload_n 1, 1) := by decide +kernel
theorem dX11_settles_54 : decode cX11_settles 54 = .ok (.iaload, 1) := by decide +kernel
theorem dX11_settles_55 : decode cX11_settles 55 = .ok (.iastore, 1) := by decide +kernel
theorem dX11_settles_56 : decode cX11_settles 56 = .ok (.aload_n 0, 1) := by decide +kernel
theorem dX11_settles_57 : decode cX11_settles 57 = .ok (.getfield 16, 3) := by decide +kernel
theorem dX11_settles_60 : decode cX11_settles 60 = .ok (.iload_n 1, 1) := by decide +kernel
theorem dX11_settles_61 : decode cX11_settles 61 = .ok (.aload_n 0, 1) := by decide +kernel
theorem dX11_settles_62 : decode cX11_settles 62 = .ok (.getfield 31, 3) := by decide +kernel
theorem dX11_settles_65 : decode cX11_settles 65 = .ok (.iload_n 1, 1) := by decide +kernel
theorem dX11_settles_66 : decode cX11_settles 66 = .ok (.iaload, 1) := by decide +kernel
theorem dX11_settles_67 : decode cX11_settles 67 = .ok (.iastore, 1) := by decide +kernel
theorem dX11_settles_68 : decode cX11_settles 68 = .ok (.aload_n 0, 1) := by decide +kernel
theorem dX11_settles_69 : decode cX11_settles 69 = .ok (.getfield 19, 3) := by decide +kernel
theorem dX11_settles_72 : decode cX11_settles 72 = .ok (.iload_n 1, 1) := by decide +kernel
theorem dX11_settles_73 : decode cX11_settles 73 = .ok (.aload_n 0, 1) := by decide +kernel
theorem dX11_settles_74 : decode cX11_settles 74 = .ok (.getfield 34, 3) := by decide +kernel
theorem dX11_settles_77 : decode cX11_settles 77 = .ok (.iload_n 1, 1) := by decide +kernel
theorem dX11_settles_78 : decode cX11_settles 78 = .ok (.iaload, 1) := by decide +kernel
theorem dX11_settles_79 : decode cX11_settles 79 = .ok (.iastore, 1) := by decide +kernel
theorem dX11_settles_80 : decode cX11_settles 80 = .ok (.iinc 1 1, 3) := by decide +kernel
theorem dX11_settles_83 : decode cX11_settles 83 = .ok (.goto (-57), 3) := by decide +kernel
theorem dX11_settles_86 : decode cX11_settles 86 = .ok (.iconst 0, 1) := by decide +kernel
theorem dX11_settles_87 : decode cX11_settles 87 = .ok (.istore_n 1, 1) := by decide +kernel
theorem dX11_settles_88 : decode cX11_settles 88 = .ok (.iconst 0, 1) := by decide +kernel
theorem dX11_settles_89 : decode cX11_settles 89 = .ok (.istore_n 2, 1) := by decide +kernel
theorem dX11_settles_90 : decode cX11_settles 90 = .ok (.iload_n 2, 1) := by decide +kernel
theorem dX11_settles_91 : decode cX11_settles 91 = .ok (.bipush 20, 2) := by decide +kernel
theorem dX11_settles_93 : decode cX11_settles 93 = .ok (.if_icmp .gt 45, 3) := by decide +kernel
theorem dX11_settles_96 : decode cX11_settles 96 = .ok (.iconst 0, 1) := by decide +kernel
theorem dX11_settles_97 : decode cX11_settles 97 = .ok (.istore_n 3, 1) := by decide +kernel
theorem dX11_settles_98 : decode cX11_settles 98 = .ok (.iload_n 3, 1) := by decide +kernel
theorem dX11_settles_99 : decode cX11_settles 99 = .ok (.aload_n 0, 1) := by decide +kernel
theorem dX11_settles_100 : decode cX11_settles 100 = .ok (.getfield 94, 3) := by decide +kernel
theorem dX11_settles_103 : decode cX11_settles 103 = .ok (.if_icmp .ge 29, 3) := by decide +kernel
theorem dX11_settles_106 : decode cX11_settles 106 = .ok (.aload_n 0, 1) := by decide +kernel
theorem dX11_settles_107 : decode cX11_settles 107 = .ok (.getfield 16, 3) := by decide +kernel
theorem dX11_settles_110 : decode cX11_settles 110 = .ok (.iload_n 3, 1) := by decide +kernel
theorem dX11_settles_111 : decode cX11_settles 111 = .ok (.iaload, 1) := by decide +kernel
theorem dX11_settles_112 : decode cX11_settles 112 = .ok (.iload_n 2, 1) := by decide +kernel
theorem dX11_settles_113 : decode cX11_settles 113 = .ok (.if_icmp .ne 13, 3) := by decide +kernel
theorem dX11_settles_116 : decode cX11_settles 116 = .ok (.aload_n 0, 1) := by decide +kernel
theorem dX11_settles_117 : decode cX11_settles 117 = .ok (.getfield 22, 3) := by decide +kernel
theorem dX11_settles_120 : decode cX11_settles 120 = .ok (.iload_n 1, 1) := by decide +kernel
theorem dX11_settles_121 : decode cX11_settles 121 = .ok (.iload_n 3, 1) := by decide +kernel
theorem dX11_settles_122 : decode cX11_settles 122 = .ok (.iastore, 1) := by decide +kernel
theorem dX11_settles_123 : decode cX11_settles 123 = .ok (.iinc 1 1, 3) := by decide +kernel
theorem dX11_settles_126 : decode cX11_settles 126 = .ok (.iinc 3 1, 3) := by decide +kernel
theorem dX11_settles_129 : decode cX11_settles 129 = .ok (.goto (-31), 3) := by decide +kernel
theorem dX11_settles_132 : decode cX11_settles 132 = .ok (.iinc 2 1, 3) := by decide +kernel
theorem dX11_settles_135 : decode cX11_settles 135 = .ok (.goto (-45), 3) := by decide +kernel
theorem dX11_settles_138 : decode cX11_settles 138 = .ok (.aload_n 0, 1) := by decide +kernel
theorem dX11_settles_139 : decode cX11_settles 139 = .ok (.sipush 308, 3) := by decide +kernel
theorem dX11_settles_142 : decode cX11_settles 142 = .ok (.iconst 0, 1) := by decide +kernel
theorem dX11_settles_143 : decode cX11_settles 143 = .ok (.invokevirtual 97, 3) := by decide +kernel
theorem dX11_settles_146 : decode cX11_settles 146 = .ok (.return_, 1) := by decide +kernel
theorem dX11_copies_0 : decode cX11_copies 0 = .ok (.iconst 0, 1) := by decide +kernel
theorem dX11_copies_1 : decode cX11_copies 1 = .ok (.istore_n 3, 1) := by decide +kernel
theorem dX11_copies_2 : decode cX11_copies 2 = .ok (.iload_n 3, 1) := by decide +kernel
theorem dX11_copies_3 : decode cX11_copies 3 = .ok (.bipush 28, 2) := by decide +kernel
theorem dX11_copies_5 : decode cX11_copies 5 = .ok (.if_icmp .ge 25, 3) := by decide +kernel
theorem dX11_copies_8 : decode cX11_copies 8 = .ok (.aload_n 0, 1) := by decide +kernel
theorem dX11_copies_9 : decode cX11_copies 9 = .ok (.getfield 37, 3) := by decide +kernel
theorem dX11_copies_12 : decode cX11_copies 12 = .ok (.iload_n 2, 1) := by decide +kernel
theorem dX11_copies_13 : decode cX11_copies 13 = .ok (.iload_n 3, 1) := by decide +kernel
theorem dX11_copies_14 : decode cX11_copies 14 = .ok (.iadd, 1) := by decide +kernel
theorem dX11_copies_15 : decode cX11_copies 15 = .ok (.aload_n 0, 1) := by decide +kernel
theorem dX11_copies_16 : decode cX11_copies 16 = .ok (.getfield 37, 3) := by decide +kernel
theorem dX11_copies_19 : decode cX11_copies 19 = .ok (.iload_n 1, 1) := by decide +kernel
theorem dX11_copies_20 : decode cX11_copies 20 = .ok (.iload_n 3, 1) := by decide +kernel
theorem dX11_copies_21 : decode cX11_copies 21 = .ok (.iadd, 1) := by decide +kernel
theorem dX11_copies_22 : decode cX11_copies 22 = .ok (.iaload, 1) := by decide +kernel
theorem dX11_copies_23 : decode cX11_copies 23 = .ok (.iastore, 1) := by decide +kernel
theorem dX11_copies_24 : decode cX11_copies 24 = .ok (.iinc 3 1, 3) := by decide +kernel
theorem dX11_copies_27 : decode cX11_copies 27 = .ok (.goto (-25), 3) := by decide +kernel
theorem dX11_copies_30 : decode cX11_copies 30 = .ok (.return_, 1) := by decide +kernel
set_option maxRecDepth 20000 in
theorem ggX11_isStep_X11_in : GoodIn wsX11_isStep wsX11_in := goodIn_r _ [5] rfl (by decide +kernel)
set_option maxRecDepth 20000 in
theorem gX11_isStep_X11_in : GoodIn wsX11_isStep (va_wsS RX11 101 yX11_in wsX11_in) := goodIn_app (goodIn_of _ (by decide +kernel)) ggX11_isStep_X11_in
theorem dX11_isStep_0 : decode cX11_isStep 0 = .ok (.iload_n 1, 1) := by decide +kernel
theorem dX11_isStep_1 : decode cX11_isStep 1 = .ok (.i2l, 1) := by decide +kernel
theorem dX11_isStep_2 : decode cX11_isStep 2 = .ok (.lconst 0, 1) := by decide +kernel
theorem dX11_isStep_3 : decode cX11_isStep 3 = .ok (.aload_n 0, 1) := by decide +kernel
theorem dX11_isStep_4 : decode cX11_isStep 4 = .ok (.getfield 88, 3) := by decide +kernel
theorem dX11_isStep_7 : decode cX11_isStep 7 = .ok (.iconst 1, 1) := by decide +kernel
theorem dX11_isStep_8 : decode cX11_isStep 8 = .ok (.isub, 1) := by decide +kernel
theorem dX11_isStep_9 : decode cX11_isStep 9 = .ok (.i2l, 1) := by decide +kernel
theorem dX11_isStep_10 : decode cX11_isStep 10 = .ok (.invokestatic 101, 3) := by decide +kernel
theorem dX11_isStep_13 : decode cX11_isStep 13 = .ok (.ireturn, 1) := by decide +kernel
set_option maxRecDepth 20000 in
theorem ggX11_isOne_X11_in : GoodIn wsX11_isOne wsX11_in := goodIn_r _ [5] rfl (by decide +kernel)
set_option maxRecDepth 20000 in
theorem gX11_isOne_X11_in : GoodIn wsX11_isOne (va_wsS RX11 101 yX11_in wsX11_in) := goodIn_app (goodIn_of _ (by decide +kernel)) ggX11_isOne_X11_in
theorem dX11_isOne_0 : decode cX11_isOne 0 = .ok (.iload_n 1, 1) := by decide +kernel
theorem dX11_isOne_1 : decode cX11_isOne 1 = .ok (.i2l, 1) := by decide +kernel
theorem dX11_isOne_2 : decode cX11_isOne 2 = .ok (.lconst 0, 1) := by decide +kernel
theorem dX11_isOne_3 : decode cX11_isOne 3 = .ok (.aload_n 0, 1) := by decide +kernel
theorem dX11_isOne_4 : decode cX11_isOne 4 = .ok (.getfield 94, 3) := by decide +kernel
theorem dX11_isOne_7 : decode cX11_isOne 7 = .ok (.iconst 1, 1) := by decide +kernel
theorem dX11_isOne_8 : decode cX11_isOne 8 = .ok (.isub, 1) := by decide +kernel
theorem dX11_isOne_9 : decode cX11_isOne 9 = .ok (.i2l, 1) := by decide +kernel
theorem dX11_isOne_10 : decode cX11_isOne 10 = .ok (.invokestatic 101, 3) := by decide +kernel
theorem dX11_isOne_13 : decode cX11_isOne 13 = .ok (.ireturn, 1) := by decide +kernel
set_option maxRecDepth 20000 in
theorem ggX11_write_X11_in : GoodIn wsX11_write wsX11_in := goodIn_r _ [8] rfl (by decide +kernel)
set_option maxRecDepth 20000 in
theorem gX11_write_X11_in : GoodIn wsX11_write (va_wsS RX11 101 yX11_in wsX11_in) := goodIn_app (goodIn_of _ (by decide +kernel)) ggX11_write_X11_in
theorem dX11_write_0 : decode cX11_write 0 = .ok (.iload_n 1, 1) := by decide +kernel
theorem dX11_write_1 : decode cX11_write 1 = .ok (.i2l, 1) := by decide +kernel
theorem dX11_write_2 : decode cX11_write 2 = .ok (.ldc2_w 105, 3) := by decide +kernel
theorem dX11_write_5 : decode cX11_write 5 = .ok (.ldc2_w 107, 3) := by decide +kernel
theorem dX11_write_8 : decode cX11_write 8 = .ok (.invokestatic 101, 3) := by decide +kernel
theorem dX11_write_11 : decode cX11_write 11 = .ok (.ifCond .ne 5, 3) := by decide +kernel
theorem dX11_write_14 : decode cX11_write 14 = .ok (.iconst (-1), 1) := by decide +kernel
theorem dX11_write_15 : decode cX11_write 15 = .ok (.ireturn, 1) := by decide +kernel
theorem dX11_write_16 : decode cX11_write 16 = .ok (.aload_n 0, 1) := by decide +kernel
theorem dX11_write_17 : decode cX11_write 17 = .ok (.getfield 109, 3) := by decide +kernel
theorem dX11_write_20 : decode cX11_write 20 = .ok (.sipush 200, 3) := by decide +kernel
theorem dX11_write_23 : decode cX11_write 23 = .ok (.if_icmp .ne 6, 3) := by decide +kernel
theorem dX11_write_26 : decode cX11_write 26 = .ok (.bipush (-3), 2) := by decide +kernel
theorem dX11_write_28 : decode cX11_write 28 = .ok (.ireturn, 1) := by decide +kernel
theorem dX11_write_29 : decode cX11_write 29 = .ok (.aload_n 0, 1) := by decide +kernel
theorem dX11_write_30 : decode cX11_write 30 = .ok (.getfield 40, 3) := by decide +kernel
theorem dX11_write_33 : decode cX11_write 33 = .ok (.aload_n 0, 1) := by decide +kernel
theorem dX11_write_34 : decode cX11_write 34 = .ok (.getfield 109, 3) := by decide +kernel
theorem dX11_write_37 : decode cX11_write 37 = .ok (.iload_n 1, 1) := by decide +kernel
theorem dX11_write_38 : decode cX11_write 38 = .ok (.i2b, 1) := by decide +kernel
theorem dX11_write_39 : decode cX11_write 39 = .ok (.bastore, 1) := by decide +kernel
theorem dX11_write_40 : decode cX11_write 40 = .ok (.aload_n 0, 1) := by decide +kernel
theorem dX11_write_41 : decode cX11_write 41 = .ok (.dup, 1) := by decide +kernel
theorem dX11_write_42 : decode cX11_write 42 = .ok (.getfield 109, 3) := by decide +kernel
theorem dX11_write_45 : decode cX11_write 45 = .ok (.iconst 1, 1) := by decide +kernel
theorem dX11_write_46 : decode cX11_write 46 = .ok (.iadd, 1) := by decide +kernel
theorem dX11_write_47 : decode cX11_write 47 = .ok (.putfield 109, 3) := by decide +kernel
theorem dX11_write_50 : decode cX11_write 50 = .ok (.aload_n 0, 1) := by decide +kernel
theorem dX11_write_51 : decode cX11_write 51 = .ok (.getfield 109, 3) := by decide +kernel
theorem dX11_write_54 : decode cX11_write 54 = .ok (.ireturn, 1) := by decide +kernel
theorem dX11_wipe_0 : decode cX11_wipe 0 = .ok (.aload_n 0, 1) := by decide +kernel
theorem dX11_wipe_1 : decode cX11_wipe 1 = .ok (.getfield 109, 3) := by decide +kernel
theorem dX11_wipe_4 : decode cX11_wipe 4 = .ok (.istore_n 1, 1) := by decide +kernel
theorem dX11_wipe_5 : decode cX11_wipe 5 = .ok (.aload_n 0, 1) := by decide +kernel
theorem dX11_wipe_6 : decode cX11_wipe 6 = .ok (.iconst 0, 1) := by decide +kernel
theorem dX11_wipe_7 : decode cX11_wipe 7 = .ok (.putfield 109, 3) := by decide +kernel
theorem dX11_wipe_10 : decode cX11_wipe 10 = .ok (.iload_n 1, 1) := by decide +kernel
theorem dX11_wipe_11 : decode cX11_wipe 11 = .ok (.ireturn, 1) := by decide +kernel
theorem dX11_next_0 : decode cX11_next 0 = .ok (.aload_n 0, 1) := by decide +kernel
theorem dX11_next_1 : decode cX11_next 1 = .ok (.getfield 112, 3) := by decide +kernel
theorem dX11_next_4 : decode cX11_next 4 = .ok (.aload_n 0, 1) := by decide +kernel
theorem dX11_next_5 : decode cX11_next 5 = .ok (.getfield 109, 3) := by decide +kernel
theorem dX11_next_8 : decode cX11_next 8 = .ok (.if_icmp .ge 15, 3) := by decide +kernel
theorem dX11_next_11 : decode cX11_next 11 = .ok (.aload_n 0, 1) := by decide +kernel
theorem dX11_next_12 : decode cX11_next 12 = .ok (.getfield 40, 3) := by decide +kernel
theorem dX11_next_15 : decode cX11_next 15 = .ok (.aload_n 0, 1) := by decide +kernel
theorem dX11_next_16 : decode cX11_next 16 = .ok (.getfield 112, 3) := by decide +kernel
theorem dX11_next_19 : decode cX11_next 19 = .ok (.baload, 1) := by decide +kernel
theorem dX11_next_20 : decode cX11_next 20 = .ok (.goto 4, 3) := by decide +kernel
theorem dX11_next_23 : decode cX11_next 23 = .ok (.iconst (-1), 1) := by decide +kernel
theorem dX11_next_24 : decode cX11_next 24 = .ok (.ireturn, 1) := by decide +kernel
set_option maxRecDepth 20000 in
theorem ggX11_number_X11_next : GoodIn wsX11_number wsX11_next := goodIn_r _ [9, 3, 10, 11, 15, 16, 17, 18, 19, 20, 21, 22, 23, 24, 25, 26, 27, 28, 29, 30, 31, 32, 33, 34, 35, 36, 37, 38, 39, 40, 41, 42, 43, 44, 45, 46] rfl (by decide +kernel)
set_option maxRecDepth 20000 in
theorem gX11_number_X11_next : GoodIn wsX11_number (wsV RX11 115 RX11 yX11_next wsX11_next) := goodIn_app (goodIn_of _ (by decide +kernel)) ggX11_number_X11_next
set_option maxRecDepth 20000 in
theorem ggX11_number_X11_in : GoodIn wsX11_number wsX11_in := goodIn_r _ [14] rfl (by decide +kernel)
set_option maxRecDepth 20000 in
theorem gX11_number_X11_in : GoodIn wsX11_number (va_wsS RX11 101 yX11_in wsX11_in) := goodIn_app (goodIn_of _ (by decide +kernel)) ggX11_number_X11_in
theorem dX11_number_0 : decode cX11_number 0 = .ok (.iconst 0, 1) := by decide +kernel
theorem dX11_number_1 : decode cX11_number 1 = .ok (.istore_n 3, 1) := by decide +kernel
theorem dX11_number_2 : decode cX11_number 2 = .ok (.iconst 0, 1) := by decide +kernel
theorem dX11_number_3 : decode cX11_number 3 = .ok (.istore 4, 2) := by decide +kernel
theorem dX11_number_5 : decode cX11_number 5 = .ok (.aload_n 0, 1) := by decide +kernel
theorem dX11_number_6 : decode cX11_number 6 = .ok (.invokevirtual 115, 3) := by decide +kernel
theorem dX11_number_9 : decode cX11_number 9 = .ok (.i2l, 1) := by decide +kernel
theorem dX11_number_10 : decode cX11_number 10 = .ok (.ldc2_w 119, 3) := by decide +kernel
theorem dX11_number_13 : decode cX11_number 13 = .ok (.ldc2_w 121, 3) := by decide +kernel
theorem dX11_number_16 : decode cX11_number 16 = .ok (.invokestatic 101, 3) := by decide +kernel
theorem dX11_number_19 : decode cX11_number 19 = .ok (.ifCond .eq 38, 3) := by decide +kernel
theorem dX11_number_22 : decode cX11_number 22 = .ok (.iload 4, 2) := by decide +kernel
theorem dX11_number_24 : decode cX11_number 24 = .ok (.iconst 3, 1) := by decide +kernel
theorem dX11_number_25 : decode cX11_number 25 = .ok (.if_icmp .ge 32, 3) := by decide +kernel
theorem dX11_number_28 : decode cX11_number 28 = .ok (.bipush 10, 2) := by decide +kernel
theorem dX11_number_30 : decode cX11_number 30 = .ok (.iload_n 3, 1) := by decide +kernel
theorem dX11_number_31 : decode cX11_number 31 = .ok (.imul, 1) := by decide +kernel
theorem dX11_number_32 : decode cX11_number 32 = .ok (.aload_n 0, 1) := by decide +kernel
theorem dX11_number_33 : decode cX11_number 33 = .ok (.invokevirtual 115, 3) := by decide +kernel
theorem dX11_number_36 : decode cX11_number 36 = .ok (.iadd, 1) := by decide +kernel
theorem dX11_number_37 : decode cX11_number 37 = .ok (.bipush 48, 2) := by decide +kernel
theorem dX11_number_39 : decode cX11_number 39 = .ok (.isub, 1) := by decide +kernel
theorem dX11_number_40 : decode cX11_number 40 = .ok (.istore_n 3, 1) := by decide +kernel
theorem dX11_number_41 : decode cX11_number 41 = .ok (.iinc 4 1, 3) := by decide +kernel
theorem dX11_number_44 : decode cX11_number 44 = .ok (.aload_n 0, 1) := by decide +kernel
theorem dX11_number_45 : decode cX11_number 45 = .ok (.dup, 1) := by decide +kernel
theorem dX11_number_46 : decode cX11_number 46 = .ok (.getfield 112, 3) := by decide +kernel
theorem dX11_number_49 : decode cX11_number 49 = .ok (.iconst 1, 1) := by decide +kernel
theorem dX11_number_50 : decode cX11_number 50 = .ok (.iadd, 1) := by decide +kernel
theorem dX11_number_51 : decode cX11_number 51 = .ok (.putfield 112, 3) := by decide +kernel
theorem dX11_number_54 : decode cX11_number 54 = .ok (.goto (-49), 3) := by decide +kernel
theorem dX11_number_57 : decode cX11_number 57 = .ok (.aload_n 0, 1) := by decide +kernel
theorem dX11_number_58 : decode cX11_number 58 = .ok (.aload_n 0, 1) := by decide +kernel
theorem dX11_number_59 : decode cX11_number 59 = .ok (.getfield 123, 3) := by decide +kernel
theorem dX11_number_62 : decode cX11_number 62 = .ok (.ifCond .ne 26, 3) := by decide +kernel
theorem dX11_number_65 : decode cX11_number 65 = .ok (.iload 4, 2) := by decide +kernel
theorem dX11_number_67 : decode cX11_number 67 = .ok (.ifCond .eq 21, 3) := by decide +kernel
theorem dX11_number_70 : decode cX11_number 70 = .ok (.iload 4, 2) := by decide +kernel
theorem dX11_number_72 : decode cX11_number 72 = .ok (.iconst 2, 1) := by decide +kernel
theorem dX11_number_73 : decode cX11_number 73 = .ok (.if_icmp .gt 15, 3) := by decide +kernel
theorem dX11_number_76 : decode cX11_number 76 = .ok (.iload_n 3, 1) := by decide +kernel
theorem dX11_number_77 : decode cX11_number 77 = .ok (.i2l, 1) := by decide +kernel
theorem dX11_number_78 : decode cX11_number 78 = .ok (.iload_n 1, 1) := by decide +kernel
theorem dX11_number_79 : decode cX11_number 79 = .ok (.i2l, 1) := by decide +kernel
theorem dX11_number_80 : decode cX11_number 80 = .ok (.iload_n 2, 1) := by decide +kernel
theorem dX11_number_81 : decode cX11_number 81 = .ok (.i2l, 1) := by decide +kernel
theorem dX11_number_82 : decode cX11_number 82 = .ok (.invokestatic 101, 3) := by decide +kernel
theorem dX11_number_85 : decode cX11_number 85 = .ok (.ifCond .ne 7, 3) := by decide +kernel
theorem dX11_number_88 : decode cX11_number 88 = .ok (.iconst 1, 1) := by decide +kernel
theorem dX11_number_89 : decode cX11_number 89 = .ok (.goto 4, 3) := by decide +kernel
theorem dX11_number_92 : decode cX11_number 92 = .ok (.iconst 0, 1) := by decide +kernel
theorem dX11_number_93 : decode cX11_number 93 = .ok (.putfield 123, 3) := by decide +kernel
theorem dX11_number_96 : decode cX11_number 96 = .ok (.aload_n 0, 1) := by decide +kernel
theorem dX11_number_97 : decode cX11_number 97 = .ok (.getfield 123, 3) := by decide +kernel
theorem dX11_number_100 : decode cX11_number 100 = .ok (.ifCond .eq 7, 3) := by decide +kernel
theorem dX11_number_103 : decode cX11_number 103 = .ok (.iconst 0, 1) := by decide +kernel
theorem dX11_number_104 : decode cX11_number 104 = .ok (.goto 4, 3) := by decide +kernel
theorem dX11_number_107 : decode cX11_number 107 = .ok (.iload_n 3, 1) := by decide +kernel
theorem dX11_number_108 : decode cX11_number 108 = .ok (.ireturn, 1) := by decide +kernel
set_option maxRecDepth 20000 in
theorem ggX11_more_X11_next : GoodIn wsX11_more wsX11_next := goodIn_r _ [7, 2, 8, 9, 19, 20, 21, 22, 23, 24, 25, 26, 27, 28, 29, 30, 31, 32, 33, 34, 35, 36, 37, 38, 39, 40, 41, 42, 43, 44, 45, 46, 47, 48, 49, 50] rfl (by decide +kernel)
set_option maxRecDepth 20000 in
theorem gX11_more_X11_next : GoodIn wsX11_more (wsV RX11 115 RX11 yX11_next wsX11_next) := goodIn_app (goodIn_of _ (by decide +kernel)) ggX11_more_X11_next
set_option maxRecDepth 20000 in
theorem ggX11_more_X11_number : GoodIn wsX11_more wsX11_number := goodIn_r _ [13, 14, 15, 2, 1, 3, 4, 5, 6, 7, 8, 9, 16, 17, 18, 19, 20, 21, 22, 23, 24, 25, 26, 27, 28, 29, 30, 31, 32, 33, 34, 35, 36, 37, 38, 39, 40, 41, 42, 43, 44, 45, 46, 47, 48, 49, 50] rfl (by decide +kernel)
set_option maxRecDepth 20000 in
theorem gX11_more_X11_number : GoodIn wsX11_more (wsV RX11 127 RX11 yX11_number wsX11_number) := goodIn_app (goodIn_of _ (by decide +kernel)) ggX11_more_X11_number
theorem dX11_more_0 : decode cX11_more 0 = .ok (.aload_n 0, 1) := by decide +kernel
theorem dX11_more_1 : decode cX11_more 1 = .ok (.aload_n 0, 1) := by decide +kernel
theorem dX11_more_2 : decode cX11_more 2 = .ok (.getfield 123, 3) := by decide +kernel
theorem dX11_more_5 : decode cX11_more 5 = .ok (.ifCond .ne 12, 3) := by decide +kernel
theorem dX11_more_8 : decode cX11_more 8 = .ok (.aload_n 0, 1) := by decide +kernel
theorem dX11_more_9 : decode cX11_more 9 = .ok (.invokevirtual 115, 3) := by decide +kernel
theorem dX11_more_12 : decode cX11_more 12 = .ok (.bipush 44, 2) := by decide +kernel
theorem dX11_more_14 : decode cX11_more 14 = .ok (.if_icmp .eq 7, 3) := by decide +kernel
theorem dX11_more_17 : decode cX11_more 17 = .ok (.iconst 1, 1) := by decide +kernel
theorem dX11_more_18 : decode cX11_more 18 = .ok (.goto 4, 3) := by decide +kernel
theorem dX11_more_21 : decode cX11_more 21 = .ok (.iconst 0, 1) := by decide +kernel
theorem dX11_more_22 : decode cX11_more 22 = .ok (.putfield 123, 3) := by decide +kernel
theorem dX11_more_25 : decode cX11_more 25 = .ok (.aload_n 0, 1) := by decide +kernel
theorem dX11_more_26 : decode cX11_more 26 = .ok (.dup, 1) := by decide +kernel
theorem dX11_more_27 : decode cX11_more 27 = .ok (.getfield 112, 3) := by decide +kernel
theorem dX11_more_30 : decode cX11_more 30 = .ok (.iconst 1, 1) := by decide +kernel
theorem dX11_more_31 : decode cX11_more 31 = .ok (.iadd, 1) := by decide +kernel
theorem dX11_more_32 : decode cX11_more 32 = .ok (.putfield 112, 3) := by decide +kernel
theorem dX11_more_35 : decode cX11_more 35 = .ok (.aload_n 0, 1) := by decide +kernel
theorem dX11_more_36 : decode cX11_more 36 = .ok (.getfield 123, 3) := by decide +kernel
theorem dX11_more_39 : decode cX11_more 39 = .ok (.ifCond .eq 7, 3) := by decide +kernel
theorem dX11_more_42 : decode cX11_more 42 = .ok (.iconst 0, 1) := by decide +kernel
theorem dX11_more_43 : decode cX11_more 43 = .ok (.goto 9, 3) := by decide +kernel
theorem dX11_more_46 : decode cX11_more 46 = .ok (.aload_n 0, 1) := by decide +kernel
theorem dX11_more_47 : decode cX11_more 47 = .ok (.iload_n 1, 1) := by decide +kernel
theorem dX11_more_48 : decode cX11_more 48 = .ok (.iload_n 2, 1) := by decide +kernel
theorem dX11_more_49 : decode cX11_more 49 = .ok (.invokevirtual 127, 3) := by decide +kernel
theorem dX11_more_52 : decode cX11_more 52 = .ok (.ireturn, 1) := by decide +kernel
set_option maxRecDepth 20000 in
theorem ggX11_youngerItem_X11_number : GoodIn wsX11_youngerItem wsX11_number := goodIn_r _ [8, 9, 10, 11, 2, 12, 13, 14, 7, 15, 16, 17, 18, 19, 20, 34, 35, 36, 37, 38, 39, 40, 41, 42, 43, 44, 45, 46, 47, 48, 49, 50, 51, 52, 53, 54, 55, 56, 57, 58, 59, 60, 61, 62, 63, 64, 65] rfl (by decide +kernel)
set_option maxRecDepth 20000 in
theorem gX11_youngerItem_X11_number : GoodIn wsX11_youngerItem (wsV RX11 127 RX11 yX11_number wsX11_number) := goodIn_app (goodIn_of _ (by decide +kernel)) ggX11_youngerItem_X11_number
set_option maxRecDepth 20000 in
theorem ggX11_youngerItem_X11_more : GoodIn wsX11_youngerItem wsX11_more := goodIn_r _ [24, 2, 11, 12, 13, 14, 7, 15, 16, 17, 4, 5, 6, 8, 9, 10, 18, 19, 20, 34, 35, 36, 37, 38, 39, 40, 41, 42, 43, 44, 45, 46, 47, 48, 49, 50, 51, 52, 53, 54, 55, 56, 57, 58, 59, 60, 61, 62, 63, 64, 65] rfl (by decide +kernel)
set_option maxRecDepth 20000 in
theorem gX11_youngerItem_X11_more : GoodIn wsX11_youngerItem (wsV RX11 131 RX11 yX11_more wsX11_more) := goodIn_app (goodIn_of _ (by decide +kernel)) ggX11_youngerItem_X11_more
set_option maxRecDepth 20000 in
theorem ggX11_youngerItem_X11_comes : GoodIn wsX11_youngerItem wsX11_comes := goodIn_r _ [28, 29, 1, 30, 31, 32, 33, 34, 35, 36, 37, 38, 39, 40, 41, 42, 43, 44, 45, 46, 47, 48, 49, 50, 51, 52, 53, 54, 55, 56, 57, 58, 59, 60, 61, 62, 63, 64, 65] rfl (by decide +kernel)
set_option maxRecDepth 20000 in
theorem gX11_youngerItem_X11_comes : GoodIn wsX11_youngerItem (wsV RX11 71 RX11 yX11_comes wsX11_comes) := goodIn_app (goodIn_of _ (by decide +kernel)) ggX11_youngerItem_X11_comes
theorem dX11_youngerItem_0 : decode cX11_youngerItem 0 = .ok (.aload_n 0, 1) := by decide +kernel
theorem dX11_youngerItem_1 : decode cX11_youngerItem 1 = .ok (.aload_n 0, 1) := by decide +kernel
theorem dX11_youngerItem_2 : decode cX11_youngerItem 2 = .ok (.getfield 85, 3) := by decide +kernel
theorem dX11_youngerItem_5 : decode cX11_youngerItem 5 = .ok (.bipush 8, 2) := by decide +kernel
theorem dX11_youngerItem_7 : decode cX11_youngerItem 7 = .ok (.if_icmp .ne 7, 3) := by decide +kernel
theorem dX11_youngerItem_10 : decode cX11_youngerItem 10 = .ok (.iconst 1, 1) := by decide +kernel
theorem dX11_youngerItem_11 : decode cX11_youngerItem 11 = .ok (.goto 4, 3) := by decide +kernel
theorem dX11_youngerItem_14 : decode cX11_youngerItem 14 = .ok (.iconst 0, 1) := by decide +kernel
theorem dX11_youngerItem_15 : decode cX11_youngerItem 15 = .ok (.putfield 123, 3) := by decide +kernel
theorem dX11_youngerItem_18 : decode cX11_youngerItem 18 = .ok (.aload_n 0, 1) := by decide +kernel
theorem dX11_youngerItem_19 : decode cX11_youngerItem 19 = .ok (.getfield 123, 3) := by decide +kernel
theorem dX11_youngerItem_22 : decode cX11_youngerItem 22 = .ok (.ifCond .eq 7, 3) := by decide +kernel
theorem dX11_youngerItem_25 : decode cX11_youngerItem 25 = .ok (.iconst 0, 1) := by decide +kernel
theorem dX11_youngerItem_26 : decode cX11_youngerItem 26 = .ok (.goto 9, 3) := by decide +kernel
theorem dX11_youngerItem_29 : decode cX11_youngerItem 29 = .ok (.aload_n 0, 1) := by decide +kernel
theorem dX11_youngerItem_30 : decode cX11_youngerItem 30 = .ok (.iconst 0, 1) := by decide +kernel
theorem dX11_youngerItem_31 : decode cX11_youngerItem 31 = .ok (.iconst 3, 1) := by decide +kernel
theorem dX11_youngerItem_32 : decode cX11_youngerItem 32 = .ok (.invokevirtual 127, 3) := by decide +kernel
theorem dX11_youngerItem_35 : decode cX11_youngerItem 35 = .ok (.istore_n 1, 1) := by decide +kernel
theorem dX11_youngerItem_36 : decode cX11_youngerItem 36 = .ok (.aload_n 0, 1) := by decide +kernel
theorem dX11_youngerItem_37 : decode cX11_youngerItem 37 = .ok (.iconst 0, 1) := by decide +kernel
theorem dX11_youngerItem_38 : decode cX11_youngerItem 38 = .ok (.aload_n 0, 1) := by decide +kernel
theorem dX11_youngerItem_39 : decode cX11_youngerItem 39 = .ok (.getfield 82, 3) := by decide +kernel
theorem dX11_youngerItem_42 : decode cX11_youngerItem 42 = .ok (.iconst 1, 1) := by decide +kernel
theorem dX11_youngerItem_43 : decode cX11_youngerItem 43 = .ok (.isub, 1) := by decide +kernel
theorem dX11_youngerItem_44 : decode cX11_youngerItem 44 = .ok (.invokevirtual 131, 3) := by decide +kernel
theorem dX11_youngerItem_47 : decode cX11_youngerItem 47 = .ok (.istore_n 2, 1) := by decide +kernel
theorem dX11_youngerItem_48 : decode cX11_youngerItem 48 = .ok (.aload_n 0, 1) := by decide +kernel
theorem dX11_youngerItem_49 : decode cX11_youngerItem 49 = .ok (.iconst 0, 1) := by decide +kernel
theorem dX11_youngerItem_50 : decode cX11_youngerItem 50 = .ok (.bipush 20, 2) := by decide +kernel
theorem dX11_youngerItem_52 : decode cX11_youngerItem 52 = .ok (.invokevirtual 131, 3) := by decide +kernel
theorem dX11_youngerItem_55 : decode cX11_youngerItem 55 = .ok (.istore_n 3, 1) := by decide +kernel
theorem dX11_youngerItem_56 : decode cX11_youngerItem 56 = .ok (.aload_n 0, 1) := by decide +kernel
theorem dX11_youngerItem_57 : decode cX11_youngerItem 57 = .ok (.iconst 1, 1) := by decide +kernel
theorem dX11_youngerItem_58 : decode cX11_youngerItem 58 = .ok (.bipush 9, 2) := by decide +kernel
theorem dX11_youngerItem_60 : decode cX11_youngerItem 60 = .ok (.invokevirtual 131, 3) := by decide +kernel
theorem dX11_youngerItem_63 : decode cX11_youngerItem 63 = .ok (.istore 4, 2) := by decide +kernel
theorem dX11_youngerItem_65 : decode cX11_youngerItem 65 = .ok (.aload_n 0, 1) := by decide +kernel
theorem dX11_youngerItem_66 : decode cX11_youngerItem 66 = .ok (.iconst 1, 1) := by decide +kernel
theorem dX11_youngerItem_67 : decode cX11_youngerItem 67 = .ok (.bipush 20, 2) := by decide +kernel
theorem dX11_youngerItem_69 : decode cX11_youngerItem 69 = .ok (.invokevirtual 131, 3) := by decide +kernel
theorem dX11_youngerItem_72 : decode cX11_youngerItem 72 = .ok (.istore 5, 2) := by decide +kernel
theorem dX11_youngerItem_74 : decode cX11_youngerItem 74 = .ok (.aload_n 0, 1) := by decide +kernel
theorem dX11_youngerItem_75 : decode cX11_youngerItem 75 = .ok (.getfield 123, 3) := by decide +kernel
theorem dX11_youngerItem_78 : decode cX11_youngerItem 78 = .ok (.ifCond .ne 14, 3) := by decide +kernel
theorem dX11_youngerItem_81 : decode cX11_youngerItem 81 = .ok (.aload_n 0, 1) := by decide +kernel
theorem dX11_youngerItem_82 : decode cX11_youngerItem 82 = .ok (.iload_n 1, 1) := by decide +kernel
theorem dX11_youngerItem_83 : decode cX11_youngerItem 83 = .ok (.iload_n 2, 1) := by decide +kernel
theorem dX11_youngerItem_84 : decode cX11_youngerItem 84 = .ok (.iload_n 3, 1) := by decide +kernel
theorem dX11_youngerItem_85 : decode cX11_youngerItem 85 = .ok (.iload 4, 2) := by decide +kernel
theorem dX11_youngerItem_87 : decode cX11_youngerItem 87 = .ok (.iload 5, 2) := by decide +kernel
theorem dX11_youngerItem_89 : decode cX11_youngerItem 89 = .ok (.invokevirtual 71, 3) := by decide +kernel
theorem dX11_youngerItem_92 : decode cX11_youngerItem 92 = .ok (.return_, 1) := by decide +kernel
set_option maxRecDepth 20000 in
theorem ggX11_item_X11_number : GoodIn wsX11_item wsX11_number := goodIn_r _ [9, 10, 11, 12, 1, 13, 14, 15, 8, 16, 17, 18, 19, 20, 21, 39, 40, 41, 42, 43, 44, 45, 46, 47, 48, 49, 50, 51, 52, 53, 54, 55, 56, 57, 58, 59, 60, 61, 62, 63, 64, 65, 66, 67, 68, 69, 70] rfl (by decide +kernel)
set_option maxRecDepth 20000 in
theorem gX11_item_X11_number : GoodIn wsX11_item (wsV RX11 127 RX11 yX11_number wsX11_number) := goodIn_app (goodIn_of _ (by decide +kernel)) ggX11_item_X11_number
set_option maxRecDepth 20000 in
theorem ggX11_item_X11_youngerItem : GoodIn wsX11_item wsX11_youngerItem := goodIn_r _ [25, 26, 1, 2, 5, 6, 7, 8, 9, 10, 11, 12, 13, 14, 15, 16, 17, 18, 19, 20, 21, 27, 28, 29, 30, 31, 32, 33, 34, 35, 36, 37, 38, 3, 39, 40, 41, 42, 43, 44, 45, 46, 47, 48, 49, 50, 51, 52, 53, 54, 55, 56, 57, 58, 59, 60, 61, 62, 63, 64, 65, 66, 67, 68, 69, 70] rfl (by decide +kernel)
set_option maxRecDepth 20000 in
theorem gX11_item_X11_youngerItem : GoodIn wsX11_item (wsV RX11 134 RX11 yX11_youngerItem wsX11_youngerItem) := goodIn_app (goodIn_of _ (by decide +kernel)) ggX11_item_X11_youngerItem
set_option maxRecDepth 20000 in
theorem ggX11_item_X11_more : GoodIn wsX11_item wsX11_more := goodIn_r _ [30, 1, 12, 13, 14, 15, 8, 16, 17, 18, 5, 6, 7, 9, 10, 11, 19, 20, 21, 39, 40, 41, 42, 43, 44, 45, 46, 47, 48, 49, 50, 51, 52, 53, 54, 55, 56, 57, 58, 59, 60, 61, 62, 63, 64, 65, 66, 67, 68, 69, 70] rfl (by decide +kernel)
set_option maxRecDepth 20000 in
theorem gX11_item_X11_more : GoodIn wsX11_item (wsV RX11 131 RX11 yX11_more wsX11_more) := goodIn_app (goodIn_of _ (by decide +kernel)) ggX11_item_X11_more
theorem dX11_item_0 : decode cX11_item 0 = .ok (.iload_n 1, 1) := by decide +kernel
theorem dX11_item_1 : decode cX11_item 1 = .ok (.bipush 115, 2) := by decide +kernel
theorem dX11_item_3 : decode cX11_item 3 = .ok (.if_icmp .ne 56, 3) := by decide +kernel
theorem dX11_item_6 : decode cX11_item 6 = .ok (.aload_n 0, 1) := by decide +kernel
theorem dX11_item_7 : decode cX11_item 7 = .ok (.iload_n 2, 1) := by decide +kernel
theorem dX11_item_8 : decode cX11_item 8 = .ok (.ifCond .ne 7, 3) := by decide +kernel
theorem dX11_item_11 : decode cX11_item 11 = .ok (.iconst 1, 1) := by decide +kernel
theorem dX11_item_12 : decode cX11_item 12 = .ok (.goto 4, 3) := by decide +kernel
theorem dX11_item_15 : decode cX11_item 15 = .ok (.iconst 0, 1) := by decide +kernel
theorem dX11_item_16 : decode cX11_item 16 = .ok (.putfield 123, 3) := by decide +kernel
theorem dX11_item_19 : decode cX11_item 19 = .ok (.aload_n 0, 1) := by decide +kernel
theorem dX11_item_20 : decode cX11_item 20 = .ok (.getfield 123, 3) := by decide +kernel
theorem dX11_item_23 : decode cX11_item 23 = .ok (.ifCond .eq 7, 3) := by decide +kernel
theorem dX11_item_26 : decode cX11_item 26 = .ok (.iconst 0, 1) := by decide +kernel
theorem dX11_item_27 : decode cX11_item 27 = .ok (.goto 10, 3) := by decide +kernel
theorem dX11_item_30 : decode cX11_item 30 = .ok (.aload_n 0, 1) := by decide +kernel
theorem dX11_item_31 : decode cX11_item 31 = .ok (.iconst 1, 1) := by decide +kernel
theorem dX11_item_32 : decode cX11_item 32 = .ok (.bipush 9, 2) := by decide +kernel
theorem dX11_item_34 : decode cX11_item 34 = .ok (.invokevirtual 127, 3) := by decide +kernel
theorem dX11_item_37 : decode cX11_item 37 = .ok (.istore_n 3, 1) := by decide +kernel
theorem dX11_item_38 : decode cX11_item 38 = .ok (.aload_n 0, 1) := by decide +kernel
theorem dX11_item_39 : decode cX11_item 39 = .ok (.aload_n 0, 1) := by decide +kernel
theorem dX11_item_40 : decode cX11_item 40 = .ok (.getfield 123, 3) := by decide +kernel
theorem dX11_item_43 : decode cX11_item 43 = .ok (.ifCond .eq 10, 3) := by decide +kernel
theorem dX11_item_46 : decode cX11_item 46 = .ok (.aload_n 0, 1) := by decide +kernel
theorem dX11_item_47 : decode cX11_item 47 = .ok (.getfield 82, 3) := by decide +kernel
theorem dX11_item_50 : decode cX11_item 50 = .ok (.goto 4, 3) := by decide +kernel
theorem dX11_item_53 : decode cX11_item 53 = .ok (.iload_n 3, 1) := by decide +kernel
theorem dX11_item_54 : decode cX11_item 54 = .ok (.putfield 82, 3) := by decide +kernel
theorem dX11_item_57 : decode cX11_item 57 = .ok (.iconst 1, 1) := by decide +kernel
theorem dX11_item_58 : decode cX11_item 58 = .ok (.ireturn, 1) := by decide +kernel
theorem dX11_item_59 : decode cX11_item 59 = .ok (.iload_n 1, 1) := by decide +kernel
theorem dX11_item_60 : decode cX11_item 60 = .ok (.bipush 121, 2) := by decide +kernel
theorem dX11_item_62 : decode cX11_item 62 = .ok (.if_icmp .ne 10, 3) := by decide +kernel
theorem dX11_item_65 : decode cX11_item 65 = .ok (.aload_n 0, 1) := by decide +kernel
theorem dX11_item_66 : decode cX11_item 66 = .ok (.invokevirtual 134, 3) := by decide +kernel
theorem dX11_item_69 : decode cX11_item 69 = .ok (.goto 132, 3) := by decide +kernel
theorem dX11_item_72 : decode cX11_item 72 = .ok (.iload_n 1, 1) := by decide +kernel
theorem dX11_item_73 : decode cX11_item 73 = .ok (.bipush 107, 2) := by decide +kernel
theorem dX11_item_75 : decode cX11_item 75 = .ok (.if_icmp .eq 9, 3) := by decide +kernel
theorem dX11_item_78 : decode cX11_item 78 = .ok (.iload_n 1, 1) := by decide +kernel
theorem dX11_item_79 : decode cX11_item 79 = .ok (.bipush 99, 2) := by decide +kernel
theorem dX11_item_81 : decode cX11_item 81 = .ok (.if_icmp .ne 79, 3) := by decide +kernel
theorem dX11_item_84 : decode cX11_item 84 = .ok (.aload_n 0, 1) := by decide +kernel
theorem dX11_item_85 : decode cX11_item 85 = .ok (.iconst 0, 1) := by decide +kernel
theorem dX11_item_86 : decode cX11_item 86 = .ok (.aload_n 0, 1) := by decide +kernel
theorem dX11_item_87 : decode cX11_item 87 = .ok (.getfield 82, 3) := by decide +kernel
theorem dX11_item_90 : decode cX11_item 90 = .ok (.iconst 1, 1) := by decide +kernel
theorem dX11_item_91 : decode cX11_item 91 = .ok (.isub, 1) := by decide +kernel
theorem dX11_item_92 : decode cX11_item 92 = .ok (.invokevirtual 127, 3) := by decide +kernel
theorem dX11_item_95 : decode cX11_item 95 = .ok (.istore_n 3, 1) := by decide +kernel
theorem dX11_item_96 : decode cX11_item 96 = .ok (.aload_n 0, 1) := by decide +kernel
theorem dX11_item_97 : decode cX11_item 97 = .ok (.iconst 0, 1) := by decide +kernel
theorem dX11_item_98 : decode cX11_item 98 = .ok (.iload_n 1, 1) := by decide +kernel
theorem dX11_item_99 : decode cX11_item 99 = .ok (.bipush 107, 2) := by decide +kernel
theorem dX11_item_101 : decode cX11_item 101 = .ok (.if_icmp .ne 8, 3) := by decide +kernel
theorem dX11_item_104 : decode cX11_item 104 = .ok (.bipush 9, 2) := by decide +kernel
theorem dX11_item_106 : decode cX11_item 106 = .ok (.goto 5, 3) := by decide +kernel
theorem dX11_item_109 : decode cX11_item 109 = .ok (.bipush 40, 2) := by decide +kernel
theorem dX11_item_111 : decode cX11_item 111 = .ok (.invokevirtual 131, 3) := by decide +kernel
theorem dX11_item_114 : decode cX11_item 114 = .ok (.istore 4, 2) := by decide +kernel
theorem dX11_item_116 : decode cX11_item 116 = .ok (.iload_n 1, 1) := by decide +kernel
theorem dX11_item_117 : decode cX11_item 117 = .ok (.bipush 107, 2) := by decide +kernel
theorem dX11_item_119 : decode cX11_item 119 = .ok (.if_icmp .ne 8, 3) := by decide +kernel
theorem dX11_item_122 : decode cX11_item 122 = .ok (.bipush 18, 2) := by decide +kernel
theorem dX11_item_124 : decode cX11_item 124 = .ok (.goto 5, 3) := by decide +kernel
theorem dX11_item_127 : decode cX11_item 127 = .ok (.bipush 9, 2) := by decide +kernel
theorem dX11_item_129 : decode cX11_item 129 = .ok (.istore 5, 2) := by decide +kernel
theorem dX11_item_131 : decode cX11_item 131 = .ok (.aload_n 0, 1) := by decide +kernel
theorem dX11_item_132 : decode cX11_item 132 = .ok (.getfield 37, 3) := by decide +kernel
theorem dX11_item_135 : decode cX11_item 135 = .ok (.sipush 308, 3) := by decide +kernel
theorem dX11_item_138 : decode cX11_item 138 = .ok (.iload 5, 2) := by decide +kernel
theorem dX11_item_140 : decode cX11_item 140 = .ok (.iadd, 1) := by decide +kernel
theorem dX11_item_141 : decode cX11_item 141 = .ok (.iload_n 3, 1) := by decide +kernel
theorem dX11_item_142 : decode cX11_item 142 = .ok (.iadd, 1) := by decide +kernel
theorem dX11_item_143 : decode cX11_item 143 = .ok (.aload_n 0, 1) := by decide +kernel
theorem dX11_item_144 : decode cX11_item 144 = .ok (.getfield 123, 3) := by decide +kernel
theorem dX11_item_147 : decode cX11_item 147 = .ok (.ifCond .eq 7, 3) := by decide +kernel
theorem dX11_item_150 : decode cX11_item 150 = .ok (.iconst 0, 1) := by decide +kernel
theorem dX11_item_151 : decode cX11_item 151 = .ok (.goto 5, 3) := by decide +kernel
theorem dX11_item_154 : decode cX11_item 154 = .ok (.iload 4, 2) := by decide +kernel
theorem dX11_item_156 : decode cX11_item 156 = .ok (.iastore, 1) := by decide +kernel
theorem dX11_item_157 : decode cX11_item 157 = .ok (.goto 44, 3) := by decide +kernel
theorem dX11_item_160 : decode cX11_item 160 = .ok (.iload_n 1, 1) := by decide +kernel
theorem dX11_item_161 : decode cX11_item 161 = .ok (.bipush 104, 2) := by decide +kernel
theorem dX11_item_163 : decode cX11_item 163 = .ok (.if_icmp .ne 33, 3) := by decide +kernel
theorem dX11_item_166 : decode cX11_item 166 = .ok (.aload_n 0, 1) := by decide +kernel
theorem dX11_item_167 : decode cX11_item 167 = .ok (.iconst 1, 1) := by decide +kernel
theorem dX11_item_168 : decode cX11_item 168 = .ok (.bipush 99, 2) := by decide +kernel
theorem dX11_item_170 : decode cX11_item 170 = .ok (.invokevirtual 127, 3) := by decide +kernel
theorem dX11_item_173 : decode cX11_item 173 = .ok (.istore_n 3, 1) := by decide +kernel
theorem dX11_item_174 : decode cX11_item 174 = .ok (.aload_n 0, 1) := by decide +kernel
theorem dX11_item_175 : decode cX11_item 175 = .ok (.aload_n 0, 1) := by decide +kernel
theorem dX11_item_176 : decode cX11_item 176 = .ok (.getfield 123, 3) := by decide +kernel
theorem dX11_item_179 : decode cX11_item 179 = .ok (.ifCond .eq 10, 3) := by decide +kernel
theorem dX11_item_182 : decode cX11_item 182 = .ok (.aload_n 0, 1) := by decide +kernel
theorem dX11_item_183 : decode cX11_item 183 = .ok (.getfield 75, 3) := by decide +kernel
theorem dX11_item_186 : decode cX11_item 186 = .ok (.goto 4, 3) := by decide +kernel
theorem dX11_item_189 : decode cX11_item 189 = .ok (.iload_n 3, 1) := by decide +kernel
theorem dX11_item_190 : decode cX11_item 190 = .ok (.putfield 75, 3) := by decide +kernel
theorem dX11_item_193 : decode cX11_item 193 = .ok (.goto 8, 3) := by decide +kernel
theorem dX11_item_196 : decode cX11_item 196 = .ok (.aload_n 0, 1) := by decide +kernel
theorem dX11_item_197 : decode cX11_item 197 = .ok (.iconst 1, 1) := by decide +kernel
theorem dX11_item_198 : decode cX11_item 198 = .ok (.putfield 123, 3) := by decide +kernel
theorem dX11_item_201 : decode cX11_item 201 = .ok (.iconst 0, 1) := by decide +kernel
theorem dX11_item_202 : decode cX11_item 202 = .ok (.ireturn, 1) := by decide +kernel
set_option maxRecDepth 20000 in
theorem ggX11_reads_X11_clears : GoodIn wsX11_reads wsX11_clears := goodIn_r _ [9, 10, 11, 12, 13, 48, 49, 50, 51, 52, 53, 54, 55, 56, 57, 58, 59, 60, 61, 62, 63, 64, 65, 66, 67, 68, 69, 70, 71, 72, 73, 74, 75, 76, 77, 78, 79] rfl (by decide +kernel)
set_option maxRecDepth 20000 in
theorem gX11_reads_X11_clears : GoodIn wsX11_reads (wsV RX11 68 RX11 yX11_clears wsX11_clears) := goodIn_app (goodIn_of _ (by decide +kernel)) ggX11_reads_X11_clears
set_option maxRecDepth 20000 in
theorem ggX11_reads_X11_next : GoodIn wsX11_reads wsX11_next := goodIn_r _ [17, 1, 3, 18, 48, 49, 50, 51, 52, 53, 54, 55, 56, 57, 58, 59, 60, 61, 62, 63, 64, 65, 66, 67, 68, 69, 70, 71, 72, 73, 74, 75, 76, 77, 78, 79] rfl (by decide +kernel)
set_option maxRecDepth 20000 in
theorem gX11_reads_X11_next : GoodIn wsX11_reads (wsV RX11 115 RX11 yX11_next wsX11_next) := goodIn_app (goodIn_of _ (by decide +kernel)) ggX11_reads_X11_next
set_option maxRecDepth 20000 in
theorem ggX11_reads_X11_item : GoodIn wsX11_reads wsX11_item := goodIn_r _ [22, 2, 10, 13, 11, 23, 24, 25, 8, 26, 27, 28, 1, 14, 15, 16, 17, 3, 18, 29, 30, 31, 32, 33, 34, 35, 12, 36, 37, 38, 39, 40, 41, 42, 43, 44, 45, 46, 47, 48, 49, 50, 51, 52, 53, 54, 55, 56, 57, 58, 59, 60, 61, 62, 63, 64, 65, 66, 67, 68, 69, 70, 71, 72, 73, 74, 75, 76, 77, 78, 79] rfl (by decide +kernel)
set_option maxRecDepth 20000 in
theorem gX11_reads_X11_item : GoodIn wsX11_reads (wsV RX11 140 RX11 yX11_item wsX11_item) := goodIn_app (goodIn_of _ (by decide +kernel)) ggX11_reads_X11_item
theorem dX11_reads_0 : decode cX11_reads 0 = .ok (.aload_n 0, 1) := by decide +kernel
theorem dX11_reads_1 : decode cX11_reads 1 = .ok (.invokevirtual 68, 3) := by decide +kernel
theorem dX11_reads_4 : decode cX11_reads 4 = .ok (.aload_n 0, 1) := by decide +kernel
theorem dX11_reads_5 : decode cX11_reads 5 = .ok (.iconst 0, 1) := by decide +kernel
theorem dX11_reads_6 : decode cX11_reads 6 = .ok (.putfield 112, 3) := by decide +kernel
theorem dX11_reads_9 : decode cX11_reads 9 = .ok (.aload_n 0, 1) := by decide +kernel
theorem dX11_reads_10 : decode cX11_reads 10 = .ok (.iconst 0, 1) := by decide +kernel
theorem dX11_reads_11 : decode cX11_reads 11 = .ok (.putfield 123, 3) := by decide +kernel
theorem dX11_reads_14 : decode cX11_reads 14 = .ok (.iconst 1, 1) := by decide +kernel
theorem dX11_reads_15 : decode cX11_reads 15 = .ok (.istore_n 1, 1) := by decide +kernel
theorem dX11_reads_16 : decode cX11_reads 16 = .ok (.aload_n 0, 1) := by decide +kernel
theorem dX11_reads_17 : decode cX11_reads 17 = .ok (.getfield 112, 3) := by decide +kernel
theorem dX11_reads_20 : decode cX11_reads 20 = .ok (.aload_n 0, 1) := by decide +kernel
theorem dX11_reads_21 : decode cX11_reads 21 = .ok (.getfield 109, 3) := by decide +kernel
theorem dX11_reads_24 : decode cX11_reads 24 = .ok (.if_icmp .ge 90, 3) := by decide +kernel
theorem dX11_reads_27 : decode cX11_reads 27 = .ok (.aload_n 0, 1) := by decide +kernel
theorem dX11_reads_28 : decode cX11_reads 28 = .ok (.getfield 123, 3) := by decide +kernel
theorem dX11_reads_31 : decode cX11_reads 31 = .ok (.ifCond .ne 83, 3) := by decide +kernel
theorem dX11_reads_34 : decode cX11_reads 34 = .ok (.aload_n 0, 1) := by decide +kernel
theorem dX11_reads_35 : decode cX11_reads 35 = .ok (.aload_n 0, 1) := by decide +kernel
theorem dX11_reads_36 : decode cX11_reads 36 = .ok (.getfield 112, 3) := by decide +kernel
theorem dX11_reads_39 : decode cX11_reads 39 = .ok (.putfield 137, 3) := by decide +kernel
theorem dX11_reads_42 : decode cX11_reads 42 = .ok (.aload_n 0, 1) := by decide +kernel
theorem dX11_reads_43 : decode cX11_reads 43 = .ok (.invokevirtual 115, 3) := by decide +kernel
theorem dX11_reads_46 : decode cX11_reads 46 = .ok (.istore_n 2, 1) := by decide +kernel
theorem dX11_reads_47 : decode cX11_reads 47 = .ok (.aload_n 0, 1) := by decide +kernel
theorem dX11_reads_48 : decode cX11_reads 48 = .ok (.dup, 1) := by decide +kernel
theorem dX11_reads_49 : decode cX11_reads 49 = .ok (.getfield 112, 3) := by decide +kernel
theorem dX11_reads_52 : decode cX11_reads 52 = .ok (.iconst 1, 1) := by decide +kernel
theorem dX11_reads_53 : decode cX11_reads 53 = .ok (.iadd, 1) := by decide +kernel
theorem dX11_reads_54 : decode cX11_reads 54 = .ok (.putfield 112, 3) := by decide +kernel
theorem dX11_reads_57 : decode cX11_reads 57 = .ok (.aload_n 0, 1) := by decide +kernel
theorem dX11_reads_58 : decode cX11_reads 58 = .ok (.iload_n 2, 1) := by decide +kernel
theorem dX11_reads_59 : decode cX11_reads 59 = .ok (.iload_n 1, 1) := by decide +kernel
theorem dX11_reads_60 : decode cX11_reads 60 = .ok (.invokevirtual 140, 3) := by decide +kernel
theorem dX11_reads_63 : decode cX11_reads 63 = .ok (.ifCond .eq 11, 3) := by decide +kernel
theorem dX11_reads_66 : decode cX11_reads 66 = .ok (.iload_n 1, 1) := by decide +kernel
theorem dX11_reads_67 : decode cX11_reads 67 = .ok (.ifCond .eq 7, 3) := by decide +kernel
theorem dX11_reads_70 : decode cX11_reads 70 = .ok (.iconst 1, 1) := by decide +kernel
theorem dX11_reads_71 : decode cX11_reads 71 = .ok (.goto 4, 3) := by decide +kernel
theorem dX11_reads_74 : decode cX11_reads 74 = .ok (.iconst 0, 1) := by decide +kernel
theorem dX11_reads_75 : decode cX11_reads 75 = .ok (.istore_n 1, 1) := by decide +kernel
theorem dX11_reads_76 : decode cX11_reads 76 = .ok (.aload_n 0, 1) := by decide +kernel
theorem dX11_reads_77 : decode cX11_reads 77 = .ok (.aload_n 0, 1) := by decide +kernel
theorem dX11_reads_78 : decode cX11_reads 78 = .ok (.getfield 123, 3) := by decide +kernel
theorem dX11_reads_81 : decode cX11_reads 81 = .ok (.ifCond .ne 12, 3) := by decide +kernel
theorem dX11_reads_84 : decode cX11_reads 84 = .ok (.aload_n 0, 1) := by decide +kernel
theorem dX11_reads_85 : decode cX11_reads 85 = .ok (.invokevirtual 115, 3) := by decide +kernel
theorem dX11_reads_88 : decode cX11_reads 88 = .ok (.bipush 59, 2) := by decide +kernel
theorem dX11_reads_90 : decode cX11_reads 90 = .ok (.if_icmp .eq 7, 3) := by decide +kernel
theorem dX11_reads_93 : decode cX11_reads 93 = .ok (.iconst 1, 1) := by decide +kernel
theorem dX11_reads_94 : decode cX11_reads 94 = .ok (.goto 4, 3) := by decide +kernel
theorem dX11_reads_97 : decode cX11_reads 97 = .ok (.iconst 0, 1) := by decide +kernel
theorem dX11_reads_98 : decode cX11_reads 98 = .ok (.putfield 123, 3) := by decide +kernel
theorem dX11_reads_101 : decode cX11_reads 101 = .ok (.aload_n 0, 1) := by decide +kernel
theorem dX11_reads_102 : decode cX11_reads 102 = .ok (.dup, 1) := by decide +kernel
theorem dX11_reads_103 : decode cX11_reads 103 = .ok (.getfield 112, 3) := by decide +kernel
theorem dX11_reads_106 : decode cX11_reads 106 = .ok (.iconst 1, 1) := by decide +kernel
theorem dX11_reads_107 : decode cX11_reads 107 = .ok (.iadd, 1) := by decide +kernel
theorem dX11_reads_108 : decode cX11_reads 108 = .ok (.putfield 112, 3) := by decide +kernel
theorem dX11_reads_111 : decode cX11_reads 111 = .ok (.goto (-95), 3) := by decide +kernel
theorem dX11_reads_114 : decode cX11_reads 114 = .ok (.aload_n 0, 1) := by decide +kernel
theorem dX11_reads_115 : decode cX11_reads 115 = .ok (.getfield 123, 3) := by decide +kernel
theorem dX11_reads_118 : decode cX11_reads 118 = .ok (.ifCond .ne 7, 3) := by decide +kernel
theorem dX11_reads_121 : decode cX11_reads 121 = .ok (.iconst 1, 1) := by decide +kernel
theorem dX11_reads_122 : decode cX11_reads 122 = .ok (.goto 4, 3) := by decide +kernel
theorem dX11_reads_125 : decode cX11_reads 125 = .ok (.iconst 0, 1) := by decide +kernel
theorem dX11_reads_126 : decode cX11_reads 126 = .ok (.ireturn, 1) := by decide +kernel
set_option maxRecDepth 20000 in
theorem ggX11_fault_X11_reads : GoodIn wsX11_fault wsX11_reads := goodIn_r _ [6, 7, 8, 9, 1, 10, 11, 12, 5, 13, 14, 15, 16, 17, 18, 19, 20, 21, 22, 23, 24, 25, 26, 27, 28, 29, 30, 31, 32, 33, 34, 35, 36, 37, 38, 39, 40, 41, 42, 43, 44, 45, 46, 47, 48, 49, 50, 51, 52, 53, 54, 55, 56, 57, 58, 59, 60, 61, 62, 63, 64, 65, 66, 67, 68, 69, 70, 71, 72, 73, 74, 75, 76, 77, 78, 79, 80, 81, 82, 83] rfl (by decide +kernel)
set_option maxRecDepth 20000 in
theorem gX11_fault_X11_reads : GoodIn wsX11_fault (wsV RX11 144 RX11 yX11_reads wsX11_reads) := goodIn_app (goodIn_of _ (by decide +kernel)) ggX11_fault_X11_reads
theorem dX11_fault_0 : decode cX11_fault 0 = .ok (.aload_n 0, 1) := by decide +kernel
theorem dX11_fault_1 : decode cX11_fault 1 = .ok (.invokevirtual 144, 3) := by decide +kernel
theorem dX11_fault_4 : decode cX11_fault 4 = .ok (.ifCond .eq 8, 3) := by decide +kernel
theorem dX11_fault_7 : decode cX11_fault 7 = .ok (.bipush (-4), 2) := by decide +kernel
theorem dX11_fault_9 : decode cX11_fault 9 = .ok (.goto 7, 3) := by decide +kernel
theorem dX11_fault_12 : decode cX11_fault 12 = .ok (.aload_n 0, 1) := by decide +kernel
theorem dX11_fault_13 : decode cX11_fault 13 = .ok (.getfield 137, 3) := by decide +kernel
theorem dX11_fault_16 : decode cX11_fault 16 = .ok (.ireturn, 1) := by decide +kernel
set_option maxRecDepth 20000 in
theorem ggX11_lay_X11_reads : GoodIn wsX11_lay wsX11_reads := goodIn_r _ [10, 11, 12, 13, 14, 15, 16, 17, 9, 18, 19, 20, 1, 21, 22, 23, 24, 25, 26, 27, 28, 29, 30, 31, 32, 33, 34, 35, 36, 37, 38, 39, 40, 41, 42, 43, 44, 45, 46, 47, 48, 49, 50, 51, 52, 53, 54, 55, 71, 72, 73, 74, 75, 76, 77, 78, 79, 80, 81, 82, 83, 84, 85, 86, 87, 88, 89, 90, 91, 92, 93, 94, 95, 96, 97, 98, 99, 100, 101, 102] rfl (by decide +kernel)
set_option maxRecDepth 20000 in
theorem gX11_lay_X11_reads : GoodIn wsX11_lay (wsV RX11 144 RX11 yX11_reads wsX11_reads) := goodIn_app (goodIn_of _ (by decide +kernel)) ggX11_lay_X11_reads
set_option maxRecDepth 20000 in
theorem ggX11_lay_X11_settles : GoodIn wsX11_lay wsX11_settles := goodIn_r _ [59, 19, 60, 20, 61, 1, 5, 62, 52, 63, 53, 64, 54, 65, 55, 66, 67, 68, 69, 9, 70, 21, 71, 72, 73, 74, 75, 76, 77, 78, 79, 80, 81, 82, 83, 84, 85, 86, 87, 88, 89, 90, 91, 92, 93, 94, 95, 96, 97, 98, 99, 100, 101, 102] rfl (by decide +kernel)
set_option maxRecDepth 20000 in
theorem gX11_lay_X11_settles : GoodIn wsX11_lay (wsV RX11 79 RX11 yX11_settles wsX11_settles) := goodIn_app (goodIn_of _ (by decide +kernel)) ggX11_lay_X11_settles
theorem dX11_lay_0 : decode cX11_lay 0 = .ok (.aload_n 0, 1) := by decide +kernel
theorem dX11_lay_1 : decode cX11_lay 1 = .ok (.invokevirtual 144, 3) := by decide +kernel
theorem dX11_lay_4 : decode cX11_lay 4 = .ok (.ifCond .eq 10, 3) := by decide +kernel
theorem dX11_lay_7 : decode cX11_lay 7 = .ok (.aload_n 0, 1) := by decide +kernel
theorem dX11_lay_8 : decode cX11_lay 8 = .ok (.getfield 85, 3) := by decide +kernel
theorem dX11_lay_11 : decode cX11_lay 11 = .ok (.ifCond .ne 6, 3) := by decide +kernel
theorem dX11_lay_14 : decode cX11_lay 14 = .ok (.bipush (-2), 2) := by decide +kernel
theorem dX11_lay_16 : decode cX11_lay 16 = .ok (.ireturn, 1) := by decide +kernel
theorem dX11_lay_17 : decode cX11_lay 17 = .ok (.aload_n 0, 1) := by decide +kernel
theorem dX11_lay_18 : decode cX11_lay 18 = .ok (.invokevirtual 79, 3) := by decide +kernel
theorem dX11_lay_21 : decode cX11_lay 21 = .ok (.aload_n 0, 1) := by decide +kernel
theorem dX11_lay_22 : decode cX11_lay 22 = .ok (.iconst 0, 1) := by decide +kernel
theorem dX11_lay_23 : decode cX11_lay 23 = .ok (.putfield 148, 3) := by decide +kernel
theorem dX11_lay_26 : decode cX11_lay 26 = .ok (.aload_n 0, 1) := by decide +kernel
theorem dX11_lay_27 : decode cX11_lay 27 = .ok (.iconst 0, 1) := by decide +kernel
theorem dX11_lay_28 : decode cX11_lay 28 = .ok (.putfield 151, 3) := by decide +kernel
theorem dX11_lay_31 : decode cX11_lay 31 = .ok (.aload_n 0, 1) := by decide +kernel
theorem dX11_lay_32 : decode cX11_lay 32 = .ok (.iconst 0, 1) := by decide +kernel
theorem dX11_lay_33 : decode cX11_lay 33 = .ok (.putfield 154, 3) := by decide +kernel
theorem dX11_lay_36 : decode cX11_lay 36 = .ok (.aload_n 0, 1) := by decide +kernel
theorem dX11_lay_37 : decode cX11_lay 37 = .ok (.getfield 94, 3) := by decide +kernel
theorem dX11_lay_40 : decode cX11_lay 40 = .ok (.ireturn, 1) := by decide +kernel
theorem dX11_wants_0 : decode cX11_wants 0 = .ok (.aload_n 0, 1) := by decide +kernel
theorem dX11_wants_1 : decode cX11_wants 1 = .ok (.getfield 19, 3) := by decide +kernel
theorem dX11_wants_4 : decode cX11_wants 4 = .ok (.iload_n 1, 1) := by decide +kernel
theorem dX11_wants_5 : decode cX11_wants 5 = .ok (.iaload, 1) := by decide +kernel
theorem dX11_wants_6 : decode cX11_wants 6 = .ok (.istore_n 3, 1) := by decide +kernel
theorem dX11_wants_7 : decode cX11_wants 7 = .ok (.aload_n 0, 1) := by decide +kernel
theorem dX11_wants_8 : decode cX11_wants 8 = .ok (.getfield 7, 3) := by decide +kernel
theorem dX11_wants_11 : decode cX11_wants 11 = .ok (.iload_n 1, 1) := by decide +kernel
theorem dX11_wants_12 : decode cX11_wants 12 = .ok (.iaload, 1) := by decide +kernel
theorem dX11_wants_13 : decode cX11_wants 13 = .ok (.iconst 1, 1) := by decide +kernel
theorem dX11_wants_14 : decode cX11_wants 14 = .ok (.if_icmp .ne 11, 3) := by decide +kernel
theorem dX11_wants_17 : decode cX11_wants 17 = .ok (.iload_n 3, 1) := by decide +kernel
theorem dX11_wants_18 : decode cX11_wants 18 = .ok (.iconst 2, 1) := by decide +kernel
theorem dX11_wants_19 : decode cX11_wants 19 = .ok (.idiv, 1) := by decide +kernel
theorem dX11_wants_20 : decode cX11_wants 20 = .ok (.iconst 1, 1) := by decide +kernel
theorem dX11_wants_21 : decode cX11_wants 21 = .ok (.iadd, 1) := by decide +kernel
theorem dX11_wants_22 : decode cX11_wants 22 = .ok (.goto 38, 3) := by decide +kernel
theorem dX11_wants_25 : decode cX11_wants 25 = .ok (.aload_n 0, 1) := by decide +kernel
theorem dX11_wants_26 : decode cX11_wants 26 = .ok (.getfield 7, 3) := by decide +kernel
theorem dX11_wants_29 : decode cX11_wants 29 = .ok (.iload_n 1, 1) := by decide +kernel
theorem dX11_wants_30 : decode cX11_wants 30 = .ok (.iaload, 1) := by decide +kernel
theorem dX11_wants_31 : decode cX11_wants 31 = .ok (.iconst 2, 1) := by decide +kernel
theorem dX11_wants_32 : decode cX11_wants 32 = .ok (.if_icmp .ne 9, 3) := by decide +kernel
theorem dX11_wants_35 : decode cX11_wants 35 = .ok (.iconst 2, 1) := by decide +kernel
theorem dX11_wants_36 : decode cX11_wants 36 = .ok (.iload_n 3, 1) := by decide +kernel
theorem dX11_wants_37 : decode cX11_wants 37 = .ok (.imul, 1) := by decide +kernel
theorem dX11_wants_38 : decode cX11_wants 38 = .ok (.goto 22, 3) := by decide +kernel
theorem dX11_wants_41 : decode cX11_wants 41 = .ok (.aload_n 0, 1) := by decide +kernel
theorem dX11_wants_42 : decode cX11_wants 42 = .ok (.getfield 7, 3) := by decide +kernel
theorem dX11_wants_45 : decode cX11_wants 45 = .ok (.iload_n 1, 1) := by decide +kernel
theorem dX11_wants_46 : decode cX11_wants 46 = .ok (.iaload, 1) := by decide +kernel
theorem dX11_wants_47 : decode cX11_wants 47 = .ok (.iconst 3, 1) := by decide +kernel
theorem dX11_wants_48 : decode cX11_wants 48 = .ok (.if_icmp .ne 11, 3) := by decide +kernel
theorem dX11_wants_51 : decode cX11_wants 51 = .ok (.iload_n 2, 1) := by decide +kernel
theorem dX11_wants_52 : decode cX11_wants 52 = .ok (.ifCond .eq 7, 3) := by decide +kernel
theorem dX11_wants_55 : decode cX11_wants 55 = .ok (.iconst 0, 1) := by decide +kernel
theorem dX11_wants_56 : decode cX11_wants 56 = .ok (.goto 4, 3) := by decide +kernel
theorem dX11_wants_59 : decode cX11_wants 59 = .ok (.iload_n 3, 1) := by decide +kernel
theorem dX11_wants_60 : decode cX11_wants 60 = .ok (.ireturn, 1) := by decide +kernel
set_option maxRecDepth 20000 in
theorem ggX11_pours_X11_smaller : GoodIn wsX11_pours wsX11_smaller := goodIn_r _ [8] rfl (by decide +kernel)
set_option maxRecDepth 20000 in
theorem gX11_pours_X11_smaller : GoodIn wsX11_pours (va_wsS RX11 157 yX11_smaller wsX11_smaller) := goodIn_app (goodIn_of _ (by decide +kernel)) ggX11_pours_X11_smaller
set_option maxRecDepth 20000 in
theorem ggX11_pours_X11_has : GoodIn wsX11_pours wsX11_has := goodIn_r _ [11] rfl (by decide +kernel)
set_option maxRecDepth 20000 in
theorem gX11_pours_X11_has : GoodIn wsX11_pours (va_wsS RX11 160 yX11_has wsX11_has) := goodIn_app (goodIn_of _ (by decide +kernel)) ggX11_pours_X11_has
set_option maxRecDepth 20000 in
theorem ggX11_pours_X11_wants : GoodIn wsX11_pours wsX11_wants := goodIn_r _ [15, 16, 17, 18, 19, 20, 21, 22, 23, 24, 25, 26, 27, 28, 29, 30, 31, 32, 33, 34, 35, 36, 37, 38, 39, 40, 41, 42, 43, 44, 45, 46, 47, 48, 49] rfl (by decide +kernel)
set_option maxRecDepth 20000 in
theorem gX11_pours_X11_wants : GoodIn wsX11_pours (wsV RX11 164 RX11 yX11_wants wsX11_wants) := goodIn_app (goodIn_of _ (by decide +kernel)) ggX11_pours_X11_wants
theorem dX11_pours_0 : decode cX11_pours 0 = .ok (.iload_n 2, 1) := by decide +kernel
theorem dX11_pours_1 : decode cX11_pours 1 = .ok (.iload_n 3, 1) := by decide +kernel
theorem dX11_pours_2 : decode cX11_pours 2 = .ok (.invokestatic 157, 3) := by decide +kernel
theorem dX11_pours_5 : decode cX11_pours 5 = .ok (.istore 5, 2) := by decide +kernel
theorem dX11_pours_7 : decode cX11_pours 7 = .ok (.iload_n 2, 1) := by decide +kernel
theorem dX11_pours_8 : decode cX11_pours 8 = .ok (.iload 5, 2) := by decide +kernel
theorem dX11_pours_10 : decode cX11_pours 10 = .ok (.isub, 1) := by decide +kernel
theorem dX11_pours_11 : decode cX11_pours 11 = .ok (.istore 6, 2) := by decide +kernel
theorem dX11_pours_13 : decode cX11_pours 13 = .ok (.iconst 0, 1) := by decide +kernel
theorem dX11_pours_14 : decode cX11_pours 14 = .ok (.istore 7, 2) := by decide +kernel
theorem dX11_pours_16 : decode cX11_pours 16 = .ok (.iload 7, 2) := by decide +kernel
theorem dX11_pours_18 : decode cX11_pours 18 = .ok (.aload_n 0, 1) := by decide +kernel
theorem dX11_pours_19 : decode cX11_pours 19 = .ok (.getfield 94, 3) := by decide +kernel
theorem dX11_pours_22 : decode cX11_pours 22 = .ok (.if_icmp .ge 83, 3) := by decide +kernel
theorem dX11_pours_25 : decode cX11_pours 25 = .ok (.aload_n 0, 1) := by decide +kernel
theorem dX11_pours_26 : decode cX11_pours 26 = .ok (.getfield 22, 3) := by decide +kernel
theorem dX11_pours_29 : decode cX11_pours 29 = .ok (.iload 7, 2) := by decide +kernel
theorem dX11_pours_31 : decode cX11_pours 31 = .ok (.iaload, 1) := by decide +kernel
theorem dX11_pours_32 : decode cX11_pours 32 = .ok (.istore 8, 2) := by decide +kernel
theorem dX11_pours_34 : decode cX11_pours 34 = .ok (.aload_n 0, 1) := by decide +kernel
theorem dX11_pours_35 : decode cX11_pours 35 = .ok (.getfield 13, 3) := by decide +kernel
theorem dX11_pours_38 : decode cX11_pours 38 = .ok (.iload 8, 2) := by decide +kernel
theorem dX11_pours_40 : decode cX11_pours 40 = .ok (.iaload, 1) := by decide +kernel
theorem dX11_pours_41 : decode cX11_pours 41 = .ok (.iload_n 1, 1) := by decide +kernel
theorem dX11_pours_42 : decode cX11_pours 42 = .ok (.if_icmp .ne 57, 3) := by decide +kernel
theorem dX11_pours_45 : decode cX11_pours 45 = .ok (.aload_n 0, 1) := by decide +kernel
theorem dX11_pours_46 : decode cX11_pours 46 = .ok (.getfield 50, 3) := by decide +kernel
theorem dX11_pours_49 : decode cX11_pours 49 = .ok (.iload 8, 2) := by decide +kernel
theorem dX11_pours_51 : decode cX11_pours 51 = .ok (.iload 4, 2) := by decide +kernel
theorem dX11_pours_53 : decode cX11_pours 53 = .ok (.iload 8, 2) := by decide +kernel
theorem dX11_pours_55 : decode cX11_pours 55 = .ok (.invokestatic 160, 3) := by decide +kernel
theorem dX11_pours_58 : decode cX11_pours 58 = .ok (.ifCond .eq 27, 3) := by decide +kernel
theorem dX11_pours_61 : decode cX11_pours 61 = .ok (.iload 6, 2) := by decide +kernel
theorem dX11_pours_63 : decode cX11_pours 63 = .ok (.aload_n 0, 1) := by decide +kernel
theorem dX11_pours_64 : decode cX11_pours 64 = .ok (.iload 8, 2) := by decide +kernel
theorem dX11_pours_66 : decode cX11_pours 66 = .ok (.iload 5, 2) := by decide +kernel
theorem dX11_pours_68 : decode cX11_pours 68 = .ok (.ifCond .le 7, 3) := by decide +kernel
theorem dX11_pours_71 : decode cX11_pours 71 = .ok (.iconst 1, 1) := by decide +kernel
theorem dX11_pours_72 : decode cX11_pours 72 = .ok (.goto 4, 3) := by decide +kernel
theorem dX11_pours_75 : decode cX11_pours 75 = .ok (.iconst 0, 1) := by decide +kernel
theorem dX11_pours_76 : decode cX11_pours 76 = .ok (.invokevirtual 164, 3) := by decide +kernel
theorem dX11_pours_79 : decode cX11_pours 79 = .ok (.invokestatic 157, 3) := by decide +kernel
theorem dX11_pours_82 : decode cX11_pours 82 = .ok (.goto 4, 3) := by decide +kernel
theorem dX11_pours_85 : decode cX11_pours 85 = .ok (.iconst 0, 1) := by decide +kernel
theorem dX11_pours_86 : decode cX11_pours 86 = .ok (.iastore, 1) := by decide +kernel
theorem dX11_pours_87 : decode cX11_pours 87 = .ok (.iload 6, 2) := by decide +kernel
theorem dX11_pours_89 : decode cX11_pours 89 = .ok (.aload_n 0, 1) := by decide +kernel
theorem dX11_pours_90 : decode cX11_pours 90 = .ok (.getfield 50, 3) := by decide +kernel
theorem dX11_pours_93 : decode cX11_pours 93 = .ok (.iload 8, 2) := by decide +kernel
theorem dX11_pours_95 : decode cX11_pours 95 = .ok (.iaload, 1) := by decide +kernel
theorem dX11_pours_96 : decode cX11_pours 96 = .ok (.isub, 1) := by decide +kernel
theorem dX11_pours_97 : decode cX11_pours 97 = .ok (.istore 6, 2) := by decide +kernel
theorem dX11_pours_99 : decode cX11_pours 99 = .ok (.iinc 7 1, 3) := by decide +kernel
theorem dX11_pours_102 : decode cX11_pours 102 = .ok (.goto (-86), 3) := by decide +kernel
theorem dX11_pours_105 : decode cX11_pours 105 = .ok (.iload 6, 2) := by decide +kernel
theorem dX11_pours_107 : decode cX11_pours 107 = .ok (.ireturn, 1) := by decide +kernel
theorem dX11_thereAt_0 : decode cX11_thereAt 0 = .ok (.iconst 0, 1) := by decide +kernel
theorem dX11_thereAt_1 : decode cX11_thereAt 1 = .ok (.istore_n 3, 1) := by decide +kernel
theorem dX11_thereAt_2 : decode cX11_thereAt 2 = .ok (.iconst 0, 1) := by decide +kernel
theorem dX11_thereAt_3 : decode cX11_thereAt 3 = .ok (.istore 4, 2) := by decide +kernel
theorem dX11_thereAt_5 : decode cX11_thereAt 5 = .ok (.iload 4, 2) := by decide +kernel
theorem dX11_thereAt_7 : decode cX11_thereAt 7 = .ok (.aload_n 0, 1) := by decide +kernel
theorem dX11_thereAt_8 : decode cX11_thereAt 8 = .ok (.getfield 94, 3) := by decide +kernel
theorem dX11_thereAt_11 : decode cX11_thereAt 11 = .ok (.if_icmp .ge 43, 3) := by decide +kernel
theorem dX11_thereAt_14 : decode cX11_thereAt 14 = .ok (.iload_n 3, 1) := by decide +kernel
theorem dX11_thereAt_15 : decode cX11_thereAt 15 = .ok (.aload_n 0, 1) := by decide +kernel
theorem dX11_thereAt_16 : decode cX11_thereAt 16 = .ok (.getfield 13, 3) := by decide +kernel
theorem dX11_thereAt_19 : decode cX11_thereAt 19 = .ok (.iload 4, 2) := by decide +kernel
theorem dX11_thereAt_21 : decode cX11_thereAt 21 = .ok (.iaload, 1) := by decide +kernel
theorem dX11_thereAt_22 : decode cX11_thereAt 22 = .ok (.iload_n 2, 1) := by decide +kernel
theorem dX11_thereAt_23 : decode cX11_thereAt 23 = .ok (.if_icmp .ne 22, 3) := by decide +kernel
theorem dX11_thereAt_26 : decode cX11_thereAt 26 = .ok (.aload_n 0, 1) := by decide +kernel
theorem dX11_thereAt_27 : decode cX11_thereAt 27 = .ok (.getfield 37, 3) := by decide +kernel
theorem dX11_thereAt_30 : decode cX11_thereAt 30 = .ok (.iload_n 1, 1) := by decide +kernel
theorem dX11_thereAt_31 : decode cX11_thereAt 31 = .ok (.iload 4, 2) := by decide +kernel
theorem dX11_thereAt_33 : decode cX11_thereAt 33 = .ok (.iadd, 1) := by decide +kernel
theorem dX11_thereAt_34 : decode cX11_thereAt 34 = .ok (.iaload, 1) := by decide +kernel
theorem dX11_thereAt_35 : decode cX11_thereAt 35 = .ok (.ifCond .le 10, 3) := by decide +kernel
theorem dX11_thereAt_38 : decode cX11_thereAt 38 = .ok (.iconst 1, 1) := by decide +kernel
theorem dX11_thereAt_39 : decode cX11_thereAt 39 = .ok (.iload 4, 2) := by decide +kernel
theorem dX11_thereAt_41 : decode cX11_thereAt 41 = .ok (.ishl, 1) := by decide +kernel
theorem dX11_thereAt_42 : decode cX11_thereAt 42 = .ok (.goto 4, 3) := by decide +kernel
theorem dX11_thereAt_45 : decode cX11_thereAt 45 = .ok (.iconst 0, 1) := by decide +kernel
theorem dX11_thereAt_46 : decode cX11_thereAt 46 = .ok (.ior, 1) := by decide +kernel
theorem dX11_thereAt_47 : decode cX11_thereAt 47 = .ok (.istore_n 3, 1) := by decide +kernel
theorem dX11_thereAt_48 : decode cX11_thereAt 48 = .ok (.iinc 4 1, 3) := by decide +kernel
theorem dX11_thereAt_51 : decode cX11_thereAt 51 = .ok (.goto (-46), 3) := by decide +kernel
theorem dX11_thereAt_54 : decode cX11_thereAt 54 = .ok (.iload_n 3, 1) := by decide +kernel
theorem dX11_thereAt_55 : decode cX11_thereAt 55 = .ok (.ireturn, 1) := by decide +kernel
set_option maxRecDepth 20000 in
theorem ggX11_leftAt_X11_thereAt : GoodIn wsX11_leftAt wsX11_thereAt := goodIn_r _ [6, 7, 8, 1, 27, 28, 29, 30, 31, 32, 33, 34, 35, 36, 37, 38, 39, 40, 41, 42, 43, 44, 45, 46, 47, 48, 49, 50, 51, 52, 53, 54, 55, 56, 57, 58] rfl (by decide +kernel)
set_option maxRecDepth 20000 in
theorem gX11_leftAt_X11_thereAt : GoodIn wsX11_leftAt (wsV RX11 168 RX11 yX11_thereAt wsX11_thereAt) := goodIn_app (goodIn_of _ (by decide +kernel)) ggX11_leftAt_X11_thereAt
set_option maxRecDepth 20000 in
theorem ggX11_leftAt_X11_pours : GoodIn wsX11_leftAt wsX11_pours := goodIn_r _ [12, 7, 13, 8, 14, 15, 16, 5, 17, 18, 19, 20, 21, 22, 23, 24, 25, 26, 27, 28, 29, 30, 31, 32, 33, 34, 35, 36, 37, 38, 39, 40, 41, 42, 43, 44, 45, 46, 47, 48, 49, 50, 51, 52, 53, 54, 55, 56, 57, 58] rfl (by decide +kernel)
set_option maxRecDepth 20000 in
theorem gX11_leftAt_X11_pours : GoodIn wsX11_leftAt (wsV RX11 171 RX11 yX11_pours wsX11_pours) := goodIn_app (goodIn_of _ (by decide +kernel)) ggX11_leftAt_X11_pours
theorem dX11_leftAt_0 : decode cX11_leftAt 0 = .ok (.aload_n 0, 1) := by decide +kernel
theorem dX11_leftAt_1 : decode cX11_leftAt 1 = .ok (.iload_n 2, 1) := by decide +kernel
theorem dX11_leftAt_2 : decode cX11_leftAt 2 = .ok (.aload_n 0, 1) := by decide +kernel
theorem dX11_leftAt_3 : decode cX11_leftAt 3 = .ok (.getfield 37, 3) := by decide +kernel
theorem dX11_leftAt_6 : decode cX11_leftAt 6 = .ok (.iload_n 1, 1) := by decide +kernel
theorem dX11_leftAt_7 : decode cX11_leftAt 7 = .ok (.bipush 9, 2) := by decide +kernel
theorem dX11_leftAt_9 : decode cX11_leftAt 9 = .ok (.iadd, 1) := by decide +kernel
theorem dX11_leftAt_10 : decode cX11_leftAt 10 = .ok (.iload_n 2, 1) := by decide +kernel
theorem dX11_leftAt_11 : decode cX11_leftAt 11 = .ok (.iadd, 1) := by decide +kernel
theorem dX11_leftAt_12 : decode cX11_leftAt 12 = .ok (.iaload, 1) := by decide +kernel
theorem dX11_leftAt_13 : decode cX11_leftAt 13 = .ok (.aload_n 0, 1) := by decide +kernel
theorem dX11_leftAt_14 : decode cX11_leftAt 14 = .ok (.getfield 37, 3) := by decide +kernel
theorem dX11_leftAt_17 : decode cX11_leftAt 17 = .ok (.iload_n 1, 1) := by decide +kernel
theorem dX11_leftAt_18 : decode cX11_leftAt 18 = .ok (.bipush 18, 2) := by decide +kernel
theorem dX11_leftAt_20 : decode cX11_leftAt 20 = .ok (.iadd, 1) := by decide +kernel
theorem dX11_leftAt_21 : decode cX11_leftAt 21 = .ok (.iload_n 2, 1) := by decide +kernel
theorem dX11_leftAt_22 : decode cX11_leftAt 22 = .ok (.iadd, 1) := by decide +kernel
theorem dX11_leftAt_23 : decode cX11_leftAt 23 = .ok (.iaload, 1) := by decide +kernel
theorem dX11_leftAt_24 : decode cX11_leftAt 24 = .ok (.aload_n 0, 1) := by decide +kernel
theorem dX11_leftAt_25 : decode cX11_leftAt 25 = .ok (.iload_n 1, 1) := by decide +kernel
theorem dX11_leftAt_26 : decode cX11_leftAt 26 = .ok (.iload_n 2, 1) := by decide +kernel
theorem dX11_leftAt_27 : decode cX11_leftAt 27 = .ok (.invokevirtual 168, 3) := by decide +kernel
theorem dX11_leftAt_30 : decode cX11_leftAt 30 = .ok (.aload_n 0, 1) := by decide +kernel
theorem dX11_leftAt_31 : decode cX11_leftAt 31 = .ok (.getfield 37, 3) := by decide +kernel
theorem dX11_leftAt_34 : decode cX11_leftAt 34 = .ok (.iload_n 1, 1) := by decide +kernel
theorem dX11_leftAt_35 : decode cX11_leftAt 35 = .ok (.bipush 8, 2) := by decide +kernel
theorem dX11_leftAt_37 : decode cX11_leftAt 37 = .ok (.iadd, 1) := by decide +kernel
theorem dX11_leftAt_38 : decode cX11_leftAt 38 = .ok (.iaload, 1) := by decide +kernel
theorem dX11_leftAt_39 : decode cX11_leftAt 39 = .ok (.iconst (-1), 1) := by decide +kernel
theorem dX11_leftAt_40 : decode cX11_leftAt 40 = .ok (.ixor, 1) := by decide +kernel
theorem dX11_leftAt_41 : decode cX11_leftAt 41 = .ok (.iand, 1) := by decide +kernel
theorem dX11_leftAt_42 : decode cX11_leftAt 42 = .ok (.invokevirtual 171, 3) := by decide +kernel
theorem dX11_leftAt_45 : decode cX11_leftAt 45 = .ok (.ireturn, 1) := by decide +kernel
set_option maxRecDepth 20000 in
theorem ggX11_step_X11_isStep : GoodIn wsX11_step wsX11_isStep := goodIn_r _ [7, 8, 9, 10, 6, 11, 40, 41, 42, 43, 44, 45, 46, 47, 48, 49, 50, 51, 52, 53, 54, 55, 56, 57, 58, 59, 60, 61, 62, 63, 64, 65, 66, 67, 68, 69, 70, 71] rfl (by decide +kernel)
set_option maxRecDepth 20000 in
theorem gX11_step_X11_isStep : GoodIn wsX11_step (wsV RX11 175 RX11 yX11_isStep wsX11_isStep) := goodIn_app (goodIn_of _ (by decide +kernel)) ggX11_step_X11_isStep
set_option maxRecDepth 20000 in
theorem ggX11_step_X11_in : GoodIn wsX11_step wsX11_in := goodIn_r _ [11] rfl (by decide +kernel)
set_option maxRecDepth 20000 in
theorem gX11_step_X11_in : GoodIn wsX11_step (va_wsS RX11 101 yX11_in wsX11_in) := goodIn_app (goodIn_of _ (by decide +kernel)) ggX11_step_X11_in
set_option maxRecDepth 20000 in
theorem ggX11_step_X11_leftAt : GoodIn wsX11_step wsX11_leftAt := goodIn_r _ [15, 2, 16, 17, 18, 6, 19, 20, 21, 22, 23, 24, 25, 26, 27, 28, 29, 30, 31, 32, 33, 34, 35, 36, 37, 38, 39, 40, 41, 42, 43, 44, 45, 46, 47, 48, 49, 50, 51, 52, 53, 54, 55, 56, 57, 58, 59, 60, 61, 62, 63, 64, 65, 66, 67, 68, 69, 70, 71] rfl (by decide +kernel)
set_option maxRecDepth 20000 in
theorem gX11_step_X11_leftAt : GoodIn wsX11_step (wsV RX11 181 RX11 yX11_leftAt wsX11_leftAt) := goodIn_app (goodIn_of _ (by decide +kernel)) ggX11_step_X11_leftAt
set_option maxRecDepth 20000 in
theorem ggX11_step_X11_thereAt : GoodIn wsX11_step wsX11_thereAt := goodIn_r _ [19, 20, 21, 2, 40, 41, 42, 43, 44, 45, 46, 47, 48, 49, 50, 51, 52, 53, 54, 55, 56, 57, 58, 59, 60, 61, 62, 63, 64, 65, 66, 67, 68, 69, 70, 71] rfl (by decide +kernel)
set_option maxRecDepth 20000 in
theorem gX11_step_X11_thereAt : GoodIn wsX11_step (wsV RX11 168 RX11 yX11_thereAt wsX11_thereAt) := goodIn_app (goodIn_of _ (by decide +kernel)) ggX11_step_X11_thereAt
theorem dX11_step_0 : decode cX11_step 0 = .ok (.aload_n 0, 1) := by decide +kernel
theorem dX11_step_1 : decode cX11_step 1 = .ok (.iload_n 1, 1) := by decide +kernel
theorem dX11_step_2 : decode cX11_step 2 = .ok (.invokevirtual 175, 3) := by decide +kernel
theorem dX11_step_5 : decode cX11_step 5 = .ok (.ifCond .eq 15, 3) := by decide +kernel
theorem dX11_step_8 : decode cX11_step 8 = .ok (.iload_n 2, 1) := by decide +kernel
theorem dX11_step_9 : decode cX11_step 9 = .ok (.i2l, 1) := by decide +kernel
theorem dX11_step_10 : decode cX11_step 10 = .ok (.lconst 0, 1) := by decide +kernel
theorem dX11_step_11 : decode cX11_step 11 = .ok (.ldc2_w 179, 3) := by decide +kernel
theorem dX11_step_14 : decode cX11_step 14 = .ok (.invokestatic 101, 3) := by decide +kernel
theorem dX11_step_17 : decode cX11_step 17 = .ok (.ifCond .ne 5, 3) := by decide +kernel
theorem dX11_step_20 : decode cX11_step 20 = .ok (.iconst (-1), 1) := by decide +kernel
theorem dX11_step_21 : decode cX11_step 21 = .ok (.ireturn, 1) := by decide +kernel
theorem dX11_step_22 : decode cX11_step 22 = .ok (.iload_n 2, 1) := by decide +kernel
theorem dX11_step_23 : decode cX11_step 23 = .ok (.ifCond .ne 15, 3) := by decide +kernel
theorem dX11_step_26 : decode cX11_step 26 = .ok (.aload_n 0, 1) := by decide +kernel
theorem dX11_step_27 : decode cX11_step 27 = .ok (.getfield 37, 3) := by decide +kernel
theorem dX11_step_30 : decode cX11_step 30 = .ok (.bipush 9, 2) := by decide +kernel
theorem dX11_step_32 : decode cX11_step 32 = .ok (.iload_n 1, 1) := by decide +kernel
theorem dX11_step_33 : decode cX11_step 33 = .ok (.iadd, 1) := by decide +kernel
theorem dX11_step_34 : decode cX11_step 34 = .ok (.iaload, 1) := by decide +kernel
theorem dX11_step_35 : decode cX11_step 35 = .ok (.goto 40, 3) := by decide +kernel
theorem dX11_step_38 : decode cX11_step 38 = .ok (.iload_n 2, 1) := by decide +kernel
theorem dX11_step_39 : decode cX11_step 39 = .ok (.iconst 1, 1) := by decide +kernel
theorem dX11_step_40 : decode cX11_step 40 = .ok (.if_icmp .ne 15, 3) := by decide +kernel
theorem dX11_step_43 : decode cX11_step 43 = .ok (.aload_n 0, 1) := by decide +kernel
theorem dX11_step_44 : decode cX11_step 44 = .ok (.getfield 37, 3) := by decide +kernel
theorem dX11_step_47 : decode cX11_step 47 = .ok (.bipush 18, 2) := by decide +kernel
theorem dX11_step_49 : decode cX11_step 49 = .ok (.iload_n 1, 1) := by decide +kernel
theorem dX11_step_50 : decode cX11_step 50 = .ok (.iadd, 1) := by decide +kernel
theorem dX11_step_51 : decode cX11_step 51 = .ok (.iaload, 1) := by decide +kernel
theorem dX11_step_52 : decode cX11_step 52 = .ok (.goto 23, 3) := by decide +kernel
theorem dX11_step_55 : decode cX11_step 55 = .ok (.iload_n 2, 1) := by decide +kernel
theorem dX11_step_56 : decode cX11_step 56 = .ok (.iconst 2, 1) := by decide +kernel
theorem dX11_step_57 : decode cX11_step 57 = .ok (.if_icmp .ne 12, 3) := by decide +kernel
theorem dX11_step_60 : decode cX11_step 60 = .ok (.aload_n 0, 1) := by decide +kernel
theorem dX11_step_61 : decode cX11_step 61 = .ok (.iconst 0, 1) := by decide +kernel
theorem dX11_step_62 : decode cX11_step 62 = .ok (.iload_n 1, 1) := by decide +kernel
theorem dX11_step_63 : decode cX11_step 63 = .ok (.invokevirtual 181, 3) := by decide +kernel
theorem dX11_step_66 : decode cX11_step 66 = .ok (.goto 9, 3) := by decide +kernel
theorem dX11_step_69 : decode cX11_step 69 = .ok (.aload_n 0, 1) := by decide +kernel
theorem dX11_step_70 : decode cX11_step 70 = .ok (.iconst 0, 1) := by decide +kernel
theorem dX11_step_71 : decode cX11_step 71 = .ok (.iload_n 1, 1) := by decide +kernel
theorem dX11_step_72 : decode cX11_step 72 = .ok (.invokevirtual 168, 3) := by decide +kernel
theorem dX11_step_75 : decode cX11_step 75 = .ok (.ireturn, 1) := by decide +kernel
set_option maxRecDepth 20000 in
theorem ggX11_younger_X11_isOne : GoodIn wsX11_younger wsX11_isOne := goodIn_r _ [12, 13, 14, 15, 11, 16, 40, 41, 42, 43, 44, 45, 46, 47, 48, 49, 50, 51, 52, 53, 54, 55, 56, 57, 58, 59, 60, 61, 62, 63, 64, 65, 66, 67, 68, 69, 70, 71] rfl (by decide +kernel)
set_option maxRecDepth 20000 in
theorem gX11_younger_X11_isOne : GoodIn wsX11_younger (wsV RX11 184 RX11 yX11_isOne wsX11_isOne) := goodIn_app (goodIn_of _ (by decide +kernel)) ggX11_younger_X11_isOne
set_option maxRecDepth 20000 in
theorem ggX11_younger_X11_in : GoodIn wsX11_younger wsX11_in := goodIn_r _ [16] rfl (by decide +kernel)
set_option maxRecDepth 20000 in
theorem gX11_younger_X11_in : GoodIn wsX11_younger (va_wsS RX11 101 yX11_in wsX11_in) := goodIn_app (goodIn_of _ (by decide +kernel)) ggX11_younger_X11_in
set_option maxRecDepth 20000 in
theorem ggX11_younger_X11_leftAt : GoodIn wsX11_younger wsX11_leftAt := goodIn_r _ [20, 6, 21, 22, 23, 11, 24, 13, 2, 25, 26, 27, 28, 29, 7, 30, 31, 32, 33, 34, 35, 36, 37, 38, 39, 5, 3, 40, 41, 42, 43, 44, 45, 46, 47, 48, 49, 50, 51, 52, 53, 54, 55, 56, 57, 58, 59, 60, 61, 62, 63, 64, 65, 66, 67, 68, 69, 70, 71] rfl (by decide +kernel)
set_option maxRecDepth 20000 in
theorem gX11_younger_X11_leftAt : GoodIn wsX11_younger (wsV RX11 181 RX11 yX11_leftAt wsX11_leftAt) := goodIn_app (goodIn_of _ (by decide +kernel)) ggX11_younger_X11_leftAt
theorem dX11_younger_0 : decode cX11_younger 0 = .ok (.aload_n 0, 1) := by decide +kernel
theorem dX11_younger_1 : decode cX11_younger 1 = .ok (.iload_n 1, 1) := by decide +kernel
theorem dX11_younger_2 : decode cX11_younger 2 = .ok (.invokevirtual 184, 3) := by decide +kernel
theorem dX11_younger_5 : decode cX11_younger 5 = .ok (.ifCond .eq 15, 3) := by decide +kernel
theorem dX11_younger_8 : decode cX11_younger 8 = .ok (.iload_n 2, 1) := by decide +kernel
theorem dX11_younger_9 : decode cX11_younger 9 = .ok (.i2l, 1) := by decide +kernel
theorem dX11_younger_10 : decode cX11_younger 10 = .ok (.lconst 0, 1) := by decide +kernel
theorem dX11_younger_11 : decode cX11_younger 11 = .ok (.ldc2_w 187, 3) := by decide +kernel
theorem dX11_younger_14 : decode cX11_younger 14 = .ok (.invokestatic 101, 3) := by decide +kernel
theorem dX11_younger_17 : decode cX11_younger 17 = .ok (.ifCond .ne 5, 3) := by decide +kernel
theorem dX11_younger_20 : decode cX11_younger 20 = .ok (.iconst (-1), 1) := by decide +kernel
theorem dX11_younger_21 : decode cX11_younger 21 = .ok (.ireturn, 1) := by decide +kernel
theorem dX11_younger_22 : decode cX11_younger 22 = .ok (.aload_n 0, 1) := by decide +kernel
theorem dX11_younger_23 : decode cX11_younger 23 = .ok (.iconst 0, 1) := by decide +kernel
theorem dX11_younger_24 : decode cX11_younger 24 = .ok (.aload_n 0, 1) := by decide +kernel
theorem dX11_younger_25 : decode cX11_younger 25 = .ok (.getfield 13, 3) := by decide +kernel
theorem dX11_younger_28 : decode cX11_younger 28 = .ok (.iload_n 1, 1) := by decide +kernel
theorem dX11_younger_29 : decode cX11_younger 29 = .ok (.iaload, 1) := by decide +kernel
theorem dX11_younger_30 : decode cX11_younger 30 = .ok (.invokevirtual 181, 3) := by decide +kernel
theorem dX11_younger_33 : decode cX11_younger 33 = .ok (.istore_n 3, 1) := by decide +kernel
theorem dX11_younger_34 : decode cX11_younger 34 = .ok (.iload_n 2, 1) := by decide +kernel
theorem dX11_younger_35 : decode cX11_younger 35 = .ok (.ifCond .ne 12, 3) := by decide +kernel
theorem dX11_younger_38 : decode cX11_younger 38 = .ok (.aload_n 0, 1) := by decide +kernel
theorem dX11_younger_39 : decode cX11_younger 39 = .ok (.getfield 7, 3) := by decide +kernel
theorem dX11_younger_42 : decode cX11_younger 42 = .ok (.iload_n 1, 1) := by decide +kernel
theorem dX11_younger_43 : decode cX11_younger 43 = .ok (.iaload, 1) := by decide +kernel
theorem dX11_younger_44 : decode cX11_younger 44 = .ok (.goto 92, 3) := by decide +kernel
theorem dX11_younger_47 : decode cX11_younger 47 = .ok (.iload_n 2, 1) := by decide +kernel
theorem dX11_younger_48 : decode cX11_younger 48 = .ok (.iconst 1, 1) := by decide +kernel
theorem dX11_younger_49 : decode cX11_younger 49 = .ok (.if_icmp .ne 12, 3) := by decide +kernel
theorem dX11_younger_52 : decode cX11_younger 52 = .ok (.aload_n 0, 1) := by decide +kernel
theorem dX11_younger_53 : decode cX11_younger 53 = .ok (.getfield 13, 3) := by decide +kernel
theorem dX11_younger_56 : decode cX11_younger 56 = .ok (.iload_n 1, 1) := by decide +kernel
theorem dX11_younger_57 : decode cX11_younger 57 = .ok (.iaload, 1) := by decide +kernel
theorem dX11_younger_58 : decode cX11_younger 58 = .ok (.goto 78, 3) := by decide +kernel
theorem dX11_younger_61 : decode cX11_younger 61 = .ok (.iload_n 2, 1) := by decide +kernel
theorem dX11_younger_62 : decode cX11_younger 62 = .ok (.iconst 2, 1) := by decide +kernel
theorem dX11_younger_63 : decode cX11_younger 63 = .ok (.if_icmp .ne 12, 3) := by decide +kernel
theorem dX11_younger_66 : decode cX11_younger 66 = .ok (.aload_n 0, 1) := by decide +kernel
theorem dX11_younger_67 : decode cX11_younger 67 = .ok (.getfield 16, 3) := by decide +kernel
theorem dX11_younger_70 : decode cX11_younger 70 = .ok (.iload_n 1, 1) := by decide +kernel
theorem dX11_younger_71 : decode cX11_younger 71 = .ok (.iaload, 1) := by decide +kernel
theorem dX11_younger_72 : decode cX11_younger 72 = .ok (.goto 64, 3) := by decide +kernel
theorem dX11_younger_75 : decode cX11_younger 75 = .ok (.iload_n 2, 1) := by decide +kernel
theorem dX11_younger_76 : decode cX11_younger 76 = .ok (.iconst 3, 1) := by decide +kernel
theorem dX11_younger_77 : decode cX11_younger 77 = .ok (.if_icmp .ne 12, 3) := by decide +kernel
theorem dX11_younger_80 : decode cX11_younger 80 = .ok (.aload_n 0, 1) := by decide +kernel
theorem dX11_younger_81 : decode cX11_younger 81 = .ok (.getfield 19, 3) := by decide +kernel
theorem dX11_younger_84 : decode cX11_younger 84 = .ok (.iload_n 1, 1) := by decide +kernel
theorem dX11_younger_85 : decode cX11_younger 85 = .ok (.iaload, 1) := by decide +kernel
theorem dX11_younger_86 : decode cX11_younger 86 = .ok (.goto 50, 3) := by decide +kernel
theorem dX11_younger_89 : decode cX11_younger 89 = .ok (.iload_n 2, 1) := by decide +kernel
theorem dX11_younger_90 : decode cX11_younger 90 = .ok (.iconst 4, 1) := by decide +kernel
theorem dX11_younger_91 : decode cX11_younger 91 = .ok (.if_icmp .ne 12, 3) := by decide +kernel
theorem dX11_younger_94 : decode cX11_younger 94 = .ok (.aload_n 0, 1) := by decide +kernel
theorem dX11_younger_95 : decode cX11_younger 95 = .ok (.getfield 37, 3) := by decide +kernel
theorem dX11_younger_98 : decode cX11_younger 98 = .ok (.iload_n 1, 1) := by decide +kernel
theorem dX11_younger_99 : decode cX11_younger 99 = .ok (.iaload, 1) := by decide +kernel
theorem dX11_younger_100 : decode cX11_younger 100 = .ok (.goto 36, 3) := by decide +kernel
theorem dX11_younger_103 : decode cX11_younger 103 = .ok (.iload_n 2, 1) := by decide +kernel
theorem dX11_younger_104 : decode cX11_younger 104 = .ok (.iconst 5, 1) := by decide +kernel
theorem dX11_younger_105 : decode cX11_younger 105 = .ok (.if_icmp .ne 17, 3) := by decide +kernel
theorem dX11_younger_108 : decode cX11_younger 108 = .ok (.aload_n 0, 1) := by decide +kernel
theorem dX11_younger_109 : decode cX11_younger 109 = .ok (.getfield 37, 3) := by decide +kernel
theorem dX11_younger_112 : decode cX11_younger 112 = .ok (.bipush 8, 2) := by decide +kernel
theorem dX11_younger_114 : decode cX11_younger 114 = .ok (.iaload, 1) := by decide +kernel
theorem dX11_younger_115 : decode cX11_younger 115 = .ok (.iload_n 1, 1) := by decide +kernel
theorem dX11_younger_116 : decode cX11_younger 116 = .ok (.ishr, 1) := by decide +kernel
theorem dX11_younger_117 : decode cX11_younger 117 = .ok (.iconst 1, 1) := by decide +kernel
theorem dX11_younger_118 : decode cX11_younger 118 = .ok (.iand, 1) := by decide +kernel
theorem dX11_younger_119 : decode cX11_younger 119 = .ok (.goto 17, 3) := by decide +kernel
theorem dX11_younger_122 : decode cX11_younger 122 = .ok (.iload_n 3, 1) := by decide +kernel
theorem dX11_younger_123 : decode cX11_younger 123 = .ok (.ifCond .ge 7, 3) := by decide +kernel
theorem dX11_younger_126 : decode cX11_younger 126 = .ok (.iconst 0, 1) := by decide +kernel
theorem dX11_younger_127 : decode cX11_younger 127 = .ok (.goto 9, 3) := by decide +kernel
theorem dX11_younger_130 : decode cX11_younger 130 = .ok (.aload_n 0, 1) := by decide +kernel
theorem dX11_younger_131 : decode cX11_younger 131 = .ok (.getfield 50, 3) := by decide +kernel
theorem dX11_younger_134 : decode cX11_younger 134 = .ok (.iload_n 1, 1) := by decide +kernel
theorem dX11_younger_135 : decode cX11_younger 135 = .ok (.iaload, 1) := by decide +kernel
theorem dX11_younger_136 : decode cX11_younger 136 = .ok (.ireturn, 1) := by decide +kernel
set_option maxRecDepth 20000 in
theorem ggX11_wellThen_X11_wants : GoodIn wsX11_wellThen wsX11_wants := goodIn_r _ [7, 2, 1, 14, 15, 16, 17, 18, 19, 20, 21, 22, 23, 24, 25, 26, 27, 28, 29, 30, 31, 32, 33, 34, 35, 36, 37, 38, 39, 40, 41, 42, 43, 44, 45] rfl (by decide +kernel)
set_option maxRecDepth 20000 in
theorem gX11_wellThen_X11_wants : GoodIn wsX11_wellThen (wsV RX11 164 RX11 yX11_wants wsX11_wants) := goodIn_app (goodIn_of _ (by decide +kernel)) ggX11_wellThen_X11_wants
set_option maxRecDepth 20000 in
theorem ggX11_wellThen_X11_smaller : GoodIn wsX11_wellThen wsX11_smaller := goodIn_r _ [10] rfl (by decide +kernel)
set_option maxRecDepth 20000 in
theorem gX11_wellThen_X11_smaller : GoodIn wsX11_wellThen (va_wsS RX11 157 yX11_smaller wsX11_smaller) := goodIn_app (goodIn_of _ (by decide +kernel)) ggX11_wellThen_X11_smaller
set_option maxRecDepth 20000 in
theorem ggX11_wellThen_X11_larger : GoodIn wsX11_wellThen wsX11_larger := goodIn_r _ [13] rfl (by decide +kernel)
set_option maxRecDepth 20000 in
theorem gX11_wellThen_X11_larger : GoodIn wsX11_wellThen (va_wsS RX11 189 yX11_larger wsX11_larger) := goodIn_app (goodIn_of _ (by decide +kernel)) ggX11_wellThen_X11_larger
theorem dX11_wellThen_0 : decode cX11_wellThen 0 = .ok (.iload_n 2, 1) := by decide +kernel
theorem dX11_wellThen_1 : decode cX11_wellThen 1 = .ok (.ifCond .gt 5, 3) := by decide +kernel
theorem dX11_wellThen_4 : decode cX11_wellThen 4 = .ok (.iconst 0, 1) := by decide +kernel
theorem dX11_wellThen_5 : decode cX11_wellThen 5 = .ok (.ireturn, 1) := by decide +kernel
theorem dX11_wellThen_6 : decode cX11_wellThen 6 = .ok (.aload_n 0, 1) := by decide +kernel
theorem dX11_wellThen_7 : decode cX11_wellThen 7 = .ok (.getfield 7, 3) := by decide +kernel
theorem dX11_wellThen_10 : decode cX11_wellThen 10 = .ok (.iload_n 1, 1) := by decide +kernel
theorem dX11_wellThen_11 : decode cX11_wellThen 11 = .ok (.iaload, 1) := by decide +kernel
theorem dX11_wellThen_12 : decode cX11_wellThen 12 = .ok (.iconst 1, 1) := by decide +kernel
theorem dX11_wellThen_13 : decode cX11_wellThen 13 = .ok (.if_icmp .ne 13, 3) := by decide +kernel
theorem dX11_wellThen_16 : decode cX11_wellThen 16 = .ok (.aload_n 0, 1) := by decide +kernel
theorem dX11_wellThen_17 : decode cX11_wellThen 17 = .ok (.iload_n 1, 1) := by decide +kernel
theorem dX11_wellThen_18 : decode cX11_wellThen 18 = .ok (.iload 5, 2) := by decide +kernel
theorem dX11_wellThen_20 : decode cX11_wellThen 20 = .ok (.invokevirtual 164, 3) := by decide +kernel
theorem dX11_wellThen_23 : decode cX11_wellThen 23 = .ok (.goto 9, 3) := by decide +kernel
theorem dX11_wellThen_26 : decode cX11_wellThen 26 = .ok (.aload_n 0, 1) := by decide +kernel
theorem dX11_wellThen_27 : decode cX11_wellThen 27 = .ok (.getfield 19, 3) := by decide +kernel
theorem dX11_wellThen_30 : decode cX11_wellThen 30 = .ok (.iload_n 1, 1) := by decide +kernel
theorem dX11_wellThen_31 : decode cX11_wellThen 31 = .ok (.iaload, 1) := by decide +kernel
theorem dX11_wellThen_32 : decode cX11_wellThen 32 = .ok (.istore 6, 2) := by decide +kernel
theorem dX11_wellThen_34 : decode cX11_wellThen 34 = .ok (.iload 4, 2) := by decide +kernel
theorem dX11_wellThen_36 : decode cX11_wellThen 36 = .ok (.ifCond .ne 13, 3) := by decide +kernel
theorem dX11_wellThen_39 : decode cX11_wellThen 39 = .ok (.aload_n 0, 1) := by decide +kernel
theorem dX11_wellThen_40 : decode cX11_wellThen 40 = .ok (.getfield 7, 3) := by decide +kernel
theorem dX11_wellThen_43 : decode cX11_wellThen 43 = .ok (.iload_n 1, 1) := by decide +kernel
theorem dX11_wellThen_44 : decode cX11_wellThen 44 = .ok (.iaload, 1) := by decide +kernel
theorem dX11_wellThen_45 : decode cX11_wellThen 45 = .ok (.iconst 1, 1) := by decide +kernel
theorem dX11_wellThen_46 : decode cX11_wellThen 46 = .ok (.if_icmp .ne 7, 3) := by decide +kernel
theorem dX11_wellThen_49 : decode cX11_wellThen 49 = .ok (.iconst 1, 1) := by decide +kernel
theorem dX11_wellThen_50 : decode cX11_wellThen 50 = .ok (.goto 11, 3) := by decide +kernel
theorem dX11_wellThen_53 : decode cX11_wellThen 53 = .ok (.aload_n 0, 1) := by decide +kernel
theorem dX11_wellThen_54 : decode cX11_wellThen 54 = .ok (.getfield 19, 3) := by decide +kernel
theorem dX11_wellThen_57 : decode cX11_wellThen 57 = .ok (.iload_n 1, 1) := by decide +kernel
theorem dX11_wellThen_58 : decode cX11_wellThen 58 = .ok (.iaload, 1) := by decide +kernel
theorem dX11_wellThen_59 : decode cX11_wellThen 59 = .ok (.iload_n 3, 1) := by decide +kernel
theorem dX11_wellThen_60 : decode cX11_wellThen 60 = .ok (.isub, 1) := by decide +kernel
theorem dX11_wellThen_61 : decode cX11_wellThen 61 = .ok (.istore 7, 2) := by decide +kernel
theorem dX11_wellThen_63 : decode cX11_wellThen 63 = .ok (.iload 4, 2) := by decide +kernel
theorem dX11_wellThen_65 : decode cX11_wellThen 65 = .ok (.ifCond .ne 20, 3) := by decide +kernel
theorem dX11_wellThen_68 : decode cX11_wellThen 68 = .ok (.iload_n 3, 1) := by decide +kernel
theorem dX11_wellThen_69 : decode cX11_wellThen 69 = .ok (.iload 6, 2) := by decide +kernel
theorem dX11_wellThen_71 : decode cX11_wellThen 71 = .ok (.if_icmp .lt 14, 3) := by decide +kernel
theorem dX11_wellThen_74 : decode cX11_wellThen 74 = .ok (.bipush 20, 2) := by decide +kernel
theorem dX11_wellThen_76 : decode cX11_wellThen 76 = .ok (.iload_n 2, 1) := by decide +kernel
theorem dX11_wellThen_77 : decode cX11_wellThen 77 = .ok (.iconst 1, 1) := by decide +kernel
theorem dX11_wellThen_78 : decode cX11_wellThen 78 = .ok (.iadd, 1) := by decide +kernel
theorem dX11_wellThen_79 : decode cX11_wellThen 79 = .ok (.invokestatic 157, 3) := by decide +kernel
theorem dX11_wellThen_82 : decode cX11_wellThen 82 = .ok (.goto 11, 3) := by decide +kernel
theorem dX11_wellThen_85 : decode cX11_wellThen 85 = .ok (.iconst 0, 1) := by decide +kernel
theorem dX11_wellThen_86 : decode cX11_wellThen 86 = .ok (.iload_n 2, 1) := by decide +kernel
theorem dX11_wellThen_87 : decode cX11_wellThen 87 = .ok (.iload 7, 2) := by decide +kernel
theorem dX11_wellThen_89 : decode cX11_wellThen 89 = .ok (.isub, 1) := by decide +kernel
theorem dX11_wellThen_90 : decode cX11_wellThen 90 = .ok (.invokestatic 189, 3) := by decide +kernel
theorem dX11_wellThen_93 : decode cX11_wellThen 93 = .ok (.ireturn, 1) := by decide +kernel
set_option maxRecDepth 20000 in
theorem ggX11_goesOn_X11_smaller : GoodIn wsX11_goesOn wsX11_smaller := goodIn_r _ [9] rfl (by decide +kernel)
set_option maxRecDepth 20000 in
theorem gX11_goesOn_X11_smaller : GoodIn wsX11_goesOn (va_wsS RX11 157 yX11_smaller wsX11_smaller) := goodIn_app (goodIn_of _ (by decide +kernel)) ggX11_goesOn_X11_smaller
set_option maxRecDepth 20000 in
theorem ggX11_goesOn_X11_thereAt : GoodIn wsX11_goesOn wsX11_thereAt := goodIn_r _ [13, 3, 4, 2, 35, 36, 37, 38, 39, 40, 41, 42, 43, 44, 45, 46, 47, 48, 49, 50, 51, 52, 53, 54, 55, 56, 57, 58, 59, 60, 61, 62, 63, 64, 65, 66] rfl (by decide +kernel)
set_option maxRecDepth 20000 in
theorem gX11_goesOn_X11_thereAt : GoodIn wsX11_goesOn (wsV RX11 168 RX11 yX11_thereAt wsX11_thereAt) := goodIn_app (goodIn_of _ (by decide +kernel)) ggX11_goesOn_X11_thereAt
set_option maxRecDepth 20000 in
theorem ggX11_goesOn_X11_pours : GoodIn wsX11_goesOn wsX11_pours := goodIn_r _ [17, 3, 18, 4, 5, 6, 7, 8, 9, 19, 20, 21, 22, 23, 24, 25, 26, 27, 35, 36, 37, 38, 39, 40, 41, 42, 43, 44, 45, 46, 47, 48, 49, 50, 51, 52, 53, 54, 55, 56, 57, 58, 59, 60, 61, 62, 63, 64, 65, 66] rfl (by decide +kernel)
set_option maxRecDepth 20000 in
theorem gX11_goesOn_X11_pours : GoodIn wsX11_goesOn (wsV RX11 171 RX11 yX11_pours wsX11_pours) := goodIn_app (goodIn_of _ (by decide +kernel)) ggX11_goesOn_X11_pours
set_option maxRecDepth 20000 in
theorem ggX11_goesOn_X11_has : GoodIn wsX11_goesOn wsX11_has := goodIn_r _ [21] rfl (by decide +kernel)
set_option maxRecDepth 20000 in
theorem gX11_goesOn_X11_has : GoodIn wsX11_goesOn (va_wsS RX11 160 yX11_has wsX11_has) := goodIn_app (goodIn_of _ (by decide +kernel)) ggX11_goesOn_X11_has
set_option maxRecDepth 20000 in
theorem ggX11_goesOn_X11_wellThen : GoodIn wsX11_goesOn wsX11_wellThen := goodIn_r _ [31, 27, 26, 22, 23, 24, 8, 25, 6, 7, 9, 32, 33, 34, 35, 36, 37, 38, 39, 40, 41, 42, 43, 44, 45, 46, 47, 48, 49, 50, 51, 52, 53, 54, 55, 56, 57, 58, 59, 60, 61, 62, 63, 64, 65, 66] rfl (by decide +kernel)
set_option maxRecDepth 20000 in
theorem gX11_goesOn_X11_wellThen : GoodIn wsX11_goesOn (wsV RX11 192 RX11 yX11_wellThen wsX11_wellThen) := goodIn_app (goodIn_of _ (by decide +kernel)) ggX11_goesOn_X11_wellThen
theorem dX11_goesOn_0 : decode cX11_goesOn 0 = .ok (.iconst 0, 1) := by decide +kernel
theorem dX11_goesOn_1 : decode cX11_goesOn 1 = .ok (.istore_n 3, 1) := by decide +kernel
theorem dX11_goesOn_2 : decode cX11_goesOn 2 = .ok (.iconst 0, 1) := by decide +kernel
theorem dX11_goesOn_3 : decode cX11_goesOn 3 = .ok (.istore 4, 2) := by decide +kernel
theorem dX11_goesOn_5 : decode cX11_goesOn 5 = .ok (.iload 4, 2) := by decide +kernel
theorem dX11_goesOn_7 : decode cX11_goesOn 7 = .ok (.aload_n 0, 1) := by decide +kernel
theorem dX11_goesOn_8 : decode cX11_goesOn 8 = .ok (.getfield 88, 3) := by decide +kernel
theorem dX11_goesOn_11 : decode cX11_goesOn 11 = .ok (.if_icmp .ge 174, 3) := by decide +kernel
theorem dX11_goesOn_14 : decode cX11_goesOn 14 = .ok (.iload_n 2, 1) := by decide +kernel
theorem dX11_goesOn_15 : decode cX11_goesOn 15 = .ok (.ifCond .eq 7, 3) := by decide +kernel
theorem dX11_goesOn_18 : decode cX11_goesOn 18 = .ok (.iconst 0, 1) := by decide +kernel
theorem dX11_goesOn_19 : decode cX11_goesOn 19 = .ok (.goto 15, 3) := by decide +kernel
theorem dX11_goesOn_22 : decode cX11_goesOn 22 = .ok (.aload_n 0, 1) := by decide +kernel
theorem dX11_goesOn_23 : decode cX11_goesOn 23 = .ok (.getfield 37, 3) := by decide +kernel
theorem dX11_goesOn_26 : decode cX11_goesOn 26 = .ok (.iload_n 1, 1) := by decide +kernel
theorem dX11_goesOn_27 : decode cX11_goesOn 27 = .ok (.bipush 9, 2) := by decide +kernel
theorem dX11_goesOn_29 : decode cX11_goesOn 29 = .ok (.iadd, 1) := by decide +kernel
theorem dX11_goesOn_30 : decode cX11_goesOn 30 = .ok (.iload 4, 2) := by decide +kernel
theorem dX11_goesOn_32 : decode cX11_goesOn 32 = .ok (.iadd, 1) := by decide +kernel
theorem dX11_goesOn_33 : decode cX11_goesOn 33 = .ok (.iaload, 1) := by decide +kernel
theorem dX11_goesOn_34 : decode cX11_goesOn 34 = .ok (.istore 5, 2) := by decide +kernel
theorem dX11_goesOn_36 : decode cX11_goesOn 36 = .ok (.aload_n 0, 1) := by decide +kernel
theorem dX11_goesOn_37 : decode cX11_goesOn 37 = .ok (.getfield 37, 3) := by decide +kernel
theorem dX11_goesOn_40 : decode cX11_goesOn 40 = .ok (.iload_n 1, 1) := by decide +kernel
theorem dX11_goesOn_41 : decode cX11_goesOn 41 = .ok (.bipush 8, 2) := by decide +kernel
theorem dX11_goesOn_43 : decode cX11_goesOn 43 = .ok (.iadd, 1) := by decide +kernel
theorem dX11_goesOn_44 : decode cX11_goesOn 44 = .ok (.iaload, 1) := by decide +kernel
theorem dX11_goesOn_45 : decode cX11_goesOn 45 = .ok (.istore 6, 2) := by decide +kernel
theorem dX11_goesOn_47 : decode cX11_goesOn 47 = .ok (.iload 5, 2) := by decide +kernel
theorem dX11_goesOn_49 : decode cX11_goesOn 49 = .ok (.aload_n 0, 1) := by decide +kernel
theorem dX11_goesOn_50 : decode cX11_goesOn 50 = .ok (.getfield 37, 3) := by decide +kernel
theorem dX11_goesOn_53 : decode cX11_goesOn 53 = .ok (.iload_n 1, 1) := by decide +kernel
theorem dX11_goesOn_54 : decode cX11_goesOn 54 = .ok (.bipush 18, 2) := by decide +kernel
theorem dX11_goesOn_56 : decode cX11_goesOn 56 = .ok (.iadd, 1) := by decide +kernel
theorem dX11_goesOn_57 : decode cX11_goesOn 57 = .ok (.iload 4, 2) := by decide +kernel
theorem dX11_goesOn_59 : decode cX11_goesOn 59 = .ok (.iadd, 1) := by decide +kernel
theorem dX11_goesOn_60 : decode cX11_goesOn 60 = .ok (.iaload, 1) := by decide +kernel
theorem dX11_goesOn_61 : decode cX11_goesOn 61 = .ok (.invokestatic 157, 3) := by decide +kernel
theorem dX11_goesOn_64 : decode cX11_goesOn 64 = .ok (.ifCond .le 7, 3) := by decide +kernel
theorem dX11_goesOn_67 : decode cX11_goesOn 67 = .ok (.iconst 1, 1) := by decide +kernel
theorem dX11_goesOn_68 : decode cX11_goesOn 68 = .ok (.goto 4, 3) := by decide +kernel
theorem dX11_goesOn_71 : decode cX11_goesOn 71 = .ok (.iconst 0, 1) := by decide +kernel
theorem dX11_goesOn_72 : decode cX11_goesOn 72 = .ok (.istore 7, 2) := by decide +kernel
theorem dX11_goesOn_74 : decode cX11_goesOn 74 = .ok (.iload_n 3, 1) := by decide +kernel
theorem dX11_goesOn_75 : decode cX11_goesOn 75 = .ok (.aload_n 0, 1) := by decide +kernel
theorem dX11_goesOn_76 : decode cX11_goesOn 76 = .ok (.iload 4, 2) := by decide +kernel
theorem dX11_goesOn_78 : decode cX11_goesOn 78 = .ok (.iload 5, 2) := by decide +kernel
theorem dX11_goesOn_80 : decode cX11_goesOn 80 = .ok (.aload_n 0, 1) := by decide +kernel
theorem dX11_goesOn_81 : decode cX11_goesOn 81 = .ok (.getfield 37, 3) := by decide +kernel
theorem dX11_goesOn_84 : decode cX11_goesOn 84 = .ok (.iload_n 1, 1) := by decide +kernel
theorem dX11_goesOn_85 : decode cX11_goesOn 85 = .ok (.bipush 18, 2) := by decide +kernel
theorem dX11_goesOn_87 : decode cX11_goesOn 87 = .ok (.iadd, 1) := by decide +kernel
theorem dX11_goesOn_88 : decode cX11_goesOn 88 = .ok (.iload 4, 2) := by decide +kernel
theorem dX11_goesOn_90 : decode cX11_goesOn 90 = .ok (.iadd, 1) := by decide +kernel
theorem dX11_goesOn_91 : decode cX11_goesOn 91 = .ok (.iaload, 1) := by decide +kernel
theorem dX11_goesOn_92 : decode cX11_goesOn 92 = .ok (.aload_n 0, 1) := by decide +kernel
theorem dX11_goesOn_93 : decode cX11_goesOn 93 = .ok (.iload_n 1, 1) := by decide +kernel
theorem dX11_goesOn_94 : decode cX11_goesOn 94 = .ok (.iload 4, 2) := by decide +kernel
theorem dX11_goesOn_96 : decode cX11_goesOn 96 = .ok (.invokevirtual 168, 3) := by decide +kernel
theorem dX11_goesOn_99 : decode cX11_goesOn 99 = .ok (.iload 6, 2) := by decide +kernel
theorem dX11_goesOn_101 : decode cX11_goesOn 101 = .ok (.iconst (-1), 1) := by decide +kernel
theorem dX11_goesOn_102 : decode cX11_goesOn 102 = .ok (.ixor, 1) := by decide +kernel
theorem dX11_goesOn_103 : decode cX11_goesOn 103 = .ok (.iand, 1) := by decide +kernel
theorem dX11_goesOn_104 : decode cX11_goesOn 104 = .ok (.invokevirtual 171, 3) := by decide +kernel
theorem dX11_goesOn_107 : decode cX11_goesOn 107 = .ok (.iadd, 1) := by decide +kernel
theorem dX11_goesOn_108 : decode cX11_goesOn 108 = .ok (.istore_n 3, 1) := by decide +kernel
theorem dX11_goesOn_109 : decode cX11_goesOn 109 = .ok (.iconst 0, 1) := by decide +kernel
theorem dX11_goesOn_110 : decode cX11_goesOn 110 = .ok (.istore 8, 2) := by decide +kernel
theorem dX11_goesOn_112 : decode cX11_goesOn 112 = .ok (.iload 8, 2) := by decide +kernel
theorem dX11_goesOn_114 : decode cX11_goesOn 114 = .ok (.aload_n 0, 1) := by decide +kernel
theorem dX11_goesOn_115 : decode cX11_goesOn 115 = .ok (.getfield 94, 3) := by decide +kernel
theorem dX11_goesOn_118 : decode cX11_goesOn 118 = .ok (.if_icmp .ge 61, 3) := by decide +kernel
theorem dX11_goesOn_121 : decode cX11_goesOn 121 = .ok (.aload_n 0, 1) := by decide +kernel
theorem dX11_goesOn_122 : decode cX11_goesOn 122 = .ok (.getfield 13, 3) := by decide +kernel
theorem dX11_goesOn_125 : decode cX11_goesOn 125 = .ok (.iload 8, 2) := by decide +kernel
theorem dX11_goesOn_127 : decode cX11_goesOn 127 = .ok (.iaload, 1) := by decide +kernel
theorem dX11_goesOn_128 : decode cX11_goesOn 128 = .ok (.iload 4, 2) := by decide +kernel
theorem dX11_goesOn_130 : decode cX11_goesOn 130 = .ok (.if_icmp .ne 43, 3) := by decide +kernel
theorem dX11_goesOn_133 : decode cX11_goesOn 133 = .ok (.aload_n 0, 1) := by decide +kernel
theorem dX11_goesOn_134 : decode cX11_goesOn 134 = .ok (.getfield 37, 3) := by decide +kernel
theorem dX11_goesOn_137 : decode cX11_goesOn 137 = .ok (.iload_n 1, 1) := by decide +kernel
theorem dX11_goesOn_138 : decode cX11_goesOn 138 = .ok (.iload 8, 2) := by decide +kernel
theorem dX11_goesOn_140 : decode cX11_goesOn 140 = .ok (.iadd, 1) := by decide +kernel
theorem dX11_goesOn_141 : decode cX11_goesOn 141 = .ok (.aload_n 0, 1) := by decide +kernel
theorem dX11_goesOn_142 : decode cX11_goesOn 142 = .ok (.iload 8, 2) := by decide +kernel
theorem dX11_goesOn_144 : decode cX11_goesOn 144 = .ok (.aload_n 0, 1) := by decide +kernel
theorem dX11_goesOn_145 : decode cX11_goesOn 145 = .ok (.getfield 37, 3) := by decide +kernel
theorem dX11_goesOn_148 : decode cX11_goesOn 148 = .ok (.iload_n 1, 1) := by decide +kernel
theorem dX11_goesOn_149 : decode cX11_goesOn 149 = .ok (.iload 8, 2) := by decide +kernel
theorem dX11_goesOn_151 : decode cX11_goesOn 151 = .ok (.iadd, 1) := by decide +kernel
theorem dX11_goesOn_152 : decode cX11_goesOn 152 = .ok (.iaload, 1) := by decide +kernel
theorem dX11_goesOn_153 : decode cX11_goesOn 153 = .ok (.aload_n 0, 1) := by decide +kernel
theorem dX11_goesOn_154 : decode cX11_goesOn 154 = .ok (.getfield 50, 3) := by decide +kernel
theorem dX11_goesOn_157 : decode cX11_goesOn 157 = .ok (.iload 8, 2) := by decide +kernel
theorem dX11_goesOn_159 : decode cX11_goesOn 159 = .ok (.iaload, 1) := by decide +kernel
theorem dX11_goesOn_160 : decode cX11_goesOn 160 = .ok (.iload 6, 2) := by decide +kernel
theorem dX11_goesOn_162 : decode cX11_goesOn 162 = .ok (.iload 8, 2) := by decide +kernel
theorem dX11_goesOn_164 : decode cX11_goesOn 164 = .ok (.invokestatic 160, 3) := by decide +kernel
theorem dX11_goesOn_167 : decode cX11_goesOn 167 = .ok (.iload 7, 2) := by decide +kernel
theorem dX11_goesOn_169 : decode cX11_goesOn 169 = .ok (.invokevirtual 192, 3) := by decide +kernel
theorem dX11_goesOn_172 : decode cX11_goesOn 172 = .ok (.iastore, 1) := by decide +kernel
theorem dX11_goesOn_173 : decode cX11_goesOn 173 = .ok (.iinc 8 1, 3) := by decide +kernel
theorem dX11_goesOn_176 : decode cX11_goesOn 176 = .ok (.goto (-64), 3) := by decide +kernel
theorem dX11_goesOn_179 : decode cX11_goesOn 179 = .ok (.iinc 4 1, 3) := by decide +kernel
theorem dX11_goesOn_182 : decode cX11_goesOn 182 = .ok (.goto (-177), 3) := by decide +kernel
theorem dX11_goesOn_185 : decode cX11_goesOn 185 = .ok (.aload_n 0, 1) := by decide +kernel
theorem dX11_goesOn_186 : decode cX11_goesOn 186 = .ok (.getfield 37, 3) := by decide +kernel
theorem dX11_goesOn_189 : decode cX11_goesOn 189 = .ok (.iload_n 1, 1) := by decide +kernel
theorem dX11_goesOn_190 : decode cX11_goesOn 190 = .ok (.bipush 27, 2) := by decide +kernel
theorem dX11_goesOn_192 : decode cX11_goesOn 192 = .ok (.iadd, 1) := by decide +kernel
theorem dX11_goesOn_193 : decode cX11_goesOn 193 = .ok (.dup2, 1) := by decide +kernel
theorem dX11_goesOn_194 : decode cX11_goesOn 194 = .ok (.iaload, 1) := by decide +kernel
theorem dX11_goesOn_195 : decode cX11_goesOn 195 = .ok (.iconst 1, 1) := by decide +kernel
theorem dX11_goesOn_196 : decode cX11_goesOn 196 = .ok (.iadd, 1) := by decide +kernel
theorem dX11_goesOn_197 : decode cX11_goesOn 197 = .ok (.iastore, 1) := by decide +kernel
theorem dX11_goesOn_198 : decode cX11_goesOn 198 = .ok (.iload_n 3, 1) := by decide +kernel
theorem dX11_goesOn_199 : decode cX11_goesOn 199 = .ok (.ireturn, 1) := by decide +kernel
set_option maxRecDepth 20000 in
theorem ggX11_known_X11_copies : GoodIn wsX11_known wsX11_copies := goodIn_r _ [7, 2, 8, 9, 10, 11, 12, 13, 14, 15, 16, 17, 18, 19, 20, 21, 22, 23, 24, 25, 26, 27, 28, 29, 30, 31, 32, 33, 34, 35, 36, 37, 38, 39] rfl (by decide +kernel)
set_option maxRecDepth 20000 in
theorem gX11_known_X11_copies : GoodIn wsX11_known (wsV RX11 97 RX11 yX11_copies wsX11_copies) := goodIn_app (goodIn_of _ (by decide +kernel)) ggX11_known_X11_copies
theorem dX11_known_0 : decode cX11_known 0 = .ok (.aload_n 0, 1) := by decide +kernel
theorem dX11_known_1 : decode cX11_known 1 = .ok (.getfield 148, 3) := by decide +kernel
theorem dX11_known_4 : decode cX11_known 4 = .ok (.bipush 8, 2) := by decide +kernel
theorem dX11_known_6 : decode cX11_known 6 = .ok (.if_icmp .ne 40, 3) := by decide +kernel
theorem dX11_known_9 : decode cX11_known 9 = .ok (.bipush 28, 2) := by decide +kernel
theorem dX11_known_11 : decode cX11_known 11 = .ok (.istore_n 1, 1) := by decide +kernel
theorem dX11_known_12 : decode cX11_known 12 = .ok (.iload_n 1, 1) := by decide +kernel
theorem dX11_known_13 : decode cX11_known 13 = .ok (.sipush 224, 3) := by decide +kernel
theorem dX11_known_16 : decode cX11_known 16 = .ok (.if_icmp .ge 24, 3) := by decide +kernel
theorem dX11_known_19 : decode cX11_known 19 = .ok (.aload_n 0, 1) := by decide +kernel
theorem dX11_known_20 : decode cX11_known 20 = .ok (.getfield 37, 3) := by decide +kernel
theorem dX11_known_23 : decode cX11_known 23 = .ok (.iload_n 1, 1) := by decide +kernel
theorem dX11_known_24 : decode cX11_known 24 = .ok (.aload_n 0, 1) := by decide +kernel
theorem dX11_known_25 : decode cX11_known 25 = .ok (.getfield 37, 3) := by decide +kernel
theorem dX11_known_28 : decode cX11_known 28 = .ok (.iload_n 1, 1) := by decide +kernel
theorem dX11_known_29 : decode cX11_known 29 = .ok (.bipush 28, 2) := by decide +kernel
theorem dX11_known_31 : decode cX11_known 31 = .ok (.iadd, 1) := by decide +kernel
theorem dX11_known_32 : decode cX11_known 32 = .ok (.iaload, 1) := by decide +kernel
theorem dX11_known_33 : decode cX11_known 33 = .ok (.iastore, 1) := by decide +kernel
theorem dX11_known_34 : decode cX11_known 34 = .ok (.iinc 1 1, 3) := by decide +kernel
theorem dX11_known_37 : decode cX11_known 37 = .ok (.goto (-25), 3) := by decide +kernel
theorem dX11_known_40 : decode cX11_known 40 = .ok (.aload_n 0, 1) := by decide +kernel
theorem dX11_known_41 : decode cX11_known 41 = .ok (.bipush 7, 2) := by decide +kernel
theorem dX11_known_43 : decode cX11_known 43 = .ok (.putfield 148, 3) := by decide +kernel
theorem dX11_known_46 : decode cX11_known 46 = .ok (.aload_n 0, 1) := by decide +kernel
theorem dX11_known_47 : decode cX11_known 47 = .ok (.dup, 1) := by decide +kernel
theorem dX11_known_48 : decode cX11_known 48 = .ok (.getfield 148, 3) := by decide +kernel
theorem dX11_known_51 : decode cX11_known 51 = .ok (.iconst 1, 1) := by decide +kernel
theorem dX11_known_52 : decode cX11_known 52 = .ok (.iadd, 1) := by decide +kernel
theorem dX11_known_53 : decode cX11_known 53 = .ok (.putfield 148, 3) := by decide +kernel
theorem dX11_known_56 : decode cX11_known 56 = .ok (.aload_n 0, 1) := by decide +kernel
theorem dX11_known_57 : decode cX11_known 57 = .ok (.iconst 0, 1) := by decide +kernel
theorem dX11_known_58 : decode cX11_known 58 = .ok (.aload_n 0, 1) := by decide +kernel
theorem dX11_known_59 : decode cX11_known 59 = .ok (.getfield 148, 3) := by decide +kernel
theorem dX11_known_62 : decode cX11_known 62 = .ok (.bipush 28, 2) := by decide +kernel
theorem dX11_known_64 : decode cX11_known 64 = .ok (.imul, 1) := by decide +kernel
theorem dX11_known_65 : decode cX11_known 65 = .ok (.invokevirtual 97, 3) := by decide +kernel
theorem dX11_known_68 : decode cX11_known 68 = .ok (.return_, 1) := by decide +kernel
set_option maxRecDepth 20000 in
theorem ggX11_pass_X11_in : GoodIn wsX11_pass wsX11_in := goodIn_r _ [6] rfl (by decide +kernel)
set_option maxRecDepth 20000 in
theorem gX11_pass_X11_in : GoodIn wsX11_pass (va_wsS RX11 101 yX11_in wsX11_in) := goodIn_app (goodIn_of _ (by decide +kernel)) ggX11_pass_X11_in
set_option maxRecDepth 20000 in
theorem ggX11_pass_X11_known : GoodIn wsX11_pass wsX11_known := goodIn_r _ [10, 11, 2, 12, 13, 14, 5, 15, 52, 53, 54, 55, 56, 57, 58, 59, 60, 61, 62, 63, 64, 65, 66, 67, 68, 69, 70, 71, 72, 73, 74, 75, 76, 77, 78, 79, 80, 81, 82, 83] rfl (by decide +kernel)
set_option maxRecDepth 20000 in
theorem gX11_pass_X11_known : GoodIn wsX11_pass (wsV RX11 198 RX11 yX11_known wsX11_known) := goodIn_app (goodIn_of _ (by decide +kernel)) ggX11_pass_X11_known
set_option maxRecDepth 20000 in
theorem ggX11_pass_X11_goesOn : GoodIn wsX11_pass wsX11_goesOn := goodIn_r _ [19, 20, 2, 21, 22, 23, 24, 25, 5, 26, 27, 28, 29, 30, 31, 32, 33, 34, 35, 36, 37, 38, 39, 40, 41, 42, 43, 44, 45, 46, 47, 48, 49, 50, 51, 52, 53, 54, 55, 56, 57, 58, 59, 60, 61, 62, 63, 64, 65, 66, 67, 68, 69, 70, 71, 72, 73, 74, 75, 76, 77, 78, 79, 80, 81, 82, 83] rfl (by decide +kernel)
set_option maxRecDepth 20000 in
theorem gX11_pass_X11_goesOn : GoodIn wsX11_pass (wsV RX11 201 RX11 yX11_goesOn wsX11_goesOn) := goodIn_app (goodIn_of _ (by decide +kernel)) ggX11_pass_X11_goesOn
theorem dX11_pass_0 : decode cX11_pass 0 = .ok (.iload_n 1, 1) := by decide +kernel
theorem dX11_pass_1 : decode cX11_pass 1 = .ok (.i2l, 1) := by decide +kernel
theorem dX11_pass_2 : decode cX11_pass 2 = .ok (.lconst 1, 1) := by decide +kernel
theorem dX11_pass_3 : decode cX11_pass 3 = .ok (.ldc2_w 196, 3) := by decide +kernel
theorem dX11_pass_6 : decode cX11_pass 6 = .ok (.invokestatic 101, 3) := by decide +kernel
theorem dX11_pass_9 : decode cX11_pass 9 = .ok (.ifCond .ne 5, 3) := by decide +kernel
theorem dX11_pass_12 : decode cX11_pass 12 = .ok (.iconst (-1), 1) := by decide +kernel
theorem dX11_pass_13 : decode cX11_pass 13 = .ok (.ireturn, 1) := by decide +kernel
theorem dX11_pass_14 : decode cX11_pass 14 = .ok (.aload_n 0, 1) := by decide +kernel
theorem dX11_pass_15 : decode cX11_pass 15 = .ok (.invokevirtual 198, 3) := by decide +kernel
theorem dX11_pass_18 : decode cX11_pass 18 = .ok (.iconst 0, 1) := by decide +kernel
theorem dX11_pass_19 : decode cX11_pass 19 = .ok (.istore_n 2, 1) := by decide +kernel
theorem dX11_pass_20 : decode cX11_pass 20 = .ok (.iconst 0, 1) := by decide +kernel
theorem dX11_pass_21 : decode cX11_pass 21 = .ok (.istore_n 3, 1) := by decide +kernel
theorem dX11_pass_22 : decode cX11_pass 22 = .ok (.iload_n 3, 1) := by decide +kernel
theorem dX11_pass_23 : decode cX11_pass 23 = .ok (.iload_n 1, 1) := by decide +kernel
theorem dX11_pass_24 : decode cX11_pass 24 = .ok (.if_icmp .ge 18, 3) := by decide +kernel
theorem dX11_pass_27 : decode cX11_pass 27 = .ok (.iload_n 2, 1) := by decide +kernel
theorem dX11_pass_28 : decode cX11_pass 28 = .ok (.aload_n 0, 1) := by decide +kernel
theorem dX11_pass_29 : decode cX11_pass 29 = .ok (.iconst 0, 1) := by decide +kernel
theorem dX11_pass_30 : decode cX11_pass 30 = .ok (.iconst 0, 1) := by decide +kernel
theorem dX11_pass_31 : decode cX11_pass 31 = .ok (.invokevirtual 201, 3) := by decide +kernel
theorem dX11_pass_34 : decode cX11_pass 34 = .ok (.iadd, 1) := by decide +kernel
theorem dX11_pass_35 : decode cX11_pass 35 = .ok (.istore_n 2, 1) := by decide +kernel
theorem dX11_pass_36 : decode cX11_pass 36 = .ok (.iinc 3 1, 3) := by decide +kernel
theorem dX11_pass_39 : decode cX11_pass 39 = .ok (.goto (-17), 3) := by decide +kernel
theorem dX11_pass_42 : decode cX11_pass 42 = .ok (.iload_n 2, 1) := by decide +kernel
theorem dX11_pass_43 : decode cX11_pass 43 = .ok (.ifCond .ge 8, 3) := by decide +kernel
theorem dX11_pass_46 : decode cX11_pass 46 = .ok (.bipush (-4), 2) := by decide +kernel
theorem dX11_pass_48 : decode cX11_pass 48 = .ok (.goto 10, 3) := by decide +kernel
theorem dX11_pass_51 : decode cX11_pass 51 = .ok (.aload_n 0, 1) := by decide +kernel
theorem dX11_pass_52 : decode cX11_pass 52 = .ok (.getfield 37, 3) := by decide +kernel
theorem dX11_pass_55 : decode cX11_pass 55 = .ok (.bipush 27, 2) := by decide +kernel
theorem dX11_pass_57 : decode cX11_pass 57 = .ok (.iaload, 1) := by decide +kernel
theorem dX11_pass_58 : decode cX11_pass 58 = .ok (.ireturn, 1) := by decide +kernel
set_option maxRecDepth 20000 in
theorem ggX11_put_X11_isStep : GoodIn wsX11_put wsX11_isStep := goodIn_r _ [7, 8, 9, 10, 6, 11, 21, 22, 23, 24, 25, 26, 27, 28, 29, 30, 31, 32, 33, 34, 35, 36, 37, 38, 39, 40, 41, 42, 43, 44, 45, 46, 47, 48, 49, 50, 51, 52] rfl (by decide +kernel)
set_option maxRecDepth 20000 in
theorem gX11_put_X11_isStep : GoodIn wsX11_put (wsV RX11 175 RX11 yX11_isStep wsX11_isStep) := goodIn_app (goodIn_of _ (by decide +kernel)) ggX11_put_X11_isStep
set_option maxRecDepth 20000 in
theorem ggX11_put_X11_in : GoodIn wsX11_put wsX11_in := goodIn_r _ [11] rfl (by decide +kernel)
set_option maxRecDepth 20000 in
theorem gX11_put_X11_in : GoodIn wsX11_put (va_wsS RX11 101 yX11_in wsX11_in) := goodIn_app (goodIn_of _ (by decide +kernel)) ggX11_put_X11_in
set_option maxRecDepth 20000 in
theorem ggX11_put_X11_known : GoodIn wsX11_put wsX11_known := goodIn_r _ [15, 16, 2, 17, 18, 19, 6, 20, 21, 22, 23, 24, 25, 26, 27, 28, 29, 30, 31, 32, 33, 34, 35, 36, 37, 38, 39, 40, 41, 42, 43, 44, 45, 46, 47, 48, 49, 50, 51, 52] rfl (by decide +kernel)
set_option maxRecDepth 20000 in
theorem gX11_put_X11_known : GoodIn wsX11_put (wsV RX11 198 RX11 yX11_known wsX11_known) := goodIn_app (goodIn_of _ (by decide +kernel)) ggX11_put_X11_known
theorem dX11_put_0 : decode cX11_put 0 = .ok (.aload_n 0, 1) := by decide +kernel
theorem dX11_put_1 : decode cX11_put 1 = .ok (.iload_n 1, 1) := by decide +kernel
theorem dX11_put_2 : decode cX11_put 2 = .ok (.invokevirtual 175, 3) := by decide +kernel
theorem dX11_put_5 : decode cX11_put 5 = .ok (.ifCond .eq 15, 3) := by decide +kernel
theorem dX11_put_8 : decode cX11_put 8 = .ok (.iload_n 2, 1) := by decide +kernel
theorem dX11_put_9 : decode cX11_put 9 = .ok (.i2l, 1) := by decide +kernel
theorem dX11_put_10 : decode cX11_put 10 = .ok (.lconst 0, 1) := by decide +kernel
theorem dX11_put_11 : decode cX11_put 11 = .ok (.ldc2_w 204, 3) := by decide +kernel
theorem dX11_put_14 : decode cX11_put 14 = .ok (.invokestatic 101, 3) := by decide +kernel
theorem dX11_put_17 : decode cX11_put 17 = .ok (.ifCond .ne 5, 3) := by decide +kernel
theorem dX11_put_20 : decode cX11_put 20 = .ok (.iconst (-1), 1) := by decide +kernel
theorem dX11_put_21 : decode cX11_put 21 = .ok (.ireturn, 1) := by decide +kernel
theorem dX11_put_22 : decode cX11_put 22 = .ok (.aload_n 0, 1) := by decide +kernel
theorem dX11_put_23 : decode cX11_put 23 = .ok (.invokevirtual 198, 3) := by decide +kernel
theorem dX11_put_26 : decode cX11_put 26 = .ok (.aload_n 0, 1) := by decide +kernel
theorem dX11_put_27 : decode cX11_put 27 = .ok (.getfield 37, 3) := by decide +kernel
theorem dX11_put_30 : decode cX11_put 30 = .ok (.bipush 9, 2) := by decide +kernel
theorem dX11_put_32 : decode cX11_put 32 = .ok (.iload_n 1, 1) := by decide +kernel
theorem dX11_put_33 : decode cX11_put 33 = .ok (.iadd, 1) := by decide +kernel
theorem dX11_put_34 : decode cX11_put 34 = .ok (.iaload, 1) := by decide +kernel
theorem dX11_put_35 : decode cX11_put 35 = .ok (.istore_n 3, 1) := by decide +kernel
theorem dX11_put_36 : decode cX11_put 36 = .ok (.aload_n 0, 1) := by decide +kernel
theorem dX11_put_37 : decode cX11_put 37 = .ok (.getfield 37, 3) := by decide +kernel
theorem dX11_put_40 : decode cX11_put 40 = .ok (.bipush 9, 2) := by decide +kernel
theorem dX11_put_42 : decode cX11_put 42 = .ok (.iload_n 1, 1) := by decide +kernel
theorem dX11_put_43 : decode cX11_put 43 = .ok (.iadd, 1) := by decide +kernel
theorem dX11_put_44 : decode cX11_put 44 = .ok (.iload_n 2, 1) := by decide +kernel
theorem dX11_put_45 : decode cX11_put 45 = .ok (.iastore, 1) := by decide +kernel
theorem dX11_put_46 : decode cX11_put 46 = .ok (.iload_n 3, 1) := by decide +kernel
theorem dX11_put_47 : decode cX11_put 47 = .ok (.ireturn, 1) := by decide +kernel
theorem dX11_bits_0 : decode cX11_bits 0 = .ok (.iconst 0, 1) := by decide +kernel
theorem dX11_bits_1 : decode cX11_bits 1 = .ok (.istore_n 1, 1) := by decide +kernel
theorem dX11_bits_2 : decode cX11_bits 2 = .ok (.iconst 0, 1) := by decide +kernel
theorem dX11_bits_3 : decode cX11_bits 3 = .ok (.istore_n 2, 1) := by decide +kernel
theorem dX11_bits_4 : decode cX11_bits 4 = .ok (.iload_n 2, 1) := by decide +kernel
theorem dX11_bits_5 : decode cX11_bits 5 = .ok (.bipush 9, 2) := by decide +kernel
theorem dX11_bits_7 : decode cX11_bits 7 = .ok (.if_icmp .ge 17, 3) := by decide +kernel
theorem dX11_bits_10 : decode cX11_bits 10 = .ok (.iload_n 1, 1) := by decide +kernel
theorem dX11_bits_11 : decode cX11_bits 11 = .ok (.iload_n 0, 1) := by decide +kernel
theorem dX11_bits_12 : decode cX11_bits 12 = .ok (.iload_n 2, 1) := by decide +kernel
theorem dX11_bits_13 : decode cX11_bits 13 = .ok (.ishr, 1) := by decide +kernel
theorem dX11_bits_14 : decode cX11_bits 14 = .ok (.iconst 1, 1) := by decide +kernel
theorem dX11_bits_15 : decode cX11_bits 15 = .ok (.iand, 1) := by decide +kernel
theorem dX11_bits_16 : decode cX11_bits 16 = .ok (.iadd, 1) := by decide +kernel
theorem dX11_bits_17 : decode cX11_bits 17 = .ok (.istore_n 1, 1) := by decide +kernel
theorem dX11_bits_18 : decode cX11_bits 18 = .ok (.iinc 2 1, 3) := by decide +kernel
theorem dX11_bits_21 : decode cX11_bits 21 = .ok (.goto (-17), 3) := by decide +kernel
theorem dX11_bits_24 : decode cX11_bits 24 = .ok (.iload_n 1, 1) := by decide +kernel
theorem dX11_bits_25 : decode cX11_bits 25 = .ok (.ireturn, 1) := by decide +kernel
set_option maxRecDepth 20000 in
theorem ggX11_quarrel_X11_isOne : GoodIn wsX11_quarrel wsX11_isOne := goodIn_r _ [6, 7, 8, 9, 5, 10, 23, 24, 25, 26, 27, 28, 29, 30, 31, 32, 33, 34, 35, 36, 37, 38, 39, 40, 41, 42, 43, 44, 45, 46, 47, 48, 49, 50, 51, 52, 53, 54] rfl (by decide +kernel)
set_option maxRecDepth 20000 in
theorem gX11_quarrel_X11_isOne : GoodIn wsX11_quarrel (wsV RX11 184 RX11 yX11_isOne wsX11_isOne) := goodIn_app (goodIn_of _ (by decide +kernel)) ggX11_quarrel_X11_isOne
set_option maxRecDepth 20000 in
theorem ggX11_quarrel_X11_in : GoodIn wsX11_quarrel wsX11_in := goodIn_r _ [10] rfl (by decide +kernel)
set_option maxRecDepth 20000 in
theorem gX11_quarrel_X11_in : GoodIn wsX11_quarrel (va_wsS RX11 101 yX11_in wsX11_in) := goodIn_app (goodIn_of _ (by decide +kernel)) ggX11_quarrel_X11_in
set_option maxRecDepth 20000 in
theorem ggX11_quarrel_X11_known : GoodIn wsX11_quarrel wsX11_known := goodIn_r _ [14, 15, 1, 16, 17, 18, 5, 19, 23, 24, 25, 26, 27, 28, 29, 30, 31, 32, 33, 34, 35, 36, 37, 38, 39, 40, 41, 42, 43, 44, 45, 46, 47, 48, 49, 50, 51, 52, 53, 54] rfl (by decide +kernel)
set_option maxRecDepth 20000 in
theorem gX11_quarrel_X11_known : GoodIn wsX11_quarrel (wsV RX11 198 RX11 yX11_known wsX11_known) := goodIn_app (goodIn_of _ (by decide +kernel)) ggX11_quarrel_X11_known
set_option maxRecDepth 20000 in
theorem ggX11_quarrel_X11_bits : GoodIn wsX11_quarrel wsX11_bits := goodIn_r _ [22] rfl (by decide +kernel)
set_option maxRecDepth 20000 in
theorem gX11_quarrel_X11_bits : GoodIn wsX11_quarrel (va_wsS RX11 206 yX11_bits wsX11_bits) := goodIn_app (goodIn_of _ (by decide +kernel)) ggX11_quarrel_X11_bits
theorem dX11_quarrel_0 : decode cX11_quarrel 0 = .ok (.aload_n 0, 1) := by decide +kernel
theorem dX11_quarrel_1 : decode cX11_quarrel 1 = .ok (.iload_n 1, 1) := by decide +kernel
theorem dX11_quarrel_2 : decode cX11_quarrel 2 = .ok (.invokevirtual 184, 3) := by decide +kernel
theorem dX11_quarrel_5 : decode cX11_quarrel 5 = .ok (.ifCond .eq 13, 3) := by decide +kernel
theorem dX11_quarrel_8 : decode cX11_quarrel 8 = .ok (.iload_n 2, 1) := by decide +kernel
theorem dX11_quarrel_9 : decode cX11_quarrel 9 = .ok (.i2l, 1) := by decide +kernel
theorem dX11_quarrel_10 : decode cX11_quarrel 10 = .ok (.lconst 0, 1) := by decide +kernel
theorem dX11_quarrel_11 : decode cX11_quarrel 11 = .ok (.lconst 1, 1) := by decide +kernel
theorem dX11_quarrel_12 : decode cX11_quarrel 12 = .ok (.invokestatic 101, 3) := by decide +kernel
theorem dX11_quarrel_15 : decode cX11_quarrel 15 = .ok (.ifCond .ne 5, 3) := by decide +kernel
theorem dX11_quarrel_18 : decode cX11_quarrel 18 = .ok (.iconst (-1), 1) := by decide +kernel
theorem dX11_quarrel_19 : decode cX11_quarrel 19 = .ok (.ireturn, 1) := by decide +kernel
theorem dX11_quarrel_20 : decode cX11_quarrel 20 = .ok (.aload_n 0, 1) := by decide +kernel
theorem dX11_quarrel_21 : decode cX11_quarrel 21 = .ok (.getfield 37, 3) := by decide +kernel
theorem dX11_quarrel_24 : decode cX11_quarrel 24 = .ok (.iload_n 1, 1) := by decide +kernel
theorem dX11_quarrel_25 : decode cX11_quarrel 25 = .ok (.iaload, 1) := by decide +kernel
theorem dX11_quarrel_26 : decode cX11_quarrel 26 = .ok (.ifCond .eq 18, 3) := by decide +kernel
theorem dX11_quarrel_29 : decode cX11_quarrel 29 = .ok (.aload_n 0, 1) := by decide +kernel
theorem dX11_quarrel_30 : decode cX11_quarrel 30 = .ok (.getfield 37, 3) := by decide +kernel
theorem dX11_quarrel_33 : decode cX11_quarrel 33 = .ok (.bipush 8, 2) := by decide +kernel
theorem dX11_quarrel_35 : decode cX11_quarrel 35 = .ok (.iaload, 1) := by decide +kernel
theorem dX11_quarrel_36 : decode cX11_quarrel 36 = .ok (.iload_n 1, 1) := by decide +kernel
theorem dX11_quarrel_37 : decode cX11_quarrel 37 = .ok (.ishr, 1) := by decide +kernel
theorem dX11_quarrel_38 : decode cX11_quarrel 38 = .ok (.iconst 1, 1) := by decide +kernel
theorem dX11_quarrel_39 : decode cX11_quarrel 39 = .ok (.iand, 1) := by decide +kernel
theorem dX11_quarrel_40 : decode cX11_quarrel 40 = .ok (.iload_n 2, 1) := by decide +kernel
theorem dX11_quarrel_41 : decode cX11_quarrel 41 = .ok (.if_icmp .ne 6, 3) := by decide +kernel
theorem dX11_quarrel_44 : decode cX11_quarrel 44 = .ok (.bipush (-2), 2) := by decide +kernel
theorem dX11_quarrel_46 : decode cX11_quarrel 46 = .ok (.ireturn, 1) := by decide +kernel
theorem dX11_quarrel_47 : decode cX11_quarrel 47 = .ok (.aload_n 0, 1) := by decide +kernel
theorem dX11_quarrel_48 : decode cX11_quarrel 48 = .ok (.invokevirtual 198, 3) := by decide +kernel
theorem dX11_quarrel_51 : decode cX11_quarrel 51 = .ok (.aload_n 0, 1) := by decide +kernel
theorem dX11_quarrel_52 : decode cX11_quarrel 52 = .ok (.getfield 37, 3) := by decide +kernel
theorem dX11_quarrel_55 : decode cX11_quarrel 55 = .ok (.bipush 8, 2) := by decide +kernel
theorem dX11_quarrel_57 : decode cX11_quarrel 57 = .ok (.dup2, 1) := by decide +kernel
theorem dX11_quarrel_58 : decode cX11_quarrel 58 = .ok (.iaload, 1) := by decide +kernel
theorem dX11_quarrel_59 : decode cX11_quarrel 59 = .ok (.iconst 1, 1) := by decide +kernel
theorem dX11_quarrel_60 : decode cX11_quarrel 60 = .ok (.iload_n 1, 1) := by decide +kernel
theorem dX11_quarrel_61 : decode cX11_quarrel 61 = .ok (.ishl, 1) := by decide +kernel
theorem dX11_quarrel_62 : decode cX11_quarrel 62 = .ok (.ixor, 1) := by decide +kernel
theorem dX11_quarrel_63 : decode cX11_quarrel 63 = .ok (.iastore, 1) := by decide +kernel
theorem dX11_quarrel_64 : decode cX11_quarrel 64 = .ok (.aload_n 0, 1) := by decide +kernel
theorem dX11_quarrel_65 : decode cX11_quarrel 65 = .ok (.getfield 37, 3) := by decide +kernel
theorem dX11_quarrel_68 : decode cX11_quarrel 68 = .ok (.bipush 8, 2) := by decide +kernel
theorem dX11_quarrel_70 : decode cX11_quarrel 70 = .ok (.iaload, 1) := by decide +kernel
theorem dX11_quarrel_71 : decode cX11_quarrel 71 = .ok (.invokestatic 206, 3) := by decide +kernel
theorem dX11_quarrel_74 : decode cX11_quarrel 74 = .ok (.ireturn, 1) := by decide +kernel
set_option maxRecDepth 20000 in
theorem ggX11_cats_X11_isStep : GoodIn wsX11_cats wsX11_isStep := goodIn_r _ [7, 8, 9, 10, 6, 11, 21, 22, 23, 24, 25, 26, 27, 28, 29, 30, 31, 32, 33, 34, 35, 36, 37, 38, 39, 40, 41, 42, 43, 44, 45, 46, 47, 48, 49, 50, 51, 52] rfl (by decide +kernel)
set_option maxRecDepth 20000 in
theorem gX11_cats_X11_isStep : GoodIn wsX11_cats (wsV RX11 175 RX11 yX11_isStep wsX11_isStep) := goodIn_app (goodIn_of _ (by decide +kernel)) ggX11_cats_X11_isStep
set_option maxRecDepth 20000 in
theorem ggX11_cats_X11_in : GoodIn wsX11_cats wsX11_in := goodIn_r _ [11] rfl (by decide +kernel)
set_option maxRecDepth 20000 in
theorem gX11_cats_X11_in : GoodIn wsX11_cats (va_wsS RX11 101 yX11_in wsX11_in) := goodIn_app (goodIn_of _ (by decide +kernel)) ggX11_cats_X11_in
set_option maxRecDepth 20000 in
theorem ggX11_cats_X11_known : GoodIn wsX11_cats wsX11_known := goodIn_r _ [15, 16, 2, 17, 18, 19, 6, 20, 21, 22, 23, 24, 25, 26, 27, 28, 29, 30, 31, 32, 33, 34, 35, 36, 37, 38, 39, 40, 41, 42, 43, 44, 45, 46, 47, 48, 49, 50, 51, 52] rfl (by decide +kernel)
set_option maxRecDepth 20000 in
theorem gX11_cats_X11_known : GoodIn wsX11_cats (wsV RX11 198 RX11 yX11_known wsX11_known) := goodIn_app (goodIn_of _ (by decide +kernel)) ggX11_cats_X11_known
theorem dX11_cats_0 : decode cX11_cats 0 = .ok (.aload_n 0, 1) := by decide +kernel
theorem dX11_cats_1 : decode cX11_cats 1 = .ok (.iload_n 1, 1) := by decide +kernel
theorem dX11_cats_2 : decode cX11_cats 2 = .ok (.invokevirtual 175, 3) := by decide +kernel
theorem dX11_cats_5 : decode cX11_cats 5 = .ok (.ifCond .eq 15, 3) := by decide +kernel
theorem dX11_cats_8 : decode cX11_cats 8 = .ok (.iload_n 2, 1) := by decide +kernel
theorem dX11_cats_9 : decode cX11_cats 9 = .ok (.i2l, 1) := by decide +kernel
theorem dX11_cats_10 : decode cX11_cats 10 = .ok (.lconst 0, 1) := by decide +kernel
theorem dX11_cats_11 : decode cX11_cats 11 = .ok (.ldc2_w 210, 3) := by decide +kernel
theorem dX11_cats_14 : decode cX11_cats 14 = .ok (.invokestatic 101, 3) := by decide +kernel
