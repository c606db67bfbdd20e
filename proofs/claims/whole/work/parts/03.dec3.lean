theorem dX6_says_141 : decode cX6_says 141 = .ok (.iaload, 1) := by decide +kernel
theorem dX6_says_142 : decode cX6_says 142 = .ok (.invokestatic 116, 3) := by decide +kernel
theorem dX6_says_145 : decode cX6_says 145 = .ok (.ireturn, 1) := by decide +kernel
theorem dX6_says_146 : decode cX6_says 146 = .ok (.aload_n 0, 1) := by decide +kernel
theorem dX6_says_147 : decode cX6_says 147 = .ok (.getfield 37, 3) := by decide +kernel
theorem dX6_says_150 : decode cX6_says 150 = .ok (.iload_n 3, 1) := by decide +kernel
theorem dX6_says_151 : decode cX6_says 151 = .ok (.iaload, 1) := by decide +kernel
theorem dX6_says_152 : decode cX6_says 152 = .ok (.iconst 4, 1) := by decide +kernel
theorem dX6_says_153 : decode cX6_says 153 = .ok (.if_icmp .ne 22, 3) := by decide +kernel
theorem dX6_says_156 : decode cX6_says 156 = .ok (.aload_n 0, 1) := by decide +kernel
theorem dX6_says_157 : decode cX6_says 157 = .ok (.getfield 43, 3) := by decide +kernel
theorem dX6_says_160 : decode cX6_says 160 = .ok (.iload_n 3, 1) := by decide +kernel
theorem dX6_says_161 : decode cX6_says 161 = .ok (.iaload, 1) := by decide +kernel
theorem dX6_says_162 : decode cX6_says 162 = .ok (.aload_n 0, 1) := by decide +kernel
theorem dX6_says_163 : decode cX6_says 163 = .ok (.getfield 40, 3) := by decide +kernel
theorem dX6_says_166 : decode cX6_says 166 = .ok (.iload_n 3, 1) := by decide +kernel
theorem dX6_says_167 : decode cX6_says 167 = .ok (.iaload, 1) := by decide +kernel
theorem dX6_says_168 : decode cX6_says 168 = .ok (.invokestatic 119, 3) := by decide +kernel
theorem dX6_says_171 : decode cX6_says 171 = .ok (.i2l, 1) := by decide +kernel
theorem dX6_says_172 : decode cX6_says 172 = .ok (.goto 10, 3) := by decide +kernel
theorem dX6_says_175 : decode cX6_says 175 = .ok (.aload_n 0, 1) := by decide +kernel
theorem dX6_says_176 : decode cX6_says 176 = .ok (.getfield 43, 3) := by decide +kernel
theorem dX6_says_179 : decode cX6_says 179 = .ok (.iload_n 3, 1) := by decide +kernel
theorem dX6_says_180 : decode cX6_says 180 = .ok (.iaload, 1) := by decide +kernel
theorem dX6_says_181 : decode cX6_says 181 = .ok (.i2l, 1) := by decide +kernel
theorem dX6_says_182 : decode cX6_says 182 = .ok (.invokestatic 123, 3) := by decide +kernel
theorem dX6_says_185 : decode cX6_says 185 = .ok (.l2i, 1) := by decide +kernel
theorem dX6_says_186 : decode cX6_says 186 = .ok (.ireturn, 1) := by decide +kernel
theorem dX6_says_187 : decode cX6_says 187 = .ok (.aload_n 0, 1) := by decide +kernel
theorem dX6_says_188 : decode cX6_says 188 = .ok (.iload_n 3, 1) := by decide +kernel
theorem dX6_says_189 : decode cX6_says 189 = .ok (.aload_n 0, 1) := by decide +kernel
theorem dX6_says_190 : decode cX6_says 190 = .ok (.getfield 43, 3) := by decide +kernel
theorem dX6_says_193 : decode cX6_says 193 = .ok (.iload_n 3, 1) := by decide +kernel
theorem dX6_says_194 : decode cX6_says 194 = .ok (.iaload, 1) := by decide +kernel
theorem dX6_says_195 : decode cX6_says 195 = .ok (.iconst 0, 1) := by decide +kernel
theorem dX6_says_196 : decode cX6_says 196 = .ok (.invokevirtual 127, 3) := by decide +kernel
theorem dX6_says_199 : decode cX6_says 199 = .ok (.ireturn, 1) := by decide +kernel
theorem dX6_says_200 : decode cX6_says 200 = .ok (.iconst 0, 1) := by decide +kernel
theorem dX6_says_201 : decode cX6_says 201 = .ok (.istore 5, 2) := by decide +kernel
theorem dX6_says_203 : decode cX6_says 203 = .ok (.iload 5, 2) := by decide +kernel
theorem dX6_says_205 : decode cX6_says 205 = .ok (.bipush 20, 2) := by decide +kernel
theorem dX6_says_207 : decode cX6_says 207 = .ok (.if_icmp .gt 35, 3) := by decide +kernel
theorem dX6_says_210 : decode cX6_says 210 = .ok (.iload 4, 2) := by decide +kernel
theorem dX6_says_212 : decode cX6_says 212 = .ok (.aload_n 0, 1) := by decide +kernel
theorem dX6_says_213 : decode cX6_says 213 = .ok (.iload_n 3, 1) := by decide +kernel
theorem dX6_says_214 : decode cX6_says 214 = .ok (.aload_n 0, 1) := by decide +kernel
theorem dX6_says_215 : decode cX6_says 215 = .ok (.getfield 43, 3) := by decide +kernel
theorem dX6_says_218 : decode cX6_says 218 = .ok (.iload_n 3, 1) := by decide +kernel
theorem dX6_says_219 : decode cX6_says 219 = .ok (.iaload, 1) := by decide +kernel
theorem dX6_says_220 : decode cX6_says 220 = .ok (.iload 5, 2) := by decide +kernel
theorem dX6_says_222 : decode cX6_says 222 = .ok (.invokevirtual 131, 3) := by decide +kernel
theorem dX6_says_225 : decode cX6_says 225 = .ok (.ifCond .eq 7, 3) := by decide +kernel
theorem dX6_says_228 : decode cX6_says 228 = .ok (.iconst 1, 1) := by decide +kernel
theorem dX6_says_229 : decode cX6_says 229 = .ok (.goto 4, 3) := by decide +kernel
theorem dX6_says_232 : decode cX6_says 232 = .ok (.iconst 0, 1) := by decide +kernel
theorem dX6_says_233 : decode cX6_says 233 = .ok (.iadd, 1) := by decide +kernel
theorem dX6_says_234 : decode cX6_says 234 = .ok (.istore 4, 2) := by decide +kernel
theorem dX6_says_236 : decode cX6_says 236 = .ok (.iinc 5 1, 3) := by decide +kernel
theorem dX6_says_239 : decode cX6_says 239 = .ok (.goto (-36), 3) := by decide +kernel
theorem dX6_says_242 : decode cX6_says 242 = .ok (.iload 4, 2) := by decide +kernel
theorem dX6_says_244 : decode cX6_says 244 = .ok (.ireturn, 1) := by decide +kernel
theorem dX6_says_245 : decode cX6_says 245 = .ok (.aload_n 0, 1) := by decide +kernel
theorem dX6_says_246 : decode cX6_says 246 = .ok (.getfield 40, 3) := by decide +kernel
theorem dX6_says_249 : decode cX6_says 249 = .ok (.iload_n 3, 1) := by decide +kernel
theorem dX6_says_250 : decode cX6_says 250 = .ok (.iaload, 1) := by decide +kernel
theorem dX6_says_251 : decode cX6_says 251 = .ok (.iconst 1, 1) := by decide +kernel
theorem dX6_says_252 : decode cX6_says 252 = .ok (.isub, 1) := by decide +kernel
theorem dX6_says_253 : decode cX6_says 253 = .ok (.istore 5, 2) := by decide +kernel
theorem dX6_says_255 : decode cX6_says 255 = .ok (.iload 5, 2) := by decide +kernel
theorem dX6_says_257 : decode cX6_says 257 = .ok (.ifCond .lt 26, 3) := by decide +kernel
theorem dX6_says_260 : decode cX6_says 260 = .ok (.aload_n 0, 1) := by decide +kernel
theorem dX6_says_261 : decode cX6_says 261 = .ok (.getfield 43, 3) := by decide +kernel
theorem dX6_says_264 : decode cX6_says 264 = .ok (.iload_n 3, 1) := by decide +kernel
theorem dX6_says_265 : decode cX6_says 265 = .ok (.iaload, 1) := by decide +kernel
theorem dX6_says_266 : decode cX6_says 266 = .ok (.iload 5, 2) := by decide +kernel
theorem dX6_says_268 : decode cX6_says 268 = .ok (.invokestatic 135, 3) := by decide +kernel
theorem dX6_says_271 : decode cX6_says 271 = .ok (.ifCond .eq 6, 3) := by decide +kernel
theorem dX6_says_274 : decode cX6_says 274 = .ok (.iload 5, 2) := by decide +kernel
theorem dX6_says_276 : decode cX6_says 276 = .ok (.ireturn, 1) := by decide +kernel
theorem dX6_says_277 : decode cX6_says 277 = .ok (.iinc 5 (-1), 3) := by decide +kernel
theorem dX6_says_280 : decode cX6_says 280 = .ok (.goto (-25), 3) := by decide +kernel
theorem dX6_says_283 : decode cX6_says 283 = .ok (.iconst (-1), 1) := by decide +kernel
theorem dX6_says_284 : decode cX6_says 284 = .ok (.ireturn, 1) := by decide +kernel
theorem dX6_says_285 : decode cX6_says 285 = .ok (.iconst 0, 1) := by decide +kernel
theorem dX6_says_286 : decode cX6_says 286 = .ok (.istore 5, 2) := by decide +kernel
theorem dX6_says_288 : decode cX6_says 288 = .ok (.iload 5, 2) := by decide +kernel
theorem dX6_says_290 : decode cX6_says 290 = .ok (.aload_n 0, 1) := by decide +kernel
theorem dX6_says_291 : decode cX6_says 291 = .ok (.getfield 40, 3) := by decide +kernel
theorem dX6_says_294 : decode cX6_says 294 = .ok (.iload_n 3, 1) := by decide +kernel
theorem dX6_says_295 : decode cX6_says 295 = .ok (.iaload, 1) := by decide +kernel
theorem dX6_says_296 : decode cX6_says 296 = .ok (.if_icmp .ge 43, 3) := by decide +kernel
theorem dX6_says_299 : decode cX6_says 299 = .ok (.iload 4, 2) := by decide +kernel
theorem dX6_says_301 : decode cX6_says 301 = .ok (.aload_n 0, 1) := by decide +kernel
theorem dX6_says_302 : decode cX6_says 302 = .ok (.getfield 51, 3) := by decide +kernel
theorem dX6_says_305 : decode cX6_says 305 = .ok (.iload_n 3, 1) := by decide +kernel
theorem dX6_says_306 : decode cX6_says 306 = .ok (.aaload, 1) := by decide +kernel
theorem dX6_says_307 : decode cX6_says 307 = .ok (.iload 5, 2) := by decide +kernel
theorem dX6_says_309 : decode cX6_says 309 = .ok (.iaload, 1) := by decide +kernel
theorem dX6_says_310 : decode cX6_says 310 = .ok (.ifCond .ne 15, 3) := by decide +kernel
theorem dX6_says_313 : decode cX6_says 313 = .ok (.aload_n 0, 1) := by decide +kernel
theorem dX6_says_314 : decode cX6_says 314 = .ok (.getfield 54, 3) := by decide +kernel
theorem dX6_says_317 : decode cX6_says 317 = .ok (.iload_n 3, 1) := by decide +kernel
theorem dX6_says_318 : decode cX6_says 318 = .ok (.aaload, 1) := by decide +kernel
theorem dX6_says_319 : decode cX6_says 319 = .ok (.iload 5, 2) := by decide +kernel
theorem dX6_says_321 : decode cX6_says 321 = .ok (.iaload, 1) := by decide +kernel
theorem dX6_says_322 : decode cX6_says 322 = .ok (.ifCond .eq 7, 3) := by decide +kernel
theorem dX6_says_325 : decode cX6_says 325 = .ok (.iconst 1, 1) := by decide +kernel
theorem dX6_says_326 : decode cX6_says 326 = .ok (.goto 4, 3) := by decide +kernel
theorem dX6_says_329 : decode cX6_says 329 = .ok (.iconst 0, 1) := by decide +kernel
theorem dX6_says_330 : decode cX6_says 330 = .ok (.iadd, 1) := by decide +kernel
theorem dX6_says_331 : decode cX6_says 331 = .ok (.istore 4, 2) := by decide +kernel
theorem dX6_says_333 : decode cX6_says 333 = .ok (.iinc 5 1, 3) := by decide +kernel
theorem dX6_says_336 : decode cX6_says 336 = .ok (.goto (-48), 3) := by decide +kernel
theorem dX6_says_339 : decode cX6_says 339 = .ok (.iload 4, 2) := by decide +kernel
theorem dX6_says_341 : decode cX6_says 341 = .ok (.ireturn, 1) := by decide +kernel
theorem dX6_addBar_0 : decode cX6_addBar 0 = .ok (.aload_n 0, 1) := by decide +kernel
theorem dX6_addBar_1 : decode cX6_addBar 1 = .ok (.getfield 37, 3) := by decide +kernel
theorem dX6_addBar_4 : decode cX6_addBar 4 = .ok (.aload_n 0, 1) := by decide +kernel
theorem dX6_addBar_5 : decode cX6_addBar 5 = .ok (.getfield 79, 3) := by decide +kernel
theorem dX6_addBar_8 : decode cX6_addBar 8 = .ok (.iload_n 1, 1) := by decide +kernel
theorem dX6_addBar_9 : decode cX6_addBar 9 = .ok (.iastore, 1) := by decide +kernel
theorem dX6_addBar_10 : decode cX6_addBar 10 = .ok (.aload_n 0, 1) := by decide +kernel
theorem dX6_addBar_11 : decode cX6_addBar 11 = .ok (.getfield 40, 3) := by decide +kernel
theorem dX6_addBar_14 : decode cX6_addBar 14 = .ok (.aload_n 0, 1) := by decide +kernel
theorem dX6_addBar_15 : decode cX6_addBar 15 = .ok (.getfield 79, 3) := by decide +kernel
theorem dX6_addBar_18 : decode cX6_addBar 18 = .ok (.iload_n 2, 1) := by decide +kernel
theorem dX6_addBar_19 : decode cX6_addBar 19 = .ok (.iastore, 1) := by decide +kernel
theorem dX6_addBar_20 : decode cX6_addBar 20 = .ok (.aload_n 0, 1) := by decide +kernel
theorem dX6_addBar_21 : decode cX6_addBar 21 = .ok (.getfield 43, 3) := by decide +kernel
theorem dX6_addBar_24 : decode cX6_addBar 24 = .ok (.aload_n 0, 1) := by decide +kernel
theorem dX6_addBar_25 : decode cX6_addBar 25 = .ok (.getfield 79, 3) := by decide +kernel
theorem dX6_addBar_28 : decode cX6_addBar 28 = .ok (.iconst 1, 1) := by decide +kernel
theorem dX6_addBar_29 : decode cX6_addBar 29 = .ok (.iload_n 2, 1) := by decide +kernel
theorem dX6_addBar_30 : decode cX6_addBar 30 = .ok (.ishl, 1) := by decide +kernel
theorem dX6_addBar_31 : decode cX6_addBar 31 = .ok (.iconst 1, 1) := by decide +kernel
theorem dX6_addBar_32 : decode cX6_addBar 32 = .ok (.isub, 1) := by decide +kernel
theorem dX6_addBar_33 : decode cX6_addBar 33 = .ok (.iastore, 1) := by decide +kernel
theorem dX6_addBar_34 : decode cX6_addBar 34 = .ok (.aload_n 0, 1) := by decide +kernel
theorem dX6_addBar_35 : decode cX6_addBar 35 = .ok (.getfield 46, 3) := by decide +kernel
theorem dX6_addBar_38 : decode cX6_addBar 38 = .ok (.aload_n 0, 1) := by decide +kernel
theorem dX6_addBar_39 : decode cX6_addBar 39 = .ok (.getfield 79, 3) := by decide +kernel
theorem dX6_addBar_42 : decode cX6_addBar 42 = .ok (.iconst 0, 1) := by decide +kernel
theorem dX6_addBar_43 : decode cX6_addBar 43 = .ok (.iastore, 1) := by decide +kernel
theorem dX6_addBar_44 : decode cX6_addBar 44 = .ok (.iconst 0, 1) := by decide +kernel
theorem dX6_addBar_45 : decode cX6_addBar 45 = .ok (.istore_n 3, 1) := by decide +kernel
theorem dX6_addBar_46 : decode cX6_addBar 46 = .ok (.iload_n 3, 1) := by decide +kernel
theorem dX6_addBar_47 : decode cX6_addBar 47 = .ok (.bipush 10, 2) := by decide +kernel
theorem dX6_addBar_49 : decode cX6_addBar 49 = .ok (.if_icmp .ge 33, 3) := by decide +kernel
theorem dX6_addBar_52 : decode cX6_addBar 52 = .ok (.aload_n 0, 1) := by decide +kernel
theorem dX6_addBar_53 : decode cX6_addBar 53 = .ok (.getfield 51, 3) := by decide +kernel
theorem dX6_addBar_56 : decode cX6_addBar 56 = .ok (.aload_n 0, 1) := by decide +kernel
theorem dX6_addBar_57 : decode cX6_addBar 57 = .ok (.getfield 79, 3) := by decide +kernel
theorem dX6_addBar_60 : decode cX6_addBar 60 = .ok (.aaload, 1) := by decide +kernel
theorem dX6_addBar_61 : decode cX6_addBar 61 = .ok (.iload_n 3, 1) := by decide +kernel
theorem dX6_addBar_62 : decode cX6_addBar 62 = .ok (.iconst 0, 1) := by decide +kernel
theorem dX6_addBar_63 : decode cX6_addBar 63 = .ok (.iastore, 1) := by decide +kernel
theorem dX6_addBar_64 : decode cX6_addBar 64 = .ok (.aload_n 0, 1) := by decide +kernel
theorem dX6_addBar_65 : decode cX6_addBar 65 = .ok (.getfield 54, 3) := by decide +kernel
theorem dX6_addBar_68 : decode cX6_addBar 68 = .ok (.aload_n 0, 1) := by decide +kernel
theorem dX6_addBar_69 : decode cX6_addBar 69 = .ok (.getfield 79, 3) := by decide +kernel
theorem dX6_addBar_72 : decode cX6_addBar 72 = .ok (.aaload, 1) := by decide +kernel
theorem dX6_addBar_73 : decode cX6_addBar 73 = .ok (.iload_n 3, 1) := by decide +kernel
theorem dX6_addBar_74 : decode cX6_addBar 74 = .ok (.iconst 0, 1) := by decide +kernel
theorem dX6_addBar_75 : decode cX6_addBar 75 = .ok (.iastore, 1) := by decide +kernel
theorem dX6_addBar_76 : decode cX6_addBar 76 = .ok (.iinc 3 1, 3) := by decide +kernel
theorem dX6_addBar_79 : decode cX6_addBar 79 = .ok (.goto (-33), 3) := by decide +kernel
theorem dX6_addBar_82 : decode cX6_addBar 82 = .ok (.aload_n 0, 1) := by decide +kernel
theorem dX6_addBar_83 : decode cX6_addBar 83 = .ok (.dup, 1) := by decide +kernel
theorem dX6_addBar_84 : decode cX6_addBar 84 = .ok (.getfield 79, 3) := by decide +kernel
theorem dX6_addBar_87 : decode cX6_addBar 87 = .ok (.iconst 1, 1) := by decide +kernel
theorem dX6_addBar_88 : decode cX6_addBar 88 = .ok (.iadd, 1) := by decide +kernel
theorem dX6_addBar_89 : decode cX6_addBar 89 = .ok (.putfield 79, 3) := by decide +kernel
theorem dX6_addBar_92 : decode cX6_addBar 92 = .ok (.return_, 1) := by decide +kernel
theorem dX6_bar_0 : decode cX6_bar 0 = .ok (.iload_n 1, 1) := by decide +kernel
theorem dX6_bar_1 : decode cX6_bar 1 = .ok (.i2l, 1) := by decide +kernel
theorem dX6_bar_2 : decode cX6_bar 2 = .ok (.lconst 0, 1) := by decide +kernel
theorem dX6_bar_3 : decode cX6_bar 3 = .ok (.ldc2_w 110, 3) := by decide +kernel
theorem dX6_bar_6 : decode cX6_bar 6 = .ok (.invokestatic 82, 3) := by decide +kernel
theorem dX6_bar_9 : decode cX6_bar 9 = .ok (.ifCond .eq 15, 3) := by decide +kernel
theorem dX6_bar_12 : decode cX6_bar 12 = .ok (.iload_n 2, 1) := by decide +kernel
theorem dX6_bar_13 : decode cX6_bar 13 = .ok (.i2l, 1) := by decide +kernel
theorem dX6_bar_14 : decode cX6_bar 14 = .ok (.lconst 1, 1) := by decide +kernel
theorem dX6_bar_15 : decode cX6_bar 15 = .ok (.ldc2_w 138, 3) := by decide +kernel
theorem dX6_bar_18 : decode cX6_bar 18 = .ok (.invokestatic 82, 3) := by decide +kernel
theorem dX6_bar_21 : decode cX6_bar 21 = .ok (.ifCond .ne 10, 3) := by decide +kernel
theorem dX6_bar_24 : decode cX6_bar 24 = .ok (.aload_n 0, 1) := by decide +kernel
theorem dX6_bar_25 : decode cX6_bar 25 = .ok (.bipush (-2), 2) := by decide +kernel
theorem dX6_bar_27 : decode cX6_bar 27 = .ok (.invokevirtual 96, 3) := by decide +kernel
theorem dX6_bar_30 : decode cX6_bar 30 = .ok (.ireturn, 1) := by decide +kernel
theorem dX6_bar_31 : decode cX6_bar 31 = .ok (.aload_n 0, 1) := by decide +kernel
theorem dX6_bar_32 : decode cX6_bar 32 = .ok (.getfield 79, 3) := by decide +kernel
theorem dX6_bar_35 : decode cX6_bar 35 = .ok (.iconst 4, 1) := by decide +kernel
theorem dX6_bar_36 : decode cX6_bar 36 = .ok (.if_icmp .ne 10, 3) := by decide +kernel
theorem dX6_bar_39 : decode cX6_bar 39 = .ok (.aload_n 0, 1) := by decide +kernel
theorem dX6_bar_40 : decode cX6_bar 40 = .ok (.bipush (-6), 2) := by decide +kernel
theorem dX6_bar_42 : decode cX6_bar 42 = .ok (.invokevirtual 96, 3) := by decide +kernel
theorem dX6_bar_45 : decode cX6_bar 45 = .ok (.ireturn, 1) := by decide +kernel
theorem dX6_bar_46 : decode cX6_bar 46 = .ok (.aload_n 0, 1) := by decide +kernel
theorem dX6_bar_47 : decode cX6_bar 47 = .ok (.iload_n 1, 1) := by decide +kernel
theorem dX6_bar_48 : decode cX6_bar 48 = .ok (.iload_n 2, 1) := by decide +kernel
theorem dX6_bar_49 : decode cX6_bar 49 = .ok (.invokevirtual 140, 3) := by decide +kernel
theorem dX6_bar_52 : decode cX6_bar 52 = .ok (.aload_n 0, 1) := by decide +kernel
theorem dX6_bar_53 : decode cX6_bar 53 = .ok (.getfield 79, 3) := by decide +kernel
theorem dX6_bar_56 : decode cX6_bar 56 = .ok (.iconst 1, 1) := by decide +kernel
theorem dX6_bar_57 : decode cX6_bar 57 = .ok (.isub, 1) := by decide +kernel
theorem dX6_bar_58 : decode cX6_bar 58 = .ok (.ireturn, 1) := by decide +kernel
theorem dX6_put_0 : decode cX6_put 0 = .ok (.aload_n 0, 1) := by decide +kernel
theorem dX6_put_1 : decode cX6_put 1 = .ok (.iload_n 1, 1) := by decide +kernel
theorem dX6_put_2 : decode cX6_put 2 = .ok (.invokevirtual 106, 3) := by decide +kernel
theorem dX6_put_5 : decode cX6_put 5 = .ok (.ifCond .eq 13, 3) := by decide +kernel
theorem dX6_put_8 : decode cX6_put 8 = .ok (.aload_n 0, 1) := by decide +kernel
theorem dX6_put_9 : decode cX6_put 9 = .ok (.iload_n 1, 1) := by decide +kernel
theorem dX6_put_10 : decode cX6_put 10 = .ok (.iload_n 2, 1) := by decide +kernel
theorem dX6_put_11 : decode cX6_put 11 = .ok (.i2l, 1) := by decide +kernel
theorem dX6_put_12 : decode cX6_put 12 = .ok (.invokevirtual 144, 3) := by decide +kernel
theorem dX6_put_15 : decode cX6_put 15 = .ok (.ifCond .ne 10, 3) := by decide +kernel
theorem dX6_put_18 : decode cX6_put 18 = .ok (.aload_n 0, 1) := by decide +kernel
theorem dX6_put_19 : decode cX6_put 19 = .ok (.bipush (-2), 2) := by decide +kernel
theorem dX6_put_21 : decode cX6_put 21 = .ok (.invokevirtual 96, 3) := by decide +kernel
theorem dX6_put_24 : decode cX6_put 24 = .ok (.ireturn, 1) := by decide +kernel
theorem dX6_put_25 : decode cX6_put 25 = .ok (.aload_n 0, 1) := by decide +kernel
theorem dX6_put_26 : decode cX6_put 26 = .ok (.getfield 43, 3) := by decide +kernel
theorem dX6_put_29 : decode cX6_put 29 = .ok (.iload_n 1, 1) := by decide +kernel
theorem dX6_put_30 : decode cX6_put 30 = .ok (.iaload, 1) := by decide +kernel
theorem dX6_put_31 : decode cX6_put 31 = .ok (.istore_n 3, 1) := by decide +kernel
theorem dX6_put_32 : decode cX6_put 32 = .ok (.aload_n 0, 1) := by decide +kernel
theorem dX6_put_33 : decode cX6_put 33 = .ok (.getfield 43, 3) := by decide +kernel
theorem dX6_put_36 : decode cX6_put 36 = .ok (.iload_n 1, 1) := by decide +kernel
theorem dX6_put_37 : decode cX6_put 37 = .ok (.iload_n 2, 1) := by decide +kernel
theorem dX6_put_38 : decode cX6_put 38 = .ok (.iastore, 1) := by decide +kernel
theorem dX6_put_39 : decode cX6_put 39 = .ok (.iload_n 3, 1) := by decide +kernel
theorem dX6_put_40 : decode cX6_put 40 = .ok (.ireturn, 1) := by decide +kernel
theorem dX6_stick_0 : decode cX6_stick 0 = .ok (.aload_n 0, 1) := by decide +kernel
theorem dX6_stick_1 : decode cX6_stick 1 = .ok (.iload_n 1, 1) := by decide +kernel
theorem dX6_stick_2 : decode cX6_stick 2 = .ok (.invokevirtual 106, 3) := by decide +kernel
theorem dX6_stick_5 : decode cX6_stick 5 = .ok (.ifCond .eq 13, 3) := by decide +kernel
theorem dX6_stick_8 : decode cX6_stick 8 = .ok (.aload_n 0, 1) := by decide +kernel
theorem dX6_stick_9 : decode cX6_stick 9 = .ok (.iload_n 1, 1) := by decide +kernel
theorem dX6_stick_10 : decode cX6_stick 10 = .ok (.iload_n 2, 1) := by decide +kernel
theorem dX6_stick_11 : decode cX6_stick 11 = .ok (.i2l, 1) := by decide +kernel
theorem dX6_stick_12 : decode cX6_stick 12 = .ok (.invokevirtual 144, 3) := by decide +kernel
theorem dX6_stick_15 : decode cX6_stick 15 = .ok (.ifCond .ne 10, 3) := by decide +kernel
theorem dX6_stick_18 : decode cX6_stick 18 = .ok (.aload_n 0, 1) := by decide +kernel
theorem dX6_stick_19 : decode cX6_stick 19 = .ok (.bipush (-2), 2) := by decide +kernel
theorem dX6_stick_21 : decode cX6_stick 21 = .ok (.invokevirtual 96, 3) := by decide +kernel
theorem dX6_stick_24 : decode cX6_stick 24 = .ok (.ireturn, 1) := by decide +kernel
theorem dX6_stick_25 : decode cX6_stick 25 = .ok (.aload_n 0, 1) := by decide +kernel
theorem dX6_stick_26 : decode cX6_stick 26 = .ok (.getfield 46, 3) := by decide +kernel
theorem dX6_stick_29 : decode cX6_stick 29 = .ok (.iload_n 1, 1) := by decide +kernel
theorem dX6_stick_30 : decode cX6_stick 30 = .ok (.iaload, 1) := by decide +kernel
theorem dX6_stick_31 : decode cX6_stick 31 = .ok (.istore_n 3, 1) := by decide +kernel
theorem dX6_stick_32 : decode cX6_stick 32 = .ok (.aload_n 0, 1) := by decide +kernel
theorem dX6_stick_33 : decode cX6_stick 33 = .ok (.getfield 46, 3) := by decide +kernel
theorem dX6_stick_36 : decode cX6_stick 36 = .ok (.iload_n 1, 1) := by decide +kernel
theorem dX6_stick_37 : decode cX6_stick 37 = .ok (.iload_n 2, 1) := by decide +kernel
theorem dX6_stick_38 : decode cX6_stick 38 = .ok (.iastore, 1) := by decide +kernel
theorem dX6_stick_39 : decode cX6_stick 39 = .ok (.iload_n 3, 1) := by decide +kernel
theorem dX6_stick_40 : decode cX6_stick 40 = .ok (.ireturn, 1) := by decide +kernel
theorem dX6_table_0 : decode cX6_table 0 = .ok (.aload_n 0, 1) := by decide +kernel
theorem dX6_table_1 : decode cX6_table 1 = .ok (.iload_n 1, 1) := by decide +kernel
theorem dX6_table_2 : decode cX6_table 2 = .ok (.invokevirtual 106, 3) := by decide +kernel
theorem dX6_table_5 : decode cX6_table 5 = .ok (.ifCond .eq 33, 3) := by decide +kernel
theorem dX6_table_8 : decode cX6_table 8 = .ok (.aload_n 0, 1) := by decide +kernel
theorem dX6_table_9 : decode cX6_table 9 = .ok (.iload_n 1, 1) := by decide +kernel
theorem dX6_table_10 : decode cX6_table 10 = .ok (.iload_n 2, 1) := by decide +kernel
theorem dX6_table_11 : decode cX6_table 11 = .ok (.invokevirtual 148, 3) := by decide +kernel
theorem dX6_table_14 : decode cX6_table 14 = .ok (.ifCond .eq 24, 3) := by decide +kernel
theorem dX6_table_17 : decode cX6_table 17 = .ok (.aload_n 0, 1) := by decide +kernel
theorem dX6_table_18 : decode cX6_table 18 = .ok (.iload_n 1, 1) := by decide +kernel
theorem dX6_table_19 : decode cX6_table 19 = .ok (.iload_n 3, 1) := by decide +kernel
theorem dX6_table_20 : decode cX6_table 20 = .ok (.i2l, 1) := by decide +kernel
theorem dX6_table_21 : decode cX6_table 21 = .ok (.invokevirtual 144, 3) := by decide +kernel
theorem dX6_table_24 : decode cX6_table 24 = .ok (.ifCond .eq 14, 3) := by decide +kernel
theorem dX6_table_27 : decode cX6_table 27 = .ok (.aload_n 0, 1) := by decide +kernel
theorem dX6_table_28 : decode cX6_table 28 = .ok (.iload_n 1, 1) := by decide +kernel
theorem dX6_table_29 : decode cX6_table 29 = .ok (.iload 4, 2) := by decide +kernel
theorem dX6_table_31 : decode cX6_table 31 = .ok (.i2l, 1) := by decide +kernel
theorem dX6_table_32 : decode cX6_table 32 = .ok (.invokevirtual 144, 3) := by decide +kernel
theorem dX6_table_35 : decode cX6_table 35 = .ok (.ifCond .ne 10, 3) := by decide +kernel
theorem dX6_table_38 : decode cX6_table 38 = .ok (.aload_n 0, 1) := by decide +kernel
theorem dX6_table_39 : decode cX6_table 39 = .ok (.bipush (-2), 2) := by decide +kernel
theorem dX6_table_41 : decode cX6_table 41 = .ok (.invokevirtual 96, 3) := by decide +kernel
theorem dX6_table_44 : decode cX6_table 44 = .ok (.ireturn, 1) := by decide +kernel
theorem dX6_table_45 : decode cX6_table 45 = .ok (.aload_n 0, 1) := by decide +kernel
theorem dX6_table_46 : decode cX6_table 46 = .ok (.getfield 37, 3) := by decide +kernel
theorem dX6_table_49 : decode cX6_table 49 = .ok (.iload_n 1, 1) := by decide +kernel
theorem dX6_table_50 : decode cX6_table 50 = .ok (.iaload, 1) := by decide +kernel
theorem dX6_table_51 : decode cX6_table 51 = .ok (.iconst 5, 1) := by decide +kernel
theorem dX6_table_52 : decode cX6_table 52 = .ok (.if_icmp .eq 10, 3) := by decide +kernel
theorem dX6_table_55 : decode cX6_table 55 = .ok (.aload_n 0, 1) := by decide +kernel
theorem dX6_table_56 : decode cX6_table 56 = .ok (.bipush (-5), 2) := by decide +kernel
theorem dX6_table_58 : decode cX6_table 58 = .ok (.invokevirtual 96, 3) := by decide +kernel
theorem dX6_table_61 : decode cX6_table 61 = .ok (.ireturn, 1) := by decide +kernel
theorem dX6_table_62 : decode cX6_table 62 = .ok (.aload_n 0, 1) := by decide +kernel
theorem dX6_table_63 : decode cX6_table 63 = .ok (.getfield 51, 3) := by decide +kernel
theorem dX6_table_66 : decode cX6_table 66 = .ok (.iload_n 1, 1) := by decide +kernel
theorem dX6_table_67 : decode cX6_table 67 = .ok (.aaload, 1) := by decide +kernel
theorem dX6_table_68 : decode cX6_table 68 = .ok (.iload_n 2, 1) := by decide +kernel
theorem dX6_table_69 : decode cX6_table 69 = .ok (.iload_n 3, 1) := by decide +kernel
theorem dX6_table_70 : decode cX6_table 70 = .ok (.iastore, 1) := by decide +kernel
theorem dX6_table_71 : decode cX6_table 71 = .ok (.aload_n 0, 1) := by decide +kernel
theorem dX6_table_72 : decode cX6_table 72 = .ok (.getfield 54, 3) := by decide +kernel
theorem dX6_table_75 : decode cX6_table 75 = .ok (.iload_n 1, 1) := by decide +kernel
theorem dX6_table_76 : decode cX6_table 76 = .ok (.aaload, 1) := by decide +kernel
theorem dX6_table_77 : decode cX6_table 77 = .ok (.iload_n 2, 1) := by decide +kernel
theorem dX6_table_78 : decode cX6_table 78 = .ok (.iload 4, 2) := by decide +kernel
theorem dX6_table_80 : decode cX6_table 80 = .ok (.iastore, 1) := by decide +kernel
theorem dX6_table_81 : decode cX6_table 81 = .ok (.iconst 1, 1) := by decide +kernel
theorem dX6_table_82 : decode cX6_table 82 = .ok (.ireturn, 1) := by decide +kernel
theorem dX6_minutes_0 : decode cX6_minutes 0 = .ok (.iload_n 1, 1) := by decide +kernel
theorem dX6_minutes_1 : decode cX6_minutes 1 = .ok (.i2l, 1) := by decide +kernel
theorem dX6_minutes_2 : decode cX6_minutes 2 = .ok (.lconst 0, 1) := by decide +kernel
theorem dX6_minutes_3 : decode cX6_minutes 3 = .ok (.ldc2_w 151, 3) := by decide +kernel
theorem dX6_minutes_6 : decode cX6_minutes 6 = .ok (.invokestatic 82, 3) := by decide +kernel
theorem dX6_minutes_9 : decode cX6_minutes 9 = .ok (.ifCond .eq 15, 3) := by decide +kernel
theorem dX6_minutes_12 : decode cX6_minutes 12 = .ok (.iload_n 2, 1) := by decide +kernel
theorem dX6_minutes_13 : decode cX6_minutes 13 = .ok (.i2l, 1) := by decide +kernel
theorem dX6_minutes_14 : decode cX6_minutes 14 = .ok (.lconst 0, 1) := by decide +kernel
theorem dX6_minutes_15 : decode cX6_minutes 15 = .ok (.ldc2_w 153, 3) := by decide +kernel
theorem dX6_minutes_18 : decode cX6_minutes 18 = .ok (.invokestatic 82, 3) := by decide +kernel
theorem dX6_minutes_21 : decode cX6_minutes 21 = .ok (.ifCond .ne 10, 3) := by decide +kernel
theorem dX6_minutes_24 : decode cX6_minutes 24 = .ok (.aload_n 0, 1) := by decide +kernel
theorem dX6_minutes_25 : decode cX6_minutes 25 = .ok (.bipush (-2), 2) := by decide +kernel
theorem dX6_minutes_27 : decode cX6_minutes 27 = .ok (.invokevirtual 96, 3) := by decide +kernel
theorem dX6_minutes_30 : decode cX6_minutes 30 = .ok (.ireturn, 1) := by decide +kernel
theorem dX6_minutes_31 : decode cX6_minutes 31 = .ok (.aload_n 0, 1) := by decide +kernel
theorem dX6_minutes_32 : decode cX6_minutes 32 = .ok (.getfield 57, 3) := by decide +kernel
theorem dX6_minutes_35 : decode cX6_minutes 35 = .ok (.iload_n 1, 1) := by decide +kernel
theorem dX6_minutes_36 : decode cX6_minutes 36 = .ok (.iaload, 1) := by decide +kernel
theorem dX6_minutes_37 : decode cX6_minutes 37 = .ok (.istore_n 3, 1) := by decide +kernel
theorem dX6_minutes_38 : decode cX6_minutes 38 = .ok (.aload_n 0, 1) := by decide +kernel
theorem dX6_minutes_39 : decode cX6_minutes 39 = .ok (.getfield 57, 3) := by decide +kernel
theorem dX6_minutes_42 : decode cX6_minutes 42 = .ok (.iload_n 1, 1) := by decide +kernel
theorem dX6_minutes_43 : decode cX6_minutes 43 = .ok (.iload_n 2, 1) := by decide +kernel
theorem dX6_minutes_44 : decode cX6_minutes 44 = .ok (.iastore, 1) := by decide +kernel
theorem dX6_minutes_45 : decode cX6_minutes 45 = .ok (.iload_n 3, 1) := by decide +kernel
theorem dX6_minutes_46 : decode cX6_minutes 46 = .ok (.ireturn, 1) := by decide +kernel
theorem dX6_feed_0 : decode cX6_feed 0 = .ok (.iload_n 1, 1) := by decide +kernel
theorem dX6_feed_1 : decode cX6_feed 1 = .ok (.i2l, 1) := by decide +kernel
theorem dX6_feed_2 : decode cX6_feed 2 = .ok (.lconst 0, 1) := by decide +kernel
theorem dX6_feed_3 : decode cX6_feed 3 = .ok (.ldc2_w 155, 3) := by decide +kernel
theorem dX6_feed_6 : decode cX6_feed 6 = .ok (.invokestatic 82, 3) := by decide +kernel
theorem dX6_feed_9 : decode cX6_feed 9 = .ok (.ifCond .ne 10, 3) := by decide +kernel
theorem dX6_feed_12 : decode cX6_feed 12 = .ok (.aload_n 0, 1) := by decide +kernel
theorem dX6_feed_13 : decode cX6_feed 13 = .ok (.bipush (-2), 2) := by decide +kernel
theorem dX6_feed_15 : decode cX6_feed 15 = .ok (.invokevirtual 96, 3) := by decide +kernel
theorem dX6_feed_18 : decode cX6_feed 18 = .ok (.ireturn, 1) := by decide +kernel
theorem dX6_feed_19 : decode cX6_feed 19 = .ok (.aload_n 0, 1) := by decide +kernel
theorem dX6_feed_20 : decode cX6_feed 20 = .ok (.getfield 157, 3) := by decide +kernel
theorem dX6_feed_23 : decode cX6_feed 23 = .ok (.sipush 250, 3) := by decide +kernel
theorem dX6_feed_26 : decode cX6_feed 26 = .ok (.if_icmp .ne 10, 3) := by decide +kernel
theorem dX6_feed_29 : decode cX6_feed 29 = .ok (.aload_n 0, 1) := by decide +kernel
theorem dX6_feed_30 : decode cX6_feed 30 = .ok (.bipush (-6), 2) := by decide +kernel
theorem dX6_feed_32 : decode cX6_feed 32 = .ok (.invokevirtual 96, 3) := by decide +kernel
theorem dX6_feed_35 : decode cX6_feed 35 = .ok (.ireturn, 1) := by decide +kernel
theorem dX6_feed_36 : decode cX6_feed 36 = .ok (.aload_n 0, 1) := by decide +kernel
theorem dX6_feed_37 : decode cX6_feed 37 = .ok (.getfield 31, 3) := by decide +kernel
theorem dX6_feed_40 : decode cX6_feed 40 = .ok (.aload_n 0, 1) := by decide +kernel
theorem dX6_feed_41 : decode cX6_feed 41 = .ok (.dup, 1) := by decide +kernel
theorem dX6_feed_42 : decode cX6_feed 42 = .ok (.getfield 157, 3) := by decide +kernel
theorem dX6_feed_45 : decode cX6_feed 45 = .ok (.dup_x1, 1) := by decide +kernel
theorem dX6_feed_46 : decode cX6_feed 46 = .ok (.iconst 1, 1) := by decide +kernel
theorem dX6_feed_47 : decode cX6_feed 47 = .ok (.iadd, 1) := by decide +kernel
theorem dX6_feed_48 : decode cX6_feed 48 = .ok (.putfield 157, 3) := by decide +kernel
theorem dX6_feed_51 : decode cX6_feed 51 = .ok (.iload_n 1, 1) := by decide +kernel
theorem dX6_feed_52 : decode cX6_feed 52 = .ok (.iastore, 1) := by decide +kernel
theorem dX6_feed_53 : decode cX6_feed 53 = .ok (.aload_n 0, 1) := by decide +kernel
theorem dX6_feed_54 : decode cX6_feed 54 = .ok (.getfield 157, 3) := by decide +kernel
theorem dX6_feed_57 : decode cX6_feed 57 = .ok (.ireturn, 1) := by decide +kernel
theorem dX6_wipe_0 : decode cX6_wipe 0 = .ok (.aload_n 0, 1) := by decide +kernel
theorem dX6_wipe_1 : decode cX6_wipe 1 = .ok (.getfield 157, 3) := by decide +kernel
theorem dX6_wipe_4 : decode cX6_wipe 4 = .ok (.istore_n 1, 1) := by decide +kernel
theorem dX6_wipe_5 : decode cX6_wipe 5 = .ok (.aload_n 0, 1) := by decide +kernel
theorem dX6_wipe_6 : decode cX6_wipe 6 = .ok (.iconst 0, 1) := by decide +kernel
theorem dX6_wipe_7 : decode cX6_wipe 7 = .ok (.putfield 157, 3) := by decide +kernel
theorem dX6_wipe_10 : decode cX6_wipe 10 = .ok (.iload_n 1, 1) := by decide +kernel
theorem dX6_wipe_11 : decode cX6_wipe 11 = .ok (.ireturn, 1) := by decide +kernel
theorem dX6_isLetter_0 : decode cX6_isLetter 0 = .ok (.iload_n 0, 1) := by decide +kernel
theorem dX6_isLetter_1 : decode cX6_isLetter 1 = .ok (.bipush 97, 2) := by decide +kernel
theorem dX6_isLetter_3 : decode cX6_isLetter 3 = .ok (.if_icmp .lt 13, 3) := by decide +kernel
theorem dX6_isLetter_6 : decode cX6_isLetter 6 = .ok (.iload_n 0, 1) := by decide +kernel
theorem dX6_isLetter_7 : decode cX6_isLetter 7 = .ok (.bipush 122, 2) := by decide +kernel
theorem dX6_isLetter_9 : decode cX6_isLetter 9 = .ok (.if_icmp .gt 7, 3) := by decide +kernel
theorem dX6_isLetter_12 : decode cX6_isLetter 12 = .ok (.iconst 1, 1) := by decide +kernel
theorem dX6_isLetter_13 : decode cX6_isLetter 13 = .ok (.goto 4, 3) := by decide +kernel
theorem dX6_isLetter_16 : decode cX6_isLetter 16 = .ok (.iconst 0, 1) := by decide +kernel
theorem dX6_isLetter_17 : decode cX6_isLetter 17 = .ok (.ireturn, 1) := by decide +kernel
theorem dX6_isDigit_0 : decode cX6_isDigit 0 = .ok (.iload_n 0, 1) := by decide +kernel
theorem dX6_isDigit_1 : decode cX6_isDigit 1 = .ok (.bipush 48, 2) := by decide +kernel
theorem dX6_isDigit_3 : decode cX6_isDigit 3 = .ok (.if_icmp .lt 13, 3) := by decide +kernel
theorem dX6_isDigit_6 : decode cX6_isDigit 6 = .ok (.iload_n 0, 1) := by decide +kernel
theorem dX6_isDigit_7 : decode cX6_isDigit 7 = .ok (.bipush 57, 2) := by decide +kernel
theorem dX6_isDigit_9 : decode cX6_isDigit 9 = .ok (.if_icmp .gt 7, 3) := by decide +kernel
theorem dX6_isDigit_12 : decode cX6_isDigit 12 = .ok (.iconst 1, 1) := by decide +kernel
theorem dX6_isDigit_13 : decode cX6_isDigit 13 = .ok (.goto 4, 3) := by decide +kernel
theorem dX6_isDigit_16 : decode cX6_isDigit 16 = .ok (.iconst 0, 1) := by decide +kernel
theorem dX6_isDigit_17 : decode cX6_isDigit 17 = .ok (.ireturn, 1) := by decide +kernel
theorem dX6_look_0 : decode cX6_look 0 = .ok (.aload_n 0, 1) := by decide +kernel
theorem dX6_look_1 : decode cX6_look 1 = .ok (.getfield 160, 3) := by decide +kernel
theorem dX6_look_4 : decode cX6_look 4 = .ok (.aload_n 0, 1) := by decide +kernel
theorem dX6_look_5 : decode cX6_look 5 = .ok (.getfield 157, 3) := by decide +kernel
theorem dX6_look_8 : decode cX6_look 8 = .ok (.if_icmp .ge 30, 3) := by decide +kernel
theorem dX6_look_11 : decode cX6_look 11 = .ok (.aload_n 0, 1) := by decide +kernel
theorem dX6_look_12 : decode cX6_look 12 = .ok (.getfield 31, 3) := by decide +kernel
theorem dX6_look_15 : decode cX6_look 15 = .ok (.aload_n 0, 1) := by decide +kernel
theorem dX6_look_16 : decode cX6_look 16 = .ok (.getfield 160, 3) := by decide +kernel
theorem dX6_look_19 : decode cX6_look 19 = .ok (.iaload, 1) := by decide +kernel
theorem dX6_look_20 : decode cX6_look 20 = .ok (.bipush 32, 2) := by decide +kernel
theorem dX6_look_22 : decode cX6_look 22 = .ok (.if_icmp .ne 16, 3) := by decide +kernel
theorem dX6_look_25 : decode cX6_look 25 = .ok (.aload_n 0, 1) := by decide +kernel
theorem dX6_look_26 : decode cX6_look 26 = .ok (.dup, 1) := by decide +kernel
theorem dX6_look_27 : decode cX6_look 27 = .ok (.getfield 160, 3) := by decide +kernel
theorem dX6_look_30 : decode cX6_look 30 = .ok (.iconst 1, 1) := by decide +kernel
theorem dX6_look_31 : decode cX6_look 31 = .ok (.iadd, 1) := by decide +kernel
theorem dX6_look_32 : decode cX6_look 32 = .ok (.putfield 160, 3) := by decide +kernel
theorem dX6_look_35 : decode cX6_look 35 = .ok (.goto (-35), 3) := by decide +kernel
theorem dX6_look_38 : decode cX6_look 38 = .ok (.aload_n 0, 1) := by decide +kernel
theorem dX6_look_39 : decode cX6_look 39 = .ok (.aload_n 0, 1) := by decide +kernel
theorem dX6_look_40 : decode cX6_look 40 = .ok (.getfield 160, 3) := by decide +kernel
theorem dX6_look_43 : decode cX6_look 43 = .ok (.putfield 163, 3) := by decide +kernel
theorem dX6_look_46 : decode cX6_look 46 = .ok (.aload_n 0, 1) := by decide +kernel
theorem dX6_look_47 : decode cX6_look 47 = .ok (.iconst 0, 1) := by decide +kernel
theorem dX6_look_48 : decode cX6_look 48 = .ok (.putfield 166, 3) := by decide +kernel
theorem dX6_look_51 : decode cX6_look 51 = .ok (.aload_n 0, 1) := by decide +kernel
theorem dX6_look_52 : decode cX6_look 52 = .ok (.getfield 160, 3) := by decide +kernel
theorem dX6_look_55 : decode cX6_look 55 = .ok (.aload_n 0, 1) := by decide +kernel
theorem dX6_look_56 : decode cX6_look 56 = .ok (.getfield 157, 3) := by decide +kernel
theorem dX6_look_59 : decode cX6_look 59 = .ok (.if_icmp .ne 11, 3) := by decide +kernel
theorem dX6_look_62 : decode cX6_look 62 = .ok (.aload_n 0, 1) := by decide +kernel
theorem dX6_look_63 : decode cX6_look 63 = .ok (.iconst 0, 1) := by decide +kernel
theorem dX6_look_64 : decode cX6_look 64 = .ok (.putfield 169, 3) := by decide +kernel
theorem dX6_look_67 : decode cX6_look 67 = .ok (.goto 196, 3) := by decide +kernel
theorem dX6_look_70 : decode cX6_look 70 = .ok (.aload_n 0, 1) := by decide +kernel
theorem dX6_look_71 : decode cX6_look 71 = .ok (.getfield 31, 3) := by decide +kernel
theorem dX6_look_74 : decode cX6_look 74 = .ok (.aload_n 0, 1) := by decide +kernel
theorem dX6_look_75 : decode cX6_look 75 = .ok (.getfield 160, 3) := by decide +kernel
theorem dX6_look_78 : decode cX6_look 78 = .ok (.iaload, 1) := by decide +kernel
theorem dX6_look_79 : decode cX6_look 79 = .ok (.invokestatic 172, 3) := by decide +kernel
theorem dX6_look_82 : decode cX6_look 82 = .ok (.ifCond .eq 47, 3) := by decide +kernel
theorem dX6_look_85 : decode cX6_look 85 = .ok (.aload_n 0, 1) := by decide +kernel
theorem dX6_look_86 : decode cX6_look 86 = .ok (.iconst 1, 1) := by decide +kernel
theorem dX6_look_87 : decode cX6_look 87 = .ok (.putfield 169, 3) := by decide +kernel
theorem dX6_look_90 : decode cX6_look 90 = .ok (.aload_n 0, 1) := by decide +kernel
theorem dX6_look_91 : decode cX6_look 91 = .ok (.getfield 160, 3) := by decide +kernel
theorem dX6_look_94 : decode cX6_look 94 = .ok (.aload_n 0, 1) := by decide +kernel
theorem dX6_look_95 : decode cX6_look 95 = .ok (.getfield 157, 3) := by decide +kernel
theorem dX6_look_98 : decode cX6_look 98 = .ok (.if_icmp .ge 165, 3) := by decide +kernel
theorem dX6_look_101 : decode cX6_look 101 = .ok (.aload_n 0, 1) := by decide +kernel
theorem dX6_look_102 : decode cX6_look 102 = .ok (.getfield 31, 3) := by decide +kernel
theorem dX6_look_105 : decode cX6_look 105 = .ok (.aload_n 0, 1) := by decide +kernel
theorem dX6_look_106 : decode cX6_look 106 = .ok (.getfield 160, 3) := by decide +kernel
theorem dX6_look_109 : decode cX6_look 109 = .ok (.iaload, 1) := by decide +kernel
theorem dX6_look_110 : decode cX6_look 110 = .ok (.invokestatic 172, 3) := by decide +kernel
theorem dX6_look_113 : decode cX6_look 113 = .ok (.ifCond .eq 150, 3) := by decide +kernel
theorem dX6_look_116 : decode cX6_look 116 = .ok (.aload_n 0, 1) := by decide +kernel
theorem dX6_look_117 : decode cX6_look 117 = .ok (.dup, 1) := by decide +kernel
theorem dX6_look_118 : decode cX6_look 118 = .ok (.getfield 160, 3) := by decide +kernel
theorem dX6_look_121 : decode cX6_look 121 = .ok (.iconst 1, 1) := by decide +kernel
theorem dX6_look_122 : decode cX6_look 122 = .ok (.iadd, 1) := by decide +kernel
theorem dX6_look_123 : decode cX6_look 123 = .ok (.putfield 160, 3) := by decide +kernel
theorem dX6_look_126 : decode cX6_look 126 = .ok (.goto (-36), 3) := by decide +kernel
theorem dX6_look_129 : decode cX6_look 129 = .ok (.aload_n 0, 1) := by decide +kernel
theorem dX6_look_130 : decode cX6_look 130 = .ok (.getfield 31, 3) := by decide +kernel
theorem dX6_look_133 : decode cX6_look 133 = .ok (.aload_n 0, 1) := by decide +kernel
theorem dX6_look_134 : decode cX6_look 134 = .ok (.getfield 160, 3) := by decide +kernel
theorem dX6_look_137 : decode cX6_look 137 = .ok (.iaload, 1) := by decide +kernel
theorem dX6_look_138 : decode cX6_look 138 = .ok (.invokestatic 175, 3) := by decide +kernel
theorem dX6_look_141 : decode cX6_look 141 = .ok (.ifCond .eq 89, 3) := by decide +kernel
theorem dX6_look_144 : decode cX6_look 144 = .ok (.aload_n 0, 1) := by decide +kernel
theorem dX6_look_145 : decode cX6_look 145 = .ok (.iconst 2, 1) := by decide +kernel
theorem dX6_look_146 : decode cX6_look 146 = .ok (.putfield 169, 3) := by decide +kernel
theorem dX6_look_149 : decode cX6_look 149 = .ok (.aload_n 0, 1) := by decide +kernel
theorem dX6_look_150 : decode cX6_look 150 = .ok (.getfield 160, 3) := by decide +kernel
theorem dX6_look_153 : decode cX6_look 153 = .ok (.aload_n 0, 1) := by decide +kernel
theorem dX6_look_154 : decode cX6_look 154 = .ok (.getfield 157, 3) := by decide +kernel
theorem dX6_look_157 : decode cX6_look 157 = .ok (.if_icmp .ge 106, 3) := by decide +kernel
theorem dX6_look_160 : decode cX6_look 160 = .ok (.aload_n 0, 1) := by decide +kernel
theorem dX6_look_161 : decode cX6_look 161 = .ok (.getfield 31, 3) := by decide +kernel
theorem dX6_look_164 : decode cX6_look 164 = .ok (.aload_n 0, 1) := by decide +kernel
theorem dX6_look_165 : decode cX6_look 165 = .ok (.getfield 160, 3) := by decide +kernel
theorem dX6_look_168 : decode cX6_look 168 = .ok (.iaload, 1) := by decide +kernel
theorem dX6_look_169 : decode cX6_look 169 = .ok (.invokestatic 175, 3) := by decide +kernel
theorem dX6_look_172 : decode cX6_look 172 = .ok (.ifCond .eq 91, 3) := by decide +kernel
theorem dX6_look_175 : decode cX6_look 175 = .ok (.aload_n 0, 1) := by decide +kernel
theorem dX6_look_176 : decode cX6_look 176 = .ok (.aload_n 0, 1) := by decide +kernel
theorem dX6_look_177 : decode cX6_look 177 = .ok (.getfield 160, 3) := by decide +kernel
theorem dX6_look_180 : decode cX6_look 180 = .ok (.aload_n 0, 1) := by decide +kernel
theorem dX6_look_181 : decode cX6_look 181 = .ok (.getfield 163, 3) := by decide +kernel
theorem dX6_look_184 : decode cX6_look 184 = .ok (.isub, 1) := by decide +kernel
theorem dX6_look_185 : decode cX6_look 185 = .ok (.iconst 4, 1) := by decide +kernel
theorem dX6_look_186 : decode cX6_look 186 = .ok (.if_icmp .ge 26, 3) := by decide +kernel
theorem dX6_look_189 : decode cX6_look 189 = .ok (.aload_n 0, 1) := by decide +kernel
theorem dX6_look_190 : decode cX6_look 190 = .ok (.getfield 166, 3) := by decide +kernel
theorem dX6_look_193 : decode cX6_look 193 = .ok (.bipush 10, 2) := by decide +kernel
theorem dX6_look_195 : decode cX6_look 195 = .ok (.imul, 1) := by decide +kernel
theorem dX6_look_196 : decode cX6_look 196 = .ok (.aload_n 0, 1) := by decide +kernel
theorem dX6_look_197 : decode cX6_look 197 = .ok (.getfield 31, 3) := by decide +kernel
theorem dX6_look_200 : decode cX6_look 200 = .ok (.aload_n 0, 1) := by decide +kernel
theorem dX6_look_201 : decode cX6_look 201 = .ok (.getfield 160, 3) := by decide +kernel
theorem dX6_look_204 : decode cX6_look 204 = .ok (.iaload, 1) := by decide +kernel
theorem dX6_look_205 : decode cX6_look 205 = .ok (.iadd, 1) := by decide +kernel
theorem dX6_look_206 : decode cX6_look 206 = .ok (.bipush 48, 2) := by decide +kernel
theorem dX6_look_208 : decode cX6_look 208 = .ok (.isub, 1) := by decide +kernel
theorem dX6_look_209 : decode cX6_look 209 = .ok (.goto 5, 3) := by decide +kernel
theorem dX6_look_212 : decode cX6_look 212 = .ok (.ldc 178, 2) := by decide +kernel
theorem dX6_look_214 : decode cX6_look 214 = .ok (.putfield 166, 3) := by decide +kernel
theorem dX6_look_217 : decode cX6_look 217 = .ok (.aload_n 0, 1) := by decide +kernel
theorem dX6_look_218 : decode cX6_look 218 = .ok (.dup, 1) := by decide +kernel
theorem dX6_look_219 : decode cX6_look 219 = .ok (.getfield 160, 3) := by decide +kernel
theorem dX6_look_222 : decode cX6_look 222 = .ok (.iconst 1, 1) := by decide +kernel
theorem dX6_look_223 : decode cX6_look 223 = .ok (.iadd, 1) := by decide +kernel
theorem dX6_look_224 : decode cX6_look 224 = .ok (.putfield 160, 3) := by decide +kernel
theorem dX6_look_227 : decode cX6_look 227 = .ok (.goto (-78), 3) := by decide +kernel
theorem dX6_look_230 : decode cX6_look 230 = .ok (.aload_n 0, 1) := by decide +kernel
theorem dX6_look_231 : decode cX6_look 231 = .ok (.aload_n 0, 1) := by decide +kernel
theorem dX6_look_232 : decode cX6_look 232 = .ok (.getfield 31, 3) := by decide +kernel
theorem dX6_look_235 : decode cX6_look 235 = .ok (.aload_n 0, 1) := by decide +kernel
theorem dX6_look_236 : decode cX6_look 236 = .ok (.getfield 160, 3) := by decide +kernel
theorem dX6_look_239 : decode cX6_look 239 = .ok (.iaload, 1) := by decide +kernel
theorem dX6_look_240 : decode cX6_look 240 = .ok (.bipush 59, 2) := by decide +kernel
theorem dX6_look_242 : decode cX6_look 242 = .ok (.if_icmp .ne 7, 3) := by decide +kernel
theorem dX6_look_245 : decode cX6_look 245 = .ok (.iconst 3, 1) := by decide +kernel
theorem dX6_look_246 : decode cX6_look 246 = .ok (.goto 4, 3) := by decide +kernel
theorem dX6_look_249 : decode cX6_look 249 = .ok (.iconst 4, 1) := by decide +kernel
theorem dX6_look_250 : decode cX6_look 250 = .ok (.putfield 169, 3) := by decide +kernel
theorem dX6_look_253 : decode cX6_look 253 = .ok (.aload_n 0, 1) := by decide +kernel
theorem dX6_look_254 : decode cX6_look 254 = .ok (.dup, 1) := by decide +kernel
theorem dX6_look_255 : decode cX6_look 255 = .ok (.getfield 160, 3) := by decide +kernel
theorem dX6_look_258 : decode cX6_look 258 = .ok (.iconst 1, 1) := by decide +kernel
theorem dX6_look_259 : decode cX6_look 259 = .ok (.iadd, 1) := by decide +kernel
theorem dX6_look_260 : decode cX6_look 260 = .ok (.putfield 160, 3) := by decide +kernel
theorem dX6_look_263 : decode cX6_look 263 = .ok (.return_, 1) := by decide +kernel
theorem dX6_wrong_0 : decode cX6_wrong 0 = .ok (.aload_n 0, 1) := by decide +kernel
theorem dX6_wrong_1 : decode cX6_wrong 1 = .ok (.aload_n 0, 1) := by decide +kernel
theorem dX6_wrong_2 : decode cX6_wrong 2 = .ok (.getfield 163, 3) := by decide +kernel
theorem dX6_wrong_5 : decode cX6_wrong 5 = .ok (.putfield 179, 3) := by decide +kernel
theorem dX6_wrong_8 : decode cX6_wrong 8 = .ok (.iconst 0, 1) := by decide +kernel
theorem dX6_wrong_9 : decode cX6_wrong 9 = .ok (.ireturn, 1) := by decide +kernel
theorem dX6_isWord_0 : decode cX6_isWord 0 = .ok (.aload_n 0, 1) := by decide +kernel
theorem dX6_isWord_1 : decode cX6_isWord 1 = .ok (.getfield 169, 3) := by decide +kernel
theorem dX6_isWord_4 : decode cX6_isWord 4 = .ok (.iconst 1, 1) := by decide +kernel
theorem dX6_isWord_5 : decode cX6_isWord 5 = .ok (.if_icmp .ne 19, 3) := by decide +kernel
theorem dX6_isWord_8 : decode cX6_isWord 8 = .ok (.aload_n 0, 1) := by decide +kernel
theorem dX6_isWord_9 : decode cX6_isWord 9 = .ok (.getfield 160, 3) := by decide +kernel
theorem dX6_isWord_12 : decode cX6_isWord 12 = .ok (.aload_n 0, 1) := by decide +kernel
theorem dX6_isWord_13 : decode cX6_isWord 13 = .ok (.getfield 163, 3) := by decide +kernel
theorem dX6_isWord_16 : decode cX6_isWord 16 = .ok (.isub, 1) := by decide +kernel
theorem dX6_isWord_17 : decode cX6_isWord 17 = .ok (.aload_n 1, 1) := by decide +kernel
theorem dX6_isWord_18 : decode cX6_isWord 18 = .ok (.invokevirtual 182, 3) := by decide +kernel
theorem dX6_isWord_21 : decode cX6_isWord 21 = .ok (.if_icmp .eq 5, 3) := by decide +kernel
theorem dX6_isWord_24 : decode cX6_isWord 24 = .ok (.iconst 0, 1) := by decide +kernel
theorem dX6_isWord_25 : decode cX6_isWord 25 = .ok (.ireturn, 1) := by decide +kernel
theorem dX6_isWord_26 : decode cX6_isWord 26 = .ok (.iconst 0, 1) := by decide +kernel
theorem dX6_isWord_27 : decode cX6_isWord 27 = .ok (.istore_n 2, 1) := by decide +kernel
theorem dX6_isWord_28 : decode cX6_isWord 28 = .ok (.iload_n 2, 1) := by decide +kernel
theorem dX6_isWord_29 : decode cX6_isWord 29 = .ok (.aload_n 1, 1) := by decide +kernel
theorem dX6_isWord_30 : decode cX6_isWord 30 = .ok (.invokevirtual 182, 3) := by decide +kernel
theorem dX6_isWord_33 : decode cX6_isWord 33 = .ok (.if_icmp .ge 30, 3) := by decide +kernel
theorem dX6_isWord_36 : decode cX6_isWord 36 = .ok (.aload_n 0, 1) := by decide +kernel
theorem dX6_isWord_37 : decode cX6_isWord 37 = .ok (.getfield 31, 3) := by decide +kernel
theorem dX6_isWord_40 : decode cX6_isWord 40 = .ok (.aload_n 0, 1) := by decide +kernel
theorem dX6_isWord_41 : decode cX6_isWord 41 = .ok (.getfield 163, 3) := by decide +kernel
theorem dX6_isWord_44 : decode cX6_isWord 44 = .ok (.iload_n 2, 1) := by decide +kernel
theorem dX6_isWord_45 : decode cX6_isWord 45 = .ok (.iadd, 1) := by decide +kernel
theorem dX6_isWord_46 : decode cX6_isWord 46 = .ok (.iaload, 1) := by decide +kernel
theorem dX6_isWord_47 : decode cX6_isWord 47 = .ok (.aload_n 1, 1) := by decide +kernel
theorem dX6_isWord_48 : decode cX6_isWord 48 = .ok (.iload_n 2, 1) := by decide +kernel
theorem dX6_isWord_49 : decode cX6_isWord 49 = .ok (.invokevirtual 188, 3) := by decide +kernel
theorem dX6_isWord_52 : decode cX6_isWord 52 = .ok (.if_icmp .eq 5, 3) := by decide +kernel
theorem dX6_isWord_55 : decode cX6_isWord 55 = .ok (.iconst 0, 1) := by decide +kernel
theorem dX6_isWord_56 : decode cX6_isWord 56 = .ok (.ireturn, 1) := by decide +kernel
theorem dX6_isWord_57 : decode cX6_isWord 57 = .ok (.iinc 2 1, 3) := by decide +kernel
theorem dX6_isWord_60 : decode cX6_isWord 60 = .ok (.goto (-32), 3) := by decide +kernel
theorem dX6_isWord_63 : decode cX6_isWord 63 = .ok (.iconst 1, 1) := by decide +kernel
theorem dX6_isWord_64 : decode cX6_isWord 64 = .ok (.ireturn, 1) := by decide +kernel
theorem dX6_number_0 : decode cX6_number 0 = .ok (.aload_n 0, 1) := by decide +kernel
theorem dX6_number_1 : decode cX6_number 1 = .ok (.getfield 169, 3) := by decide +kernel
theorem dX6_number_4 : decode cX6_number 4 = .ok (.iconst 2, 1) := by decide +kernel
theorem dX6_number_5 : decode cX6_number 5 = .ok (.if_icmp .ne 18, 3) := by decide +kernel
theorem dX6_number_8 : decode cX6_number 8 = .ok (.aload_n 0, 1) := by decide +kernel
theorem dX6_number_9 : decode cX6_number 9 = .ok (.getfield 166, 3) := by decide +kernel
theorem dX6_number_12 : decode cX6_number 12 = .ok (.i2l, 1) := by decide +kernel
theorem dX6_number_13 : decode cX6_number 13 = .ok (.iload_n 2, 1) := by decide +kernel
theorem dX6_number_14 : decode cX6_number 14 = .ok (.i2l, 1) := by decide +kernel
theorem dX6_number_15 : decode cX6_number 15 = .ok (.iload_n 3, 1) := by decide +kernel
theorem dX6_number_16 : decode cX6_number 16 = .ok (.i2l, 1) := by decide +kernel
theorem dX6_number_17 : decode cX6_number 17 = .ok (.invokestatic 82, 3) := by decide +kernel
theorem dX6_number_20 : decode cX6_number 20 = .ok (.ifCond .ne 8, 3) := by decide +kernel
theorem dX6_number_23 : decode cX6_number 23 = .ok (.aload_n 0, 1) := by decide +kernel
theorem dX6_number_24 : decode cX6_number 24 = .ok (.invokevirtual 192, 3) := by decide +kernel
theorem dX6_number_27 : decode cX6_number 27 = .ok (.ireturn, 1) := by decide +kernel
theorem dX6_number_28 : decode cX6_number 28 = .ok (.aload_n 0, 1) := by decide +kernel
theorem dX6_number_29 : decode cX6_number 29 = .ok (.getfield 64, 3) := by decide +kernel
theorem dX6_number_32 : decode cX6_number 32 = .ok (.iload_n 1, 1) := by decide +kernel
theorem dX6_number_33 : decode cX6_number 33 = .ok (.aload_n 0, 1) := by decide +kernel
theorem dX6_number_34 : decode cX6_number 34 = .ok (.getfield 166, 3) := by decide +kernel
theorem dX6_number_37 : decode cX6_number 37 = .ok (.iastore, 1) := by decide +kernel
theorem dX6_number_38 : decode cX6_number 38 = .ok (.aload_n 0, 1) := by decide +kernel
theorem dX6_number_39 : decode cX6_number 39 = .ok (.invokevirtual 196, 3) := by decide +kernel
theorem dX6_number_42 : decode cX6_number 42 = .ok (.iconst 1, 1) := by decide +kernel
theorem dX6_number_43 : decode cX6_number 43 = .ok (.ireturn, 1) := by decide +kernel
theorem dX6_tells_0 : decode cX6_tells 0 = .ok (.aload_n 0, 1) := by decide +kernel
theorem dX6_tells_1 : decode cX6_tells 1 = .ok (.invokevirtual 196, 3) := by decide +kernel
theorem dX6_tells_4 : decode cX6_tells 4 = .ok (.aload_n 0, 1) := by decide +kernel
theorem dX6_tells_5 : decode cX6_tells 5 = .ok (.iconst 0, 1) := by decide +kernel
theorem dX6_tells_6 : decode cX6_tells 6 = .ok (.iload_n 1, 1) := by decide +kernel
theorem dX6_tells_7 : decode cX6_tells 7 = .ok (.iload_n 2, 1) := by decide +kernel
theorem dX6_tells_8 : decode cX6_tells 8 = .ok (.invokevirtual 199, 3) := by decide +kernel
theorem dX6_tells_11 : decode cX6_tells 11 = .ok (.ireturn, 1) := by decide +kernel
theorem dX6_barTold_0 : decode cX6_barTold 0 = .ok (.aload_n 0, 1) := by decide +kernel
theorem dX6_barTold_1 : decode cX6_barTold 1 = .ok (.iconst 0, 1) := by decide +kernel
theorem dX6_barTold_2 : decode cX6_barTold 2 = .ok (.iconst 5, 1) := by decide +kernel
theorem dX6_barTold_3 : decode cX6_barTold 3 = .ok (.invokevirtual 202, 3) := by decide +kernel
theorem dX6_barTold_6 : decode cX6_barTold 6 = .ok (.ifCond .eq 14, 3) := by decide +kernel
theorem dX6_barTold_9 : decode cX6_barTold 9 = .ok (.aload_n 0, 1) := by decide +kernel
theorem dX6_barTold_10 : decode cX6_barTold 10 = .ok (.iconst 1, 1) := by decide +kernel
theorem dX6_barTold_11 : decode cX6_barTold 11 = .ok (.iconst 1, 1) := by decide +kernel
theorem dX6_barTold_12 : decode cX6_barTold 12 = .ok (.bipush 10, 2) := by decide +kernel
theorem dX6_barTold_14 : decode cX6_barTold 14 = .ok (.invokevirtual 199, 3) := by decide +kernel
theorem dX6_barTold_17 : decode cX6_barTold 17 = .ok (.ifCond .ne 5, 3) := by decide +kernel
theorem dX6_barTold_20 : decode cX6_barTold 20 = .ok (.iconst 0, 1) := by decide +kernel
theorem dX6_barTold_21 : decode cX6_barTold 21 = .ok (.ireturn, 1) := by decide +kernel
theorem dX6_barTold_22 : decode cX6_barTold 22 = .ok (.aload_n 0, 1) := by decide +kernel
theorem dX6_barTold_23 : decode cX6_barTold 23 = .ok (.aload_n 0, 1) := by decide +kernel
theorem dX6_barTold_24 : decode cX6_barTold 24 = .ok (.getfield 64, 3) := by decide +kernel
theorem dX6_barTold_27 : decode cX6_barTold 27 = .ok (.iconst 0, 1) := by decide +kernel
theorem dX6_barTold_28 : decode cX6_barTold 28 = .ok (.iaload, 1) := by decide +kernel
theorem dX6_barTold_29 : decode cX6_barTold 29 = .ok (.aload_n 0, 1) := by decide +kernel
theorem dX6_barTold_30 : decode cX6_barTold 30 = .ok (.getfield 64, 3) := by decide +kernel
theorem dX6_barTold_33 : decode cX6_barTold 33 = .ok (.iconst 1, 1) := by decide +kernel
theorem dX6_barTold_34 : decode cX6_barTold 34 = .ok (.iaload, 1) := by decide +kernel
theorem dX6_barTold_35 : decode cX6_barTold 35 = .ok (.invokevirtual 140, 3) := by decide +kernel
theorem dX6_barTold_38 : decode cX6_barTold 38 = .ok (.aload_n 0, 1) := by decide +kernel
theorem dX6_barTold_39 : decode cX6_barTold 39 = .ok (.ldc 205, 2) := by decide +kernel
theorem dX6_barTold_41 : decode cX6_barTold 41 = .ok (.invokevirtual 206, 3) := by decide +kernel
theorem dX6_barTold_44 : decode cX6_barTold 44 = .ok (.ifCond .eq 40, 3) := by decide +kernel
theorem dX6_barTold_47 : decode cX6_barTold 47 = .ok (.aload_n 0, 1) := by decide +kernel
theorem dX6_barTold_48 : decode cX6_barTold 48 = .ok (.iconst 0, 1) := by decide +kernel
theorem dX6_barTold_49 : decode cX6_barTold 49 = .ok (.aload_n 0, 1) := by decide +kernel
theorem dX6_barTold_50 : decode cX6_barTold 50 = .ok (.aload_n 0, 1) := by decide +kernel
theorem dX6_barTold_51 : decode cX6_barTold 51 = .ok (.getfield 79, 3) := by decide +kernel
theorem dX6_barTold_54 : decode cX6_barTold 54 = .ok (.iconst 1, 1) := by decide +kernel
theorem dX6_barTold_55 : decode cX6_barTold 55 = .ok (.isub, 1) := by decide +kernel
theorem dX6_barTold_56 : decode cX6_barTold 56 = .ok (.invokevirtual 86, 3) := by decide +kernel
theorem dX6_barTold_59 : decode cX6_barTold 59 = .ok (.invokevirtual 202, 3) := by decide +kernel
theorem dX6_barTold_62 : decode cX6_barTold 62 = .ok (.ifCond .ne 5, 3) := by decide +kernel
theorem dX6_barTold_65 : decode cX6_barTold 65 = .ok (.iconst 0, 1) := by decide +kernel
theorem dX6_barTold_66 : decode cX6_barTold 66 = .ok (.ireturn, 1) := by decide +kernel
theorem dX6_barTold_67 : decode cX6_barTold 67 = .ok (.aload_n 0, 1) := by decide +kernel
theorem dX6_barTold_68 : decode cX6_barTold 68 = .ok (.getfield 43, 3) := by decide +kernel
theorem dX6_barTold_71 : decode cX6_barTold 71 = .ok (.aload_n 0, 1) := by decide +kernel
theorem dX6_barTold_72 : decode cX6_barTold 72 = .ok (.getfield 79, 3) := by decide +kernel
theorem dX6_barTold_75 : decode cX6_barTold 75 = .ok (.iconst 1, 1) := by decide +kernel
theorem dX6_barTold_76 : decode cX6_barTold 76 = .ok (.isub, 1) := by decide +kernel
theorem dX6_barTold_77 : decode cX6_barTold 77 = .ok (.aload_n 0, 1) := by decide +kernel
theorem dX6_barTold_78 : decode cX6_barTold 78 = .ok (.getfield 64, 3) := by decide +kernel
theorem dX6_barTold_81 : decode cX6_barTold 81 = .ok (.iconst 0, 1) := by decide +kernel
theorem dX6_barTold_82 : decode cX6_barTold 82 = .ok (.iaload, 1) := by decide +kernel
theorem dX6_barTold_83 : decode cX6_barTold 83 = .ok (.iastore, 1) := by decide +kernel
theorem dX6_barTold_84 : decode cX6_barTold 84 = .ok (.iconst 1, 1) := by decide +kernel
theorem dX6_barTold_85 : decode cX6_barTold 85 = .ok (.ireturn, 1) := by decide +kernel
theorem dX6_tableTold_0 : decode cX6_tableTold 0 = .ok (.aload_n 0, 1) := by decide +kernel
theorem dX6_tableTold_1 : decode cX6_tableTold 1 = .ok (.invokevirtual 196, 3) := by decide +kernel
theorem dX6_tableTold_4 : decode cX6_tableTold 4 = .ok (.aload_n 0, 1) := by decide +kernel
theorem dX6_tableTold_5 : decode cX6_tableTold 5 = .ok (.getfield 169, 3) := by decide +kernel
theorem dX6_tableTold_8 : decode cX6_tableTold 8 = .ok (.iconst 2, 1) := by decide +kernel
theorem dX6_tableTold_9 : decode cX6_tableTold 9 = .ok (.if_icmp .ne 32, 3) := by decide +kernel
theorem dX6_tableTold_12 : decode cX6_tableTold 12 = .ok (.aload_n 0, 1) := by decide +kernel
theorem dX6_tableTold_13 : decode cX6_tableTold 13 = .ok (.getfield 166, 3) := by decide +kernel
theorem dX6_tableTold_16 : decode cX6_tableTold 16 = .ok (.aload_n 0, 1) := by decide +kernel
theorem dX6_tableTold_17 : decode cX6_tableTold 17 = .ok (.getfield 79, 3) := by decide +kernel
theorem dX6_tableTold_20 : decode cX6_tableTold 20 = .ok (.if_icmp .ge 21, 3) := by decide +kernel
theorem dX6_tableTold_23 : decode cX6_tableTold 23 = .ok (.aload_n 0, 1) := by decide +kernel
theorem dX6_tableTold_24 : decode cX6_tableTold 24 = .ok (.getfield 37, 3) := by decide +kernel
theorem dX6_tableTold_27 : decode cX6_tableTold 27 = .ok (.aload_n 0, 1) := by decide +kernel
theorem dX6_tableTold_28 : decode cX6_tableTold 28 = .ok (.getfield 166, 3) := by decide +kernel
theorem dX6_tableTold_31 : decode cX6_tableTold 31 = .ok (.iaload, 1) := by decide +kernel
theorem dX6_tableTold_32 : decode cX6_tableTold 32 = .ok (.iconst 5, 1) := by decide +kernel
theorem dX6_tableTold_33 : decode cX6_tableTold 33 = .ok (.if_icmp .eq 8, 3) := by decide +kernel
theorem dX6_tableTold_36 : decode cX6_tableTold 36 = .ok (.aload_n 0, 1) := by decide +kernel
theorem dX6_tableTold_37 : decode cX6_tableTold 37 = .ok (.invokevirtual 192, 3) := by decide +kernel
theorem dX6_tableTold_40 : decode cX6_tableTold 40 = .ok (.ireturn, 1) := by decide +kernel
theorem dX6_tableTold_41 : decode cX6_tableTold 41 = .ok (.aload_n 0, 1) := by decide +kernel
theorem dX6_tableTold_42 : decode cX6_tableTold 42 = .ok (.iconst 0, 1) := by decide +kernel
theorem dX6_tableTold_43 : decode cX6_tableTold 43 = .ok (.iconst 0, 1) := by decide +kernel
theorem dX6_tableTold_44 : decode cX6_tableTold 44 = .ok (.aload_n 0, 1) := by decide +kernel
theorem dX6_tableTold_45 : decode cX6_tableTold 45 = .ok (.getfield 79, 3) := by decide +kernel
theorem dX6_tableTold_48 : decode cX6_tableTold 48 = .ok (.iconst 1, 1) := by decide +kernel
theorem dX6_tableTold_49 : decode cX6_tableTold 49 = .ok (.isub, 1) := by decide +kernel
theorem dX6_tableTold_50 : decode cX6_tableTold 50 = .ok (.invokevirtual 199, 3) := by decide +kernel
theorem dX6_tableTold_53 : decode cX6_tableTold 53 = .ok (.ifCond .ne 5, 3) := by decide +kernel
theorem dX6_tableTold_56 : decode cX6_tableTold 56 = .ok (.iconst 0, 1) := by decide +kernel
theorem dX6_tableTold_57 : decode cX6_tableTold 57 = .ok (.ireturn, 1) := by decide +kernel
theorem dX6_tableTold_58 : decode cX6_tableTold 58 = .ok (.aload_n 0, 1) := by decide +kernel
theorem dX6_tableTold_59 : decode cX6_tableTold 59 = .ok (.getfield 64, 3) := by decide +kernel
theorem dX6_tableTold_62 : decode cX6_tableTold 62 = .ok (.iconst 0, 1) := by decide +kernel
theorem dX6_tableTold_63 : decode cX6_tableTold 63 = .ok (.iaload, 1) := by decide +kernel
theorem dX6_tableTold_64 : decode cX6_tableTold 64 = .ok (.istore_n 1, 1) := by decide +kernel
theorem dX6_tableTold_65 : decode cX6_tableTold 65 = .ok (.aload_n 0, 1) := by decide +kernel
theorem dX6_tableTold_66 : decode cX6_tableTold 66 = .ok (.iconst 1, 1) := by decide +kernel
theorem dX6_tableTold_67 : decode cX6_tableTold 67 = .ok (.iconst 0, 1) := by decide +kernel
theorem dX6_tableTold_68 : decode cX6_tableTold 68 = .ok (.aload_n 0, 1) := by decide +kernel
theorem dX6_tableTold_69 : decode cX6_tableTold 69 = .ok (.getfield 40, 3) := by decide +kernel
theorem dX6_tableTold_72 : decode cX6_tableTold 72 = .ok (.iload_n 1, 1) := by decide +kernel
theorem dX6_tableTold_73 : decode cX6_tableTold 73 = .ok (.iaload, 1) := by decide +kernel
theorem dX6_tableTold_74 : decode cX6_tableTold 74 = .ok (.iconst 1, 1) := by decide +kernel
theorem dX6_tableTold_75 : decode cX6_tableTold 75 = .ok (.isub, 1) := by decide +kernel
theorem dX6_tableTold_76 : decode cX6_tableTold 76 = .ok (.invokevirtual 199, 3) := by decide +kernel
theorem dX6_tableTold_79 : decode cX6_tableTold 79 = .ok (.ifCond .eq 31, 3) := by decide +kernel
theorem dX6_tableTold_82 : decode cX6_tableTold 82 = .ok (.aload_n 0, 1) := by decide +kernel
theorem dX6_tableTold_83 : decode cX6_tableTold 83 = .ok (.iconst 2, 1) := by decide +kernel
theorem dX6_tableTold_84 : decode cX6_tableTold 84 = .ok (.iconst 0, 1) := by decide +kernel
theorem dX6_tableTold_85 : decode cX6_tableTold 85 = .ok (.aload_n 0, 1) := by decide +kernel
theorem dX6_tableTold_86 : decode cX6_tableTold 86 = .ok (.iload_n 1, 1) := by decide +kernel
theorem dX6_tableTold_87 : decode cX6_tableTold 87 = .ok (.invokevirtual 86, 3) := by decide +kernel
theorem dX6_tableTold_90 : decode cX6_tableTold 90 = .ok (.invokevirtual 199, 3) := by decide +kernel
theorem dX6_tableTold_93 : decode cX6_tableTold 93 = .ok (.ifCond .eq 17, 3) := by decide +kernel
theorem dX6_tableTold_96 : decode cX6_tableTold 96 = .ok (.aload_n 0, 1) := by decide +kernel
theorem dX6_tableTold_97 : decode cX6_tableTold 97 = .ok (.iconst 3, 1) := by decide +kernel
theorem dX6_tableTold_98 : decode cX6_tableTold 98 = .ok (.iconst 0, 1) := by decide +kernel
theorem dX6_tableTold_99 : decode cX6_tableTold 99 = .ok (.aload_n 0, 1) := by decide +kernel
theorem dX6_tableTold_100 : decode cX6_tableTold 100 = .ok (.iload_n 1, 1) := by decide +kernel
theorem dX6_tableTold_101 : decode cX6_tableTold 101 = .ok (.invokevirtual 86, 3) := by decide +kernel
theorem dX6_tableTold_104 : decode cX6_tableTold 104 = .ok (.invokevirtual 199, 3) := by decide +kernel
theorem dX6_tableTold_107 : decode cX6_tableTold 107 = .ok (.ifCond .ne 5, 3) := by decide +kernel
theorem dX6_tableTold_110 : decode cX6_tableTold 110 = .ok (.iconst 0, 1) := by decide +kernel
theorem dX6_tableTold_111 : decode cX6_tableTold 111 = .ok (.ireturn, 1) := by decide +kernel
theorem dX6_tableTold_112 : decode cX6_tableTold 112 = .ok (.aload_n 0, 1) := by decide +kernel
theorem dX6_tableTold_113 : decode cX6_tableTold 113 = .ok (.getfield 51, 3) := by decide +kernel
theorem dX6_tableTold_116 : decode cX6_tableTold 116 = .ok (.iload_n 1, 1) := by decide +kernel
theorem dX6_tableTold_117 : decode cX6_tableTold 117 = .ok (.aaload, 1) := by decide +kernel
theorem dX6_tableTold_118 : decode cX6_tableTold 118 = .ok (.aload_n 0, 1) := by decide +kernel
theorem dX6_tableTold_119 : decode cX6_tableTold 119 = .ok (.getfield 64, 3) := by decide +kernel
theorem dX6_tableTold_122 : decode cX6_tableTold 122 = .ok (.iconst 1, 1) := by decide +kernel
theorem dX6_tableTold_123 : decode cX6_tableTold 123 = .ok (.iaload, 1) := by decide +kernel
theorem dX6_tableTold_124 : decode cX6_tableTold 124 = .ok (.aload_n 0, 1) := by decide +kernel
theorem dX6_tableTold_125 : decode cX6_tableTold 125 = .ok (.getfield 64, 3) := by decide +kernel
theorem dX6_tableTold_128 : decode cX6_tableTold 128 = .ok (.iconst 2, 1) := by decide +kernel
theorem dX6_tableTold_129 : decode cX6_tableTold 129 = .ok (.iaload, 1) := by decide +kernel
theorem dX6_tableTold_130 : decode cX6_tableTold 130 = .ok (.iastore, 1) := by decide +kernel
theorem dX6_tableTold_131 : decode cX6_tableTold 131 = .ok (.aload_n 0, 1) := by decide +kernel
theorem dX6_tableTold_132 : decode cX6_tableTold 132 = .ok (.getfield 54, 3) := by decide +kernel
theorem dX6_tableTold_135 : decode cX6_tableTold 135 = .ok (.iload_n 1, 1) := by decide +kernel
theorem dX6_tableTold_136 : decode cX6_tableTold 136 = .ok (.aaload, 1) := by decide +kernel
theorem dX6_tableTold_137 : decode cX6_tableTold 137 = .ok (.aload_n 0, 1) := by decide +kernel
theorem dX6_tableTold_138 : decode cX6_tableTold 138 = .ok (.getfield 64, 3) := by decide +kernel
theorem dX6_tableTold_141 : decode cX6_tableTold 141 = .ok (.iconst 1, 1) := by decide +kernel
theorem dX6_tableTold_142 : decode cX6_tableTold 142 = .ok (.iaload, 1) := by decide +kernel
theorem dX6_tableTold_143 : decode cX6_tableTold 143 = .ok (.aload_n 0, 1) := by decide +kernel
theorem dX6_tableTold_144 : decode cX6_tableTold 144 = .ok (.getfield 64, 3) := by decide +kernel
theorem dX6_tableTold_147 : decode cX6_tableTold 147 = .ok (.iconst 3, 1) := by decide +kernel
theorem dX6_tableTold_148 : decode cX6_tableTold 148 = .ok (.iaload, 1) := by decide +kernel
theorem dX6_tableTold_149 : decode cX6_tableTold 149 = .ok (.iastore, 1) := by decide +kernel
theorem dX6_tableTold_150 : decode cX6_tableTold 150 = .ok (.iconst 1, 1) := by decide +kernel
theorem dX6_tableTold_151 : decode cX6_tableTold 151 = .ok (.ireturn, 1) := by decide +kernel
theorem dX6_moveTold_0 : decode cX6_moveTold 0 = .ok (.aload_n 0, 1) := by decide +kernel
theorem dX6_moveTold_1 : decode cX6_moveTold 1 = .ok (.iconst 0, 1) := by decide +kernel
theorem dX6_moveTold_2 : decode cX6_moveTold 2 = .ok (.aload_n 0, 1) := by decide +kernel
theorem dX6_moveTold_3 : decode cX6_moveTold 3 = .ok (.getfield 79, 3) := by decide +kernel
theorem dX6_moveTold_6 : decode cX6_moveTold 6 = .ok (.iconst 1, 1) := by decide +kernel
theorem dX6_moveTold_7 : decode cX6_moveTold 7 = .ok (.isub, 1) := by decide +kernel
theorem dX6_moveTold_8 : decode cX6_moveTold 8 = .ok (.invokevirtual 202, 3) := by decide +kernel
theorem dX6_moveTold_11 : decode cX6_moveTold 11 = .ok (.ifCond .ne 5, 3) := by decide +kernel
theorem dX6_moveTold_14 : decode cX6_moveTold 14 = .ok (.iconst 0, 1) := by decide +kernel
theorem dX6_moveTold_15 : decode cX6_moveTold 15 = .ok (.ireturn, 1) := by decide +kernel
theorem dX6_moveTold_16 : decode cX6_moveTold 16 = .ok (.aload_n 0, 1) := by decide +kernel
theorem dX6_moveTold_17 : decode cX6_moveTold 17 = .ok (.getfield 64, 3) := by decide +kernel
theorem dX6_moveTold_20 : decode cX6_moveTold 20 = .ok (.iconst 0, 1) := by decide +kernel
theorem dX6_moveTold_21 : decode cX6_moveTold 21 = .ok (.iaload, 1) := by decide +kernel
theorem dX6_moveTold_22 : decode cX6_moveTold 22 = .ok (.istore_n 1, 1) := by decide +kernel
theorem dX6_moveTold_23 : decode cX6_moveTold 23 = .ok (.aload_n 0, 1) := by decide +kernel
theorem dX6_moveTold_24 : decode cX6_moveTold 24 = .ok (.getfield 169, 3) := by decide +kernel
theorem dX6_moveTold_27 : decode cX6_moveTold 27 = .ok (.iconst 2, 1) := by decide +kernel
theorem dX6_moveTold_28 : decode cX6_moveTold 28 = .ok (.if_icmp .ne 36, 3) := by decide +kernel
theorem dX6_moveTold_31 : decode cX6_moveTold 31 = .ok (.aload_n 0, 1) := by decide +kernel
theorem dX6_moveTold_32 : decode cX6_moveTold 32 = .ok (.getfield 166, 3) := by decide +kernel
theorem dX6_moveTold_35 : decode cX6_moveTold 35 = .ok (.i2l, 1) := by decide +kernel
theorem dX6_moveTold_36 : decode cX6_moveTold 36 = .ok (.lconst 0, 1) := by decide +kernel
theorem dX6_moveTold_37 : decode cX6_moveTold 37 = .ok (.ldc2_w 210, 3) := by decide +kernel
theorem dX6_moveTold_40 : decode cX6_moveTold 40 = .ok (.invokestatic 82, 3) := by decide +kernel
theorem dX6_moveTold_43 : decode cX6_moveTold 43 = .ok (.ifCond .eq 21, 3) := by decide +kernel
theorem dX6_moveTold_46 : decode cX6_moveTold 46 = .ok (.aload_n 0, 1) := by decide +kernel
theorem dX6_moveTold_47 : decode cX6_moveTold 47 = .ok (.iload_n 1, 1) := by decide +kernel
theorem dX6_moveTold_48 : decode cX6_moveTold 48 = .ok (.aload_n 0, 1) := by decide +kernel
theorem dX6_moveTold_49 : decode cX6_moveTold 49 = .ok (.getfield 43, 3) := by decide +kernel
theorem dX6_moveTold_52 : decode cX6_moveTold 52 = .ok (.iload_n 1, 1) := by decide +kernel
theorem dX6_moveTold_53 : decode cX6_moveTold 53 = .ok (.iaload, 1) := by decide +kernel
theorem dX6_moveTold_54 : decode cX6_moveTold 54 = .ok (.aload_n 0, 1) := by decide +kernel
theorem dX6_moveTold_55 : decode cX6_moveTold 55 = .ok (.getfield 166, 3) := by decide +kernel
theorem dX6_moveTold_58 : decode cX6_moveTold 58 = .ok (.invokevirtual 131, 3) := by decide +kernel
theorem dX6_moveTold_61 : decode cX6_moveTold 61 = .ok (.ifCond .ne 8, 3) := by decide +kernel
theorem dX6_moveTold_64 : decode cX6_moveTold 64 = .ok (.aload_n 0, 1) := by decide +kernel
theorem dX6_moveTold_65 : decode cX6_moveTold 65 = .ok (.invokevirtual 192, 3) := by decide +kernel
theorem dX6_moveTold_68 : decode cX6_moveTold 68 = .ok (.ireturn, 1) := by decide +kernel
theorem dX6_moveTold_69 : decode cX6_moveTold 69 = .ok (.aload_n 0, 1) := by decide +kernel
theorem dX6_moveTold_70 : decode cX6_moveTold 70 = .ok (.getfield 43, 3) := by decide +kernel
theorem dX6_moveTold_73 : decode cX6_moveTold 73 = .ok (.iload_n 1, 1) := by decide +kernel
theorem dX6_moveTold_74 : decode cX6_moveTold 74 = .ok (.dup2, 1) := by decide +kernel
theorem dX6_moveTold_75 : decode cX6_moveTold 75 = .ok (.iaload, 1) := by decide +kernel
theorem dX6_moveTold_76 : decode cX6_moveTold 76 = .ok (.aload_n 0, 1) := by decide +kernel
theorem dX6_moveTold_77 : decode cX6_moveTold 77 = .ok (.getfield 166, 3) := by decide +kernel
theorem dX6_moveTold_80 : decode cX6_moveTold 80 = .ok (.invokestatic 212, 3) := by decide +kernel
theorem dX6_moveTold_83 : decode cX6_moveTold 83 = .ok (.ixor, 1) := by decide +kernel
theorem dX6_moveTold_84 : decode cX6_moveTold 84 = .ok (.iastore, 1) := by decide +kernel
theorem dX6_moveTold_85 : decode cX6_moveTold 85 = .ok (.aload_n 0, 1) := by decide +kernel
theorem dX6_moveTold_86 : decode cX6_moveTold 86 = .ok (.dup, 1) := by decide +kernel
theorem dX6_moveTold_87 : decode cX6_moveTold 87 = .ok (.getfield 215, 3) := by decide +kernel
theorem dX6_moveTold_90 : decode cX6_moveTold 90 = .ok (.iconst 1, 1) := by decide +kernel
theorem dX6_moveTold_91 : decode cX6_moveTold 91 = .ok (.iadd, 1) := by decide +kernel
theorem dX6_moveTold_92 : decode cX6_moveTold 92 = .ok (.putfield 215, 3) := by decide +kernel
theorem dX6_moveTold_95 : decode cX6_moveTold 95 = .ok (.aload_n 0, 1) := by decide +kernel
theorem dX6_moveTold_96 : decode cX6_moveTold 96 = .ok (.invokevirtual 196, 3) := by decide +kernel
theorem dX6_moveTold_99 : decode cX6_moveTold 99 = .ok (.iconst 1, 1) := by decide +kernel
theorem dX6_moveTold_100 : decode cX6_moveTold 100 = .ok (.ireturn, 1) := by decide +kernel
theorem dX6_statement_0 : decode cX6_statement 0 = .ok (.aload_n 0, 1) := by decide +kernel
theorem dX6_statement_1 : decode cX6_statement 1 = .ok (.ldc 218, 2) := by decide +kernel
theorem dX6_statement_3 : decode cX6_statement 3 = .ok (.invokevirtual 206, 3) := by decide +kernel
theorem dX6_statement_6 : decode cX6_statement 6 = .ok (.ifCond .eq 16, 3) := by decide +kernel
theorem dX6_statement_9 : decode cX6_statement 9 = .ok (.aload_n 0, 1) := by decide +kernel
theorem dX6_statement_10 : decode cX6_statement 10 = .ok (.getfield 79, 3) := by decide +kernel
theorem dX6_statement_13 : decode cX6_statement 13 = .ok (.iconst 4, 1) := by decide +kernel
theorem dX6_statement_14 : decode cX6_statement 14 = .ok (.if_icmp .ge 8, 3) := by decide +kernel
theorem dX6_statement_17 : decode cX6_statement 17 = .ok (.aload_n 0, 1) := by decide +kernel
theorem dX6_statement_18 : decode cX6_statement 18 = .ok (.invokevirtual 220, 3) := by decide +kernel
theorem dX6_statement_21 : decode cX6_statement 21 = .ok (.ireturn, 1) := by decide +kernel
theorem dX6_statement_22 : decode cX6_statement 22 = .ok (.aload_n 0, 1) := by decide +kernel
theorem dX6_statement_23 : decode cX6_statement 23 = .ok (.ldc 223, 2) := by decide +kernel
theorem dX6_statement_25 : decode cX6_statement 25 = .ok (.invokevirtual 206, 3) := by decide +kernel
theorem dX6_statement_28 : decode cX6_statement 28 = .ok (.ifCond .eq 57, 3) := by decide +kernel
theorem dX6_statement_31 : decode cX6_statement 31 = .ok (.aload_n 0, 1) := by decide +kernel
theorem dX6_statement_32 : decode cX6_statement 32 = .ok (.iconst 0, 1) := by decide +kernel
theorem dX6_statement_33 : decode cX6_statement 33 = .ok (.aload_n 0, 1) := by decide +kernel
theorem dX6_statement_34 : decode cX6_statement 34 = .ok (.getfield 79, 3) := by decide +kernel
theorem dX6_statement_37 : decode cX6_statement 37 = .ok (.iconst 1, 1) := by decide +kernel
theorem dX6_statement_38 : decode cX6_statement 38 = .ok (.isub, 1) := by decide +kernel
theorem dX6_statement_39 : decode cX6_statement 39 = .ok (.invokevirtual 202, 3) := by decide +kernel
theorem dX6_statement_42 : decode cX6_statement 42 = .ok (.ifCond .eq 22, 3) := by decide +kernel
theorem dX6_statement_45 : decode cX6_statement 45 = .ok (.aload_n 0, 1) := by decide +kernel
theorem dX6_statement_46 : decode cX6_statement 46 = .ok (.iconst 1, 1) := by decide +kernel
theorem dX6_statement_47 : decode cX6_statement 47 = .ok (.iconst 0, 1) := by decide +kernel
theorem dX6_statement_48 : decode cX6_statement 48 = .ok (.aload_n 0, 1) := by decide +kernel
theorem dX6_statement_49 : decode cX6_statement 49 = .ok (.aload_n 0, 1) := by decide +kernel
theorem dX6_statement_50 : decode cX6_statement 50 = .ok (.getfield 64, 3) := by decide +kernel
theorem dX6_statement_53 : decode cX6_statement 53 = .ok (.iconst 0, 1) := by decide +kernel
theorem dX6_statement_54 : decode cX6_statement 54 = .ok (.iaload, 1) := by decide +kernel
theorem dX6_statement_55 : decode cX6_statement 55 = .ok (.invokevirtual 86, 3) := by decide +kernel
theorem dX6_statement_58 : decode cX6_statement 58 = .ok (.invokevirtual 199, 3) := by decide +kernel
theorem dX6_statement_61 : decode cX6_statement 61 = .ok (.ifCond .ne 5, 3) := by decide +kernel
theorem dX6_statement_64 : decode cX6_statement 64 = .ok (.iconst 0, 1) := by decide +kernel
theorem dX6_statement_65 : decode cX6_statement 65 = .ok (.ireturn, 1) := by decide +kernel
theorem dX6_statement_66 : decode cX6_statement 66 = .ok (.aload_n 0, 1) := by decide +kernel
theorem dX6_statement_67 : decode cX6_statement 67 = .ok (.getfield 46, 3) := by decide +kernel
theorem dX6_statement_70 : decode cX6_statement 70 = .ok (.aload_n 0, 1) := by decide +kernel
theorem dX6_statement_71 : decode cX6_statement 71 = .ok (.getfield 64, 3) := by decide +kernel
theorem dX6_statement_74 : decode cX6_statement 74 = .ok (.iconst 0, 1) := by decide +kernel
theorem dX6_statement_75 : decode cX6_statement 75 = .ok (.iaload, 1) := by decide +kernel
theorem dX6_statement_76 : decode cX6_statement 76 = .ok (.aload_n 0, 1) := by decide +kernel
theorem dX6_statement_77 : decode cX6_statement 77 = .ok (.getfield 64, 3) := by decide +kernel
theorem dX6_statement_80 : decode cX6_statement 80 = .ok (.iconst 1, 1) := by decide +kernel
theorem dX6_statement_81 : decode cX6_statement 81 = .ok (.iaload, 1) := by decide +kernel
theorem dX6_statement_82 : decode cX6_statement 82 = .ok (.iastore, 1) := by decide +kernel
theorem dX6_statement_83 : decode cX6_statement 83 = .ok (.iconst 1, 1) := by decide +kernel
theorem dX6_statement_84 : decode cX6_statement 84 = .ok (.ireturn, 1) := by decide +kernel
theorem dX6_statement_85 : decode cX6_statement 85 = .ok (.aload_n 0, 1) := by decide +kernel
theorem dX6_statement_86 : decode cX6_statement 86 = .ok (.ldc 224, 2) := by decide +kernel
theorem dX6_statement_88 : decode cX6_statement 88 = .ok (.invokevirtual 206, 3) := by decide +kernel
theorem dX6_statement_91 : decode cX6_statement 91 = .ok (.ifCond .eq 8, 3) := by decide +kernel
theorem dX6_statement_94 : decode cX6_statement 94 = .ok (.aload_n 0, 1) := by decide +kernel
theorem dX6_statement_95 : decode cX6_statement 95 = .ok (.invokevirtual 226, 3) := by decide +kernel
theorem dX6_statement_98 : decode cX6_statement 98 = .ok (.ireturn, 1) := by decide +kernel
theorem dX6_statement_99 : decode cX6_statement 99 = .ok (.aload_n 0, 1) := by decide +kernel
theorem dX6_statement_100 : decode cX6_statement 100 = .ok (.ldc 229, 2) := by decide +kernel
theorem dX6_statement_102 : decode cX6_statement 102 = .ok (.invokevirtual 206, 3) := by decide +kernel
theorem dX6_statement_105 : decode cX6_statement 105 = .ok (.ifCond .eq 45, 3) := by decide +kernel
theorem dX6_statement_108 : decode cX6_statement 108 = .ok (.aload_n 0, 1) := by decide +kernel
theorem dX6_statement_109 : decode cX6_statement 109 = .ok (.iconst 0, 1) := by decide +kernel
theorem dX6_statement_110 : decode cX6_statement 110 = .ok (.bipush 9, 2) := by decide +kernel
theorem dX6_statement_112 : decode cX6_statement 112 = .ok (.invokevirtual 202, 3) := by decide +kernel
theorem dX6_statement_115 : decode cX6_statement 115 = .ok (.ifCond .eq 14, 3) := by decide +kernel
theorem dX6_statement_118 : decode cX6_statement 118 = .ok (.aload_n 0, 1) := by decide +kernel
theorem dX6_statement_119 : decode cX6_statement 119 = .ok (.iconst 1, 1) := by decide +kernel
theorem dX6_statement_120 : decode cX6_statement 120 = .ok (.iconst 0, 1) := by decide +kernel
theorem dX6_statement_121 : decode cX6_statement 121 = .ok (.bipush 99, 2) := by decide +kernel
theorem dX6_statement_123 : decode cX6_statement 123 = .ok (.invokevirtual 199, 3) := by decide +kernel
theorem dX6_statement_126 : decode cX6_statement 126 = .ok (.ifCond .ne 5, 3) := by decide +kernel
theorem dX6_statement_129 : decode cX6_statement 129 = .ok (.iconst 0, 1) := by decide +kernel
theorem dX6_statement_130 : decode cX6_statement 130 = .ok (.ireturn, 1) := by decide +kernel
theorem dX6_statement_131 : decode cX6_statement 131 = .ok (.aload_n 0, 1) := by decide +kernel
theorem dX6_statement_132 : decode cX6_statement 132 = .ok (.getfield 57, 3) := by decide +kernel
theorem dX6_statement_135 : decode cX6_statement 135 = .ok (.aload_n 0, 1) := by decide +kernel
theorem dX6_statement_136 : decode cX6_statement 136 = .ok (.getfield 64, 3) := by decide +kernel
theorem dX6_statement_139 : decode cX6_statement 139 = .ok (.iconst 0, 1) := by decide +kernel
theorem dX6_statement_140 : decode cX6_statement 140 = .ok (.iaload, 1) := by decide +kernel
theorem dX6_statement_141 : decode cX6_statement 141 = .ok (.aload_n 0, 1) := by decide +kernel
theorem dX6_statement_142 : decode cX6_statement 142 = .ok (.getfield 64, 3) := by decide +kernel
theorem dX6_statement_145 : decode cX6_statement 145 = .ok (.iconst 1, 1) := by decide +kernel
theorem dX6_statement_146 : decode cX6_statement 146 = .ok (.iaload, 1) := by decide +kernel
theorem dX6_statement_147 : decode cX6_statement 147 = .ok (.iastore, 1) := by decide +kernel
theorem dX6_statement_148 : decode cX6_statement 148 = .ok (.iconst 1, 1) := by decide +kernel
theorem dX6_statement_149 : decode cX6_statement 149 = .ok (.ireturn, 1) := by decide +kernel
theorem dX6_statement_150 : decode cX6_statement 150 = .ok (.aload_n 0, 1) := by decide +kernel
theorem dX6_statement_151 : decode cX6_statement 151 = .ok (.ldc 230, 2) := by decide +kernel
theorem dX6_statement_153 : decode cX6_statement 153 = .ok (.invokevirtual 206, 3) := by decide +kernel
theorem dX6_statement_156 : decode cX6_statement 156 = .ok (.ifCond .eq 10, 3) := by decide +kernel
theorem dX6_statement_159 : decode cX6_statement 159 = .ok (.aload_n 0, 1) := by decide +kernel
theorem dX6_statement_160 : decode cX6_statement 160 = .ok (.invokevirtual 232, 3) := by decide +kernel
theorem dX6_statement_163 : decode cX6_statement 163 = .ok (.goto 7, 3) := by decide +kernel
theorem dX6_statement_166 : decode cX6_statement 166 = .ok (.aload_n 0, 1) := by decide +kernel
theorem dX6_statement_167 : decode cX6_statement 167 = .ok (.invokevirtual 192, 3) := by decide +kernel
theorem dX6_statement_170 : decode cX6_statement 170 = .ok (.ireturn, 1) := by decide +kernel
theorem dX6_readAll_0 : decode cX6_readAll 0 = .ok (.aload_n 0, 1) := by decide +kernel
theorem dX6_readAll_1 : decode cX6_readAll 1 = .ok (.iconst 1, 1) := by decide +kernel
theorem dX6_readAll_2 : decode cX6_readAll 2 = .ok (.putfield 235, 3) := by decide +kernel
theorem dX6_readAll_5 : decode cX6_readAll 5 = .ok (.aload_n 0, 1) := by decide +kernel
theorem dX6_readAll_6 : decode cX6_readAll 6 = .ok (.iconst 0, 1) := by decide +kernel
theorem dX6_readAll_7 : decode cX6_readAll 7 = .ok (.putfield 160, 3) := by decide +kernel
theorem dX6_readAll_10 : decode cX6_readAll 10 = .ok (.aload_n 0, 1) := by decide +kernel
theorem dX6_readAll_11 : decode cX6_readAll 11 = .ok (.invokevirtual 196, 3) := by decide +kernel
theorem dX6_readAll_14 : decode cX6_readAll 14 = .ok (.aload_n 0, 1) := by decide +kernel
theorem dX6_readAll_15 : decode cX6_readAll 15 = .ok (.invokevirtual 238, 3) := by decide +kernel
theorem dX6_readAll_18 : decode cX6_readAll 18 = .ok (.ifCond .ne 5, 3) := by decide +kernel
theorem dX6_readAll_21 : decode cX6_readAll 21 = .ok (.iconst 0, 1) := by decide +kernel
theorem dX6_readAll_22 : decode cX6_readAll 22 = .ok (.ireturn, 1) := by decide +kernel
theorem dX6_readAll_23 : decode cX6_readAll 23 = .ok (.aload_n 0, 1) := by decide +kernel
theorem dX6_readAll_24 : decode cX6_readAll 24 = .ok (.getfield 169, 3) := by decide +kernel
theorem dX6_readAll_27 : decode cX6_readAll 27 = .ok (.ifCond .eq 42, 3) := by decide +kernel
theorem dX6_readAll_30 : decode cX6_readAll 30 = .ok (.aload_n 0, 1) := by decide +kernel
theorem dX6_readAll_31 : decode cX6_readAll 31 = .ok (.getfield 169, 3) := by decide +kernel
theorem dX6_readAll_34 : decode cX6_readAll 34 = .ok (.iconst 3, 1) := by decide +kernel
theorem dX6_readAll_35 : decode cX6_readAll 35 = .ok (.if_icmp .eq 8, 3) := by decide +kernel
theorem dX6_readAll_38 : decode cX6_readAll 38 = .ok (.aload_n 0, 1) := by decide +kernel
theorem dX6_readAll_39 : decode cX6_readAll 39 = .ok (.invokevirtual 192, 3) := by decide +kernel
theorem dX6_readAll_42 : decode cX6_readAll 42 = .ok (.ireturn, 1) := by decide +kernel
theorem dX6_readAll_43 : decode cX6_readAll 43 = .ok (.aload_n 0, 1) := by decide +kernel
theorem dX6_readAll_44 : decode cX6_readAll 44 = .ok (.invokevirtual 196, 3) := by decide +kernel
theorem dX6_readAll_47 : decode cX6_readAll 47 = .ok (.aload_n 0, 1) := by decide +kernel
theorem dX6_readAll_48 : decode cX6_readAll 48 = .ok (.invokevirtual 238, 3) := by decide +kernel
theorem dX6_readAll_51 : decode cX6_readAll 51 = .ok (.ifCond .ne 5, 3) := by decide +kernel
theorem dX6_readAll_54 : decode cX6_readAll 54 = .ok (.iconst 0, 1) := by decide +kernel
theorem dX6_readAll_55 : decode cX6_readAll 55 = .ok (.ireturn, 1) := by decide +kernel
theorem dX6_readAll_56 : decode cX6_readAll 56 = .ok (.aload_n 0, 1) := by decide +kernel
theorem dX6_readAll_57 : decode cX6_readAll 57 = .ok (.dup, 1) := by decide +kernel
theorem dX6_readAll_58 : decode cX6_readAll 58 = .ok (.getfield 235, 3) := by decide +kernel
theorem dX6_readAll_61 : decode cX6_readAll 61 = .ok (.iconst 1, 1) := by decide +kernel
theorem dX6_readAll_62 : decode cX6_readAll 62 = .ok (.iadd, 1) := by decide +kernel
theorem dX6_readAll_63 : decode cX6_readAll 63 = .ok (.putfield 235, 3) := by decide +kernel
theorem dX6_readAll_66 : decode cX6_readAll 66 = .ok (.goto (-43), 3) := by decide +kernel
theorem dX6_readAll_69 : decode cX6_readAll 69 = .ok (.iconst 1, 1) := by decide +kernel
theorem dX6_readAll_70 : decode cX6_readAll 70 = .ok (.ireturn, 1) := by decide +kernel
theorem dX6_bars_0 : decode cX6_bars 0 = .ok (.aload_n 0, 1) := by decide +kernel
theorem dX6_bars_1 : decode cX6_bars 1 = .ok (.getfield 241, 3) := by decide +kernel
theorem dX6_bars_4 : decode cX6_bars 4 = .ok (.ifnonnull 14, 3) := by decide +kernel
theorem dX6_bars_7 : decode cX6_bars 7 = .ok (.aload_n 0, 1) := by decide +kernel
theorem dX6_bars_8 : decode cX6_bars 8 = .ok (.new 8, 3) := by decide +kernel
theorem dX6_bars_11 : decode cX6_bars 11 = .ok (.dup, 1) := by decide +kernel
theorem dX6_bars_12 : decode cX6_bars 12 = .ok (.invokespecial 245, 3) := by decide +kernel
theorem dX6_bars_15 : decode cX6_bars 15 = .ok (.putfield 241, 3) := by decide +kernel
theorem dX6_bars_18 : decode cX6_bars 18 = .ok (.aload_n 0, 1) := by decide +kernel
theorem dX6_bars_19 : decode cX6_bars 19 = .ok (.getfield 241, 3) := by decide +kernel
theorem dX6_bars_22 : decode cX6_bars 22 = .ok (.aload_n 0, 1) := by decide +kernel
theorem dX6_bars_23 : decode cX6_bars 23 = .ok (.invokevirtual 246, 3) := by decide +kernel
theorem dX6_bars_26 : decode cX6_bars 26 = .ok (.aload_n 0, 1) := by decide +kernel
theorem dX6_bars_27 : decode cX6_bars 27 = .ok (.invokevirtual 250, 3) := by decide +kernel
theorem dX6_bars_30 : decode cX6_bars 30 = .ok (.istore_n 1, 1) := by decide +kernel
theorem dX6_bars_31 : decode cX6_bars 31 = .ok (.aload_n 0, 1) := by decide +kernel
theorem dX6_bars_32 : decode cX6_bars 32 = .ok (.iconst 0, 1) := by decide +kernel
theorem dX6_bars_33 : decode cX6_bars 33 = .ok (.putfield 157, 3) := by decide +kernel
theorem dX6_bars_36 : decode cX6_bars 36 = .ok (.iload_n 1, 1) := by decide +kernel
theorem dX6_bars_37 : decode cX6_bars 37 = .ok (.ifCond .ne 26, 3) := by decide +kernel
theorem dX6_bars_40 : decode cX6_bars 40 = .ok (.aload_n 0, 1) := by decide +kernel
theorem dX6_bars_41 : decode cX6_bars 41 = .ok (.aload_n 0, 1) := by decide +kernel
theorem dX6_bars_42 : decode cX6_bars 42 = .ok (.getfield 241, 3) := by decide +kernel
theorem dX6_bars_45 : decode cX6_bars 45 = .ok (.invokevirtual 246, 3) := by decide +kernel
theorem dX6_bars_48 : decode cX6_bars 48 = .ok (.aload_n 0, 1) := by decide +kernel
theorem dX6_bars_49 : decode cX6_bars 49 = .ok (.bipush (-2), 2) := by decide +kernel
theorem dX6_bars_51 : decode cX6_bars 51 = .ok (.invokevirtual 96, 3) := by decide +kernel
theorem dX6_bars_54 : decode cX6_bars 54 = .ok (.pop, 1) := by decide +kernel
theorem dX6_bars_55 : decode cX6_bars 55 = .ok (.bipush (-20), 2) := by decide +kernel
theorem dX6_bars_57 : decode cX6_bars 57 = .ok (.aload_n 0, 1) := by decide +kernel
theorem dX6_bars_58 : decode cX6_bars 58 = .ok (.getfield 179, 3) := by decide +kernel
theorem dX6_bars_61 : decode cX6_bars 61 = .ok (.isub, 1) := by decide +kernel
theorem dX6_bars_62 : decode cX6_bars 62 = .ok (.ireturn, 1) := by decide +kernel
theorem dX6_bars_63 : decode cX6_bars 63 = .ok (.aload_n 0, 1) := by decide +kernel
theorem dX6_bars_64 : decode cX6_bars 64 = .ok (.getfield 235, 3) := by decide +kernel
theorem dX6_bars_67 : decode cX6_bars 67 = .ok (.ireturn, 1) := by decide +kernel
theorem dX6_barOf_0 : decode cX6_barOf 0 = .ok (.aload_n 0, 1) := by decide +kernel
theorem dX6_barOf_1 : decode cX6_barOf 1 = .ok (.iload_n 1, 1) := by decide +kernel
theorem dX6_barOf_2 : decode cX6_barOf 2 = .ok (.invokevirtual 106, 3) := by decide +kernel
theorem dX6_barOf_5 : decode cX6_barOf 5 = .ok (.ifCond .ne 10, 3) := by decide +kernel
theorem dX6_barOf_8 : decode cX6_barOf 8 = .ok (.aload_n 0, 1) := by decide +kernel
theorem dX6_barOf_9 : decode cX6_barOf 9 = .ok (.bipush (-2), 2) := by decide +kernel
theorem dX6_barOf_11 : decode cX6_barOf 11 = .ok (.invokevirtual 96, 3) := by decide +kernel
theorem dX6_barOf_14 : decode cX6_barOf 14 = .ok (.ireturn, 1) := by decide +kernel
theorem dX6_barOf_15 : decode cX6_barOf 15 = .ok (.aload_n 0, 1) := by decide +kernel
theorem dX6_barOf_16 : decode cX6_barOf 16 = .ok (.iload_n 1, 1) := by decide +kernel
theorem dX6_barOf_17 : decode cX6_barOf 17 = .ok (.iload_n 2, 1) := by decide +kernel
theorem dX6_barOf_18 : decode cX6_barOf 18 = .ok (.bipush 10, 2) := by decide +kernel
theorem dX6_barOf_20 : decode cX6_barOf 20 = .ok (.isub, 1) := by decide +kernel
theorem dX6_barOf_21 : decode cX6_barOf 21 = .ok (.invokevirtual 148, 3) := by decide +kernel
theorem dX6_barOf_24 : decode cX6_barOf 24 = .ok (.ifCond .eq 15, 3) := by decide +kernel
theorem dX6_barOf_27 : decode cX6_barOf 27 = .ok (.aload_n 0, 1) := by decide +kernel
theorem dX6_barOf_28 : decode cX6_barOf 28 = .ok (.getfield 51, 3) := by decide +kernel
theorem dX6_barOf_31 : decode cX6_barOf 31 = .ok (.iload_n 1, 1) := by decide +kernel
theorem dX6_barOf_32 : decode cX6_barOf 32 = .ok (.aaload, 1) := by decide +kernel
theorem dX6_barOf_33 : decode cX6_barOf 33 = .ok (.iload_n 2, 1) := by decide +kernel
theorem dX6_barOf_34 : decode cX6_barOf 34 = .ok (.bipush 10, 2) := by decide +kernel
theorem dX6_barOf_36 : decode cX6_barOf 36 = .ok (.isub, 1) := by decide +kernel
theorem dX6_barOf_37 : decode cX6_barOf 37 = .ok (.iaload, 1) := by decide +kernel
theorem dX6_barOf_38 : decode cX6_barOf 38 = .ok (.ireturn, 1) := by decide +kernel
theorem dX6_barOf_39 : decode cX6_barOf 39 = .ok (.aload_n 0, 1) := by decide +kernel
theorem dX6_barOf_40 : decode cX6_barOf 40 = .ok (.iload_n 1, 1) := by decide +kernel
theorem dX6_barOf_41 : decode cX6_barOf 41 = .ok (.iload_n 2, 1) := by decide +kernel
theorem dX6_barOf_42 : decode cX6_barOf 42 = .ok (.bipush 20, 2) := by decide +kernel
theorem dX6_barOf_44 : decode cX6_barOf 44 = .ok (.isub, 1) := by decide +kernel
theorem dX6_barOf_45 : decode cX6_barOf 45 = .ok (.invokevirtual 148, 3) := by decide +kernel
theorem dX6_barOf_48 : decode cX6_barOf 48 = .ok (.ifCond .eq 15, 3) := by decide +kernel
theorem dX6_barOf_51 : decode cX6_barOf 51 = .ok (.aload_n 0, 1) := by decide +kernel
theorem dX6_barOf_52 : decode cX6_barOf 52 = .ok (.getfield 54, 3) := by decide +kernel
theorem dX6_barOf_55 : decode cX6_barOf 55 = .ok (.iload_n 1, 1) := by decide +kernel
theorem dX6_barOf_56 : decode cX6_barOf 56 = .ok (.aaload, 1) := by decide +kernel
theorem dX6_barOf_57 : decode cX6_barOf 57 = .ok (.iload_n 2, 1) := by decide +kernel
theorem dX6_barOf_58 : decode cX6_barOf 58 = .ok (.bipush 20, 2) := by decide +kernel
theorem dX6_barOf_60 : decode cX6_barOf 60 = .ok (.isub, 1) := by decide +kernel
theorem dX6_barOf_61 : decode cX6_barOf 61 = .ok (.iaload, 1) := by decide +kernel
theorem dX6_barOf_62 : decode cX6_barOf 62 = .ok (.ireturn, 1) := by decide +kernel
theorem dX6_barOf_63 : decode cX6_barOf 63 = .ok (.iload_n 2, 1) := by decide +kernel
theorem dX6_barOf_64 : decode cX6_barOf 64 = .ok (.tableswitch 60 0 3 #[32, 39, 46, 53], 32) := by decide +kernel
theorem dX6_barOf_96 : decode cX6_barOf 96 = .ok (.aload_n 0, 1) := by decide +kernel
theorem dX6_barOf_97 : decode cX6_barOf 97 = .ok (.getfield 37, 3) := by decide +kernel
theorem dX6_barOf_100 : decode cX6_barOf 100 = .ok (.iload_n 1, 1) := by decide +kernel
theorem dX6_barOf_101 : decode cX6_barOf 101 = .ok (.iaload, 1) := by decide +kernel
theorem dX6_barOf_102 : decode cX6_barOf 102 = .ok (.ireturn, 1) := by decide +kernel
theorem dX6_barOf_103 : decode cX6_barOf 103 = .ok (.aload_n 0, 1) := by decide +kernel
theorem dX6_barOf_104 : decode cX6_barOf 104 = .ok (.getfield 40, 3) := by decide +kernel
theorem dX6_barOf_107 : decode cX6_barOf 107 = .ok (.iload_n 1, 1) := by decide +kernel
theorem dX6_barOf_108 : decode cX6_barOf 108 = .ok (.iaload, 1) := by decide +kernel
theorem dX6_barOf_109 : decode cX6_barOf 109 = .ok (.ireturn, 1) := by decide +kernel
theorem dX6_barOf_110 : decode cX6_barOf 110 = .ok (.aload_n 0, 1) := by decide +kernel
theorem dX6_barOf_111 : decode cX6_barOf 111 = .ok (.getfield 43, 3) := by decide +kernel
theorem dX6_barOf_114 : decode cX6_barOf 114 = .ok (.iload_n 1, 1) := by decide +kernel
theorem dX6_barOf_115 : decode cX6_barOf 115 = .ok (.iaload, 1) := by decide +kernel
theorem dX6_barOf_116 : decode cX6_barOf 116 = .ok (.ireturn, 1) := by decide +kernel
theorem dX6_barOf_117 : decode cX6_barOf 117 = .ok (.aload_n 0, 1) := by decide +kernel
theorem dX6_barOf_118 : decode cX6_barOf 118 = .ok (.getfield 46, 3) := by decide +kernel
theorem dX6_barOf_121 : decode cX6_barOf 121 = .ok (.iload_n 1, 1) := by decide +kernel
theorem dX6_barOf_122 : decode cX6_barOf 122 = .ok (.iaload, 1) := by decide +kernel
theorem dX6_barOf_123 : decode cX6_barOf 123 = .ok (.ireturn, 1) := by decide +kernel
theorem dX6_barOf_124 : decode cX6_barOf 124 = .ok (.aload_n 0, 1) := by decide +kernel
theorem dX6_barOf_125 : decode cX6_barOf 125 = .ok (.bipush (-2), 2) := by decide +kernel
theorem dX6_barOf_127 : decode cX6_barOf 127 = .ok (.invokevirtual 96, 3) := by decide +kernel
theorem dX6_barOf_130 : decode cX6_barOf 130 = .ok (.ireturn, 1) := by decide +kernel
theorem dX6_mask_0 : decode cX6_mask 0 = .ok (.iload_n 0, 1) := by decide +kernel
theorem dX6_mask_1 : decode cX6_mask 1 = .ok (.bipush 20, 2) := by decide +kernel
theorem dX6_mask_3 : decode cX6_mask 3 = .ok (.if_icmp .ne 7, 3) := by decide +kernel
theorem dX6_mask_6 : decode cX6_mask 6 = .ok (.iconst 3, 1) := by decide +kernel
theorem dX6_mask_7 : decode cX6_mask 7 = .ok (.goto 6, 3) := by decide +kernel
theorem dX6_mask_10 : decode cX6_mask 10 = .ok (.iconst 1, 1) := by decide +kernel
theorem dX6_mask_11 : decode cX6_mask 11 = .ok (.iload_n 0, 1) := by decide +kernel
theorem dX6_mask_12 : decode cX6_mask 12 = .ok (.ishl, 1) := by decide +kernel
theorem dX6_mask_13 : decode cX6_mask 13 = .ok (.ireturn, 1) := by decide +kernel
theorem dX6_turned_0 : decode cX6_turned 0 = .ok (.iconst 0, 1) := by decide +kernel
theorem dX6_turned_1 : decode cX6_turned 1 = .ok (.istore_n 2, 1) := by decide +kernel
theorem dX6_turned_2 : decode cX6_turned 2 = .ok (.iconst 0, 1) := by decide +kernel
theorem dX6_turned_3 : decode cX6_turned 3 = .ok (.istore_n 3, 1) := by decide +kernel
theorem dX6_turned_4 : decode cX6_turned 4 = .ok (.iload_n 3, 1) := by decide +kernel
theorem dX6_turned_5 : decode cX6_turned 5 = .ok (.iload_n 1, 1) := by decide +kernel
theorem dX6_turned_6 : decode cX6_turned 6 = .ok (.if_icmp .ge 23, 3) := by decide +kernel
theorem dX6_turned_9 : decode cX6_turned 9 = .ok (.iload_n 2, 1) := by decide +kernel
theorem dX6_turned_10 : decode cX6_turned 10 = .ok (.iload_n 0, 1) := by decide +kernel
theorem dX6_turned_11 : decode cX6_turned 11 = .ok (.iload_n 3, 1) := by decide +kernel
theorem dX6_turned_12 : decode cX6_turned 12 = .ok (.ishr, 1) := by decide +kernel
theorem dX6_turned_13 : decode cX6_turned 13 = .ok (.iconst 1, 1) := by decide +kernel
theorem dX6_turned_14 : decode cX6_turned 14 = .ok (.iand, 1) := by decide +kernel
theorem dX6_turned_15 : decode cX6_turned 15 = .ok (.iload_n 1, 1) := by decide +kernel
theorem dX6_turned_16 : decode cX6_turned 16 = .ok (.iconst 1, 1) := by decide +kernel
theorem dX6_turned_17 : decode cX6_turned 17 = .ok (.isub, 1) := by decide +kernel
theorem dX6_turned_18 : decode cX6_turned 18 = .ok (.iload_n 3, 1) := by decide +kernel
theorem dX6_turned_19 : decode cX6_turned 19 = .ok (.isub, 1) := by decide +kernel
theorem dX6_turned_20 : decode cX6_turned 20 = .ok (.ishl, 1) := by decide +kernel
theorem dX6_turned_21 : decode cX6_turned 21 = .ok (.ior, 1) := by decide +kernel
theorem dX6_turned_22 : decode cX6_turned 22 = .ok (.istore_n 2, 1) := by decide +kernel
theorem dX6_turned_23 : decode cX6_turned 23 = .ok (.iinc 3 1, 3) := by decide +kernel
theorem dX6_turned_26 : decode cX6_turned 26 = .ok (.goto (-22), 3) := by decide +kernel
theorem dX6_turned_29 : decode cX6_turned 29 = .ok (.iload_n 2, 1) := by decide +kernel
theorem dX6_turned_30 : decode cX6_turned 30 = .ok (.ireturn, 1) := by decide +kernel
theorem dX6_isChained_0 : decode cX6_isChained 0 = .ok (.iload_n 1, 1) := by decide +kernel
theorem dX6_isChained_1 : decode cX6_isChained 1 = .ok (.ifCond .eq 18, 3) := by decide +kernel
theorem dX6_isChained_4 : decode cX6_isChained 4 = .ok (.iload_n 0, 1) := by decide +kernel
theorem dX6_isChained_5 : decode cX6_isChained 5 = .ok (.iconst 1, 1) := by decide +kernel
theorem dX6_isChained_6 : decode cX6_isChained 6 = .ok (.iload_n 1, 1) := by decide +kernel
theorem dX6_isChained_7 : decode cX6_isChained 7 = .ok (.ishl, 1) := by decide +kernel
theorem dX6_isChained_8 : decode cX6_isChained 8 = .ok (.iconst 1, 1) := by decide +kernel
theorem dX6_isChained_9 : decode cX6_isChained 9 = .ok (.isub, 1) := by decide +kernel
theorem dX6_isChained_10 : decode cX6_isChained 10 = .ok (.iand, 1) := by decide +kernel
theorem dX6_isChained_11 : decode cX6_isChained 11 = .ok (.iconst 1, 1) := by decide +kernel
theorem dX6_isChained_12 : decode cX6_isChained 12 = .ok (.iload_n 1, 1) := by decide +kernel
theorem dX6_isChained_13 : decode cX6_isChained 13 = .ok (.iconst 1, 1) := by decide +kernel
theorem dX6_isChained_14 : decode cX6_isChained 14 = .ok (.isub, 1) := by decide +kernel
theorem dX6_isChained_15 : decode cX6_isChained 15 = .ok (.ishl, 1) := by decide +kernel
theorem dX6_isChained_16 : decode cX6_isChained 16 = .ok (.if_icmp .ne 7, 3) := by decide +kernel
theorem dX6_isChained_19 : decode cX6_isChained 19 = .ok (.iconst 1, 1) := by decide +kernel
theorem dX6_isChained_20 : decode cX6_isChained 20 = .ok (.goto 4, 3) := by decide +kernel
theorem dX6_isChained_23 : decode cX6_isChained 23 = .ok (.iconst 0, 1) := by decide +kernel
theorem dX6_isChained_24 : decode cX6_isChained 24 = .ok (.ireturn, 1) := by decide +kernel
theorem dX6_mayBy_0 : decode cX6_mayBy 0 = .ok (.iload_n 1, 1) := by decide +kernel
theorem dX6_mayBy_1 : decode cX6_mayBy 1 = .ok (.iload_n 3, 1) := by decide +kernel
theorem dX6_mayBy_2 : decode cX6_mayBy 2 = .ok (.invokestatic 253, 3) := by decide +kernel
theorem dX6_mayBy_5 : decode cX6_mayBy 5 = .ok (.istore 4, 2) := by decide +kernel
theorem dX6_mayBy_7 : decode cX6_mayBy 7 = .ok (.iload_n 1, 1) := by decide +kernel
theorem dX6_mayBy_8 : decode cX6_mayBy 8 = .ok (.iload_n 2, 1) := by decide +kernel
theorem dX6_mayBy_9 : decode cX6_mayBy 9 = .ok (.invokestatic 119, 3) := by decide +kernel
theorem dX6_mayBy_12 : decode cX6_mayBy 12 = .ok (.iload_n 2, 1) := by decide +kernel
theorem dX6_mayBy_13 : decode cX6_mayBy 13 = .ok (.iconst 1, 1) := by decide +kernel
theorem dX6_mayBy_14 : decode cX6_mayBy 14 = .ok (.isub, 1) := by decide +kernel
theorem dX6_mayBy_15 : decode cX6_mayBy 15 = .ok (.iload_n 3, 1) := by decide +kernel
theorem dX6_mayBy_16 : decode cX6_mayBy 16 = .ok (.isub, 1) := by decide +kernel
theorem dX6_mayBy_17 : decode cX6_mayBy 17 = .ok (.invokestatic 253, 3) := by decide +kernel
theorem dX6_mayBy_20 : decode cX6_mayBy 20 = .ok (.istore 5, 2) := by decide +kernel
theorem dX6_mayBy_22 : decode cX6_mayBy 22 = .ok (.iload_n 0, 1) := by decide +kernel
theorem dX6_mayBy_23 : decode cX6_mayBy 23 = .ok (.iconst 4, 1) := by decide +kernel
theorem dX6_mayBy_24 : decode cX6_mayBy 24 = .ok (.if_icmp .ne 8, 3) := by decide +kernel
theorem dX6_mayBy_27 : decode cX6_mayBy 27 = .ok (.iload 5, 2) := by decide +kernel
theorem dX6_mayBy_29 : decode cX6_mayBy 29 = .ok (.goto 28, 3) := by decide +kernel
theorem dX6_mayBy_32 : decode cX6_mayBy 32 = .ok (.iload_n 0, 1) := by decide +kernel
theorem dX6_mayBy_33 : decode cX6_mayBy 33 = .ok (.iconst 3, 1) := by decide +kernel
theorem dX6_mayBy_34 : decode cX6_mayBy 34 = .ok (.if_icmp .ne 21, 3) := by decide +kernel
theorem dX6_mayBy_37 : decode cX6_mayBy 37 = .ok (.iload 4, 2) := by decide +kernel
theorem dX6_mayBy_39 : decode cX6_mayBy 39 = .ok (.ifCond .ne 8, 3) := by decide +kernel
theorem dX6_mayBy_42 : decode cX6_mayBy 42 = .ok (.iload 5, 2) := by decide +kernel
theorem dX6_mayBy_44 : decode cX6_mayBy 44 = .ok (.ifCond .eq 7, 3) := by decide +kernel
theorem dX6_mayBy_47 : decode cX6_mayBy 47 = .ok (.iconst 1, 1) := by decide +kernel
theorem dX6_mayBy_48 : decode cX6_mayBy 48 = .ok (.goto 9, 3) := by decide +kernel
theorem dX6_mayBy_51 : decode cX6_mayBy 51 = .ok (.iconst 0, 1) := by decide +kernel
theorem dX6_mayBy_52 : decode cX6_mayBy 52 = .ok (.goto 5, 3) := by decide +kernel
theorem dX6_mayBy_55 : decode cX6_mayBy 55 = .ok (.iload 4, 2) := by decide +kernel
theorem dX6_mayBy_57 : decode cX6_mayBy 57 = .ok (.ireturn, 1) := by decide +kernel
theorem dX6_isMove_0 : decode cX6_isMove 0 = .ok (.aload_n 0, 1) := by decide +kernel
theorem dX6_isMove_1 : decode cX6_isMove 1 = .ok (.iload_n 1, 1) := by decide +kernel
theorem dX6_isMove_2 : decode cX6_isMove 2 = .ok (.iload_n 2, 1) := by decide +kernel
theorem dX6_isMove_3 : decode cX6_isMove 3 = .ok (.invokevirtual 148, 3) := by decide +kernel
theorem dX6_isMove_6 : decode cX6_isMove 6 = .ok (.ifCond .ne 29, 3) := by decide +kernel
theorem dX6_isMove_9 : decode cX6_isMove 9 = .ok (.iload_n 2, 1) := by decide +kernel
theorem dX6_isMove_10 : decode cX6_isMove 10 = .ok (.bipush 20, 2) := by decide +kernel
theorem dX6_isMove_12 : decode cX6_isMove 12 = .ok (.if_icmp .ne 27, 3) := by decide +kernel
theorem dX6_isMove_15 : decode cX6_isMove 15 = .ok (.aload_n 0, 1) := by decide +kernel
theorem dX6_isMove_16 : decode cX6_isMove 16 = .ok (.getfield 37, 3) := by decide +kernel
theorem dX6_isMove_19 : decode cX6_isMove 19 = .ok (.iload_n 1, 1) := by decide +kernel
theorem dX6_isMove_20 : decode cX6_isMove 20 = .ok (.iaload, 1) := by decide +kernel
theorem dX6_isMove_21 : decode cX6_isMove 21 = .ok (.iconst 2, 1) := by decide +kernel
theorem dX6_isMove_22 : decode cX6_isMove 22 = .ok (.if_icmp .ne 17, 3) := by decide +kernel
theorem dX6_isMove_25 : decode cX6_isMove 25 = .ok (.aload_n 0, 1) := by decide +kernel
theorem dX6_isMove_26 : decode cX6_isMove 26 = .ok (.getfield 40, 3) := by decide +kernel
theorem dX6_isMove_29 : decode cX6_isMove 29 = .ok (.iload_n 1, 1) := by decide +kernel
theorem dX6_isMove_30 : decode cX6_isMove 30 = .ok (.iaload, 1) := by decide +kernel
theorem dX6_isMove_31 : decode cX6_isMove 31 = .ok (.iconst 2, 1) := by decide +kernel
theorem dX6_isMove_32 : decode cX6_isMove 32 = .ok (.if_icmp .lt 7, 3) := by decide +kernel
theorem dX6_isMove_35 : decode cX6_isMove 35 = .ok (.iconst 1, 1) := by decide +kernel
theorem dX6_isMove_36 : decode cX6_isMove 36 = .ok (.goto 4, 3) := by decide +kernel
theorem dX6_isMove_39 : decode cX6_isMove 39 = .ok (.iconst 0, 1) := by decide +kernel
theorem dX6_isMove_40 : decode cX6_isMove 40 = .ok (.ireturn, 1) := by decide +kernel
theorem dX6_mayAt_0 : decode cX6_mayAt 0 = .ok (.aload_n 0, 1) := by decide +kernel
theorem dX6_mayAt_1 : decode cX6_mayAt 1 = .ok (.iload_n 1, 1) := by decide +kernel
theorem dX6_mayAt_2 : decode cX6_mayAt 2 = .ok (.iload_n 3, 1) := by decide +kernel
theorem dX6_mayAt_3 : decode cX6_mayAt 3 = .ok (.invokevirtual 256, 3) := by decide +kernel
theorem dX6_mayAt_6 : decode cX6_mayAt 6 = .ok (.ifCond .eq 17, 3) := by decide +kernel
theorem dX6_mayAt_9 : decode cX6_mayAt 9 = .ok (.iload_n 3, 1) := by decide +kernel
theorem dX6_mayAt_10 : decode cX6_mayAt 10 = .ok (.invokestatic 212, 3) := by decide +kernel
theorem dX6_mayAt_13 : decode cX6_mayAt 13 = .ok (.aload_n 0, 1) := by decide +kernel
theorem dX6_mayAt_14 : decode cX6_mayAt 14 = .ok (.getfield 46, 3) := by decide +kernel
theorem dX6_mayAt_17 : decode cX6_mayAt 17 = .ok (.iload_n 1, 1) := by decide +kernel
theorem dX6_mayAt_18 : decode cX6_mayAt 18 = .ok (.iaload, 1) := by decide +kernel
theorem dX6_mayAt_19 : decode cX6_mayAt 19 = .ok (.iand, 1) := by decide +kernel
theorem dX6_mayAt_20 : decode cX6_mayAt 20 = .ok (.ifCond .eq 5, 3) := by decide +kernel
theorem dX6_mayAt_23 : decode cX6_mayAt 23 = .ok (.iconst 0, 1) := by decide +kernel
theorem dX6_mayAt_24 : decode cX6_mayAt 24 = .ok (.ireturn, 1) := by decide +kernel
theorem dX6_mayAt_25 : decode cX6_mayAt 25 = .ok (.iload_n 3, 1) := by decide +kernel
theorem dX6_mayAt_26 : decode cX6_mayAt 26 = .ok (.bipush 20, 2) := by decide +kernel
theorem dX6_mayAt_28 : decode cX6_mayAt 28 = .ok (.if_icmp .ne 22, 3) := by decide +kernel
theorem dX6_mayAt_31 : decode cX6_mayAt 31 = .ok (.iload_n 2, 1) := by decide +kernel
theorem dX6_mayAt_32 : decode cX6_mayAt 32 = .ok (.iconst 3, 1) := by decide +kernel
theorem dX6_mayAt_33 : decode cX6_mayAt 33 = .ok (.iand, 1) := by decide +kernel
theorem dX6_mayAt_34 : decode cX6_mayAt 34 = .ok (.ifCond .eq 10, 3) := by decide +kernel
theorem dX6_mayAt_37 : decode cX6_mayAt 37 = .ok (.iload_n 2, 1) := by decide +kernel
theorem dX6_mayAt_38 : decode cX6_mayAt 38 = .ok (.iconst 3, 1) := by decide +kernel
theorem dX6_mayAt_39 : decode cX6_mayAt 39 = .ok (.iand, 1) := by decide +kernel
theorem dX6_mayAt_40 : decode cX6_mayAt 40 = .ok (.iconst 3, 1) := by decide +kernel
theorem dX6_mayAt_41 : decode cX6_mayAt 41 = .ok (.if_icmp .ne 7, 3) := by decide +kernel
theorem dX6_mayAt_44 : decode cX6_mayAt 44 = .ok (.iconst 1, 1) := by decide +kernel
theorem dX6_mayAt_45 : decode cX6_mayAt 45 = .ok (.goto 4, 3) := by decide +kernel
theorem dX6_mayAt_48 : decode cX6_mayAt 48 = .ok (.iconst 0, 1) := by decide +kernel
theorem dX6_mayAt_49 : decode cX6_mayAt 49 = .ok (.ireturn, 1) := by decide +kernel
theorem dX6_mayAt_50 : decode cX6_mayAt 50 = .ok (.aload_n 0, 1) := by decide +kernel
theorem dX6_mayAt_51 : decode cX6_mayAt 51 = .ok (.getfield 37, 3) := by decide +kernel
theorem dX6_mayAt_54 : decode cX6_mayAt 54 = .ok (.iload_n 1, 1) := by decide +kernel
theorem dX6_mayAt_55 : decode cX6_mayAt 55 = .ok (.iaload, 1) := by decide +kernel
theorem dX6_mayAt_56 : decode cX6_mayAt 56 = .ok (.ifCond .ne 5, 3) := by decide +kernel
theorem dX6_mayAt_59 : decode cX6_mayAt 59 = .ok (.iconst 1, 1) := by decide +kernel
theorem dX6_mayAt_60 : decode cX6_mayAt 60 = .ok (.ireturn, 1) := by decide +kernel
theorem dX6_mayAt_61 : decode cX6_mayAt 61 = .ok (.aload_n 0, 1) := by decide +kernel
theorem dX6_mayAt_62 : decode cX6_mayAt 62 = .ok (.getfield 37, 3) := by decide +kernel
theorem dX6_mayAt_65 : decode cX6_mayAt 65 = .ok (.iload_n 1, 1) := by decide +kernel
theorem dX6_mayAt_66 : decode cX6_mayAt 66 = .ok (.iaload, 1) := by decide +kernel
theorem dX6_mayAt_67 : decode cX6_mayAt 67 = .ok (.iconst 5, 1) := by decide +kernel
theorem dX6_mayAt_68 : decode cX6_mayAt 68 = .ok (.if_icmp .ne 37, 3) := by decide +kernel
theorem dX6_mayAt_71 : decode cX6_mayAt 71 = .ok (.aload_n 0, 1) := by decide +kernel
theorem dX6_mayAt_72 : decode cX6_mayAt 72 = .ok (.getfield 51, 3) := by decide +kernel
theorem dX6_mayAt_75 : decode cX6_mayAt 75 = .ok (.iload_n 1, 1) := by decide +kernel
theorem dX6_mayAt_76 : decode cX6_mayAt 76 = .ok (.aaload, 1) := by decide +kernel
theorem dX6_mayAt_77 : decode cX6_mayAt 77 = .ok (.iload_n 3, 1) := by decide +kernel
theorem dX6_mayAt_78 : decode cX6_mayAt 78 = .ok (.iaload, 1) := by decide +kernel
theorem dX6_mayAt_79 : decode cX6_mayAt 79 = .ok (.iload_n 2, 1) := by decide +kernel
theorem dX6_mayAt_80 : decode cX6_mayAt 80 = .ok (.iconst (-1), 1) := by decide +kernel
theorem dX6_mayAt_81 : decode cX6_mayAt 81 = .ok (.ixor, 1) := by decide +kernel
theorem dX6_mayAt_82 : decode cX6_mayAt 82 = .ok (.iand, 1) := by decide +kernel
theorem dX6_mayAt_83 : decode cX6_mayAt 83 = .ok (.ifCond .ne 20, 3) := by decide +kernel
theorem dX6_mayAt_86 : decode cX6_mayAt 86 = .ok (.aload_n 0, 1) := by decide +kernel
theorem dX6_mayAt_87 : decode cX6_mayAt 87 = .ok (.getfield 54, 3) := by decide +kernel
theorem dX6_mayAt_90 : decode cX6_mayAt 90 = .ok (.iload_n 1, 1) := by decide +kernel
theorem dX6_mayAt_91 : decode cX6_mayAt 91 = .ok (.aaload, 1) := by decide +kernel
theorem dX6_mayAt_92 : decode cX6_mayAt 92 = .ok (.iload_n 3, 1) := by decide +kernel
theorem dX6_mayAt_93 : decode cX6_mayAt 93 = .ok (.iaload, 1) := by decide +kernel
theorem dX6_mayAt_94 : decode cX6_mayAt 94 = .ok (.iload_n 2, 1) := by decide +kernel
theorem dX6_mayAt_95 : decode cX6_mayAt 95 = .ok (.iand, 1) := by decide +kernel
theorem dX6_mayAt_96 : decode cX6_mayAt 96 = .ok (.ifCond .ne 7, 3) := by decide +kernel
theorem dX6_mayAt_99 : decode cX6_mayAt 99 = .ok (.iconst 1, 1) := by decide +kernel
theorem dX6_mayAt_100 : decode cX6_mayAt 100 = .ok (.goto 4, 3) := by decide +kernel
theorem dX6_mayAt_103 : decode cX6_mayAt 103 = .ok (.iconst 0, 1) := by decide +kernel
theorem dX6_mayAt_104 : decode cX6_mayAt 104 = .ok (.ireturn, 1) := by decide +kernel
theorem dX6_mayAt_105 : decode cX6_mayAt 105 = .ok (.aload_n 0, 1) := by decide +kernel
theorem dX6_mayAt_106 : decode cX6_mayAt 106 = .ok (.getfield 37, 3) := by decide +kernel
theorem dX6_mayAt_109 : decode cX6_mayAt 109 = .ok (.iload_n 1, 1) := by decide +kernel
theorem dX6_mayAt_110 : decode cX6_mayAt 110 = .ok (.iaload, 1) := by decide +kernel
theorem dX6_mayAt_111 : decode cX6_mayAt 111 = .ok (.iload_n 2, 1) := by decide +kernel
theorem dX6_mayAt_112 : decode cX6_mayAt 112 = .ok (.aload_n 0, 1) := by decide +kernel
theorem dX6_mayAt_113 : decode cX6_mayAt 113 = .ok (.getfield 40, 3) := by decide +kernel
theorem dX6_mayAt_116 : decode cX6_mayAt 116 = .ok (.iload_n 1, 1) := by decide +kernel
theorem dX6_mayAt_117 : decode cX6_mayAt 117 = .ok (.iaload, 1) := by decide +kernel
theorem dX6_mayAt_118 : decode cX6_mayAt 118 = .ok (.iload_n 3, 1) := by decide +kernel
theorem dX6_mayAt_119 : decode cX6_mayAt 119 = .ok (.invokestatic 259, 3) := by decide +kernel
theorem dX6_mayAt_122 : decode cX6_mayAt 122 = .ok (.ireturn, 1) := by decide +kernel
theorem dX6_may_0 : decode cX6_may 0 = .ok (.aload_n 0, 1) := by decide +kernel
theorem dX6_may_1 : decode cX6_may 1 = .ok (.iload_n 1, 1) := by decide +kernel
theorem dX6_may_2 : decode cX6_may 2 = .ok (.invokevirtual 106, 3) := by decide +kernel
theorem dX6_may_5 : decode cX6_may 5 = .ok (.ifCond .eq 12, 3) := by decide +kernel
theorem dX6_may_8 : decode cX6_may 8 = .ok (.aload_n 0, 1) := by decide +kernel
theorem dX6_may_9 : decode cX6_may 9 = .ok (.iload_n 1, 1) := by decide +kernel
theorem dX6_may_10 : decode cX6_may 10 = .ok (.iload_n 2, 1) := by decide +kernel
theorem dX6_may_11 : decode cX6_may 11 = .ok (.invokevirtual 256, 3) := by decide +kernel
theorem dX6_may_14 : decode cX6_may 14 = .ok (.ifCond .ne 10, 3) := by decide +kernel
theorem dX6_may_17 : decode cX6_may 17 = .ok (.aload_n 0, 1) := by decide +kernel
theorem dX6_may_18 : decode cX6_may 18 = .ok (.bipush (-2), 2) := by decide +kernel
theorem dX6_may_20 : decode cX6_may 20 = .ok (.invokevirtual 96, 3) := by decide +kernel
theorem dX6_may_23 : decode cX6_may 23 = .ok (.ireturn, 1) := by decide +kernel
theorem dX6_may_24 : decode cX6_may 24 = .ok (.aload_n 0, 1) := by decide +kernel
theorem dX6_may_25 : decode cX6_may 25 = .ok (.iload_n 1, 1) := by decide +kernel
theorem dX6_may_26 : decode cX6_may 26 = .ok (.aload_n 0, 1) := by decide +kernel
theorem dX6_may_27 : decode cX6_may 27 = .ok (.getfield 43, 3) := by decide +kernel
theorem dX6_may_30 : decode cX6_may 30 = .ok (.iload_n 1, 1) := by decide +kernel
theorem dX6_may_31 : decode cX6_may 31 = .ok (.iaload, 1) := by decide +kernel
theorem dX6_may_32 : decode cX6_may 32 = .ok (.iload_n 2, 1) := by decide +kernel
theorem dX6_may_33 : decode cX6_may 33 = .ok (.invokevirtual 131, 3) := by decide +kernel
theorem dX6_may_36 : decode cX6_may 36 = .ok (.ifCond .eq 7, 3) := by decide +kernel
theorem dX6_may_39 : decode cX6_may 39 = .ok (.iconst 1, 1) := by decide +kernel
theorem dX6_may_40 : decode cX6_may 40 = .ok (.goto 4, 3) := by decide +kernel
theorem dX6_may_43 : decode cX6_may 43 = .ok (.iconst 0, 1) := by decide +kernel
theorem dX6_may_44 : decode cX6_may 44 = .ok (.ireturn, 1) := by decide +kernel
theorem dX6_moves_0 : decode cX6_moves 0 = .ok (.aload_n 0, 1) := by decide +kernel
theorem dX6_moves_1 : decode cX6_moves 1 = .ok (.iload_n 1, 1) := by decide +kernel
theorem dX6_moves_2 : decode cX6_moves 2 = .ok (.invokevirtual 106, 3) := by decide +kernel
theorem dX6_moves_5 : decode cX6_moves 5 = .ok (.ifCond .ne 10, 3) := by decide +kernel
theorem dX6_moves_8 : decode cX6_moves 8 = .ok (.aload_n 0, 1) := by decide +kernel
theorem dX6_moves_9 : decode cX6_moves 9 = .ok (.bipush (-2), 2) := by decide +kernel
theorem dX6_moves_11 : decode cX6_moves 11 = .ok (.invokevirtual 96, 3) := by decide +kernel
theorem dX6_moves_14 : decode cX6_moves 14 = .ok (.ireturn, 1) := by decide +kernel
theorem dX6_moves_15 : decode cX6_moves 15 = .ok (.iconst 0, 1) := by decide +kernel
theorem dX6_moves_16 : decode cX6_moves 16 = .ok (.istore_n 2, 1) := by decide +kernel
theorem dX6_moves_17 : decode cX6_moves 17 = .ok (.iconst 0, 1) := by decide +kernel
theorem dX6_moves_18 : decode cX6_moves 18 = .ok (.istore_n 3, 1) := by decide +kernel
theorem dX6_moves_19 : decode cX6_moves 19 = .ok (.iload_n 3, 1) := by decide +kernel
theorem dX6_moves_20 : decode cX6_moves 20 = .ok (.bipush 20, 2) := by decide +kernel
theorem dX6_moves_22 : decode cX6_moves 22 = .ok (.if_icmp .gt 34, 3) := by decide +kernel
theorem dX6_moves_25 : decode cX6_moves 25 = .ok (.iload_n 2, 1) := by decide +kernel
theorem dX6_moves_26 : decode cX6_moves 26 = .ok (.aload_n 0, 1) := by decide +kernel
theorem dX6_moves_27 : decode cX6_moves 27 = .ok (.iload_n 1, 1) := by decide +kernel
theorem dX6_moves_28 : decode cX6_moves 28 = .ok (.aload_n 0, 1) := by decide +kernel
theorem dX6_moves_29 : decode cX6_moves 29 = .ok (.getfield 43, 3) := by decide +kernel
theorem dX6_moves_32 : decode cX6_moves 32 = .ok (.iload_n 1, 1) := by decide +kernel
theorem dX6_moves_33 : decode cX6_moves 33 = .ok (.iaload, 1) := by decide +kernel
theorem dX6_moves_34 : decode cX6_moves 34 = .ok (.iload_n 3, 1) := by decide +kernel
theorem dX6_moves_35 : decode cX6_moves 35 = .ok (.invokevirtual 131, 3) := by decide +kernel
theorem dX6_moves_38 : decode cX6_moves 38 = .ok (.ifCond .eq 9, 3) := by decide +kernel
theorem dX6_moves_41 : decode cX6_moves 41 = .ok (.iconst 1, 1) := by decide +kernel
theorem dX6_moves_42 : decode cX6_moves 42 = .ok (.iload_n 3, 1) := by decide +kernel
theorem dX6_moves_43 : decode cX6_moves 43 = .ok (.ishl, 1) := by decide +kernel
theorem dX6_moves_44 : decode cX6_moves 44 = .ok (.goto 4, 3) := by decide +kernel
theorem dX6_moves_47 : decode cX6_moves 47 = .ok (.iconst 0, 1) := by decide +kernel
theorem dX6_moves_48 : decode cX6_moves 48 = .ok (.ior, 1) := by decide +kernel
theorem dX6_moves_49 : decode cX6_moves 49 = .ok (.istore_n 2, 1) := by decide +kernel
theorem dX6_moves_50 : decode cX6_moves 50 = .ok (.iinc 3 1, 3) := by decide +kernel
theorem dX6_moves_53 : decode cX6_moves 53 = .ok (.goto (-34), 3) := by decide +kernel
theorem dX6_moves_56 : decode cX6_moves 56 = .ok (.iload_n 2, 1) := by decide +kernel
theorem dX6_moves_57 : decode cX6_moves 57 = .ok (.ireturn, 1) := by decide +kernel
theorem dX6_makes_0 : decode cX6_makes 0 = .ok (.aload_n 0, 1) := by decide +kernel
theorem dX6_makes_1 : decode cX6_makes 1 = .ok (.getfield 43, 3) := by decide +kernel
theorem dX6_makes_4 : decode cX6_makes 4 = .ok (.iload_n 1, 1) := by decide +kernel
theorem dX6_makes_5 : decode cX6_makes 5 = .ok (.dup2, 1) := by decide +kernel
theorem dX6_makes_6 : decode cX6_makes 6 = .ok (.iaload, 1) := by decide +kernel
theorem dX6_makes_7 : decode cX6_makes 7 = .ok (.iload_n 2, 1) := by decide +kernel
theorem dX6_makes_8 : decode cX6_makes 8 = .ok (.invokestatic 212, 3) := by decide +kernel
theorem dX6_makes_11 : decode cX6_makes 11 = .ok (.ixor, 1) := by decide +kernel
theorem dX6_makes_12 : decode cX6_makes 12 = .ok (.iastore, 1) := by decide +kernel
theorem dX6_makes_13 : decode cX6_makes 13 = .ok (.aload_n 0, 1) := by decide +kernel
theorem dX6_makes_14 : decode cX6_makes 14 = .ok (.dup, 1) := by decide +kernel
theorem dX6_makes_15 : decode cX6_makes 15 = .ok (.getfield 215, 3) := by decide +kernel
theorem dX6_makes_18 : decode cX6_makes 18 = .ok (.iconst 1, 1) := by decide +kernel
theorem dX6_makes_19 : decode cX6_makes 19 = .ok (.iadd, 1) := by decide +kernel
theorem dX6_makes_20 : decode cX6_makes 20 = .ok (.putfield 215, 3) := by decide +kernel
theorem dX6_makes_23 : decode cX6_makes 23 = .ok (.return_, 1) := by decide +kernel
theorem dX6_move_0 : decode cX6_move 0 = .ok (.aload_n 0, 1) := by decide +kernel
theorem dX6_move_1 : decode cX6_move 1 = .ok (.iload_n 1, 1) := by decide +kernel
theorem dX6_move_2 : decode cX6_move 2 = .ok (.invokevirtual 106, 3) := by decide +kernel
theorem dX6_move_5 : decode cX6_move 5 = .ok (.ifCond .eq 12, 3) := by decide +kernel
theorem dX6_move_8 : decode cX6_move 8 = .ok (.aload_n 0, 1) := by decide +kernel
theorem dX6_move_9 : decode cX6_move 9 = .ok (.iload_n 1, 1) := by decide +kernel
theorem dX6_move_10 : decode cX6_move 10 = .ok (.iload_n 2, 1) := by decide +kernel
theorem dX6_move_11 : decode cX6_move 11 = .ok (.invokevirtual 256, 3) := by decide +kernel
theorem dX6_move_14 : decode cX6_move 14 = .ok (.ifCond .ne 10, 3) := by decide +kernel
theorem dX6_move_17 : decode cX6_move 17 = .ok (.aload_n 0, 1) := by decide +kernel
theorem dX6_move_18 : decode cX6_move 18 = .ok (.bipush (-2), 2) := by decide +kernel
theorem dX6_move_20 : decode cX6_move 20 = .ok (.invokevirtual 96, 3) := by decide +kernel
theorem dX6_move_23 : decode cX6_move 23 = .ok (.ireturn, 1) := by decide +kernel
theorem dX6_move_24 : decode cX6_move 24 = .ok (.aload_n 0, 1) := by decide +kernel
theorem dX6_move_25 : decode cX6_move 25 = .ok (.iload_n 1, 1) := by decide +kernel
theorem dX6_move_26 : decode cX6_move 26 = .ok (.aload_n 0, 1) := by decide +kernel
theorem dX6_move_27 : decode cX6_move 27 = .ok (.getfield 43, 3) := by decide +kernel
theorem dX6_move_30 : decode cX6_move 30 = .ok (.iload_n 1, 1) := by decide +kernel
theorem dX6_move_31 : decode cX6_move 31 = .ok (.iaload, 1) := by decide +kernel
theorem dX6_move_32 : decode cX6_move 32 = .ok (.iload_n 2, 1) := by decide +kernel
theorem dX6_move_33 : decode cX6_move 33 = .ok (.invokevirtual 131, 3) := by decide +kernel
theorem dX6_move_36 : decode cX6_move 36 = .ok (.ifCond .ne 10, 3) := by decide +kernel
theorem dX6_move_39 : decode cX6_move 39 = .ok (.aload_n 0, 1) := by decide +kernel
theorem dX6_move_40 : decode cX6_move 40 = .ok (.bipush (-5), 2) := by decide +kernel
theorem dX6_move_42 : decode cX6_move 42 = .ok (.invokevirtual 96, 3) := by decide +kernel
theorem dX6_move_45 : decode cX6_move 45 = .ok (.ireturn, 1) := by decide +kernel
theorem dX6_move_46 : decode cX6_move 46 = .ok (.aload_n 0, 1) := by decide +kernel
theorem dX6_move_47 : decode cX6_move 47 = .ok (.iload_n 1, 1) := by decide +kernel
theorem dX6_move_48 : decode cX6_move 48 = .ok (.iload_n 2, 1) := by decide +kernel
theorem dX6_move_49 : decode cX6_move 49 = .ok (.invokevirtual 263, 3) := by decide +kernel
theorem dX6_move_52 : decode cX6_move 52 = .ok (.aload_n 0, 1) := by decide +kernel
theorem dX6_move_53 : decode cX6_move 53 = .ok (.getfield 43, 3) := by decide +kernel
theorem dX6_move_56 : decode cX6_move 56 = .ok (.iload_n 1, 1) := by decide +kernel
theorem dX6_move_57 : decode cX6_move 57 = .ok (.iaload, 1) := by decide +kernel
theorem dX6_move_58 : decode cX6_move 58 = .ok (.ireturn, 1) := by decide +kernel
theorem dX6_findFar_0 : decode cX6_findFar 0 = .ok (.iconst 0, 1) := by decide +kernel
theorem dX6_findFar_1 : decode cX6_findFar 1 = .ok (.istore 4, 2) := by decide +kernel
theorem dX6_findFar_3 : decode cX6_findFar 3 = .ok (.iload 4, 2) := by decide +kernel
theorem dX6_findFar_5 : decode cX6_findFar 5 = .ok (.aload_n 0, 1) := by decide +kernel
theorem dX6_findFar_6 : decode cX6_findFar 6 = .ok (.iload_n 1, 1) := by decide +kernel
theorem dX6_findFar_7 : decode cX6_findFar 7 = .ok (.invokevirtual 86, 3) := by decide +kernel
theorem dX6_findFar_10 : decode cX6_findFar 10 = .ok (.if_icmp .gt 17, 3) := by decide +kernel
theorem dX6_findFar_13 : decode cX6_findFar 13 = .ok (.aload_n 0, 1) := by decide +kernel
theorem dX6_findFar_14 : decode cX6_findFar 14 = .ok (.getfield 67, 3) := by decide +kernel
theorem dX6_findFar_17 : decode cX6_findFar 17 = .ok (.iload 4, 2) := by decide +kernel
theorem dX6_findFar_19 : decode cX6_findFar 19 = .ok (.iconst (-1), 1) := by decide +kernel
theorem dX6_findFar_20 : decode cX6_findFar 20 = .ok (.iastore, 1) := by decide +kernel
theorem dX6_findFar_21 : decode cX6_findFar 21 = .ok (.iinc 4 1, 3) := by decide +kernel
theorem dX6_findFar_24 : decode cX6_findFar 24 = .ok (.goto (-21), 3) := by decide +kernel
theorem dX6_findFar_27 : decode cX6_findFar 27 = .ok (.aload_n 0, 1) := by decide +kernel
theorem dX6_findFar_28 : decode cX6_findFar 28 = .ok (.getfield 67, 3) := by decide +kernel
theorem dX6_findFar_31 : decode cX6_findFar 31 = .ok (.iload_n 2, 1) := by decide +kernel
theorem dX6_findFar_32 : decode cX6_findFar 32 = .ok (.iconst 0, 1) := by decide +kernel
theorem dX6_findFar_33 : decode cX6_findFar 33 = .ok (.iastore, 1) := by decide +kernel
theorem dX6_findFar_34 : decode cX6_findFar 34 = .ok (.aload_n 0, 1) := by decide +kernel
theorem dX6_findFar_35 : decode cX6_findFar 35 = .ok (.getfield 70, 3) := by decide +kernel
theorem dX6_findFar_38 : decode cX6_findFar 38 = .ok (.iconst 0, 1) := by decide +kernel
theorem dX6_findFar_39 : decode cX6_findFar 39 = .ok (.iload_n 2, 1) := by decide +kernel
theorem dX6_findFar_40 : decode cX6_findFar 40 = .ok (.iastore, 1) := by decide +kernel
theorem dX6_findFar_41 : decode cX6_findFar 41 = .ok (.aload_n 0, 1) := by decide +kernel
theorem dX6_findFar_42 : decode cX6_findFar 42 = .ok (.iconst 1, 1) := by decide +kernel
theorem dX6_findFar_43 : decode cX6_findFar 43 = .ok (.putfield 266, 3) := by decide +kernel
theorem dX6_findFar_46 : decode cX6_findFar 46 = .ok (.iconst 0, 1) := by decide +kernel
theorem dX6_findFar_47 : decode cX6_findFar 47 = .ok (.istore 4, 2) := by decide +kernel
theorem dX6_findFar_49 : decode cX6_findFar 49 = .ok (.iload 4, 2) := by decide +kernel
theorem dX6_findFar_51 : decode cX6_findFar 51 = .ok (.aload_n 0, 1) := by decide +kernel
theorem dX6_findFar_52 : decode cX6_findFar 52 = .ok (.getfield 266, 3) := by decide +kernel
theorem dX6_findFar_55 : decode cX6_findFar 55 = .ok (.if_icmp .ge 126, 3) := by decide +kernel
theorem dX6_findFar_58 : decode cX6_findFar 58 = .ok (.iconst 0, 1) := by decide +kernel
theorem dX6_findFar_59 : decode cX6_findFar 59 = .ok (.istore 5, 2) := by decide +kernel
theorem dX6_findFar_61 : decode cX6_findFar 61 = .ok (.iload 5, 2) := by decide +kernel
theorem dX6_findFar_63 : decode cX6_findFar 63 = .ok (.bipush 20, 2) := by decide +kernel
theorem dX6_findFar_65 : decode cX6_findFar 65 = .ok (.if_icmp .gt 110, 3) := by decide +kernel
theorem dX6_findFar_68 : decode cX6_findFar 68 = .ok (.aload_n 0, 1) := by decide +kernel
theorem dX6_findFar_69 : decode cX6_findFar 69 = .ok (.iload_n 1, 1) := by decide +kernel
theorem dX6_findFar_70 : decode cX6_findFar 70 = .ok (.iload 5, 2) := by decide +kernel
theorem dX6_findFar_72 : decode cX6_findFar 72 = .ok (.invokevirtual 256, 3) := by decide +kernel
theorem dX6_findFar_75 : decode cX6_findFar 75 = .ok (.ifCond .eq 94, 3) := by decide +kernel
theorem dX6_findFar_78 : decode cX6_findFar 78 = .ok (.aload_n 0, 1) := by decide +kernel
theorem dX6_findFar_79 : decode cX6_findFar 79 = .ok (.getfield 70, 3) := by decide +kernel
theorem dX6_findFar_82 : decode cX6_findFar 82 = .ok (.iload 4, 2) := by decide +kernel
theorem dX6_findFar_84 : decode cX6_findFar 84 = .ok (.iaload, 1) := by decide +kernel
theorem dX6_findFar_85 : decode cX6_findFar 85 = .ok (.iload 5, 2) := by decide +kernel
theorem dX6_findFar_87 : decode cX6_findFar 87 = .ok (.invokestatic 212, 3) := by decide +kernel
theorem dX6_findFar_90 : decode cX6_findFar 90 = .ok (.ixor, 1) := by decide +kernel
theorem dX6_findFar_91 : decode cX6_findFar 91 = .ok (.istore 6, 2) := by decide +kernel
theorem dX6_findFar_93 : decode cX6_findFar 93 = .ok (.aload_n 0, 1) := by decide +kernel
theorem dX6_findFar_94 : decode cX6_findFar 94 = .ok (.getfield 67, 3) := by decide +kernel
theorem dX6_findFar_97 : decode cX6_findFar 97 = .ok (.iload 6, 2) := by decide +kernel
theorem dX6_findFar_99 : decode cX6_findFar 99 = .ok (.iaload, 1) := by decide +kernel
theorem dX6_findFar_100 : decode cX6_findFar 100 = .ok (.iconst (-1), 1) := by decide +kernel
theorem dX6_findFar_101 : decode cX6_findFar 101 = .ok (.if_icmp .ne 68, 3) := by decide +kernel
theorem dX6_findFar_104 : decode cX6_findFar 104 = .ok (.aload_n 0, 1) := by decide +kernel
theorem dX6_findFar_105 : decode cX6_findFar 105 = .ok (.iload_n 1, 1) := by decide +kernel
theorem dX6_findFar_106 : decode cX6_findFar 106 = .ok (.iload_n 3, 1) := by decide +kernel
theorem dX6_findFar_107 : decode cX6_findFar 107 = .ok (.ifCond .eq 13, 3) := by decide +kernel
theorem dX6_findFar_110 : decode cX6_findFar 110 = .ok (.aload_n 0, 1) := by decide +kernel
theorem dX6_findFar_111 : decode cX6_findFar 111 = .ok (.getfield 70, 3) := by decide +kernel
theorem dX6_findFar_114 : decode cX6_findFar 114 = .ok (.iload 4, 2) := by decide +kernel
theorem dX6_findFar_116 : decode cX6_findFar 116 = .ok (.iaload, 1) := by decide +kernel
theorem dX6_findFar_117 : decode cX6_findFar 117 = .ok (.goto 5, 3) := by decide +kernel
theorem dX6_findFar_120 : decode cX6_findFar 120 = .ok (.iload 6, 2) := by decide +kernel
theorem dX6_findFar_122 : decode cX6_findFar 122 = .ok (.iload 5, 2) := by decide +kernel
theorem dX6_findFar_124 : decode cX6_findFar 124 = .ok (.invokevirtual 131, 3) := by decide +kernel
theorem dX6_findFar_127 : decode cX6_findFar 127 = .ok (.ifCond .eq 42, 3) := by decide +kernel
theorem dX6_findFar_130 : decode cX6_findFar 130 = .ok (.aload_n 0, 1) := by decide +kernel
theorem dX6_findFar_131 : decode cX6_findFar 131 = .ok (.getfield 67, 3) := by decide +kernel
theorem dX6_findFar_134 : decode cX6_findFar 134 = .ok (.iload 6, 2) := by decide +kernel
theorem dX6_findFar_136 : decode cX6_findFar 136 = .ok (.aload_n 0, 1) := by decide +kernel
theorem dX6_findFar_137 : decode cX6_findFar 137 = .ok (.getfield 67, 3) := by decide +kernel
theorem dX6_findFar_140 : decode cX6_findFar 140 = .ok (.aload_n 0, 1) := by decide +kernel
theorem dX6_findFar_141 : decode cX6_findFar 141 = .ok (.getfield 70, 3) := by decide +kernel
theorem dX6_findFar_144 : decode cX6_findFar 144 = .ok (.iload 4, 2) := by decide +kernel
theorem dX6_findFar_146 : decode cX6_findFar 146 = .ok (.iaload, 1) := by decide +kernel
theorem dX6_findFar_147 : decode cX6_findFar 147 = .ok (.iaload, 1) := by decide +kernel
theorem dX6_findFar_148 : decode cX6_findFar 148 = .ok (.iconst 1, 1) := by decide +kernel
theorem dX6_findFar_149 : decode cX6_findFar 149 = .ok (.iadd, 1) := by decide +kernel
theorem dX6_findFar_150 : decode cX6_findFar 150 = .ok (.iastore, 1) := by decide +kernel
theorem dX6_findFar_151 : decode cX6_findFar 151 = .ok (.aload_n 0, 1) := by decide +kernel
theorem dX6_findFar_152 : decode cX6_findFar 152 = .ok (.getfield 70, 3) := by decide +kernel
theorem dX6_findFar_155 : decode cX6_findFar 155 = .ok (.aload_n 0, 1) := by decide +kernel
theorem dX6_findFar_156 : decode cX6_findFar 156 = .ok (.dup, 1) := by decide +kernel
theorem dX6_findFar_157 : decode cX6_findFar 157 = .ok (.getfield 266, 3) := by decide +kernel
theorem dX6_findFar_160 : decode cX6_findFar 160 = .ok (.dup_x1, 1) := by decide +kernel
theorem dX6_findFar_161 : decode cX6_findFar 161 = .ok (.iconst 1, 1) := by decide +kernel
theorem dX6_findFar_162 : decode cX6_findFar 162 = .ok (.iadd, 1) := by decide +kernel
theorem dX6_findFar_163 : decode cX6_findFar 163 = .ok (.putfield 266, 3) := by decide +kernel
theorem dX6_findFar_166 : decode cX6_findFar 166 = .ok (.iload 6, 2) := by decide +kernel
theorem dX6_findFar_168 : decode cX6_findFar 168 = .ok (.iastore, 1) := by decide +kernel
theorem dX6_findFar_169 : decode cX6_findFar 169 = .ok (.iinc 5 1, 3) := by decide +kernel
theorem dX6_findFar_172 : decode cX6_findFar 172 = .ok (.goto (-111), 3) := by decide +kernel
theorem dX6_findFar_175 : decode cX6_findFar 175 = .ok (.iinc 4 1, 3) := by decide +kernel
theorem dX6_findFar_178 : decode cX6_findFar 178 = .ok (.goto (-129), 3) := by decide +kernel
theorem dX6_findFar_181 : decode cX6_findFar 181 = .ok (.return_, 1) := by decide +kernel
theorem dX6_fewestTo_0 : decode cX6_fewestTo 0 = .ok (.aload_n 0, 1) := by decide +kernel
theorem dX6_fewestTo_1 : decode cX6_fewestTo 1 = .ok (.iload_n 1, 1) := by decide +kernel
theorem dX6_fewestTo_2 : decode cX6_fewestTo 2 = .ok (.iload_n 2, 1) := by decide +kernel
theorem dX6_fewestTo_3 : decode cX6_fewestTo 3 = .ok (.iconst 1, 1) := by decide +kernel
theorem dX6_fewestTo_4 : decode cX6_fewestTo 4 = .ok (.invokevirtual 269, 3) := by decide +kernel
theorem dX6_fewestTo_7 : decode cX6_fewestTo 7 = .ok (.aload_n 0, 1) := by decide +kernel
theorem dX6_fewestTo_8 : decode cX6_fewestTo 8 = .ok (.getfield 67, 3) := by decide +kernel
theorem dX6_fewestTo_11 : decode cX6_fewestTo 11 = .ok (.iload_n 3, 1) := by decide +kernel
theorem dX6_fewestTo_12 : decode cX6_fewestTo 12 = .ok (.iaload, 1) := by decide +kernel
theorem dX6_fewestTo_13 : decode cX6_fewestTo 13 = .ok (.ireturn, 1) := by decide +kernel
theorem dX6_fewest_0 : decode cX6_fewest 0 = .ok (.aload_n 0, 1) := by decide +kernel
theorem dX6_fewest_1 : decode cX6_fewest 1 = .ok (.iload_n 1, 1) := by decide +kernel
theorem dX6_fewest_2 : decode cX6_fewest 2 = .ok (.invokevirtual 106, 3) := by decide +kernel
theorem dX6_fewest_5 : decode cX6_fewest 5 = .ok (.ifCond .eq 28, 3) := by decide +kernel
theorem dX6_fewest_8 : decode cX6_fewest 8 = .ok (.aload_n 0, 1) := by decide +kernel
theorem dX6_fewest_9 : decode cX6_fewest 9 = .ok (.iload_n 1, 1) := by decide +kernel
theorem dX6_fewest_10 : decode cX6_fewest 10 = .ok (.iload_n 2, 1) := by decide +kernel
theorem dX6_fewest_11 : decode cX6_fewest 11 = .ok (.i2l, 1) := by decide +kernel
theorem dX6_fewest_12 : decode cX6_fewest 12 = .ok (.invokevirtual 144, 3) := by decide +kernel
theorem dX6_fewest_15 : decode cX6_fewest 15 = .ok (.ifCond .eq 18, 3) := by decide +kernel
theorem dX6_fewest_18 : decode cX6_fewest 18 = .ok (.aload_n 0, 1) := by decide +kernel
theorem dX6_fewest_19 : decode cX6_fewest 19 = .ok (.iload_n 1, 1) := by decide +kernel
theorem dX6_fewest_20 : decode cX6_fewest 20 = .ok (.aload_n 0, 1) := by decide +kernel
theorem dX6_fewest_21 : decode cX6_fewest 21 = .ok (.getfield 43, 3) := by decide +kernel
theorem dX6_fewest_24 : decode cX6_fewest 24 = .ok (.iload_n 1, 1) := by decide +kernel
theorem dX6_fewest_25 : decode cX6_fewest 25 = .ok (.iaload, 1) := by decide +kernel
theorem dX6_fewest_26 : decode cX6_fewest 26 = .ok (.iload_n 2, 1) := by decide +kernel
theorem dX6_fewest_27 : decode cX6_fewest 27 = .ok (.invokevirtual 127, 3) := by decide +kernel
theorem dX6_fewest_30 : decode cX6_fewest 30 = .ok (.goto 9, 3) := by decide +kernel
theorem dX6_fewest_33 : decode cX6_fewest 33 = .ok (.aload_n 0, 1) := by decide +kernel
theorem dX6_fewest_34 : decode cX6_fewest 34 = .ok (.bipush (-2), 2) := by decide +kernel
theorem dX6_fewest_36 : decode cX6_fewest 36 = .ok (.invokevirtual 96, 3) := by decide +kernel
theorem dX6_fewest_39 : decode cX6_fewest 39 = .ok (.ireturn, 1) := by decide +kernel
theorem dX6_between_0 : decode cX6_between 0 = .ok (.aload_n 0, 1) := by decide +kernel
theorem dX6_between_1 : decode cX6_between 1 = .ok (.iload_n 1, 1) := by decide +kernel
theorem dX6_between_2 : decode cX6_between 2 = .ok (.invokevirtual 106, 3) := by decide +kernel
theorem dX6_between_5 : decode cX6_between 5 = .ok (.ifCond .eq 33, 3) := by decide +kernel
theorem dX6_between_8 : decode cX6_between 8 = .ok (.aload_n 0, 1) := by decide +kernel
theorem dX6_between_9 : decode cX6_between 9 = .ok (.iload_n 1, 1) := by decide +kernel
theorem dX6_between_10 : decode cX6_between 10 = .ok (.iload_n 2, 1) := by decide +kernel
theorem dX6_between_11 : decode cX6_between 11 = .ok (.i2l, 1) := by decide +kernel
theorem dX6_between_12 : decode cX6_between 12 = .ok (.invokevirtual 144, 3) := by decide +kernel
theorem dX6_between_15 : decode cX6_between 15 = .ok (.ifCond .eq 23, 3) := by decide +kernel
theorem dX6_between_18 : decode cX6_between 18 = .ok (.aload_n 0, 1) := by decide +kernel
theorem dX6_between_19 : decode cX6_between 19 = .ok (.iload_n 1, 1) := by decide +kernel
theorem dX6_between_20 : decode cX6_between 20 = .ok (.iload_n 3, 1) := by decide +kernel
theorem dX6_between_21 : decode cX6_between 21 = .ok (.i2l, 1) := by decide +kernel
theorem dX6_between_22 : decode cX6_between 22 = .ok (.invokevirtual 144, 3) := by decide +kernel
theorem dX6_between_25 : decode cX6_between 25 = .ok (.ifCond .eq 13, 3) := by decide +kernel
theorem dX6_between_28 : decode cX6_between 28 = .ok (.aload_n 0, 1) := by decide +kernel
theorem dX6_between_29 : decode cX6_between 29 = .ok (.iload_n 1, 1) := by decide +kernel
theorem dX6_between_30 : decode cX6_between 30 = .ok (.iload_n 2, 1) := by decide +kernel
theorem dX6_between_31 : decode cX6_between 31 = .ok (.iload_n 3, 1) := by decide +kernel
theorem dX6_between_32 : decode cX6_between 32 = .ok (.invokevirtual 127, 3) := by decide +kernel
theorem dX6_between_35 : decode cX6_between 35 = .ok (.goto 9, 3) := by decide +kernel
theorem dX6_between_38 : decode cX6_between 38 = .ok (.aload_n 0, 1) := by decide +kernel
theorem dX6_between_39 : decode cX6_between 39 = .ok (.bipush (-2), 2) := by decide +kernel
theorem dX6_between_41 : decode cX6_between 41 = .ok (.invokevirtual 96, 3) := by decide +kernel
theorem dX6_between_44 : decode cX6_between 44 = .ok (.ireturn, 1) := by decide +kernel
theorem dX6_nextMove_0 : decode cX6_nextMove 0 = .ok (.iconst 0, 1) := by decide +kernel
theorem dX6_nextMove_1 : decode cX6_nextMove 1 = .ok (.istore_n 3, 1) := by decide +kernel
theorem dX6_nextMove_2 : decode cX6_nextMove 2 = .ok (.aload_n 0, 1) := by decide +kernel
theorem dX6_nextMove_3 : decode cX6_nextMove 3 = .ok (.iload_n 1, 1) := by decide +kernel
theorem dX6_nextMove_4 : decode cX6_nextMove 4 = .ok (.iload_n 2, 1) := by decide +kernel
theorem dX6_nextMove_5 : decode cX6_nextMove 5 = .ok (.iload_n 3, 1) := by decide +kernel
theorem dX6_nextMove_6 : decode cX6_nextMove 6 = .ok (.invokevirtual 131, 3) := by decide +kernel
theorem dX6_nextMove_9 : decode cX6_nextMove 9 = .ok (.ifCond .eq 25, 3) := by decide +kernel
theorem dX6_nextMove_12 : decode cX6_nextMove 12 = .ok (.aload_n 0, 1) := by decide +kernel
theorem dX6_nextMove_13 : decode cX6_nextMove 13 = .ok (.getfield 67, 3) := by decide +kernel
theorem dX6_nextMove_16 : decode cX6_nextMove 16 = .ok (.iload_n 2, 1) := by decide +kernel
theorem dX6_nextMove_17 : decode cX6_nextMove 17 = .ok (.iload_n 3, 1) := by decide +kernel
theorem dX6_nextMove_18 : decode cX6_nextMove 18 = .ok (.invokestatic 212, 3) := by decide +kernel
theorem dX6_nextMove_21 : decode cX6_nextMove 21 = .ok (.ixor, 1) := by decide +kernel
theorem dX6_nextMove_22 : decode cX6_nextMove 22 = .ok (.iaload, 1) := by decide +kernel
theorem dX6_nextMove_23 : decode cX6_nextMove 23 = .ok (.aload_n 0, 1) := by decide +kernel
theorem dX6_nextMove_24 : decode cX6_nextMove 24 = .ok (.getfield 67, 3) := by decide +kernel
theorem dX6_nextMove_27 : decode cX6_nextMove 27 = .ok (.iload_n 2, 1) := by decide +kernel
theorem dX6_nextMove_28 : decode cX6_nextMove 28 = .ok (.iaload, 1) := by decide +kernel
theorem dX6_nextMove_29 : decode cX6_nextMove 29 = .ok (.iconst 1, 1) := by decide +kernel
theorem dX6_nextMove_30 : decode cX6_nextMove 30 = .ok (.isub, 1) := by decide +kernel
theorem dX6_nextMove_31 : decode cX6_nextMove 31 = .ok (.if_icmp .eq 9, 3) := by decide +kernel
theorem dX6_nextMove_34 : decode cX6_nextMove 34 = .ok (.iinc 3 1, 3) := by decide +kernel
theorem dX6_nextMove_37 : decode cX6_nextMove 37 = .ok (.goto (-35), 3) := by decide +kernel
theorem dX6_nextMove_40 : decode cX6_nextMove 40 = .ok (.iload_n 3, 1) := by decide +kernel
theorem dX6_nextMove_41 : decode cX6_nextMove 41 = .ok (.ireturn, 1) := by decide +kernel
theorem dX6_way_0 : decode cX6_way 0 = .ok (.aload_n 0, 1) := by decide +kernel
theorem dX6_way_1 : decode cX6_way 1 = .ok (.iload_n 1, 1) := by decide +kernel
theorem dX6_way_2 : decode cX6_way 2 = .ok (.invokevirtual 106, 3) := by decide +kernel
theorem dX6_way_5 : decode cX6_way 5 = .ok (.ifCond .eq 17, 3) := by decide +kernel
theorem dX6_way_8 : decode cX6_way 8 = .ok (.aload_n 0, 1) := by decide +kernel
theorem dX6_way_9 : decode cX6_way 9 = .ok (.iload_n 1, 1) := by decide +kernel
theorem dX6_way_10 : decode cX6_way 10 = .ok (.iload_n 2, 1) := by decide +kernel
theorem dX6_way_11 : decode cX6_way 11 = .ok (.i2l, 1) := by decide +kernel
theorem dX6_way_12 : decode cX6_way 12 = .ok (.invokevirtual 144, 3) := by decide +kernel
theorem dX6_way_15 : decode cX6_way 15 = .ok (.ifCond .eq 7, 3) := by decide +kernel
theorem dX6_way_18 : decode cX6_way 18 = .ok (.iload_n 3, 1) := by decide +kernel
theorem dX6_way_19 : decode cX6_way 19 = .ok (.ifCond .ge 10, 3) := by decide +kernel
theorem dX6_way_22 : decode cX6_way 22 = .ok (.aload_n 0, 1) := by decide +kernel
theorem dX6_way_23 : decode cX6_way 23 = .ok (.bipush (-2), 2) := by decide +kernel
theorem dX6_way_25 : decode cX6_way 25 = .ok (.invokevirtual 96, 3) := by decide +kernel
theorem dX6_way_28 : decode cX6_way 28 = .ok (.ireturn, 1) := by decide +kernel
theorem dX6_way_29 : decode cX6_way 29 = .ok (.aload_n 0, 1) := by decide +kernel
theorem dX6_way_30 : decode cX6_way 30 = .ok (.iload_n 1, 1) := by decide +kernel
theorem dX6_way_31 : decode cX6_way 31 = .ok (.iload_n 2, 1) := by decide +kernel
theorem dX6_way_32 : decode cX6_way 32 = .ok (.iconst 0, 1) := by decide +kernel
theorem dX6_way_33 : decode cX6_way 33 = .ok (.invokevirtual 269, 3) := by decide +kernel
theorem dX6_way_36 : decode cX6_way 36 = .ok (.aload_n 0, 1) := by decide +kernel
theorem dX6_way_37 : decode cX6_way 37 = .ok (.getfield 43, 3) := by decide +kernel
theorem dX6_way_40 : decode cX6_way 40 = .ok (.iload_n 1, 1) := by decide +kernel
theorem dX6_way_41 : decode cX6_way 41 = .ok (.iaload, 1) := by decide +kernel
theorem dX6_way_42 : decode cX6_way 42 = .ok (.istore 4, 2) := by decide +kernel
theorem dX6_way_44 : decode cX6_way 44 = .ok (.iload_n 3, 1) := by decide +kernel
theorem dX6_way_45 : decode cX6_way 45 = .ok (.aload_n 0, 1) := by decide +kernel
theorem dX6_way_46 : decode cX6_way 46 = .ok (.getfield 67, 3) := by decide +kernel
theorem dX6_way_49 : decode cX6_way 49 = .ok (.iload 4, 2) := by decide +kernel
theorem dX6_way_51 : decode cX6_way 51 = .ok (.iaload, 1) := by decide +kernel
theorem dX6_way_52 : decode cX6_way 52 = .ok (.if_icmp .lt 10, 3) := by decide +kernel
theorem dX6_way_55 : decode cX6_way 55 = .ok (.aload_n 0, 1) := by decide +kernel
theorem dX6_way_56 : decode cX6_way 56 = .ok (.bipush (-5), 2) := by decide +kernel
theorem dX6_way_58 : decode cX6_way 58 = .ok (.invokevirtual 96, 3) := by decide +kernel
theorem dX6_way_61 : decode cX6_way 61 = .ok (.ireturn, 1) := by decide +kernel
theorem dX6_way_62 : decode cX6_way 62 = .ok (.iconst 0, 1) := by decide +kernel
theorem dX6_way_63 : decode cX6_way 63 = .ok (.istore 5, 2) := by decide +kernel
theorem dX6_way_65 : decode cX6_way 65 = .ok (.iload 5, 2) := by decide +kernel
theorem dX6_way_67 : decode cX6_way 67 = .ok (.iload_n 3, 1) := by decide +kernel
theorem dX6_way_68 : decode cX6_way 68 = .ok (.if_icmp .ge 24, 3) := by decide +kernel
theorem dX6_way_71 : decode cX6_way 71 = .ok (.iload 4, 2) := by decide +kernel
theorem dX6_way_73 : decode cX6_way 73 = .ok (.aload_n 0, 1) := by decide +kernel
theorem dX6_way_74 : decode cX6_way 74 = .ok (.iload_n 1, 1) := by decide +kernel
theorem dX6_way_75 : decode cX6_way 75 = .ok (.iload 4, 2) := by decide +kernel
theorem dX6_way_77 : decode cX6_way 77 = .ok (.invokevirtual 273, 3) := by decide +kernel
theorem dX6_way_80 : decode cX6_way 80 = .ok (.invokestatic 212, 3) := by decide +kernel
theorem dX6_way_83 : decode cX6_way 83 = .ok (.ixor, 1) := by decide +kernel
theorem dX6_way_84 : decode cX6_way 84 = .ok (.istore 4, 2) := by decide +kernel
theorem dX6_way_86 : decode cX6_way 86 = .ok (.iinc 5 1, 3) := by decide +kernel
theorem dX6_way_89 : decode cX6_way 89 = .ok (.goto (-24), 3) := by decide +kernel
theorem dX6_way_92 : decode cX6_way 92 = .ok (.aload_n 0, 1) := by decide +kernel
theorem dX6_way_93 : decode cX6_way 93 = .ok (.iload_n 1, 1) := by decide +kernel
theorem dX6_way_94 : decode cX6_way 94 = .ok (.iload 4, 2) := by decide +kernel
theorem dX6_way_96 : decode cX6_way 96 = .ok (.invokevirtual 273, 3) := by decide +kernel
theorem dX6_way_99 : decode cX6_way 99 = .ok (.ireturn, 1) := by decide +kernel
theorem dX6_placeOf_0 : decode cX6_placeOf 0 = .ok (.lconst 0, 1) := by decide +kernel
theorem dX6_placeOf_1 : decode cX6_placeOf 1 = .ok (.lstore_n 2, 1) := by decide +kernel
theorem dX6_placeOf_2 : decode cX6_placeOf 2 = .ok (.lload_n 0, 1) := by decide +kernel
theorem dX6_placeOf_3 : decode cX6_placeOf 3 = .ok (.lstore 4, 2) := by decide +kernel
theorem dX6_placeOf_5 : decode cX6_placeOf 5 = .ok (.lload 4, 2) := by decide +kernel
theorem dX6_placeOf_7 : decode cX6_placeOf 7 = .ok (.lconst 0, 1) := by decide +kernel
theorem dX6_placeOf_8 : decode cX6_placeOf 8 = .ok (.lcmp, 1) := by decide +kernel
theorem dX6_placeOf_9 : decode cX6_placeOf 9 = .ok (.ifCond .eq 17, 3) := by decide +kernel
theorem dX6_placeOf_12 : decode cX6_placeOf 12 = .ok (.lload_n 2, 1) := by decide +kernel
theorem dX6_placeOf_13 : decode cX6_placeOf 13 = .ok (.lload 4, 2) := by decide +kernel
theorem dX6_placeOf_15 : decode cX6_placeOf 15 = .ok (.lxor, 1) := by decide +kernel
theorem dX6_placeOf_16 : decode cX6_placeOf 16 = .ok (.lstore_n 2, 1) := by decide +kernel
theorem dX6_placeOf_17 : decode cX6_placeOf 17 = .ok (.lload 4, 2) := by decide +kernel
theorem dX6_placeOf_19 : decode cX6_placeOf 19 = .ok (.iconst 1, 1) := by decide +kernel
theorem dX6_placeOf_20 : decode cX6_placeOf 20 = .ok (.lshr, 1) := by decide +kernel
theorem dX6_placeOf_21 : decode cX6_placeOf 21 = .ok (.lstore 4, 2) := by decide +kernel
theorem dX6_placeOf_23 : decode cX6_placeOf 23 = .ok (.goto (-18), 3) := by decide +kernel
theorem dX6_placeOf_26 : decode cX6_placeOf 26 = .ok (.lload_n 2, 1) := by decide +kernel
theorem dX6_placeOf_27 : decode cX6_placeOf 27 = .ok (.lreturn, 1) := by decide +kernel
theorem dX6_place_0 : decode cX6_place 0 = .ok (.lload_n 1, 1) := by decide +kernel
theorem dX6_place_1 : decode cX6_place 1 = .ok (.lconst 0, 1) := by decide +kernel
theorem dX6_place_2 : decode cX6_place 2 = .ok (.lcmp, 1) := by decide +kernel
theorem dX6_place_3 : decode cX6_place 3 = .ok (.ifCond .lt 19, 3) := by decide +kernel
theorem dX6_place_6 : decode cX6_place 6 = .ok (.lload_n 1, 1) := by decide +kernel
theorem dX6_place_7 : decode cX6_place 7 = .ok (.bipush 60, 2) := by decide +kernel
theorem dX6_place_9 : decode cX6_place 9 = .ok (.lshr, 1) := by decide +kernel
theorem dX6_place_10 : decode cX6_place 10 = .ok (.lconst 0, 1) := by decide +kernel
theorem dX6_place_11 : decode cX6_place 11 = .ok (.lcmp, 1) := by decide +kernel
theorem dX6_place_12 : decode cX6_place 12 = .ok (.ifCond .ne 10, 3) := by decide +kernel
theorem dX6_place_15 : decode cX6_place 15 = .ok (.lload_n 1, 1) := by decide +kernel
theorem dX6_place_16 : decode cX6_place 16 = .ok (.invokestatic 123, 3) := by decide +kernel
theorem dX6_place_19 : decode cX6_place 19 = .ok (.goto 10, 3) := by decide +kernel
theorem dX6_place_22 : decode cX6_place 22 = .ok (.aload_n 0, 1) := by decide +kernel
theorem dX6_place_23 : decode cX6_place 23 = .ok (.bipush (-2), 2) := by decide +kernel
theorem dX6_place_25 : decode cX6_place 25 = .ok (.invokevirtual 96, 3) := by decide +kernel
theorem dX6_place_28 : decode cX6_place 28 = .ok (.i2l, 1) := by decide +kernel
theorem dX6_place_29 : decode cX6_place 29 = .ok (.lreturn, 1) := by decide +kernel
theorem dX6_setOf_0 : decode cX6_setOf 0 = .ok (.lload_n 1, 1) := by decide +kernel
theorem dX6_setOf_1 : decode cX6_setOf 1 = .ok (.lconst 0, 1) := by decide +kernel
theorem dX6_setOf_2 : decode cX6_setOf 2 = .ok (.lcmp, 1) := by decide +kernel
theorem dX6_setOf_3 : decode cX6_setOf 3 = .ok (.ifCond .lt 20, 3) := by decide +kernel
theorem dX6_setOf_6 : decode cX6_setOf 6 = .ok (.lload_n 1, 1) := by decide +kernel
theorem dX6_setOf_7 : decode cX6_setOf 7 = .ok (.bipush 60, 2) := by decide +kernel
theorem dX6_setOf_9 : decode cX6_setOf 9 = .ok (.lshr, 1) := by decide +kernel
theorem dX6_setOf_10 : decode cX6_setOf 10 = .ok (.lconst 0, 1) := by decide +kernel
theorem dX6_setOf_11 : decode cX6_setOf 11 = .ok (.lcmp, 1) := by decide +kernel
theorem dX6_setOf_12 : decode cX6_setOf 12 = .ok (.ifCond .ne 11, 3) := by decide +kernel
theorem dX6_setOf_15 : decode cX6_setOf 15 = .ok (.lload_n 1, 1) := by decide +kernel
theorem dX6_setOf_16 : decode cX6_setOf 16 = .ok (.lload_n 1, 1) := by decide +kernel
theorem dX6_setOf_17 : decode cX6_setOf 17 = .ok (.iconst 1, 1) := by decide +kernel
theorem dX6_setOf_18 : decode cX6_setOf 18 = .ok (.lshr, 1) := by decide +kernel
theorem dX6_setOf_19 : decode cX6_setOf 19 = .ok (.lxor, 1) := by decide +kernel
theorem dX6_setOf_20 : decode cX6_setOf 20 = .ok (.goto 10, 3) := by decide +kernel
theorem dX6_setOf_23 : decode cX6_setOf 23 = .ok (.aload_n 0, 1) := by decide +kernel
theorem dX6_setOf_24 : decode cX6_setOf 24 = .ok (.bipush (-2), 2) := by decide +kernel
theorem dX6_setOf_26 : decode cX6_setOf 26 = .ok (.invokevirtual 96, 3) := by decide +kernel
theorem dX6_setOf_29 : decode cX6_setOf 29 = .ok (.i2l, 1) := by decide +kernel
theorem dX6_setOf_30 : decode cX6_setOf 30 = .ok (.lreturn, 1) := by decide +kernel
theorem dX6_reach_0 : decode cX6_reach 0 = .ok (.aload_n 0, 1) := by decide +kernel
theorem dX6_reach_1 : decode cX6_reach 1 = .ok (.iload_n 1, 1) := by decide +kernel
theorem dX6_reach_2 : decode cX6_reach 2 = .ok (.invokevirtual 106, 3) := by decide +kernel
theorem dX6_reach_5 : decode cX6_reach 5 = .ok (.ifCond .ne 10, 3) := by decide +kernel
theorem dX6_reach_8 : decode cX6_reach 8 = .ok (.aload_n 0, 1) := by decide +kernel
theorem dX6_reach_9 : decode cX6_reach 9 = .ok (.bipush (-2), 2) := by decide +kernel
theorem dX6_reach_11 : decode cX6_reach 11 = .ok (.invokevirtual 96, 3) := by decide +kernel
theorem dX6_reach_14 : decode cX6_reach 14 = .ok (.ireturn, 1) := by decide +kernel
theorem dX6_reach_15 : decode cX6_reach 15 = .ok (.aload_n 0, 1) := by decide +kernel
theorem dX6_reach_16 : decode cX6_reach 16 = .ok (.iload_n 1, 1) := by decide +kernel
theorem dX6_reach_17 : decode cX6_reach 17 = .ok (.aload_n 0, 1) := by decide +kernel
theorem dX6_reach_18 : decode cX6_reach 18 = .ok (.getfield 43, 3) := by decide +kernel
theorem dX6_reach_21 : decode cX6_reach 21 = .ok (.iload_n 1, 1) := by decide +kernel
theorem dX6_reach_22 : decode cX6_reach 22 = .ok (.iaload, 1) := by decide +kernel
theorem dX6_reach_23 : decode cX6_reach 23 = .ok (.iconst 1, 1) := by decide +kernel
theorem dX6_reach_24 : decode cX6_reach 24 = .ok (.invokevirtual 269, 3) := by decide +kernel
theorem dX6_reach_27 : decode cX6_reach 27 = .ok (.aload_n 0, 1) := by decide +kernel
theorem dX6_reach_28 : decode cX6_reach 28 = .ok (.getfield 266, 3) := by decide +kernel
theorem dX6_reach_31 : decode cX6_reach 31 = .ok (.ireturn, 1) := by decide +kernel
theorem dX6_farthest_0 : decode cX6_farthest 0 = .ok (.aload_n 0, 1) := by decide +kernel
theorem dX6_farthest_1 : decode cX6_farthest 1 = .ok (.iload_n 1, 1) := by decide +kernel
theorem dX6_farthest_2 : decode cX6_farthest 2 = .ok (.invokevirtual 106, 3) := by decide +kernel
theorem dX6_farthest_5 : decode cX6_farthest 5 = .ok (.ifCond .eq 13, 3) := by decide +kernel
theorem dX6_farthest_8 : decode cX6_farthest 8 = .ok (.iload_n 2, 1) := by decide +kernel
theorem dX6_farthest_9 : decode cX6_farthest 9 = .ok (.i2l, 1) := by decide +kernel
theorem dX6_farthest_10 : decode cX6_farthest 10 = .ok (.lconst 0, 1) := by decide +kernel
theorem dX6_farthest_11 : decode cX6_farthest 11 = .ok (.lconst 1, 1) := by decide +kernel
theorem dX6_farthest_12 : decode cX6_farthest 12 = .ok (.invokestatic 82, 3) := by decide +kernel
theorem dX6_farthest_15 : decode cX6_farthest 15 = .ok (.ifCond .ne 10, 3) := by decide +kernel
theorem dX6_farthest_18 : decode cX6_farthest 18 = .ok (.aload_n 0, 1) := by decide +kernel
theorem dX6_farthest_19 : decode cX6_farthest 19 = .ok (.bipush (-2), 2) := by decide +kernel
theorem dX6_farthest_21 : decode cX6_farthest 21 = .ok (.invokevirtual 96, 3) := by decide +kernel
theorem dX6_farthest_24 : decode cX6_farthest 24 = .ok (.ireturn, 1) := by decide +kernel
theorem dX6_farthest_25 : decode cX6_farthest 25 = .ok (.aload_n 0, 1) := by decide +kernel
theorem dX6_farthest_26 : decode cX6_farthest 26 = .ok (.iload_n 1, 1) := by decide +kernel
theorem dX6_farthest_27 : decode cX6_farthest 27 = .ok (.aload_n 0, 1) := by decide +kernel
theorem dX6_farthest_28 : decode cX6_farthest 28 = .ok (.getfield 43, 3) := by decide +kernel
theorem dX6_farthest_31 : decode cX6_farthest 31 = .ok (.iload_n 1, 1) := by decide +kernel
theorem dX6_farthest_32 : decode cX6_farthest 32 = .ok (.iaload, 1) := by decide +kernel
theorem dX6_farthest_33 : decode cX6_farthest 33 = .ok (.iconst 1, 1) := by decide +kernel
theorem dX6_farthest_34 : decode cX6_farthest 34 = .ok (.invokevirtual 269, 3) := by decide +kernel
theorem dX6_farthest_37 : decode cX6_farthest 37 = .ok (.aload_n 0, 1) := by decide +kernel
theorem dX6_farthest_38 : decode cX6_farthest 38 = .ok (.getfield 43, 3) := by decide +kernel
theorem dX6_farthest_41 : decode cX6_farthest 41 = .ok (.iload_n 1, 1) := by decide +kernel
theorem dX6_farthest_42 : decode cX6_farthest 42 = .ok (.iaload, 1) := by decide +kernel
theorem dX6_farthest_43 : decode cX6_farthest 43 = .ok (.istore_n 3, 1) := by decide +kernel
theorem dX6_farthest_44 : decode cX6_farthest 44 = .ok (.iconst 0, 1) := by decide +kernel
theorem dX6_farthest_45 : decode cX6_farthest 45 = .ok (.istore 4, 2) := by decide +kernel
theorem dX6_farthest_47 : decode cX6_farthest 47 = .ok (.iload 4, 2) := by decide +kernel
theorem dX6_farthest_49 : decode cX6_farthest 49 = .ok (.aload_n 0, 1) := by decide +kernel
theorem dX6_farthest_50 : decode cX6_farthest 50 = .ok (.iload_n 1, 1) := by decide +kernel
theorem dX6_farthest_51 : decode cX6_farthest 51 = .ok (.invokevirtual 86, 3) := by decide +kernel
theorem dX6_farthest_54 : decode cX6_farthest 54 = .ok (.if_icmp .gt 54, 3) := by decide +kernel
theorem dX6_farthest_57 : decode cX6_farthest 57 = .ok (.aload_n 0, 1) := by decide +kernel
theorem dX6_farthest_58 : decode cX6_farthest 58 = .ok (.getfield 67, 3) := by decide +kernel
theorem dX6_farthest_61 : decode cX6_farthest 61 = .ok (.iload 4, 2) := by decide +kernel
theorem dX6_farthest_63 : decode cX6_farthest 63 = .ok (.iaload, 1) := by decide +kernel
theorem dX6_farthest_64 : decode cX6_farthest 64 = .ok (.aload_n 0, 1) := by decide +kernel
theorem dX6_farthest_65 : decode cX6_farthest 65 = .ok (.getfield 67, 3) := by decide +kernel
theorem dX6_farthest_68 : decode cX6_farthest 68 = .ok (.iload_n 3, 1) := by decide +kernel
theorem dX6_farthest_69 : decode cX6_farthest 69 = .ok (.iaload, 1) := by decide +kernel
theorem dX6_farthest_70 : decode cX6_farthest 70 = .ok (.if_icmp .gt 25, 3) := by decide +kernel
theorem dX6_farthest_73 : decode cX6_farthest 73 = .ok (.aload_n 0, 1) := by decide +kernel
theorem dX6_farthest_74 : decode cX6_farthest 74 = .ok (.getfield 67, 3) := by decide +kernel
theorem dX6_farthest_77 : decode cX6_farthest 77 = .ok (.iload 4, 2) := by decide +kernel
theorem dX6_farthest_79 : decode cX6_farthest 79 = .ok (.iaload, 1) := by decide +kernel
theorem dX6_farthest_80 : decode cX6_farthest 80 = .ok (.aload_n 0, 1) := by decide +kernel
theorem dX6_farthest_81 : decode cX6_farthest 81 = .ok (.getfield 67, 3) := by decide +kernel
theorem dX6_farthest_84 : decode cX6_farthest 84 = .ok (.iload_n 3, 1) := by decide +kernel
theorem dX6_farthest_85 : decode cX6_farthest 85 = .ok (.iaload, 1) := by decide +kernel
theorem dX6_farthest_86 : decode cX6_farthest 86 = .ok (.if_icmp .ne 14, 3) := by decide +kernel
theorem dX6_farthest_89 : decode cX6_farthest 89 = .ok (.iload 4, 2) := by decide +kernel
theorem dX6_farthest_91 : decode cX6_farthest 91 = .ok (.iload_n 3, 1) := by decide +kernel
theorem dX6_farthest_92 : decode cX6_farthest 92 = .ok (.if_icmp .ge 8, 3) := by decide +kernel
theorem dX6_farthest_95 : decode cX6_farthest 95 = .ok (.iload 4, 2) := by decide +kernel
theorem dX6_farthest_97 : decode cX6_farthest 97 = .ok (.goto 4, 3) := by decide +kernel
theorem dX6_farthest_100 : decode cX6_farthest 100 = .ok (.iload_n 3, 1) := by decide +kernel
theorem dX6_farthest_101 : decode cX6_farthest 101 = .ok (.istore_n 3, 1) := by decide +kernel
theorem dX6_farthest_102 : decode cX6_farthest 102 = .ok (.iinc 4 1, 3) := by decide +kernel
theorem dX6_farthest_105 : decode cX6_farthest 105 = .ok (.goto (-58), 3) := by decide +kernel
theorem dX6_farthest_108 : decode cX6_farthest 108 = .ok (.iload_n 2, 1) := by decide +kernel
theorem dX6_farthest_109 : decode cX6_farthest 109 = .ok (.ifCond .ne 7, 3) := by decide +kernel
theorem dX6_farthest_112 : decode cX6_farthest 112 = .ok (.iload_n 3, 1) := by decide +kernel
theorem dX6_farthest_113 : decode cX6_farthest 113 = .ok (.goto 9, 3) := by decide +kernel
theorem dX6_farthest_116 : decode cX6_farthest 116 = .ok (.aload_n 0, 1) := by decide +kernel
theorem dX6_farthest_117 : decode cX6_farthest 117 = .ok (.getfield 67, 3) := by decide +kernel
theorem dX6_farthest_120 : decode cX6_farthest 120 = .ok (.iload_n 3, 1) := by decide +kernel
theorem dX6_farthest_121 : decode cX6_farthest 121 = .ok (.iaload, 1) := by decide +kernel
theorem dX6_farthest_122 : decode cX6_farthest 122 = .ok (.ireturn, 1) := by decide +kernel
theorem dX6_arePair_0 : decode cX6_arePair 0 = .ok (.aload_n 0, 1) := by decide +kernel
theorem dX6_arePair_1 : decode cX6_arePair 1 = .ok (.iload_n 1, 1) := by decide +kernel
theorem dX6_arePair_2 : decode cX6_arePair 2 = .ok (.iload_n 3, 1) := by decide +kernel
theorem dX6_arePair_3 : decode cX6_arePair 3 = .ok (.invokevirtual 256, 3) := by decide +kernel
theorem dX6_arePair_6 : decode cX6_arePair 6 = .ok (.ifCond .eq 32, 3) := by decide +kernel
theorem dX6_arePair_9 : decode cX6_arePair 9 = .ok (.aload_n 0, 1) := by decide +kernel
theorem dX6_arePair_10 : decode cX6_arePair 10 = .ok (.iload_n 1, 1) := by decide +kernel
theorem dX6_arePair_11 : decode cX6_arePair 11 = .ok (.iload_n 2, 1) := by decide +kernel
theorem dX6_arePair_12 : decode cX6_arePair 12 = .ok (.iload_n 3, 1) := by decide +kernel
theorem dX6_arePair_13 : decode cX6_arePair 13 = .ok (.invokevirtual 131, 3) := by decide +kernel
theorem dX6_arePair_16 : decode cX6_arePair 16 = .ok (.ifCond .ne 18, 3) := by decide +kernel
theorem dX6_arePair_19 : decode cX6_arePair 19 = .ok (.aload_n 0, 1) := by decide +kernel
theorem dX6_arePair_20 : decode cX6_arePair 20 = .ok (.iload_n 1, 1) := by decide +kernel
theorem dX6_arePair_21 : decode cX6_arePair 21 = .ok (.iload_n 2, 1) := by decide +kernel
theorem dX6_arePair_22 : decode cX6_arePair 22 = .ok (.iload_n 3, 1) := by decide +kernel
theorem dX6_arePair_23 : decode cX6_arePair 23 = .ok (.invokestatic 212, 3) := by decide +kernel
theorem dX6_arePair_26 : decode cX6_arePair 26 = .ok (.ixor, 1) := by decide +kernel
theorem dX6_arePair_27 : decode cX6_arePair 27 = .ok (.iload_n 3, 1) := by decide +kernel
theorem dX6_arePair_28 : decode cX6_arePair 28 = .ok (.invokevirtual 131, 3) := by decide +kernel
theorem dX6_arePair_31 : decode cX6_arePair 31 = .ok (.ifCond .eq 7, 3) := by decide +kernel
theorem dX6_arePair_34 : decode cX6_arePair 34 = .ok (.iconst 1, 1) := by decide +kernel
theorem dX6_arePair_35 : decode cX6_arePair 35 = .ok (.goto 4, 3) := by decide +kernel
theorem dX6_arePair_38 : decode cX6_arePair 38 = .ok (.iconst 0, 1) := by decide +kernel
theorem dX6_arePair_39 : decode cX6_arePair 39 = .ok (.ireturn, 1) := by decide +kernel
theorem dX6_shape_0 : decode cX6_shape 0 = .ok (.aload_n 0, 1) := by decide +kernel
theorem dX6_shape_1 : decode cX6_shape 1 = .ok (.iload_n 1, 1) := by decide +kernel
theorem dX6_shape_2 : decode cX6_shape 2 = .ok (.invokevirtual 106, 3) := by decide +kernel
theorem dX6_shape_5 : decode cX6_shape 5 = .ok (.ifCond .ne 10, 3) := by decide +kernel
theorem dX6_shape_8 : decode cX6_shape 8 = .ok (.aload_n 0, 1) := by decide +kernel
theorem dX6_shape_9 : decode cX6_shape 9 = .ok (.bipush (-2), 2) := by decide +kernel
theorem dX6_shape_11 : decode cX6_shape 11 = .ok (.invokevirtual 96, 3) := by decide +kernel
theorem dX6_shape_14 : decode cX6_shape 14 = .ok (.ireturn, 1) := by decide +kernel
theorem dX6_shape_15 : decode cX6_shape 15 = .ok (.aload_n 0, 1) := by decide +kernel
theorem dX6_shape_16 : decode cX6_shape 16 = .ok (.iload_n 1, 1) := by decide +kernel
theorem dX6_shape_17 : decode cX6_shape 17 = .ok (.aload_n 0, 1) := by decide +kernel
theorem dX6_shape_18 : decode cX6_shape 18 = .ok (.getfield 43, 3) := by decide +kernel
theorem dX6_shape_21 : decode cX6_shape 21 = .ok (.iload_n 1, 1) := by decide +kernel
theorem dX6_shape_22 : decode cX6_shape 22 = .ok (.iaload, 1) := by decide +kernel
theorem dX6_shape_23 : decode cX6_shape 23 = .ok (.iconst 1, 1) := by decide +kernel
theorem dX6_shape_24 : decode cX6_shape 24 = .ok (.invokevirtual 269, 3) := by decide +kernel
theorem dX6_shape_27 : decode cX6_shape 27 = .ok (.iconst 0, 1) := by decide +kernel
theorem dX6_shape_28 : decode cX6_shape 28 = .ok (.istore_n 2, 1) := by decide +kernel
theorem dX6_shape_29 : decode cX6_shape 29 = .ok (.iconst 0, 1) := by decide +kernel
theorem dX6_shape_30 : decode cX6_shape 30 = .ok (.istore_n 3, 1) := by decide +kernel
theorem dX6_shape_31 : decode cX6_shape 31 = .ok (.iconst 0, 1) := by decide +kernel
theorem dX6_shape_32 : decode cX6_shape 32 = .ok (.istore 4, 2) := by decide +kernel
theorem dX6_shape_34 : decode cX6_shape 34 = .ok (.iconst 0, 1) := by decide +kernel
theorem dX6_shape_35 : decode cX6_shape 35 = .ok (.istore 5, 2) := by decide +kernel
theorem dX6_shape_37 : decode cX6_shape 37 = .ok (.iload 5, 2) := by decide +kernel
theorem dX6_shape_39 : decode cX6_shape 39 = .ok (.aload_n 0, 1) := by decide +kernel
theorem dX6_shape_40 : decode cX6_shape 40 = .ok (.iload_n 1, 1) := by decide +kernel
theorem dX6_shape_41 : decode cX6_shape 41 = .ok (.invokevirtual 86, 3) := by decide +kernel
theorem dX6_shape_44 : decode cX6_shape 44 = .ok (.if_icmp .gt 114, 3) := by decide +kernel
theorem dX6_shape_47 : decode cX6_shape 47 = .ok (.aload_n 0, 1) := by decide +kernel
theorem dX6_shape_48 : decode cX6_shape 48 = .ok (.getfield 67, 3) := by decide +kernel
theorem dX6_shape_51 : decode cX6_shape 51 = .ok (.iload 5, 2) := by decide +kernel
theorem dX6_shape_53 : decode cX6_shape 53 = .ok (.iaload, 1) := by decide +kernel
theorem dX6_shape_54 : decode cX6_shape 54 = .ok (.iconst (-1), 1) := by decide +kernel
theorem dX6_shape_55 : decode cX6_shape 55 = .ok (.if_icmp .eq 97, 3) := by decide +kernel
theorem dX6_shape_58 : decode cX6_shape 58 = .ok (.iconst 0, 1) := by decide +kernel
theorem dX6_shape_59 : decode cX6_shape 59 = .ok (.istore 6, 2) := by decide +kernel
theorem dX6_shape_61 : decode cX6_shape 61 = .ok (.iconst 0, 1) := by decide +kernel
theorem dX6_shape_62 : decode cX6_shape 62 = .ok (.istore 7, 2) := by decide +kernel
theorem dX6_shape_64 : decode cX6_shape 64 = .ok (.iload 7, 2) := by decide +kernel
theorem dX6_shape_66 : decode cX6_shape 66 = .ok (.bipush 20, 2) := by decide +kernel
theorem dX6_shape_68 : decode cX6_shape 68 = .ok (.if_icmp .gt 60, 3) := by decide +kernel
theorem dX6_shape_71 : decode cX6_shape 71 = .ok (.aload_n 0, 1) := by decide +kernel
theorem dX6_shape_72 : decode cX6_shape 72 = .ok (.iload_n 1, 1) := by decide +kernel
theorem dX6_shape_73 : decode cX6_shape 73 = .ok (.iload 5, 2) := by decide +kernel
theorem dX6_shape_75 : decode cX6_shape 75 = .ok (.iload 7, 2) := by decide +kernel
theorem dX6_shape_77 : decode cX6_shape 77 = .ok (.invokevirtual 276, 3) := by decide +kernel
theorem dX6_shape_80 : decode cX6_shape 80 = .ok (.ifCond .eq 24, 3) := by decide +kernel
theorem dX6_shape_83 : decode cX6_shape 83 = .ok (.aload_n 0, 1) := by decide +kernel
theorem dX6_shape_84 : decode cX6_shape 84 = .ok (.getfield 67, 3) := by decide +kernel
theorem dX6_shape_87 : decode cX6_shape 87 = .ok (.iload 5, 2) := by decide +kernel
theorem dX6_shape_89 : decode cX6_shape 89 = .ok (.iload 7, 2) := by decide +kernel
theorem dX6_shape_91 : decode cX6_shape 91 = .ok (.invokestatic 212, 3) := by decide +kernel
theorem dX6_shape_94 : decode cX6_shape 94 = .ok (.ixor, 1) := by decide +kernel
theorem dX6_shape_95 : decode cX6_shape 95 = .ok (.iaload, 1) := by decide +kernel
theorem dX6_shape_96 : decode cX6_shape 96 = .ok (.iconst (-1), 1) := by decide +kernel
theorem dX6_shape_97 : decode cX6_shape 97 = .ok (.if_icmp .eq 7, 3) := by decide +kernel
theorem dX6_shape_100 : decode cX6_shape 100 = .ok (.iconst 1, 1) := by decide +kernel
theorem dX6_shape_101 : decode cX6_shape 101 = .ok (.goto 4, 3) := by decide +kernel
theorem dX6_shape_104 : decode cX6_shape 104 = .ok (.iconst 0, 1) := by decide +kernel
theorem dX6_shape_105 : decode cX6_shape 105 = .ok (.istore 8, 2) := by decide +kernel
theorem dX6_shape_107 : decode cX6_shape 107 = .ok (.iload 6, 2) := by decide +kernel
theorem dX6_shape_109 : decode cX6_shape 109 = .ok (.iload 8, 2) := by decide +kernel
theorem dX6_shape_111 : decode cX6_shape 111 = .ok (.ifCond .eq 7, 3) := by decide +kernel
theorem dX6_shape_114 : decode cX6_shape 114 = .ok (.iconst 1, 1) := by decide +kernel
theorem dX6_shape_115 : decode cX6_shape 115 = .ok (.goto 4, 3) := by decide +kernel
theorem dX6_shape_118 : decode cX6_shape 118 = .ok (.iconst 0, 1) := by decide +kernel
theorem dX6_shape_119 : decode cX6_shape 119 = .ok (.iadd, 1) := by decide +kernel
theorem dX6_shape_120 : decode cX6_shape 120 = .ok (.istore 6, 2) := by decide +kernel
theorem dX6_shape_122 : decode cX6_shape 122 = .ok (.iinc 7 1, 3) := by decide +kernel
theorem dX6_shape_125 : decode cX6_shape 125 = .ok (.goto (-61), 3) := by decide +kernel
theorem dX6_shape_128 : decode cX6_shape 128 = .ok (.iinc 2 1, 3) := by decide +kernel
theorem dX6_shape_131 : decode cX6_shape 131 = .ok (.iload_n 3, 1) := by decide +kernel
theorem dX6_shape_132 : decode cX6_shape 132 = .ok (.iload 6, 2) := by decide +kernel
theorem dX6_shape_134 : decode cX6_shape 134 = .ok (.iadd, 1) := by decide +kernel
theorem dX6_shape_135 : decode cX6_shape 135 = .ok (.istore_n 3, 1) := by decide +kernel
theorem dX6_shape_136 : decode cX6_shape 136 = .ok (.iload 6, 2) := by decide +kernel
theorem dX6_shape_138 : decode cX6_shape 138 = .ok (.iload 4, 2) := by decide +kernel
theorem dX6_shape_140 : decode cX6_shape 140 = .ok (.if_icmp .le 8, 3) := by decide +kernel
theorem dX6_shape_143 : decode cX6_shape 143 = .ok (.iload 6, 2) := by decide +kernel
theorem dX6_shape_145 : decode cX6_shape 145 = .ok (.goto 5, 3) := by decide +kernel
theorem dX6_shape_148 : decode cX6_shape 148 = .ok (.iload 4, 2) := by decide +kernel
theorem dX6_shape_150 : decode cX6_shape 150 = .ok (.istore 4, 2) := by decide +kernel
theorem dX6_shape_152 : decode cX6_shape 152 = .ok (.iinc 5 1, 3) := by decide +kernel
theorem dX6_shape_155 : decode cX6_shape 155 = .ok (.goto (-118), 3) := by decide +kernel
theorem dX6_shape_158 : decode cX6_shape 158 = .ok (.iload_n 3, 1) := by decide +kernel
theorem dX6_shape_159 : decode cX6_shape 159 = .ok (.iconst 2, 1) := by decide +kernel
theorem dX6_shape_160 : decode cX6_shape 160 = .ok (.idiv, 1) := by decide +kernel
theorem dX6_shape_161 : decode cX6_shape 161 = .ok (.iload_n 2, 1) := by decide +kernel
theorem dX6_shape_162 : decode cX6_shape 162 = .ok (.if_icmp .lt 7, 3) := by decide +kernel
theorem dX6_shape_165 : decode cX6_shape 165 = .ok (.iconst 2, 1) := by decide +kernel
theorem dX6_shape_166 : decode cX6_shape 166 = .ok (.goto 14, 3) := by decide +kernel
theorem dX6_shape_169 : decode cX6_shape 169 = .ok (.iload 4, 2) := by decide +kernel
theorem dX6_shape_171 : decode cX6_shape 171 = .ok (.iconst 2, 1) := by decide +kernel
theorem dX6_shape_172 : decode cX6_shape 172 = .ok (.if_icmp .gt 7, 3) := by decide +kernel
theorem dX6_shape_175 : decode cX6_shape 175 = .ok (.iconst 0, 1) := by decide +kernel
theorem dX6_shape_176 : decode cX6_shape 176 = .ok (.goto 4, 3) := by decide +kernel
theorem dX6_shape_179 : decode cX6_shape 179 = .ok (.iconst 1, 1) := by decide +kernel
theorem dX6_shape_180 : decode cX6_shape 180 = .ok (.ireturn, 1) := by decide +kernel
theorem dX6_parts_0 : decode cX6_parts 0 = .ok (.aload_n 0, 1) := by decide +kernel
theorem dX6_parts_1 : decode cX6_parts 1 = .ok (.iload_n 1, 1) := by decide +kernel
theorem dX6_parts_2 : decode cX6_parts 2 = .ok (.invokevirtual 106, 3) := by decide +kernel
theorem dX6_parts_5 : decode cX6_parts 5 = .ok (.ifCond .ne 10, 3) := by decide +kernel
theorem dX6_parts_8 : decode cX6_parts 8 = .ok (.aload_n 0, 1) := by decide +kernel
theorem dX6_parts_9 : decode cX6_parts 9 = .ok (.bipush (-2), 2) := by decide +kernel
theorem dX6_parts_11 : decode cX6_parts 11 = .ok (.invokevirtual 96, 3) := by decide +kernel
theorem dX6_parts_14 : decode cX6_parts 14 = .ok (.ireturn, 1) := by decide +kernel
theorem dX6_parts_15 : decode cX6_parts 15 = .ok (.iconst 0, 1) := by decide +kernel
theorem dX6_parts_16 : decode cX6_parts 16 = .ok (.istore_n 2, 1) := by decide +kernel
theorem dX6_parts_17 : decode cX6_parts 17 = .ok (.iload_n 2, 1) := by decide +kernel
theorem dX6_parts_18 : decode cX6_parts 18 = .ok (.aload_n 0, 1) := by decide +kernel
theorem dX6_parts_19 : decode cX6_parts 19 = .ok (.iload_n 1, 1) := by decide +kernel
theorem dX6_parts_20 : decode cX6_parts 20 = .ok (.invokevirtual 86, 3) := by decide +kernel
theorem dX6_parts_23 : decode cX6_parts 23 = .ok (.if_icmp .gt 16, 3) := by decide +kernel
theorem dX6_parts_26 : decode cX6_parts 26 = .ok (.aload_n 0, 1) := by decide +kernel
theorem dX6_parts_27 : decode cX6_parts 27 = .ok (.getfield 67, 3) := by decide +kernel
theorem dX6_parts_30 : decode cX6_parts 30 = .ok (.iload_n 2, 1) := by decide +kernel
theorem dX6_parts_31 : decode cX6_parts 31 = .ok (.iconst (-1), 1) := by decide +kernel
theorem dX6_parts_32 : decode cX6_parts 32 = .ok (.iastore, 1) := by decide +kernel
theorem dX6_parts_33 : decode cX6_parts 33 = .ok (.iinc 2 1, 3) := by decide +kernel
theorem dX6_parts_36 : decode cX6_parts 36 = .ok (.goto (-19), 3) := by decide +kernel
theorem dX6_parts_39 : decode cX6_parts 39 = .ok (.iconst 0, 1) := by decide +kernel
theorem dX6_parts_40 : decode cX6_parts 40 = .ok (.istore_n 2, 1) := by decide +kernel
theorem dX6_parts_41 : decode cX6_parts 41 = .ok (.iconst 0, 1) := by decide +kernel
theorem dX6_parts_42 : decode cX6_parts 42 = .ok (.istore_n 3, 1) := by decide +kernel
theorem dX6_parts_43 : decode cX6_parts 43 = .ok (.iload_n 3, 1) := by decide +kernel
theorem dX6_parts_44 : decode cX6_parts 44 = .ok (.aload_n 0, 1) := by decide +kernel
theorem dX6_parts_45 : decode cX6_parts 45 = .ok (.iload_n 1, 1) := by decide +kernel
theorem dX6_parts_46 : decode cX6_parts 46 = .ok (.invokevirtual 86, 3) := by decide +kernel
theorem dX6_parts_49 : decode cX6_parts 49 = .ok (.if_icmp .gt 162, 3) := by decide +kernel
theorem dX6_parts_52 : decode cX6_parts 52 = .ok (.aload_n 0, 1) := by decide +kernel
theorem dX6_parts_53 : decode cX6_parts 53 = .ok (.getfield 67, 3) := by decide +kernel
theorem dX6_parts_56 : decode cX6_parts 56 = .ok (.iload_n 3, 1) := by decide +kernel
theorem dX6_parts_57 : decode cX6_parts 57 = .ok (.iaload, 1) := by decide +kernel
theorem dX6_parts_58 : decode cX6_parts 58 = .ok (.iconst (-1), 1) := by decide +kernel
theorem dX6_parts_59 : decode cX6_parts 59 = .ok (.if_icmp .ne 146, 3) := by decide +kernel
theorem dX6_parts_62 : decode cX6_parts 62 = .ok (.aload_n 0, 1) := by decide +kernel
theorem dX6_parts_63 : decode cX6_parts 63 = .ok (.getfield 67, 3) := by decide +kernel
theorem dX6_parts_66 : decode cX6_parts 66 = .ok (.iload_n 3, 1) := by decide +kernel
theorem dX6_parts_67 : decode cX6_parts 67 = .ok (.iload_n 2, 1) := by decide +kernel
theorem dX6_parts_68 : decode cX6_parts 68 = .ok (.iastore, 1) := by decide +kernel
theorem dX6_parts_69 : decode cX6_parts 69 = .ok (.aload_n 0, 1) := by decide +kernel
theorem dX6_parts_70 : decode cX6_parts 70 = .ok (.getfield 70, 3) := by decide +kernel
theorem dX6_parts_73 : decode cX6_parts 73 = .ok (.iconst 0, 1) := by decide +kernel
theorem dX6_parts_74 : decode cX6_parts 74 = .ok (.iload_n 3, 1) := by decide +kernel
theorem dX6_parts_75 : decode cX6_parts 75 = .ok (.iastore, 1) := by decide +kernel
theorem dX6_parts_76 : decode cX6_parts 76 = .ok (.aload_n 0, 1) := by decide +kernel
theorem dX6_parts_77 : decode cX6_parts 77 = .ok (.iconst 1, 1) := by decide +kernel
theorem dX6_parts_78 : decode cX6_parts 78 = .ok (.putfield 266, 3) := by decide +kernel
theorem dX6_parts_81 : decode cX6_parts 81 = .ok (.iconst 0, 1) := by decide +kernel
theorem dX6_parts_82 : decode cX6_parts 82 = .ok (.istore 4, 2) := by decide +kernel
theorem dX6_parts_84 : decode cX6_parts 84 = .ok (.iload 4, 2) := by decide +kernel
theorem dX6_parts_86 : decode cX6_parts 86 = .ok (.aload_n 0, 1) := by decide +kernel
theorem dX6_parts_87 : decode cX6_parts 87 = .ok (.getfield 266, 3) := by decide +kernel
theorem dX6_parts_90 : decode cX6_parts 90 = .ok (.if_icmp .ge 112, 3) := by decide +kernel
theorem dX6_parts_93 : decode cX6_parts 93 = .ok (.iconst 0, 1) := by decide +kernel
theorem dX6_parts_94 : decode cX6_parts 94 = .ok (.istore 5, 2) := by decide +kernel
theorem dX6_parts_96 : decode cX6_parts 96 = .ok (.iload 5, 2) := by decide +kernel
theorem dX6_parts_98 : decode cX6_parts 98 = .ok (.bipush 20, 2) := by decide +kernel
theorem dX6_parts_100 : decode cX6_parts 100 = .ok (.if_icmp .gt 96, 3) := by decide +kernel
theorem dX6_parts_103 : decode cX6_parts 103 = .ok (.aload_n 0, 1) := by decide +kernel
theorem dX6_parts_104 : decode cX6_parts 104 = .ok (.iload_n 1, 1) := by decide +kernel
theorem dX6_parts_105 : decode cX6_parts 105 = .ok (.aload_n 0, 1) := by decide +kernel
theorem dX6_parts_106 : decode cX6_parts 106 = .ok (.getfield 70, 3) := by decide +kernel
theorem dX6_parts_109 : decode cX6_parts 109 = .ok (.iload 4, 2) := by decide +kernel
theorem dX6_parts_111 : decode cX6_parts 111 = .ok (.iaload, 1) := by decide +kernel
theorem dX6_parts_112 : decode cX6_parts 112 = .ok (.iload 5, 2) := by decide +kernel
theorem dX6_parts_114 : decode cX6_parts 114 = .ok (.invokevirtual 276, 3) := by decide +kernel
theorem dX6_parts_117 : decode cX6_parts 117 = .ok (.ifCond .eq 73, 3) := by decide +kernel
theorem dX6_parts_120 : decode cX6_parts 120 = .ok (.aload_n 0, 1) := by decide +kernel
theorem dX6_parts_121 : decode cX6_parts 121 = .ok (.getfield 67, 3) := by decide +kernel
theorem dX6_parts_124 : decode cX6_parts 124 = .ok (.aload_n 0, 1) := by decide +kernel
theorem dX6_parts_125 : decode cX6_parts 125 = .ok (.getfield 70, 3) := by decide +kernel
theorem dX6_parts_128 : decode cX6_parts 128 = .ok (.iload 4, 2) := by decide +kernel
theorem dX6_parts_130 : decode cX6_parts 130 = .ok (.iaload, 1) := by decide +kernel
theorem dX6_parts_131 : decode cX6_parts 131 = .ok (.iload 5, 2) := by decide +kernel
theorem dX6_parts_133 : decode cX6_parts 133 = .ok (.invokestatic 212, 3) := by decide +kernel
theorem dX6_parts_136 : decode cX6_parts 136 = .ok (.ixor, 1) := by decide +kernel
theorem dX6_parts_137 : decode cX6_parts 137 = .ok (.iaload, 1) := by decide +kernel
theorem dX6_parts_138 : decode cX6_parts 138 = .ok (.iconst (-1), 1) := by decide +kernel
theorem dX6_parts_139 : decode cX6_parts 139 = .ok (.if_icmp .ne 51, 3) := by decide +kernel
theorem dX6_parts_142 : decode cX6_parts 142 = .ok (.aload_n 0, 1) := by decide +kernel
theorem dX6_parts_143 : decode cX6_parts 143 = .ok (.getfield 67, 3) := by decide +kernel
theorem dX6_parts_146 : decode cX6_parts 146 = .ok (.aload_n 0, 1) := by decide +kernel
theorem dX6_parts_147 : decode cX6_parts 147 = .ok (.getfield 70, 3) := by decide +kernel
theorem dX6_parts_150 : decode cX6_parts 150 = .ok (.iload 4, 2) := by decide +kernel
theorem dX6_parts_152 : decode cX6_parts 152 = .ok (.iaload, 1) := by decide +kernel
theorem dX6_parts_153 : decode cX6_parts 153 = .ok (.iload 5, 2) := by decide +kernel
theorem dX6_parts_155 : decode cX6_parts 155 = .ok (.invokestatic 212, 3) := by decide +kernel
theorem dX6_parts_158 : decode cX6_parts 158 = .ok (.ixor, 1) := by decide +kernel
theorem dX6_parts_159 : decode cX6_parts 159 = .ok (.iload_n 2, 1) := by decide +kernel
theorem dX6_parts_160 : decode cX6_parts 160 = .ok (.iastore, 1) := by decide +kernel
theorem dX6_parts_161 : decode cX6_parts 161 = .ok (.aload_n 0, 1) := by decide +kernel
theorem dX6_parts_162 : decode cX6_parts 162 = .ok (.getfield 70, 3) := by decide +kernel
theorem dX6_parts_165 : decode cX6_parts 165 = .ok (.aload_n 0, 1) := by decide +kernel
theorem dX6_parts_166 : decode cX6_parts 166 = .ok (.dup, 1) := by decide +kernel
theorem dX6_parts_167 : decode cX6_parts 167 = .ok (.getfield 266, 3) := by decide +kernel
theorem dX6_parts_170 : decode cX6_parts 170 = .ok (.dup_x1, 1) := by decide +kernel
theorem dX6_parts_171 : decode cX6_parts 171 = .ok (.iconst 1, 1) := by decide +kernel
theorem dX6_parts_172 : decode cX6_parts 172 = .ok (.iadd, 1) := by decide +kernel
theorem dX6_parts_173 : decode cX6_parts 173 = .ok (.putfield 266, 3) := by decide +kernel
theorem dX6_parts_176 : decode cX6_parts 176 = .ok (.aload_n 0, 1) := by decide +kernel
theorem dX6_parts_177 : decode cX6_parts 177 = .ok (.getfield 70, 3) := by decide +kernel
theorem dX6_parts_180 : decode cX6_parts 180 = .ok (.iload 4, 2) := by decide +kernel
theorem dX6_parts_182 : decode cX6_parts 182 = .ok (.iaload, 1) := by decide +kernel
theorem dX6_parts_183 : decode cX6_parts 183 = .ok (.iload 5, 2) := by decide +kernel
theorem dX6_parts_185 : decode cX6_parts 185 = .ok (.invokestatic 212, 3) := by decide +kernel
theorem dX6_parts_188 : decode cX6_parts 188 = .ok (.ixor, 1) := by decide +kernel
theorem dX6_parts_189 : decode cX6_parts 189 = .ok (.iastore, 1) := by decide +kernel
theorem dX6_parts_190 : decode cX6_parts 190 = .ok (.iinc 5 1, 3) := by decide +kernel
theorem dX6_parts_193 : decode cX6_parts 193 = .ok (.goto (-97), 3) := by decide +kernel
theorem dX6_parts_196 : decode cX6_parts 196 = .ok (.iinc 4 1, 3) := by decide +kernel
theorem dX6_parts_199 : decode cX6_parts 199 = .ok (.goto (-115), 3) := by decide +kernel
theorem dX6_parts_202 : decode cX6_parts 202 = .ok (.iinc 2 1, 3) := by decide +kernel
theorem dX6_parts_205 : decode cX6_parts 205 = .ok (.iinc 3 1, 3) := by decide +kernel
theorem dX6_parts_208 : decode cX6_parts 208 = .ok (.goto (-165), 3) := by decide +kernel
theorem dX6_parts_211 : decode cX6_parts 211 = .ok (.iload_n 2, 1) := by decide +kernel
theorem dX6_parts_212 : decode cX6_parts 212 = .ok (.ireturn, 1) := by decide +kernel
theorem dX6_longest_0 : decode cX6_longest 0 = .ok (.aload_n 0, 1) := by decide +kernel
theorem dX6_longest_1 : decode cX6_longest 1 = .ok (.iload_n 1, 1) := by decide +kernel
theorem dX6_longest_2 : decode cX6_longest 2 = .ok (.invokevirtual 106, 3) := by decide +kernel
theorem dX6_longest_5 : decode cX6_longest 5 = .ok (.ifCond .ne 10, 3) := by decide +kernel
theorem dX6_longest_8 : decode cX6_longest 8 = .ok (.aload_n 0, 1) := by decide +kernel
theorem dX6_longest_9 : decode cX6_longest 9 = .ok (.bipush (-2), 2) := by decide +kernel
theorem dX6_longest_11 : decode cX6_longest 11 = .ok (.invokevirtual 96, 3) := by decide +kernel
theorem dX6_longest_14 : decode cX6_longest 14 = .ok (.ireturn, 1) := by decide +kernel
theorem dX6_longest_15 : decode cX6_longest 15 = .ok (.aload_n 0, 1) := by decide +kernel
theorem dX6_longest_16 : decode cX6_longest 16 = .ok (.getfield 40, 3) := by decide +kernel
theorem dX6_longest_19 : decode cX6_longest 19 = .ok (.iload_n 1, 1) := by decide +kernel
theorem dX6_longest_20 : decode cX6_longest 20 = .ok (.iaload, 1) := by decide +kernel
theorem dX6_longest_21 : decode cX6_longest 21 = .ok (.bipush 6, 2) := by decide +kernel
theorem dX6_longest_23 : decode cX6_longest 23 = .ok (.if_icmp .le 10, 3) := by decide +kernel
theorem dX6_longest_26 : decode cX6_longest 26 = .ok (.aload_n 0, 1) := by decide +kernel
theorem dX6_longest_27 : decode cX6_longest 27 = .ok (.bipush (-5), 2) := by decide +kernel
theorem dX6_longest_29 : decode cX6_longest 29 = .ok (.invokevirtual 96, 3) := by decide +kernel
theorem dX6_longest_32 : decode cX6_longest 32 = .ok (.ireturn, 1) := by decide +kernel
theorem dX6_longest_33 : decode cX6_longest 33 = .ok (.iconst 0, 1) := by decide +kernel
theorem dX6_longest_34 : decode cX6_longest 34 = .ok (.istore_n 2, 1) := by decide +kernel
theorem dX6_longest_35 : decode cX6_longest 35 = .ok (.iconst 0, 1) := by decide +kernel
theorem dX6_longest_36 : decode cX6_longest 36 = .ok (.istore_n 3, 1) := by decide +kernel
theorem dX6_longest_37 : decode cX6_longest 37 = .ok (.iload_n 3, 1) := by decide +kernel
theorem dX6_longest_38 : decode cX6_longest 38 = .ok (.aload_n 0, 1) := by decide +kernel
theorem dX6_longest_39 : decode cX6_longest 39 = .ok (.iload_n 1, 1) := by decide +kernel
theorem dX6_longest_40 : decode cX6_longest 40 = .ok (.invokevirtual 86, 3) := by decide +kernel
theorem dX6_longest_43 : decode cX6_longest 43 = .ok (.if_icmp .gt 58, 3) := by decide +kernel
theorem dX6_longest_46 : decode cX6_longest 46 = .ok (.aload_n 0, 1) := by decide +kernel
theorem dX6_longest_47 : decode cX6_longest 47 = .ok (.iload_n 1, 1) := by decide +kernel
theorem dX6_longest_48 : decode cX6_longest 48 = .ok (.iload_n 3, 1) := by decide +kernel
theorem dX6_longest_49 : decode cX6_longest 49 = .ok (.iconst 1, 1) := by decide +kernel
theorem dX6_longest_50 : decode cX6_longest 50 = .ok (.invokevirtual 269, 3) := by decide +kernel
theorem dX6_longest_53 : decode cX6_longest 53 = .ok (.iconst 0, 1) := by decide +kernel
theorem dX6_longest_54 : decode cX6_longest 54 = .ok (.istore 4, 2) := by decide +kernel
theorem dX6_longest_56 : decode cX6_longest 56 = .ok (.iload 4, 2) := by decide +kernel
theorem dX6_longest_58 : decode cX6_longest 58 = .ok (.aload_n 0, 1) := by decide +kernel
theorem dX6_longest_59 : decode cX6_longest 59 = .ok (.iload_n 1, 1) := by decide +kernel
theorem dX6_longest_60 : decode cX6_longest 60 = .ok (.invokevirtual 86, 3) := by decide +kernel
theorem dX6_longest_63 : decode cX6_longest 63 = .ok (.if_icmp .gt 32, 3) := by decide +kernel
theorem dX6_longest_66 : decode cX6_longest 66 = .ok (.aload_n 0, 1) := by decide +kernel
theorem dX6_longest_67 : decode cX6_longest 67 = .ok (.getfield 67, 3) := by decide +kernel
theorem dX6_longest_70 : decode cX6_longest 70 = .ok (.iload 4, 2) := by decide +kernel
theorem dX6_longest_72 : decode cX6_longest 72 = .ok (.iaload, 1) := by decide +kernel
theorem dX6_longest_73 : decode cX6_longest 73 = .ok (.iload_n 2, 1) := by decide +kernel
theorem dX6_longest_74 : decode cX6_longest 74 = .ok (.if_icmp .le 13, 3) := by decide +kernel
theorem dX6_longest_77 : decode cX6_longest 77 = .ok (.aload_n 0, 1) := by decide +kernel
theorem dX6_longest_78 : decode cX6_longest 78 = .ok (.getfield 67, 3) := by decide +kernel
theorem dX6_longest_81 : decode cX6_longest 81 = .ok (.iload 4, 2) := by decide +kernel
theorem dX6_longest_83 : decode cX6_longest 83 = .ok (.iaload, 1) := by decide +kernel
theorem dX6_longest_84 : decode cX6_longest 84 = .ok (.goto 4, 3) := by decide +kernel
theorem dX6_longest_87 : decode cX6_longest 87 = .ok (.iload_n 2, 1) := by decide +kernel
theorem dX6_longest_88 : decode cX6_longest 88 = .ok (.istore_n 2, 1) := by decide +kernel
theorem dX6_longest_89 : decode cX6_longest 89 = .ok (.iinc 4 1, 3) := by decide +kernel
theorem dX6_longest_92 : decode cX6_longest 92 = .ok (.goto (-36), 3) := by decide +kernel
theorem dX6_longest_95 : decode cX6_longest 95 = .ok (.iinc 3 1, 3) := by decide +kernel
theorem dX6_longest_98 : decode cX6_longest 98 = .ok (.goto (-61), 3) := by decide +kernel
theorem dX6_longest_101 : decode cX6_longest 101 = .ok (.iload_n 2, 1) := by decide +kernel
theorem dX6_longest_102 : decode cX6_longest 102 = .ok (.ireturn, 1) := by decide +kernel
theorem dX6_lone_0 : decode cX6_lone 0 = .ok (.aload_n 0, 1) := by decide +kernel
theorem dX6_lone_1 : decode cX6_lone 1 = .ok (.getfield 241, 3) := by decide +kernel
theorem dX6_lone_4 : decode cX6_lone 4 = .ok (.ifnonnull 14, 3) := by decide +kernel
theorem dX6_lone_7 : decode cX6_lone 7 = .ok (.aload_n 0, 1) := by decide +kernel
theorem dX6_lone_8 : decode cX6_lone 8 = .ok (.new 8, 3) := by decide +kernel
theorem dX6_lone_11 : decode cX6_lone 11 = .ok (.dup, 1) := by decide +kernel
theorem dX6_lone_12 : decode cX6_lone 12 = .ok (.invokespecial 245, 3) := by decide +kernel
theorem dX6_lone_15 : decode cX6_lone 15 = .ok (.putfield 241, 3) := by decide +kernel
theorem dX6_lone_18 : decode cX6_lone 18 = .ok (.aload_n 0, 1) := by decide +kernel
theorem dX6_lone_19 : decode cX6_lone 19 = .ok (.getfield 241, 3) := by decide +kernel
theorem dX6_lone_22 : decode cX6_lone 22 = .ok (.aload_n 0, 1) := by decide +kernel
theorem dX6_lone_23 : decode cX6_lone 23 = .ok (.invokevirtual 246, 3) := by decide +kernel
theorem dX6_lone_26 : decode cX6_lone 26 = .ok (.aload_n 0, 1) := by decide +kernel
theorem dX6_lone_27 : decode cX6_lone 27 = .ok (.getfield 241, 3) := by decide +kernel
theorem dX6_lone_30 : decode cX6_lone 30 = .ok (.iconst 0, 1) := by decide +kernel
theorem dX6_lone_31 : decode cX6_lone 31 = .ok (.putfield 79, 3) := by decide +kernel
theorem dX6_lone_34 : decode cX6_lone 34 = .ok (.aload_n 0, 1) := by decide +kernel
theorem dX6_lone_35 : decode cX6_lone 35 = .ok (.getfield 241, 3) := by decide +kernel
theorem dX6_lone_38 : decode cX6_lone 38 = .ok (.iload_n 1, 1) := by decide +kernel
theorem dX6_lone_39 : decode cX6_lone 39 = .ok (.iload_n 2, 1) := by decide +kernel
theorem dX6_lone_40 : decode cX6_lone 40 = .ok (.invokevirtual 140, 3) := by decide +kernel
theorem dX6_lone_43 : decode cX6_lone 43 = .ok (.aload_n 0, 1) := by decide +kernel
theorem dX6_lone_44 : decode cX6_lone 44 = .ok (.getfield 241, 3) := by decide +kernel
theorem dX6_lone_47 : decode cX6_lone 47 = .ok (.areturn, 1) := by decide +kernel
theorem dX6_save_0 : decode cX6_save 0 = .ok (.iload_n 1, 1) := by decide +kernel
theorem dX6_save_1 : decode cX6_save 1 = .ok (.i2l, 1) := by decide +kernel
theorem dX6_save_2 : decode cX6_save 2 = .ok (.lconst 1, 1) := by decide +kernel
theorem dX6_save_3 : decode cX6_save 3 = .ok (.ldc2_w 138, 3) := by decide +kernel
theorem dX6_save_6 : decode cX6_save 6 = .ok (.invokestatic 82, 3) := by decide +kernel
theorem dX6_save_9 : decode cX6_save 9 = .ok (.ifCond .ne 10, 3) := by decide +kernel
theorem dX6_save_12 : decode cX6_save 12 = .ok (.aload_n 0, 1) := by decide +kernel
theorem dX6_save_13 : decode cX6_save 13 = .ok (.bipush (-2), 2) := by decide +kernel
theorem dX6_save_15 : decode cX6_save 15 = .ok (.invokevirtual 96, 3) := by decide +kernel
theorem dX6_save_18 : decode cX6_save 18 = .ok (.ireturn, 1) := by decide +kernel
theorem dX6_save_19 : decode cX6_save 19 = .ok (.aload_n 0, 1) := by decide +kernel
theorem dX6_save_20 : decode cX6_save 20 = .ok (.iconst 1, 1) := by decide +kernel
theorem dX6_save_21 : decode cX6_save 21 = .ok (.iload_n 1, 1) := by decide +kernel
theorem dX6_save_22 : decode cX6_save 22 = .ok (.invokevirtual 279, 3) := by decide +kernel
theorem dX6_save_25 : decode cX6_save 25 = .ok (.iconst 0, 1) := by decide +kernel
theorem dX6_save_26 : decode cX6_save 26 = .ok (.iconst 1, 1) := by decide +kernel
theorem dX6_save_27 : decode cX6_save 27 = .ok (.iload_n 1, 1) := by decide +kernel
theorem dX6_save_28 : decode cX6_save 28 = .ok (.ishl, 1) := by decide +kernel
theorem dX6_save_29 : decode cX6_save 29 = .ok (.iconst 1, 1) := by decide +kernel
theorem dX6_save_30 : decode cX6_save 30 = .ok (.isub, 1) := by decide +kernel
theorem dX6_save_31 : decode cX6_save 31 = .ok (.iconst 0, 1) := by decide +kernel
theorem dX6_save_32 : decode cX6_save 32 = .ok (.invokevirtual 127, 3) := by decide +kernel
theorem dX6_save_35 : decode cX6_save 35 = .ok (.istore_n 2, 1) := by decide +kernel
theorem dX6_save_36 : decode cX6_save 36 = .ok (.iload_n 2, 1) := by decide +kernel
theorem dX6_save_37 : decode cX6_save 37 = .ok (.aload_n 0, 1) := by decide +kernel
theorem dX6_save_38 : decode cX6_save 38 = .ok (.iconst 2, 1) := by decide +kernel
theorem dX6_save_39 : decode cX6_save 39 = .ok (.iload_n 1, 1) := by decide +kernel
theorem dX6_save_40 : decode cX6_save 40 = .ok (.invokevirtual 279, 3) := by decide +kernel
theorem dX6_save_43 : decode cX6_save 43 = .ok (.iconst 0, 1) := by decide +kernel
theorem dX6_save_44 : decode cX6_save 44 = .ok (.iconst 1, 1) := by decide +kernel
theorem dX6_save_45 : decode cX6_save 45 = .ok (.iload_n 1, 1) := by decide +kernel
theorem dX6_save_46 : decode cX6_save 46 = .ok (.ishl, 1) := by decide +kernel
theorem dX6_save_47 : decode cX6_save 47 = .ok (.iconst 1, 1) := by decide +kernel
theorem dX6_save_48 : decode cX6_save 48 = .ok (.isub, 1) := by decide +kernel
theorem dX6_save_49 : decode cX6_save 49 = .ok (.iconst 0, 1) := by decide +kernel
theorem dX6_save_50 : decode cX6_save 50 = .ok (.invokevirtual 127, 3) := by decide +kernel
theorem dX6_save_53 : decode cX6_save 53 = .ok (.isub, 1) := by decide +kernel
theorem dX6_save_54 : decode cX6_save 54 = .ok (.ireturn, 1) := by decide +kernel
theorem dX6_luck_0 : decode cX6_luck 0 = .ok (.aload_n 0, 1) := by decide +kernel
theorem dX6_luck_1 : decode cX6_luck 1 = .ok (.iload_n 1, 1) := by decide +kernel
theorem dX6_luck_2 : decode cX6_luck 2 = .ok (.invokevirtual 106, 3) := by decide +kernel
theorem dX6_luck_5 : decode cX6_luck 5 = .ok (.ifCond .ne 10, 3) := by decide +kernel
theorem dX6_luck_8 : decode cX6_luck 8 = .ok (.aload_n 0, 1) := by decide +kernel
theorem dX6_luck_9 : decode cX6_luck 9 = .ok (.bipush (-2), 2) := by decide +kernel
theorem dX6_luck_11 : decode cX6_luck 11 = .ok (.invokevirtual 96, 3) := by decide +kernel
theorem dX6_luck_14 : decode cX6_luck 14 = .ok (.ireturn, 1) := by decide +kernel
theorem dX6_luck_15 : decode cX6_luck 15 = .ok (.aload_n 0, 1) := by decide +kernel
theorem dX6_luck_16 : decode cX6_luck 16 = .ok (.getfield 37, 3) := by decide +kernel
theorem dX6_luck_19 : decode cX6_luck 19 = .ok (.iload_n 1, 1) := by decide +kernel
theorem dX6_luck_20 : decode cX6_luck 20 = .ok (.iaload, 1) := by decide +kernel
theorem dX6_luck_21 : decode cX6_luck 21 = .ok (.iconst 1, 1) := by decide +kernel
theorem dX6_luck_22 : decode cX6_luck 22 = .ok (.if_icmp .ne 12, 3) := by decide +kernel
theorem dX6_luck_25 : decode cX6_luck 25 = .ok (.aload_n 0, 1) := by decide +kernel
theorem dX6_luck_26 : decode cX6_luck 26 = .ok (.getfield 46, 3) := by decide +kernel
theorem dX6_luck_29 : decode cX6_luck 29 = .ok (.iload_n 1, 1) := by decide +kernel
theorem dX6_luck_30 : decode cX6_luck 30 = .ok (.iaload, 1) := by decide +kernel
theorem dX6_luck_31 : decode cX6_luck 31 = .ok (.ifCond .eq 10, 3) := by decide +kernel
theorem dX6_luck_34 : decode cX6_luck 34 = .ok (.aload_n 0, 1) := by decide +kernel
theorem dX6_luck_35 : decode cX6_luck 35 = .ok (.bipush (-5), 2) := by decide +kernel
theorem dX6_luck_37 : decode cX6_luck 37 = .ok (.invokevirtual 96, 3) := by decide +kernel
theorem dX6_luck_40 : decode cX6_luck 40 = .ok (.ireturn, 1) := by decide +kernel
theorem dX6_luck_41 : decode cX6_luck 41 = .ok (.aload_n 0, 1) := by decide +kernel
theorem dX6_luck_42 : decode cX6_luck 42 = .ok (.getfield 43, 3) := by decide +kernel
theorem dX6_luck_45 : decode cX6_luck 45 = .ok (.iload_n 1, 1) := by decide +kernel
theorem dX6_luck_46 : decode cX6_luck 46 = .ok (.iaload, 1) := by decide +kernel
theorem dX6_luck_47 : decode cX6_luck 47 = .ok (.i2l, 1) := by decide +kernel
theorem dX6_luck_48 : decode cX6_luck 48 = .ok (.invokestatic 123, 3) := by decide +kernel
theorem dX6_luck_51 : decode cX6_luck 51 = .ok (.l2i, 1) := by decide +kernel
theorem dX6_luck_52 : decode cX6_luck 52 = .ok (.istore_n 2, 1) := by decide +kernel
theorem dX6_luck_53 : decode cX6_luck 53 = .ok (.iload_n 2, 1) := by decide +kernel
theorem dX6_luck_54 : decode cX6_luck 54 = .ok (.iconst 2, 1) := by decide +kernel
theorem dX6_luck_55 : decode cX6_luck 55 = .ok (.aload_n 0, 1) := by decide +kernel
theorem dX6_luck_56 : decode cX6_luck 56 = .ok (.iload_n 1, 1) := by decide +kernel
theorem dX6_luck_57 : decode cX6_luck 57 = .ok (.invokevirtual 86, 3) := by decide +kernel
theorem dX6_luck_60 : decode cX6_luck 60 = .ok (.imul, 1) := by decide +kernel
theorem dX6_luck_61 : decode cX6_luck 61 = .ok (.iload_n 2, 1) := by decide +kernel
theorem dX6_luck_62 : decode cX6_luck 62 = .ok (.isub, 1) := by decide +kernel
theorem dX6_luck_63 : decode cX6_luck 63 = .ok (.imul, 1) := by decide +kernel
theorem dX6_luck_64 : decode cX6_luck 64 = .ok (.ireturn, 1) := by decide +kernel
theorem dX6_minutesOf_0 : decode cX6_minutesOf 0 = .ok (.iload_n 1, 1) := by decide +kernel
theorem dX6_minutesOf_1 : decode cX6_minutesOf 1 = .ok (.bipush 20, 2) := by decide +kernel
theorem dX6_minutesOf_3 : decode cX6_minutesOf 3 = .ok (.if_icmp .eq 10, 3) := by decide +kernel
theorem dX6_minutesOf_6 : decode cX6_minutesOf 6 = .ok (.aload_n 0, 1) := by decide +kernel
theorem dX6_minutesOf_7 : decode cX6_minutesOf 7 = .ok (.getfield 57, 3) := by decide +kernel
theorem dX6_minutesOf_10 : decode cX6_minutesOf 10 = .ok (.iload_n 1, 1) := by decide +kernel
theorem dX6_minutesOf_11 : decode cX6_minutesOf 11 = .ok (.iaload, 1) := by decide +kernel
theorem dX6_minutesOf_12 : decode cX6_minutesOf 12 = .ok (.ireturn, 1) := by decide +kernel
theorem dX6_minutesOf_13 : decode cX6_minutesOf 13 = .ok (.aload_n 0, 1) := by decide +kernel
theorem dX6_minutesOf_14 : decode cX6_minutesOf 14 = .ok (.getfield 57, 3) := by decide +kernel
theorem dX6_minutesOf_17 : decode cX6_minutesOf 17 = .ok (.iconst 0, 1) := by decide +kernel
theorem dX6_minutesOf_18 : decode cX6_minutesOf 18 = .ok (.iaload, 1) := by decide +kernel
theorem dX6_minutesOf_19 : decode cX6_minutesOf 19 = .ok (.aload_n 0, 1) := by decide +kernel
theorem dX6_minutesOf_20 : decode cX6_minutesOf 20 = .ok (.getfield 57, 3) := by decide +kernel
theorem dX6_minutesOf_23 : decode cX6_minutesOf 23 = .ok (.iconst 1, 1) := by decide +kernel
theorem dX6_minutesOf_24 : decode cX6_minutesOf 24 = .ok (.iaload, 1) := by decide +kernel
theorem dX6_minutesOf_25 : decode cX6_minutesOf 25 = .ok (.if_icmp .le 12, 3) := by decide +kernel
theorem dX6_minutesOf_28 : decode cX6_minutesOf 28 = .ok (.aload_n 0, 1) := by decide +kernel
theorem dX6_minutesOf_29 : decode cX6_minutesOf 29 = .ok (.getfield 57, 3) := by decide +kernel
theorem dX6_minutesOf_32 : decode cX6_minutesOf 32 = .ok (.iconst 0, 1) := by decide +kernel
theorem dX6_minutesOf_33 : decode cX6_minutesOf 33 = .ok (.iaload, 1) := by decide +kernel
theorem dX6_minutesOf_34 : decode cX6_minutesOf 34 = .ok (.goto 9, 3) := by decide +kernel
theorem dX6_minutesOf_37 : decode cX6_minutesOf 37 = .ok (.aload_n 0, 1) := by decide +kernel
theorem dX6_minutesOf_38 : decode cX6_minutesOf 38 = .ok (.getfield 57, 3) := by decide +kernel
theorem dX6_minutesOf_41 : decode cX6_minutesOf 41 = .ok (.iconst 1, 1) := by decide +kernel
theorem dX6_minutesOf_42 : decode cX6_minutesOf 42 = .ok (.iaload, 1) := by decide +kernel
theorem dX6_minutesOf_43 : decode cX6_minutesOf 43 = .ok (.ireturn, 1) := by decide +kernel
theorem dX6_timeTo_0 : decode cX6_timeTo 0 = .ok (.aload_n 0, 1) := by decide +kernel
theorem dX6_timeTo_1 : decode cX6_timeTo 1 = .ok (.iload_n 1, 1) := by decide +kernel
theorem dX6_timeTo_2 : decode cX6_timeTo 2 = .ok (.iload_n 3, 1) := by decide +kernel
theorem dX6_timeTo_3 : decode cX6_timeTo 3 = .ok (.iconst 0, 1) := by decide +kernel
theorem dX6_timeTo_4 : decode cX6_timeTo 4 = .ok (.invokevirtual 269, 3) := by decide +kernel
theorem dX6_timeTo_7 : decode cX6_timeTo 7 = .ok (.aload_n 0, 1) := by decide +kernel
theorem dX6_timeTo_8 : decode cX6_timeTo 8 = .ok (.getfield 67, 3) := by decide +kernel
theorem dX6_timeTo_11 : decode cX6_timeTo 11 = .ok (.iload_n 2, 1) := by decide +kernel
theorem dX6_timeTo_12 : decode cX6_timeTo 12 = .ok (.iaload, 1) := by decide +kernel
theorem dX6_timeTo_13 : decode cX6_timeTo 13 = .ok (.iconst (-1), 1) := by decide +kernel
theorem dX6_timeTo_14 : decode cX6_timeTo 14 = .ok (.if_icmp .ne 5, 3) := by decide +kernel
theorem dX6_timeTo_17 : decode cX6_timeTo 17 = .ok (.iconst (-1), 1) := by decide +kernel
theorem dX6_timeTo_18 : decode cX6_timeTo 18 = .ok (.ireturn, 1) := by decide +kernel
theorem dX6_timeTo_19 : decode cX6_timeTo 19 = .ok (.iconst 0, 1) := by decide +kernel
theorem dX6_timeTo_20 : decode cX6_timeTo 20 = .ok (.istore 4, 2) := by decide +kernel
theorem dX6_timeTo_22 : decode cX6_timeTo 22 = .ok (.iload_n 2, 1) := by decide +kernel
theorem dX6_timeTo_23 : decode cX6_timeTo 23 = .ok (.istore 5, 2) := by decide +kernel
theorem dX6_timeTo_25 : decode cX6_timeTo 25 = .ok (.iload 5, 2) := by decide +kernel
theorem dX6_timeTo_27 : decode cX6_timeTo 27 = .ok (.iload_n 3, 1) := by decide +kernel
theorem dX6_timeTo_28 : decode cX6_timeTo 28 = .ok (.if_icmp .eq 36, 3) := by decide +kernel
theorem dX6_timeTo_31 : decode cX6_timeTo 31 = .ok (.aload_n 0, 1) := by decide +kernel
theorem dX6_timeTo_32 : decode cX6_timeTo 32 = .ok (.iload_n 1, 1) := by decide +kernel
theorem dX6_timeTo_33 : decode cX6_timeTo 33 = .ok (.iload 5, 2) := by decide +kernel
theorem dX6_timeTo_35 : decode cX6_timeTo 35 = .ok (.invokevirtual 273, 3) := by decide +kernel
theorem dX6_timeTo_38 : decode cX6_timeTo 38 = .ok (.istore 6, 2) := by decide +kernel
theorem dX6_timeTo_40 : decode cX6_timeTo 40 = .ok (.iload 4, 2) := by decide +kernel
theorem dX6_timeTo_42 : decode cX6_timeTo 42 = .ok (.aload_n 0, 1) := by decide +kernel
theorem dX6_timeTo_43 : decode cX6_timeTo 43 = .ok (.iload 6, 2) := by decide +kernel
theorem dX6_timeTo_45 : decode cX6_timeTo 45 = .ok (.invokevirtual 283, 3) := by decide +kernel
theorem dX6_timeTo_48 : decode cX6_timeTo 48 = .ok (.iadd, 1) := by decide +kernel
theorem dX6_timeTo_49 : decode cX6_timeTo 49 = .ok (.istore 4, 2) := by decide +kernel
theorem dX6_timeTo_51 : decode cX6_timeTo 51 = .ok (.iload 5, 2) := by decide +kernel
theorem dX6_timeTo_53 : decode cX6_timeTo 53 = .ok (.iload 6, 2) := by decide +kernel
theorem dX6_timeTo_55 : decode cX6_timeTo 55 = .ok (.invokestatic 212, 3) := by decide +kernel
theorem dX6_timeTo_58 : decode cX6_timeTo 58 = .ok (.ixor, 1) := by decide +kernel
theorem dX6_timeTo_59 : decode cX6_timeTo 59 = .ok (.istore 5, 2) := by decide +kernel
theorem dX6_timeTo_61 : decode cX6_timeTo 61 = .ok (.goto (-36), 3) := by decide +kernel
theorem dX6_timeTo_64 : decode cX6_timeTo 64 = .ok (.iload 4, 2) := by decide +kernel
theorem dX6_timeTo_66 : decode cX6_timeTo 66 = .ok (.ireturn, 1) := by decide +kernel
theorem dX6_time_0 : decode cX6_time 0 = .ok (.aload_n 0, 1) := by decide +kernel
theorem dX6_time_1 : decode cX6_time 1 = .ok (.iload_n 1, 1) := by decide +kernel
theorem dX6_time_2 : decode cX6_time 2 = .ok (.invokevirtual 106, 3) := by decide +kernel
theorem dX6_time_5 : decode cX6_time 5 = .ok (.ifCond .eq 28, 3) := by decide +kernel
theorem dX6_time_8 : decode cX6_time 8 = .ok (.aload_n 0, 1) := by decide +kernel
theorem dX6_time_9 : decode cX6_time 9 = .ok (.iload_n 1, 1) := by decide +kernel
theorem dX6_time_10 : decode cX6_time 10 = .ok (.iload_n 2, 1) := by decide +kernel
theorem dX6_time_11 : decode cX6_time 11 = .ok (.i2l, 1) := by decide +kernel
theorem dX6_time_12 : decode cX6_time 12 = .ok (.invokevirtual 144, 3) := by decide +kernel
theorem dX6_time_15 : decode cX6_time 15 = .ok (.ifCond .eq 18, 3) := by decide +kernel
theorem dX6_time_18 : decode cX6_time 18 = .ok (.aload_n 0, 1) := by decide +kernel
theorem dX6_time_19 : decode cX6_time 19 = .ok (.iload_n 1, 1) := by decide +kernel
theorem dX6_time_20 : decode cX6_time 20 = .ok (.aload_n 0, 1) := by decide +kernel
theorem dX6_time_21 : decode cX6_time 21 = .ok (.getfield 43, 3) := by decide +kernel
theorem dX6_time_24 : decode cX6_time 24 = .ok (.iload_n 1, 1) := by decide +kernel
theorem dX6_time_25 : decode cX6_time 25 = .ok (.iaload, 1) := by decide +kernel
theorem dX6_time_26 : decode cX6_time 26 = .ok (.iload_n 2, 1) := by decide +kernel
theorem dX6_time_27 : decode cX6_time 27 = .ok (.invokevirtual 286, 3) := by decide +kernel
theorem dX6_time_30 : decode cX6_time 30 = .ok (.goto 9, 3) := by decide +kernel
theorem dX6_time_33 : decode cX6_time 33 = .ok (.aload_n 0, 1) := by decide +kernel
theorem dX6_time_34 : decode cX6_time 34 = .ok (.bipush (-2), 2) := by decide +kernel
theorem dX6_time_36 : decode cX6_time 36 = .ok (.invokevirtual 96, 3) := by decide +kernel
theorem dX6_time_39 : decode cX6_time 39 = .ok (.ireturn, 1) := by decide +kernel
theorem dX6_bell_0 : decode cX6_bell 0 = .ok (.aload_n 0, 1) := by decide +kernel
theorem dX6_bell_1 : decode cX6_bell 1 = .ok (.iload_n 1, 1) := by decide +kernel
theorem dX6_bell_2 : decode cX6_bell 2 = .ok (.invokevirtual 106, 3) := by decide +kernel
theorem dX6_bell_5 : decode cX6_bell 5 = .ok (.ifCond .eq 17, 3) := by decide +kernel
theorem dX6_bell_8 : decode cX6_bell 8 = .ok (.aload_n 0, 1) := by decide +kernel
theorem dX6_bell_9 : decode cX6_bell 9 = .ok (.iload_n 1, 1) := by decide +kernel
theorem dX6_bell_10 : decode cX6_bell 10 = .ok (.iload_n 2, 1) := by decide +kernel
theorem dX6_bell_11 : decode cX6_bell 11 = .ok (.invokevirtual 148, 3) := by decide +kernel
theorem dX6_bell_14 : decode cX6_bell 14 = .ok (.ifCond .eq 8, 3) := by decide +kernel
theorem dX6_bell_17 : decode cX6_bell 17 = .ok (.iload_n 3, 1) := by decide +kernel
theorem dX6_bell_18 : decode cX6_bell 18 = .ok (.iconst 1, 1) := by decide +kernel
theorem dX6_bell_19 : decode cX6_bell 19 = .ok (.if_icmp .ge 10, 3) := by decide +kernel
theorem dX6_bell_22 : decode cX6_bell 22 = .ok (.aload_n 0, 1) := by decide +kernel
theorem dX6_bell_23 : decode cX6_bell 23 = .ok (.bipush (-2), 2) := by decide +kernel
theorem dX6_bell_25 : decode cX6_bell 25 = .ok (.invokevirtual 96, 3) := by decide +kernel
theorem dX6_bell_28 : decode cX6_bell 28 = .ok (.ireturn, 1) := by decide +kernel
theorem dX6_bell_29 : decode cX6_bell 29 = .ok (.aload_n 0, 1) := by decide +kernel
theorem dX6_bell_30 : decode cX6_bell 30 = .ok (.iload_n 1, 1) := by decide +kernel
theorem dX6_bell_31 : decode cX6_bell 31 = .ok (.iconst 0, 1) := by decide +kernel
theorem dX6_bell_32 : decode cX6_bell 32 = .ok (.iconst 0, 1) := by decide +kernel
theorem dX6_bell_33 : decode cX6_bell 33 = .ok (.invokevirtual 269, 3) := by decide +kernel
theorem dX6_bell_36 : decode cX6_bell 36 = .ok (.aload_n 0, 1) := by decide +kernel
theorem dX6_bell_37 : decode cX6_bell 37 = .ok (.getfield 67, 3) := by decide +kernel
theorem dX6_bell_40 : decode cX6_bell 40 = .ok (.aload_n 0, 1) := by decide +kernel
theorem dX6_bell_41 : decode cX6_bell 41 = .ok (.getfield 43, 3) := by decide +kernel
theorem dX6_bell_44 : decode cX6_bell 44 = .ok (.iload_n 1, 1) := by decide +kernel
theorem dX6_bell_45 : decode cX6_bell 45 = .ok (.iaload, 1) := by decide +kernel
theorem dX6_bell_46 : decode cX6_bell 46 = .ok (.iaload, 1) := by decide +kernel
theorem dX6_bell_47 : decode cX6_bell 47 = .ok (.iconst (-1), 1) := by decide +kernel
theorem dX6_bell_48 : decode cX6_bell 48 = .ok (.if_icmp .ne 5, 3) := by decide +kernel
theorem dX6_bell_51 : decode cX6_bell 51 = .ok (.iconst (-1), 1) := by decide +kernel
theorem dX6_bell_52 : decode cX6_bell 52 = .ok (.ireturn, 1) := by decide +kernel
theorem dX6_bell_53 : decode cX6_bell 53 = .ok (.iconst 0, 1) := by decide +kernel
theorem dX6_bell_54 : decode cX6_bell 54 = .ok (.istore 4, 2) := by decide +kernel
theorem dX6_bell_56 : decode cX6_bell 56 = .ok (.iconst 0, 1) := by decide +kernel
theorem dX6_bell_57 : decode cX6_bell 57 = .ok (.istore 5, 2) := by decide +kernel
theorem dX6_bell_59 : decode cX6_bell 59 = .ok (.aload_n 0, 1) := by decide +kernel
theorem dX6_bell_60 : decode cX6_bell 60 = .ok (.getfield 43, 3) := by decide +kernel
theorem dX6_bell_63 : decode cX6_bell 63 = .ok (.iload_n 1, 1) := by decide +kernel
theorem dX6_bell_64 : decode cX6_bell 64 = .ok (.iaload, 1) := by decide +kernel
theorem dX6_bell_65 : decode cX6_bell 65 = .ok (.istore 6, 2) := by decide +kernel
theorem dX6_bell_67 : decode cX6_bell 67 = .ok (.iload 6, 2) := by decide +kernel
theorem dX6_bell_69 : decode cX6_bell 69 = .ok (.ifCond .eq 67, 3) := by decide +kernel
theorem dX6_bell_72 : decode cX6_bell 72 = .ok (.aload_n 0, 1) := by decide +kernel
theorem dX6_bell_73 : decode cX6_bell 73 = .ok (.iload_n 1, 1) := by decide +kernel
theorem dX6_bell_74 : decode cX6_bell 74 = .ok (.iload 6, 2) := by decide +kernel
theorem dX6_bell_76 : decode cX6_bell 76 = .ok (.invokevirtual 273, 3) := by decide +kernel
theorem dX6_bell_79 : decode cX6_bell 79 = .ok (.istore 7, 2) := by decide +kernel
theorem dX6_bell_81 : decode cX6_bell 81 = .ok (.iload 4, 2) := by decide +kernel
theorem dX6_bell_83 : decode cX6_bell 83 = .ok (.aload_n 0, 1) := by decide +kernel
theorem dX6_bell_84 : decode cX6_bell 84 = .ok (.iload 7, 2) := by decide +kernel
theorem dX6_bell_86 : decode cX6_bell 86 = .ok (.invokevirtual 283, 3) := by decide +kernel
theorem dX6_bell_89 : decode cX6_bell 89 = .ok (.iadd, 1) := by decide +kernel
theorem dX6_bell_90 : decode cX6_bell 90 = .ok (.istore 4, 2) := by decide +kernel
theorem dX6_bell_92 : decode cX6_bell 92 = .ok (.iload 5, 2) := by decide +kernel
theorem dX6_bell_94 : decode cX6_bell 94 = .ok (.iload 7, 2) := by decide +kernel
theorem dX6_bell_96 : decode cX6_bell 96 = .ok (.invokestatic 212, 3) := by decide +kernel
theorem dX6_bell_99 : decode cX6_bell 99 = .ok (.iload_n 2, 1) := by decide +kernel
theorem dX6_bell_100 : decode cX6_bell 100 = .ok (.invokestatic 135, 3) := by decide +kernel
theorem dX6_bell_103 : decode cX6_bell 103 = .ok (.ifCond .eq 7, 3) := by decide +kernel
theorem dX6_bell_106 : decode cX6_bell 106 = .ok (.iconst 1, 1) := by decide +kernel
theorem dX6_bell_107 : decode cX6_bell 107 = .ok (.goto 4, 3) := by decide +kernel
theorem dX6_bell_110 : decode cX6_bell 110 = .ok (.iconst 0, 1) := by decide +kernel
theorem dX6_bell_111 : decode cX6_bell 111 = .ok (.iadd, 1) := by decide +kernel
theorem dX6_bell_112 : decode cX6_bell 112 = .ok (.istore 5, 2) := by decide +kernel
theorem dX6_bell_114 : decode cX6_bell 114 = .ok (.iload 5, 2) := by decide +kernel
theorem dX6_bell_116 : decode cX6_bell 116 = .ok (.iload_n 3, 1) := by decide +kernel
theorem dX6_bell_117 : decode cX6_bell 117 = .ok (.if_icmp .ne 6, 3) := by decide +kernel
theorem dX6_bell_120 : decode cX6_bell 120 = .ok (.iload 4, 2) := by decide +kernel
theorem dX6_bell_122 : decode cX6_bell 122 = .ok (.ireturn, 1) := by decide +kernel
theorem dX6_bell_123 : decode cX6_bell 123 = .ok (.iload 6, 2) := by decide +kernel
theorem dX6_bell_125 : decode cX6_bell 125 = .ok (.iload 7, 2) := by decide +kernel
theorem dX6_bell_127 : decode cX6_bell 127 = .ok (.invokestatic 212, 3) := by decide +kernel
theorem dX6_bell_130 : decode cX6_bell 130 = .ok (.ixor, 1) := by decide +kernel
theorem dX6_bell_131 : decode cX6_bell 131 = .ok (.istore 6, 2) := by decide +kernel
theorem dX6_bell_133 : decode cX6_bell 133 = .ok (.goto (-66), 3) := by decide +kernel
theorem dX6_bell_136 : decode cX6_bell 136 = .ok (.iconst (-1), 1) := by decide +kernel
theorem dX6_bell_137 : decode cX6_bell 137 = .ok (.ireturn, 1) := by decide +kernel
theorem dX6_lock_0 : decode cX6_lock 0 = .ok (.iload_n 1, 1) := by decide +kernel
theorem dX6_lock_1 : decode cX6_lock 1 = .ok (.i2l, 1) := by decide +kernel
theorem dX6_lock_2 : decode cX6_lock 2 = .ok (.lconst 0, 1) := by decide +kernel
theorem dX6_lock_3 : decode cX6_lock 3 = .ok (.ldc2_w 289, 3) := by decide +kernel
theorem dX6_lock_6 : decode cX6_lock 6 = .ok (.invokestatic 82, 3) := by decide +kernel
theorem dX6_lock_9 : decode cX6_lock 9 = .ok (.ifCond .ne 10, 3) := by decide +kernel
theorem dX6_lock_12 : decode cX6_lock 12 = .ok (.aload_n 0, 1) := by decide +kernel
theorem dX6_lock_13 : decode cX6_lock 13 = .ok (.bipush (-2), 2) := by decide +kernel
theorem dX6_lock_15 : decode cX6_lock 15 = .ok (.invokevirtual 96, 3) := by decide +kernel
theorem dX6_lock_18 : decode cX6_lock 18 = .ok (.ireturn, 1) := by decide +kernel
theorem dX6_lock_19 : decode cX6_lock 19 = .ok (.iconst 1, 1) := by decide +kernel
theorem dX6_lock_20 : decode cX6_lock 20 = .ok (.istore_n 2, 1) := by decide +kernel
theorem dX6_lock_21 : decode cX6_lock 21 = .ok (.iload_n 2, 1) := by decide +kernel
theorem dX6_lock_22 : decode cX6_lock 22 = .ok (.bipush 10, 2) := by decide +kernel
theorem dX6_lock_24 : decode cX6_lock 24 = .ok (.if_icmp .gt 31, 3) := by decide +kernel
theorem dX6_lock_27 : decode cX6_lock 27 = .ok (.aload_n 0, 1) := by decide +kernel
theorem dX6_lock_28 : decode cX6_lock 28 = .ok (.iconst 1, 1) := by decide +kernel
theorem dX6_lock_29 : decode cX6_lock 29 = .ok (.iload_n 2, 1) := by decide +kernel
theorem dX6_lock_30 : decode cX6_lock 30 = .ok (.invokevirtual 279, 3) := by decide +kernel
theorem dX6_lock_33 : decode cX6_lock 33 = .ok (.iconst 0, 1) := by decide +kernel
theorem dX6_lock_34 : decode cX6_lock 34 = .ok (.iconst 1, 1) := by decide +kernel
theorem dX6_lock_35 : decode cX6_lock 35 = .ok (.iload_n 2, 1) := by decide +kernel
theorem dX6_lock_36 : decode cX6_lock 36 = .ok (.ishl, 1) := by decide +kernel
theorem dX6_lock_37 : decode cX6_lock 37 = .ok (.iconst 1, 1) := by decide +kernel
theorem dX6_lock_38 : decode cX6_lock 38 = .ok (.isub, 1) := by decide +kernel
theorem dX6_lock_39 : decode cX6_lock 39 = .ok (.iconst 0, 1) := by decide +kernel
theorem dX6_lock_40 : decode cX6_lock 40 = .ok (.invokevirtual 286, 3) := by decide +kernel
theorem dX6_lock_43 : decode cX6_lock 43 = .ok (.iload_n 1, 1) := by decide +kernel
theorem dX6_lock_44 : decode cX6_lock 44 = .ok (.if_icmp .lt 5, 3) := by decide +kernel
theorem dX6_lock_47 : decode cX6_lock 47 = .ok (.iload_n 2, 1) := by decide +kernel
theorem dX6_lock_48 : decode cX6_lock 48 = .ok (.ireturn, 1) := by decide +kernel
theorem dX6_lock_49 : decode cX6_lock 49 = .ok (.iinc 2 1, 3) := by decide +kernel
theorem dX6_lock_52 : decode cX6_lock 52 = .ok (.goto (-31), 3) := by decide +kernel
theorem dX6_lock_55 : decode cX6_lock 55 = .ok (.iconst (-1), 1) := by decide +kernel
theorem dX6_lock_56 : decode cX6_lock 56 = .ok (.ireturn, 1) := by decide +kernel
theorem dX6_movable_0 : decode cX6_movable 0 = .ok (.aload_n 0, 1) := by decide +kernel
theorem dX6_movable_1 : decode cX6_movable 1 = .ok (.iload_n 1, 1) := by decide +kernel
theorem dX6_movable_2 : decode cX6_movable 2 = .ok (.invokevirtual 106, 3) := by decide +kernel
theorem dX6_movable_5 : decode cX6_movable 5 = .ok (.ifCond .ne 10, 3) := by decide +kernel
theorem dX6_movable_8 : decode cX6_movable 8 = .ok (.aload_n 0, 1) := by decide +kernel
theorem dX6_movable_9 : decode cX6_movable 9 = .ok (.bipush (-2), 2) := by decide +kernel
theorem dX6_movable_11 : decode cX6_movable 11 = .ok (.invokevirtual 96, 3) := by decide +kernel
theorem dX6_movable_14 : decode cX6_movable 14 = .ok (.ireturn, 1) := by decide +kernel
theorem dX6_movable_15 : decode cX6_movable 15 = .ok (.aload_n 0, 1) := by decide +kernel
theorem dX6_movable_16 : decode cX6_movable 16 = .ok (.iload_n 1, 1) := by decide +kernel
theorem dX6_movable_17 : decode cX6_movable 17 = .ok (.aload_n 0, 1) := by decide +kernel
theorem dX6_movable_18 : decode cX6_movable 18 = .ok (.getfield 43, 3) := by decide +kernel
theorem dX6_movable_21 : decode cX6_movable 21 = .ok (.iload_n 1, 1) := by decide +kernel
theorem dX6_movable_22 : decode cX6_movable 22 = .ok (.iaload, 1) := by decide +kernel
theorem dX6_movable_23 : decode cX6_movable 23 = .ok (.iconst 1, 1) := by decide +kernel
theorem dX6_movable_24 : decode cX6_movable 24 = .ok (.invokevirtual 269, 3) := by decide +kernel
theorem dX6_movable_27 : decode cX6_movable 27 = .ok (.iconst 0, 1) := by decide +kernel
theorem dX6_movable_28 : decode cX6_movable 28 = .ok (.istore_n 2, 1) := by decide +kernel
theorem dX6_movable_29 : decode cX6_movable 29 = .ok (.iconst 0, 1) := by decide +kernel
theorem dX6_movable_30 : decode cX6_movable 30 = .ok (.istore_n 3, 1) := by decide +kernel
theorem dX6_movable_31 : decode cX6_movable 31 = .ok (.iload_n 3, 1) := by decide +kernel
theorem dX6_movable_32 : decode cX6_movable 32 = .ok (.aload_n 0, 1) := by decide +kernel
theorem dX6_movable_33 : decode cX6_movable 33 = .ok (.getfield 266, 3) := by decide +kernel
theorem dX6_movable_36 : decode cX6_movable 36 = .ok (.if_icmp .ge 53, 3) := by decide +kernel
theorem dX6_movable_39 : decode cX6_movable 39 = .ok (.iconst 0, 1) := by decide +kernel
theorem dX6_movable_40 : decode cX6_movable 40 = .ok (.istore 4, 2) := by decide +kernel
theorem dX6_movable_42 : decode cX6_movable 42 = .ok (.iload 4, 2) := by decide +kernel
theorem dX6_movable_44 : decode cX6_movable 44 = .ok (.bipush 20, 2) := by decide +kernel
theorem dX6_movable_46 : decode cX6_movable 46 = .ok (.if_icmp .gt 37, 3) := by decide +kernel
theorem dX6_movable_49 : decode cX6_movable 49 = .ok (.iload_n 2, 1) := by decide +kernel
theorem dX6_movable_50 : decode cX6_movable 50 = .ok (.aload_n 0, 1) := by decide +kernel
theorem dX6_movable_51 : decode cX6_movable 51 = .ok (.iload_n 1, 1) := by decide +kernel
theorem dX6_movable_52 : decode cX6_movable 52 = .ok (.aload_n 0, 1) := by decide +kernel
theorem dX6_movable_53 : decode cX6_movable 53 = .ok (.getfield 70, 3) := by decide +kernel
theorem dX6_movable_56 : decode cX6_movable 56 = .ok (.iload_n 3, 1) := by decide +kernel
theorem dX6_movable_57 : decode cX6_movable 57 = .ok (.iaload, 1) := by decide +kernel
theorem dX6_movable_58 : decode cX6_movable 58 = .ok (.iload 4, 2) := by decide +kernel
theorem dX6_movable_60 : decode cX6_movable 60 = .ok (.invokevirtual 131, 3) := by decide +kernel
theorem dX6_movable_63 : decode cX6_movable 63 = .ok (.ifCond .eq 11, 3) := by decide +kernel
theorem dX6_movable_66 : decode cX6_movable 66 = .ok (.iload 4, 2) := by decide +kernel
theorem dX6_movable_68 : decode cX6_movable 68 = .ok (.invokestatic 212, 3) := by decide +kernel
theorem dX6_movable_71 : decode cX6_movable 71 = .ok (.goto 4, 3) := by decide +kernel
theorem dX6_movable_74 : decode cX6_movable 74 = .ok (.iconst 0, 1) := by decide +kernel
theorem dX6_movable_75 : decode cX6_movable 75 = .ok (.ior, 1) := by decide +kernel
theorem dX6_movable_76 : decode cX6_movable 76 = .ok (.istore_n 2, 1) := by decide +kernel
theorem dX6_movable_77 : decode cX6_movable 77 = .ok (.iinc 4 1, 3) := by decide +kernel
theorem dX6_movable_80 : decode cX6_movable 80 = .ok (.goto (-38), 3) := by decide +kernel
theorem dX6_movable_83 : decode cX6_movable 83 = .ok (.iinc 3 1, 3) := by decide +kernel
theorem dX6_movable_86 : decode cX6_movable 86 = .ok (.goto (-55), 3) := by decide +kernel
theorem dX6_movable_89 : decode cX6_movable 89 = .ok (.iload_n 2, 1) := by decide +kernel
theorem dX6_movable_90 : decode cX6_movable 90 = .ok (.ireturn, 1) := by decide +kernel
theorem dX6_ends_0 : decode cX6_ends 0 = .ok (.aload_n 0, 1) := by decide +kernel
theorem dX6_ends_1 : decode cX6_ends 1 = .ok (.iload_n 1, 1) := by decide +kernel
theorem dX6_ends_2 : decode cX6_ends 2 = .ok (.invokevirtual 106, 3) := by decide +kernel
theorem dX6_ends_5 : decode cX6_ends 5 = .ok (.ifCond .ne 10, 3) := by decide +kernel
theorem dX6_ends_8 : decode cX6_ends 8 = .ok (.aload_n 0, 1) := by decide +kernel
theorem dX6_ends_9 : decode cX6_ends 9 = .ok (.bipush (-2), 2) := by decide +kernel
theorem dX6_ends_11 : decode cX6_ends 11 = .ok (.invokevirtual 96, 3) := by decide +kernel
theorem dX6_ends_14 : decode cX6_ends 14 = .ok (.ireturn, 1) := by decide +kernel
theorem dX6_ends_15 : decode cX6_ends 15 = .ok (.aload_n 0, 1) := by decide +kernel
theorem dX6_ends_16 : decode cX6_ends 16 = .ok (.iload_n 1, 1) := by decide +kernel
theorem dX6_ends_17 : decode cX6_ends 17 = .ok (.aload_n 0, 1) := by decide +kernel
theorem dX6_ends_18 : decode cX6_ends 18 = .ok (.getfield 43, 3) := by decide +kernel
theorem dX6_ends_21 : decode cX6_ends 21 = .ok (.iload_n 1, 1) := by decide +kernel
theorem dX6_ends_22 : decode cX6_ends 22 = .ok (.iaload, 1) := by decide +kernel
theorem dX6_ends_23 : decode cX6_ends 23 = .ok (.iconst 1, 1) := by decide +kernel
theorem dX6_ends_24 : decode cX6_ends 24 = .ok (.invokevirtual 269, 3) := by decide +kernel
theorem dX6_ends_27 : decode cX6_ends 27 = .ok (.iconst 0, 1) := by decide +kernel
theorem dX6_ends_28 : decode cX6_ends 28 = .ok (.istore_n 2, 1) := by decide +kernel
theorem dX6_ends_29 : decode cX6_ends 29 = .ok (.iconst 0, 1) := by decide +kernel
theorem dX6_ends_30 : decode cX6_ends 30 = .ok (.istore_n 3, 1) := by decide +kernel
theorem dX6_ends_31 : decode cX6_ends 31 = .ok (.iload_n 3, 1) := by decide +kernel
theorem dX6_ends_32 : decode cX6_ends 32 = .ok (.aload_n 0, 1) := by decide +kernel
theorem dX6_ends_33 : decode cX6_ends 33 = .ok (.getfield 266, 3) := by decide +kernel
theorem dX6_ends_36 : decode cX6_ends 36 = .ok (.if_icmp .ge 68, 3) := by decide +kernel
theorem dX6_ends_39 : decode cX6_ends 39 = .ok (.iconst 0, 1) := by decide +kernel
theorem dX6_ends_40 : decode cX6_ends 40 = .ok (.istore 4, 2) := by decide +kernel
theorem dX6_ends_42 : decode cX6_ends 42 = .ok (.iconst 0, 1) := by decide +kernel
theorem dX6_ends_43 : decode cX6_ends 43 = .ok (.istore 5, 2) := by decide +kernel
theorem dX6_ends_45 : decode cX6_ends 45 = .ok (.iload 5, 2) := by decide +kernel
theorem dX6_ends_47 : decode cX6_ends 47 = .ok (.bipush 20, 2) := by decide +kernel
theorem dX6_ends_49 : decode cX6_ends 49 = .ok (.if_icmp .gt 35, 3) := by decide +kernel
theorem dX6_ends_52 : decode cX6_ends 52 = .ok (.iload 4, 2) := by decide +kernel
theorem dX6_ends_54 : decode cX6_ends 54 = .ok (.aload_n 0, 1) := by decide +kernel
theorem dX6_ends_55 : decode cX6_ends 55 = .ok (.iload_n 1, 1) := by decide +kernel
theorem dX6_ends_56 : decode cX6_ends 56 = .ok (.aload_n 0, 1) := by decide +kernel
theorem dX6_ends_57 : decode cX6_ends 57 = .ok (.getfield 70, 3) := by decide +kernel
theorem dX6_ends_60 : decode cX6_ends 60 = .ok (.iload_n 3, 1) := by decide +kernel
theorem dX6_ends_61 : decode cX6_ends 61 = .ok (.iaload, 1) := by decide +kernel
theorem dX6_ends_62 : decode cX6_ends 62 = .ok (.iload 5, 2) := by decide +kernel
theorem dX6_ends_64 : decode cX6_ends 64 = .ok (.invokevirtual 131, 3) := by decide +kernel
theorem dX6_ends_67 : decode cX6_ends 67 = .ok (.ifCond .eq 7, 3) := by decide +kernel
theorem dX6_ends_70 : decode cX6_ends 70 = .ok (.iconst 1, 1) := by decide +kernel
theorem dX6_ends_71 : decode cX6_ends 71 = .ok (.goto 4, 3) := by decide +kernel
theorem dX6_ends_74 : decode cX6_ends 74 = .ok (.iconst 0, 1) := by decide +kernel
theorem dX6_ends_75 : decode cX6_ends 75 = .ok (.iadd, 1) := by decide +kernel
theorem dX6_ends_76 : decode cX6_ends 76 = .ok (.istore 4, 2) := by decide +kernel
theorem dX6_ends_78 : decode cX6_ends 78 = .ok (.iinc 5 1, 3) := by decide +kernel
theorem dX6_ends_81 : decode cX6_ends 81 = .ok (.goto (-36), 3) := by decide +kernel
theorem dX6_ends_84 : decode cX6_ends 84 = .ok (.iload_n 2, 1) := by decide +kernel
theorem dX6_ends_85 : decode cX6_ends 85 = .ok (.iload 4, 2) := by decide +kernel
theorem dX6_ends_87 : decode cX6_ends 87 = .ok (.iconst 1, 1) := by decide +kernel
theorem dX6_ends_88 : decode cX6_ends 88 = .ok (.if_icmp .ne 7, 3) := by decide +kernel
theorem dX6_ends_91 : decode cX6_ends 91 = .ok (.iconst 1, 1) := by decide +kernel
theorem dX6_ends_92 : decode cX6_ends 92 = .ok (.goto 4, 3) := by decide +kernel
theorem dX6_ends_95 : decode cX6_ends 95 = .ok (.iconst 0, 1) := by decide +kernel
theorem dX6_ends_96 : decode cX6_ends 96 = .ok (.iadd, 1) := by decide +kernel
theorem dX6_ends_97 : decode cX6_ends 97 = .ok (.istore_n 2, 1) := by decide +kernel
theorem dX6_ends_98 : decode cX6_ends 98 = .ok (.iinc 3 1, 3) := by decide +kernel
theorem dX6_ends_101 : decode cX6_ends 101 = .ok (.goto (-70), 3) := by decide +kernel
theorem dX6_ends_104 : decode cX6_ends 104 = .ok (.iload_n 2, 1) := by decide +kernel
theorem dX6_ends_105 : decode cX6_ends 105 = .ok (.ireturn, 1) := by decide +kernel
theorem dX6_first_0 : decode cX6_first 0 = .ok (.aload_n 0, 1) := by decide +kernel
theorem dX6_first_1 : decode cX6_first 1 = .ok (.iload_n 1, 1) := by decide +kernel
theorem dX6_first_2 : decode cX6_first 2 = .ok (.invokevirtual 106, 3) := by decide +kernel
theorem dX6_first_5 : decode cX6_first 5 = .ok (.ifCond .eq 12, 3) := by decide +kernel
theorem dX6_first_8 : decode cX6_first 8 = .ok (.aload_n 0, 1) := by decide +kernel
theorem dX6_first_9 : decode cX6_first 9 = .ok (.iload_n 1, 1) := by decide +kernel
theorem dX6_first_10 : decode cX6_first 10 = .ok (.iload_n 2, 1) := by decide +kernel
theorem dX6_first_11 : decode cX6_first 11 = .ok (.invokevirtual 148, 3) := by decide +kernel
theorem dX6_first_14 : decode cX6_first 14 = .ok (.ifCond .ne 10, 3) := by decide +kernel
theorem dX6_first_17 : decode cX6_first 17 = .ok (.aload_n 0, 1) := by decide +kernel
theorem dX6_first_18 : decode cX6_first 18 = .ok (.bipush (-2), 2) := by decide +kernel
theorem dX6_first_20 : decode cX6_first 20 = .ok (.invokevirtual 96, 3) := by decide +kernel
theorem dX6_first_23 : decode cX6_first 23 = .ok (.ireturn, 1) := by decide +kernel
theorem dX6_first_24 : decode cX6_first 24 = .ok (.aload_n 0, 1) := by decide +kernel
theorem dX6_first_25 : decode cX6_first 25 = .ok (.iload_n 1, 1) := by decide +kernel
theorem dX6_first_26 : decode cX6_first 26 = .ok (.aload_n 0, 1) := by decide +kernel
theorem dX6_first_27 : decode cX6_first 27 = .ok (.getfield 43, 3) := by decide +kernel
theorem dX6_first_30 : decode cX6_first 30 = .ok (.iload_n 1, 1) := by decide +kernel
theorem dX6_first_31 : decode cX6_first 31 = .ok (.iaload, 1) := by decide +kernel
theorem dX6_first_32 : decode cX6_first 32 = .ok (.iconst 1, 1) := by decide +kernel
theorem dX6_first_33 : decode cX6_first 33 = .ok (.invokevirtual 269, 3) := by decide +kernel
theorem dX6_first_36 : decode cX6_first 36 = .ok (.iconst 0, 1) := by decide +kernel
theorem dX6_first_37 : decode cX6_first 37 = .ok (.istore_n 3, 1) := by decide +kernel
theorem dX6_first_38 : decode cX6_first 38 = .ok (.iload_n 3, 1) := by decide +kernel
theorem dX6_first_39 : decode cX6_first 39 = .ok (.aload_n 0, 1) := by decide +kernel
theorem dX6_first_40 : decode cX6_first 40 = .ok (.getfield 266, 3) := by decide +kernel
theorem dX6_first_43 : decode cX6_first 43 = .ok (.if_icmp .ge 59, 3) := by decide +kernel
theorem dX6_first_46 : decode cX6_first 46 = .ok (.aload_n 0, 1) := by decide +kernel
theorem dX6_first_47 : decode cX6_first 47 = .ok (.iload_n 1, 1) := by decide +kernel
theorem dX6_first_48 : decode cX6_first 48 = .ok (.aload_n 0, 1) := by decide +kernel
theorem dX6_first_49 : decode cX6_first 49 = .ok (.getfield 70, 3) := by decide +kernel
theorem dX6_first_52 : decode cX6_first 52 = .ok (.iload_n 3, 1) := by decide +kernel
theorem dX6_first_53 : decode cX6_first 53 = .ok (.iaload, 1) := by decide +kernel
theorem dX6_first_54 : decode cX6_first 54 = .ok (.iload_n 2, 1) := by decide +kernel
theorem dX6_first_55 : decode cX6_first 55 = .ok (.invokevirtual 131, 3) := by decide +kernel
theorem dX6_first_58 : decode cX6_first 58 = .ok (.ifCond .ne 24, 3) := by decide +kernel
theorem dX6_first_61 : decode cX6_first 61 = .ok (.iload_n 2, 1) := by decide +kernel
theorem dX6_first_62 : decode cX6_first 62 = .ok (.iconst 2, 1) := by decide +kernel
theorem dX6_first_63 : decode cX6_first 63 = .ok (.if_icmp .ge 33, 3) := by decide +kernel
theorem dX6_first_66 : decode cX6_first 66 = .ok (.aload_n 0, 1) := by decide +kernel
theorem dX6_first_67 : decode cX6_first 67 = .ok (.iload_n 1, 1) := by decide +kernel
theorem dX6_first_68 : decode cX6_first 68 = .ok (.aload_n 0, 1) := by decide +kernel
theorem dX6_first_69 : decode cX6_first 69 = .ok (.getfield 70, 3) := by decide +kernel
theorem dX6_first_72 : decode cX6_first 72 = .ok (.iload_n 3, 1) := by decide +kernel
theorem dX6_first_73 : decode cX6_first 73 = .ok (.iaload, 1) := by decide +kernel
theorem dX6_first_74 : decode cX6_first 74 = .ok (.bipush 20, 2) := by decide +kernel
theorem dX6_first_76 : decode cX6_first 76 = .ok (.invokevirtual 131, 3) := by decide +kernel
theorem dX6_first_79 : decode cX6_first 79 = .ok (.ifCond .eq 17, 3) := by decide +kernel
theorem dX6_first_82 : decode cX6_first 82 = .ok (.aload_n 0, 1) := by decide +kernel
theorem dX6_first_83 : decode cX6_first 83 = .ok (.getfield 67, 3) := by decide +kernel
theorem dX6_first_86 : decode cX6_first 86 = .ok (.aload_n 0, 1) := by decide +kernel
theorem dX6_first_87 : decode cX6_first 87 = .ok (.getfield 70, 3) := by decide +kernel
theorem dX6_first_90 : decode cX6_first 90 = .ok (.iload_n 3, 1) := by decide +kernel
theorem dX6_first_91 : decode cX6_first 91 = .ok (.iaload, 1) := by decide +kernel
theorem dX6_first_92 : decode cX6_first 92 = .ok (.iaload, 1) := by decide +kernel
theorem dX6_first_93 : decode cX6_first 93 = .ok (.iconst 1, 1) := by decide +kernel
theorem dX6_first_94 : decode cX6_first 94 = .ok (.iadd, 1) := by decide +kernel
theorem dX6_first_95 : decode cX6_first 95 = .ok (.ireturn, 1) := by decide +kernel
theorem dX6_first_96 : decode cX6_first 96 = .ok (.iinc 3 1, 3) := by decide +kernel
theorem dX6_first_99 : decode cX6_first 99 = .ok (.goto (-61), 3) := by decide +kernel
theorem dX6_first_102 : decode cX6_first 102 = .ok (.iconst (-1), 1) := by decide +kernel
theorem dX6_first_103 : decode cX6_first 103 = .ok (.ireturn, 1) := by decide +kernel
theorem dX6_chance_0 : decode cX6_chance 0 = .ok (.aload_n 0, 1) := by decide +kernel
theorem dX6_chance_1 : decode cX6_chance 1 = .ok (.iload_n 1, 1) := by decide +kernel
theorem dX6_chance_2 : decode cX6_chance 2 = .ok (.invokevirtual 106, 3) := by decide +kernel
theorem dX6_chance_5 : decode cX6_chance 5 = .ok (.ifCond .eq 25, 3) := by decide +kernel
theorem dX6_chance_8 : decode cX6_chance 8 = .ok (.aload_n 0, 1) := by decide +kernel
theorem dX6_chance_9 : decode cX6_chance 9 = .ok (.iload_n 1, 1) := by decide +kernel
theorem dX6_chance_10 : decode cX6_chance 10 = .ok (.iload_n 2, 1) := by decide +kernel
theorem dX6_chance_11 : decode cX6_chance 11 = .ok (.i2l, 1) := by decide +kernel
theorem dX6_chance_12 : decode cX6_chance 12 = .ok (.invokevirtual 144, 3) := by decide +kernel
theorem dX6_chance_15 : decode cX6_chance 15 = .ok (.ifCond .eq 15, 3) := by decide +kernel
theorem dX6_chance_18 : decode cX6_chance 18 = .ok (.iload_n 3, 1) := by decide +kernel
theorem dX6_chance_19 : decode cX6_chance 19 = .ok (.i2l, 1) := by decide +kernel
theorem dX6_chance_20 : decode cX6_chance 20 = .ok (.lconst 0, 1) := by decide +kernel
theorem dX6_chance_21 : decode cX6_chance 21 = .ok (.ldc2_w 210, 3) := by decide +kernel
theorem dX6_chance_24 : decode cX6_chance 24 = .ok (.invokestatic 82, 3) := by decide +kernel
theorem dX6_chance_27 : decode cX6_chance 27 = .ok (.ifCond .ne 10, 3) := by decide +kernel
theorem dX6_chance_30 : decode cX6_chance 30 = .ok (.aload_n 0, 1) := by decide +kernel
theorem dX6_chance_31 : decode cX6_chance 31 = .ok (.bipush (-2), 2) := by decide +kernel
theorem dX6_chance_33 : decode cX6_chance 33 = .ok (.invokevirtual 96, 3) := by decide +kernel
theorem dX6_chance_36 : decode cX6_chance 36 = .ok (.ireturn, 1) := by decide +kernel
theorem dX6_chance_37 : decode cX6_chance 37 = .ok (.aload_n 0, 1) := by decide +kernel
theorem dX6_chance_38 : decode cX6_chance 38 = .ok (.getfield 73, 3) := by decide +kernel
theorem dX6_chance_41 : decode cX6_chance 41 = .ok (.arraylength, 1) := by decide +kernel
theorem dX6_chance_42 : decode cX6_chance 42 = .ok (.ifCond .ne 21, 3) := by decide +kernel
theorem dX6_chance_45 : decode cX6_chance 45 = .ok (.aload_n 0, 1) := by decide +kernel
theorem dX6_chance_46 : decode cX6_chance 46 = .ok (.sipush 1024, 3) := by decide +kernel
theorem dX6_chance_49 : decode cX6_chance 49 = .ok (.newarray .int, 2) := by decide +kernel
theorem dX6_chance_51 : decode cX6_chance 51 = .ok (.putfield 73, 3) := by decide +kernel
theorem dX6_chance_54 : decode cX6_chance 54 = .ok (.aload_n 0, 1) := by decide +kernel
theorem dX6_chance_55 : decode cX6_chance 55 = .ok (.sipush 1024, 3) := by decide +kernel
theorem dX6_chance_58 : decode cX6_chance 58 = .ok (.newarray .int, 2) := by decide +kernel
theorem dX6_chance_60 : decode cX6_chance 60 = .ok (.putfield 76, 3) := by decide +kernel
theorem dX6_chance_63 : decode cX6_chance 63 = .ok (.iconst 0, 1) := by decide +kernel
theorem dX6_chance_64 : decode cX6_chance 64 = .ok (.istore 4, 2) := by decide +kernel
theorem dX6_chance_66 : decode cX6_chance 66 = .ok (.iload 4, 2) := by decide +kernel
theorem dX6_chance_68 : decode cX6_chance 68 = .ok (.aload_n 0, 1) := by decide +kernel
theorem dX6_chance_69 : decode cX6_chance 69 = .ok (.iload_n 1, 1) := by decide +kernel
theorem dX6_chance_70 : decode cX6_chance 70 = .ok (.invokevirtual 86, 3) := by decide +kernel
theorem dX6_chance_73 : decode cX6_chance 73 = .ok (.if_icmp .gt 34, 3) := by decide +kernel
theorem dX6_chance_76 : decode cX6_chance 76 = .ok (.aload_n 0, 1) := by decide +kernel
theorem dX6_chance_77 : decode cX6_chance 77 = .ok (.getfield 73, 3) := by decide +kernel
theorem dX6_chance_80 : decode cX6_chance 80 = .ok (.iload 4, 2) := by decide +kernel
theorem dX6_chance_82 : decode cX6_chance 82 = .ok (.iload 4, 2) := by decide +kernel
theorem dX6_chance_84 : decode cX6_chance 84 = .ok (.aload_n 0, 1) := by decide +kernel
theorem dX6_chance_85 : decode cX6_chance 85 = .ok (.getfield 43, 3) := by decide +kernel
theorem dX6_chance_88 : decode cX6_chance 88 = .ok (.iload_n 1, 1) := by decide +kernel
theorem dX6_chance_89 : decode cX6_chance 89 = .ok (.iaload, 1) := by decide +kernel
theorem dX6_chance_90 : decode cX6_chance 90 = .ok (.if_icmp .ne 9, 3) := by decide +kernel
theorem dX6_chance_93 : decode cX6_chance 93 = .ok (.ldc_w 291, 3) := by decide +kernel
theorem dX6_chance_96 : decode cX6_chance 96 = .ok (.goto 4, 3) := by decide +kernel
theorem dX6_chance_99 : decode cX6_chance 99 = .ok (.iconst 0, 1) := by decide +kernel
theorem dX6_chance_100 : decode cX6_chance 100 = .ok (.iastore, 1) := by decide +kernel
theorem dX6_chance_101 : decode cX6_chance 101 = .ok (.iinc 4 1, 3) := by decide +kernel
theorem dX6_chance_104 : decode cX6_chance 104 = .ok (.goto (-38), 3) := by decide +kernel
theorem dX6_chance_107 : decode cX6_chance 107 = .ok (.iconst 0, 1) := by decide +kernel
theorem dX6_chance_108 : decode cX6_chance 108 = .ok (.istore 4, 2) := by decide +kernel
theorem dX6_chance_110 : decode cX6_chance 110 = .ok (.iload 4, 2) := by decide +kernel
theorem dX6_chance_112 : decode cX6_chance 112 = .ok (.iload_n 3, 1) := by decide +kernel
theorem dX6_chance_113 : decode cX6_chance 113 = .ok (.if_icmp .ge 95, 3) := by decide +kernel
theorem dX6_chance_116 : decode cX6_chance 116 = .ok (.iconst 0, 1) := by decide +kernel
theorem dX6_chance_117 : decode cX6_chance 117 = .ok (.istore 5, 2) := by decide +kernel
theorem dX6_chance_119 : decode cX6_chance 119 = .ok (.iload 5, 2) := by decide +kernel
theorem dX6_chance_121 : decode cX6_chance 121 = .ok (.aload_n 0, 1) := by decide +kernel
theorem dX6_chance_122 : decode cX6_chance 122 = .ok (.iload_n 1, 1) := by decide +kernel
theorem dX6_chance_123 : decode cX6_chance 123 = .ok (.invokevirtual 86, 3) := by decide +kernel
theorem dX6_chance_126 : decode cX6_chance 126 = .ok (.if_icmp .gt 17, 3) := by decide +kernel
theorem dX6_chance_129 : decode cX6_chance 129 = .ok (.aload_n 0, 1) := by decide +kernel
theorem dX6_chance_130 : decode cX6_chance 130 = .ok (.getfield 76, 3) := by decide +kernel
theorem dX6_chance_133 : decode cX6_chance 133 = .ok (.iload 5, 2) := by decide +kernel
theorem dX6_chance_135 : decode cX6_chance 135 = .ok (.iconst 0, 1) := by decide +kernel
theorem dX6_chance_136 : decode cX6_chance 136 = .ok (.iastore, 1) := by decide +kernel
theorem dX6_chance_137 : decode cX6_chance 137 = .ok (.iinc 5 1, 3) := by decide +kernel
theorem dX6_chance_140 : decode cX6_chance 140 = .ok (.goto (-21), 3) := by decide +kernel
theorem dX6_chance_143 : decode cX6_chance 143 = .ok (.iconst 0, 1) := by decide +kernel
theorem dX6_chance_144 : decode cX6_chance 144 = .ok (.istore 5, 2) := by decide +kernel
theorem dX6_chance_146 : decode cX6_chance 146 = .ok (.iload 5, 2) := by decide +kernel
theorem dX6_chance_148 : decode cX6_chance 148 = .ok (.aload_n 0, 1) := by decide +kernel
theorem dX6_chance_149 : decode cX6_chance 149 = .ok (.iload_n 1, 1) := by decide +kernel
theorem dX6_chance_150 : decode cX6_chance 150 = .ok (.invokevirtual 86, 3) := by decide +kernel
theorem dX6_chance_153 : decode cX6_chance 153 = .ok (.if_icmp .gt 16, 3) := by decide +kernel
theorem dX6_chance_156 : decode cX6_chance 156 = .ok (.aload_n 0, 1) := by decide +kernel
