theorem dX4_solve_0 : decode cX4_solve 0 = .ok (.aload_n 0, 1) := by decide +kernel
theorem dX4_solve_1 : decode cX4_solve 1 = .ok (.getfield 43, 3) := by decide +kernel
theorem dX4_solve_4 : decode cX4_solve 4 = .ok (.aload_n 0, 1) := by decide +kernel
theorem dX4_solve_5 : decode cX4_solve 5 = .ok (.iload_n 1, 1) := by decide +kernel
theorem dX4_solve_6 : decode cX4_solve 6 = .ok (.invokevirtual 63, 3) := by decide +kernel
theorem dX4_solve_9 : decode cX4_solve 9 = .ok (.imul, 1) := by decide +kernel
theorem dX4_solve_10 : decode cX4_solve 10 = .ok (.istore_n 2, 1) := by decide +kernel
theorem dX4_solve_11 : decode cX4_solve 11 = .ok (.iconst 0, 1) := by decide +kernel
theorem dX4_solve_12 : decode cX4_solve 12 = .ok (.istore_n 3, 1) := by decide +kernel
theorem dX4_solve_13 : decode cX4_solve 13 = .ok (.iload_n 3, 1) := by decide +kernel
theorem dX4_solve_14 : decode cX4_solve 14 = .ok (.iconst 2, 1) := by decide +kernel
theorem dX4_solve_15 : decode cX4_solve 15 = .ok (.aload_n 0, 1) := by decide +kernel
theorem dX4_solve_16 : decode cX4_solve 16 = .ok (.getfield 43, 3) := by decide +kernel
theorem dX4_solve_19 : decode cX4_solve 19 = .ok (.imul, 1) := by decide +kernel
theorem dX4_solve_20 : decode cX4_solve 20 = .ok (.if_icmp .ge 112, 3) := by decide +kernel
theorem dX4_solve_23 : decode cX4_solve 23 = .ok (.aload_n 0, 1) := by decide +kernel
theorem dX4_solve_24 : decode cX4_solve 24 = .ok (.getfield 31, 3) := by decide +kernel
theorem dX4_solve_27 : decode cX4_solve 27 = .ok (.iload_n 3, 1) := by decide +kernel
theorem dX4_solve_28 : decode cX4_solve 28 = .ok (.iconst 0, 1) := by decide +kernel
theorem dX4_solve_29 : decode cX4_solve 29 = .ok (.iastore, 1) := by decide +kernel
theorem dX4_solve_30 : decode cX4_solve 30 = .ok (.aload_n 0, 1) := by decide +kernel
theorem dX4_solve_31 : decode cX4_solve 31 = .ok (.getfield 34, 3) := by decide +kernel
theorem dX4_solve_34 : decode cX4_solve 34 = .ok (.iload_n 3, 1) := by decide +kernel
theorem dX4_solve_35 : decode cX4_solve 35 = .ok (.iconst 0, 1) := by decide +kernel
theorem dX4_solve_36 : decode cX4_solve 36 = .ok (.iastore, 1) := by decide +kernel
theorem dX4_solve_37 : decode cX4_solve 37 = .ok (.iload_n 3, 1) := by decide +kernel
theorem dX4_solve_38 : decode cX4_solve 38 = .ok (.aload_n 0, 1) := by decide +kernel
theorem dX4_solve_39 : decode cX4_solve 39 = .ok (.getfield 43, 3) := by decide +kernel
theorem dX4_solve_42 : decode cX4_solve 42 = .ok (.irem, 1) := by decide +kernel
theorem dX4_solve_43 : decode cX4_solve 43 = .ok (.istore 4, 2) := by decide +kernel
theorem dX4_solve_45 : decode cX4_solve 45 = .ok (.iload_n 3, 1) := by decide +kernel
theorem dX4_solve_46 : decode cX4_solve 46 = .ok (.aload_n 0, 1) := by decide +kernel
theorem dX4_solve_47 : decode cX4_solve 47 = .ok (.getfield 43, 3) := by decide +kernel
theorem dX4_solve_50 : decode cX4_solve 50 = .ok (.if_icmp .lt 7, 3) := by decide +kernel
theorem dX4_solve_53 : decode cX4_solve 53 = .ok (.iconst 1, 1) := by decide +kernel
theorem dX4_solve_54 : decode cX4_solve 54 = .ok (.goto 4, 3) := by decide +kernel
theorem dX4_solve_57 : decode cX4_solve 57 = .ok (.iconst 0, 1) := by decide +kernel
theorem dX4_solve_58 : decode cX4_solve 58 = .ok (.istore 5, 2) := by decide +kernel
theorem dX4_solve_60 : decode cX4_solve 60 = .ok (.aload_n 0, 1) := by decide +kernel
theorem dX4_solve_61 : decode cX4_solve 61 = .ok (.iload_n 3, 1) := by decide +kernel
theorem dX4_solve_62 : decode cX4_solve 62 = .ok (.iload_n 1, 1) := by decide +kernel
theorem dX4_solve_63 : decode cX4_solve 63 = .ok (.iload 4, 2) := by decide +kernel
theorem dX4_solve_65 : decode cX4_solve 65 = .ok (.iload 5, 2) := by decide +kernel
theorem dX4_solve_67 : decode cX4_solve 67 = .ok (.ifCond .eq 12, 3) := by decide +kernel
theorem dX4_solve_70 : decode cX4_solve 70 = .ok (.aload_n 0, 1) := by decide +kernel
theorem dX4_solve_71 : decode cX4_solve 71 = .ok (.getfield 43, 3) := by decide +kernel
theorem dX4_solve_74 : decode cX4_solve 74 = .ok (.iconst 1, 1) := by decide +kernel
theorem dX4_solve_75 : decode cX4_solve 75 = .ok (.isub, 1) := by decide +kernel
theorem dX4_solve_76 : decode cX4_solve 76 = .ok (.goto 9, 3) := by decide +kernel
theorem dX4_solve_79 : decode cX4_solve 79 = .ok (.aload_n 0, 1) := by decide +kernel
theorem dX4_solve_80 : decode cX4_solve 80 = .ok (.getfield 43, 3) := by decide +kernel
theorem dX4_solve_83 : decode cX4_solve 83 = .ok (.iconst 2, 1) := by decide +kernel
theorem dX4_solve_84 : decode cX4_solve 84 = .ok (.isub, 1) := by decide +kernel
theorem dX4_solve_85 : decode cX4_solve 85 = .ok (.invokevirtual 66, 3) := by decide +kernel
theorem dX4_solve_88 : decode cX4_solve 88 = .ok (.iconst 0, 1) := by decide +kernel
theorem dX4_solve_89 : decode cX4_solve 89 = .ok (.istore 6, 2) := by decide +kernel
theorem dX4_solve_91 : decode cX4_solve 91 = .ok (.iload 6, 2) := by decide +kernel
theorem dX4_solve_93 : decode cX4_solve 93 = .ok (.aload_n 0, 1) := by decide +kernel
theorem dX4_solve_94 : decode cX4_solve 94 = .ok (.getfield 43, 3) := by decide +kernel
theorem dX4_solve_97 : decode cX4_solve 97 = .ok (.iconst 2, 1) := by decide +kernel
theorem dX4_solve_98 : decode cX4_solve 98 = .ok (.isub, 1) := by decide +kernel
theorem dX4_solve_99 : decode cX4_solve 99 = .ok (.if_icmp .ge 27, 3) := by decide +kernel
theorem dX4_solve_102 : decode cX4_solve 102 = .ok (.aload_n 0, 1) := by decide +kernel
theorem dX4_solve_103 : decode cX4_solve 103 = .ok (.iload_n 3, 1) := by decide +kernel
theorem dX4_solve_104 : decode cX4_solve 104 = .ok (.iload_n 1, 1) := by decide +kernel
theorem dX4_solve_105 : decode cX4_solve 105 = .ok (.aload_n 0, 1) := by decide +kernel
theorem dX4_solve_106 : decode cX4_solve 106 = .ok (.iload 4, 2) := by decide +kernel
theorem dX4_solve_108 : decode cX4_solve 108 = .ok (.iload 6, 2) := by decide +kernel
theorem dX4_solve_110 : decode cX4_solve 110 = .ok (.iload 5, 2) := by decide +kernel
theorem dX4_solve_112 : decode cX4_solve 112 = .ok (.invokevirtual 70, 3) := by decide +kernel
theorem dX4_solve_115 : decode cX4_solve 115 = .ok (.iload 6, 2) := by decide +kernel
theorem dX4_solve_117 : decode cX4_solve 117 = .ok (.invokevirtual 66, 3) := by decide +kernel
theorem dX4_solve_120 : decode cX4_solve 120 = .ok (.iinc 6  1, 3) := by decide +kernel
theorem dX4_solve_123 : decode cX4_solve 123 = .ok (.goto (-32), 3) := by decide +kernel
theorem dX4_solve_126 : decode cX4_solve 126 = .ok (.iinc 3  1, 3) := by decide +kernel
theorem dX4_solve_129 : decode cX4_solve 129 = .ok (.goto (-116), 3) := by decide +kernel
theorem dX4_solve_132 : decode cX4_solve 132 = .ok (.iconst 0, 1) := by decide +kernel
theorem dX4_solve_133 : decode cX4_solve 133 = .ok (.istore_n 3, 1) := by decide +kernel
theorem dX4_solve_134 : decode cX4_solve 134 = .ok (.iconst 0, 1) := by decide +kernel
theorem dX4_solve_135 : decode cX4_solve 135 = .ok (.istore 4, 2) := by decide +kernel
theorem dX4_solve_137 : decode cX4_solve 137 = .ok (.iload 4, 2) := by decide +kernel
theorem dX4_solve_139 : decode cX4_solve 139 = .ok (.iload_n 2, 1) := by decide +kernel
theorem dX4_solve_140 : decode cX4_solve 140 = .ok (.if_icmp .ge 205, 3) := by decide +kernel
theorem dX4_solve_143 : decode cX4_solve 143 = .ok (.iload_n 3, 1) := by decide +kernel
theorem dX4_solve_144 : decode cX4_solve 144 = .ok (.istore 5, 2) := by decide +kernel
theorem dX4_solve_146 : decode cX4_solve 146 = .ok (.iload 5, 2) := by decide +kernel
theorem dX4_solve_148 : decode cX4_solve 148 = .ok (.iconst 2, 1) := by decide +kernel
theorem dX4_solve_149 : decode cX4_solve 149 = .ok (.aload_n 0, 1) := by decide +kernel
theorem dX4_solve_150 : decode cX4_solve 150 = .ok (.getfield 43, 3) := by decide +kernel
theorem dX4_solve_153 : decode cX4_solve 153 = .ok (.imul, 1) := by decide +kernel
theorem dX4_solve_154 : decode cX4_solve 154 = .ok (.if_icmp .ge 24, 3) := by decide +kernel
theorem dX4_solve_157 : decode cX4_solve 157 = .ok (.aload_n 0, 1) := by decide +kernel
theorem dX4_solve_158 : decode cX4_solve 158 = .ok (.getfield 31, 3) := by decide +kernel
theorem dX4_solve_161 : decode cX4_solve 161 = .ok (.iload 5, 2) := by decide +kernel
theorem dX4_solve_163 : decode cX4_solve 163 = .ok (.iaload, 1) := by decide +kernel
theorem dX4_solve_164 : decode cX4_solve 164 = .ok (.iload 4, 2) := by decide +kernel
theorem dX4_solve_166 : decode cX4_solve 166 = .ok (.ishr, 1) := by decide +kernel
theorem dX4_solve_167 : decode cX4_solve 167 = .ok (.iconst 1, 1) := by decide +kernel
theorem dX4_solve_168 : decode cX4_solve 168 = .ok (.iand, 1) := by decide +kernel
theorem dX4_solve_169 : decode cX4_solve 169 = .ok (.ifCond .ne 9, 3) := by decide +kernel
theorem dX4_solve_172 : decode cX4_solve 172 = .ok (.iinc 5  1, 3) := by decide +kernel
theorem dX4_solve_175 : decode cX4_solve 175 = .ok (.goto (-29), 3) := by decide +kernel
theorem dX4_solve_178 : decode cX4_solve 178 = .ok (.iload 5, 2) := by decide +kernel
theorem dX4_solve_180 : decode cX4_solve 180 = .ok (.iconst 2, 1) := by decide +kernel
theorem dX4_solve_181 : decode cX4_solve 181 = .ok (.aload_n 0, 1) := by decide +kernel
theorem dX4_solve_182 : decode cX4_solve 182 = .ok (.getfield 43, 3) := by decide +kernel
theorem dX4_solve_185 : decode cX4_solve 185 = .ok (.imul, 1) := by decide +kernel
theorem dX4_solve_186 : decode cX4_solve 186 = .ok (.if_icmp .ne 14, 3) := by decide +kernel
theorem dX4_solve_189 : decode cX4_solve 189 = .ok (.aload_n 0, 1) := by decide +kernel
theorem dX4_solve_190 : decode cX4_solve 190 = .ok (.getfield 37, 3) := by decide +kernel
theorem dX4_solve_193 : decode cX4_solve 193 = .ok (.iload 4, 2) := by decide +kernel
theorem dX4_solve_195 : decode cX4_solve 195 = .ok (.iconst 0, 1) := by decide +kernel
theorem dX4_solve_196 : decode cX4_solve 196 = .ok (.iastore, 1) := by decide +kernel
theorem dX4_solve_197 : decode cX4_solve 197 = .ok (.goto 142, 3) := by decide +kernel
theorem dX4_solve_200 : decode cX4_solve 200 = .ok (.aload_n 0, 1) := by decide +kernel
theorem dX4_solve_201 : decode cX4_solve 201 = .ok (.getfield 31, 3) := by decide +kernel
theorem dX4_solve_204 : decode cX4_solve 204 = .ok (.iload 5, 2) := by decide +kernel
theorem dX4_solve_206 : decode cX4_solve 206 = .ok (.iaload, 1) := by decide +kernel
theorem dX4_solve_207 : decode cX4_solve 207 = .ok (.istore 6, 2) := by decide +kernel
theorem dX4_solve_209 : decode cX4_solve 209 = .ok (.aload_n 0, 1) := by decide +kernel
theorem dX4_solve_210 : decode cX4_solve 210 = .ok (.getfield 34, 3) := by decide +kernel
theorem dX4_solve_213 : decode cX4_solve 213 = .ok (.iload 5, 2) := by decide +kernel
theorem dX4_solve_215 : decode cX4_solve 215 = .ok (.iaload, 1) := by decide +kernel
theorem dX4_solve_216 : decode cX4_solve 216 = .ok (.istore 7, 2) := by decide +kernel
theorem dX4_solve_218 : decode cX4_solve 218 = .ok (.aload_n 0, 1) := by decide +kernel
theorem dX4_solve_219 : decode cX4_solve 219 = .ok (.getfield 31, 3) := by decide +kernel
theorem dX4_solve_222 : decode cX4_solve 222 = .ok (.iload 5, 2) := by decide +kernel
theorem dX4_solve_224 : decode cX4_solve 224 = .ok (.aload_n 0, 1) := by decide +kernel
theorem dX4_solve_225 : decode cX4_solve 225 = .ok (.getfield 31, 3) := by decide +kernel
theorem dX4_solve_228 : decode cX4_solve 228 = .ok (.iload_n 3, 1) := by decide +kernel
theorem dX4_solve_229 : decode cX4_solve 229 = .ok (.iaload, 1) := by decide +kernel
theorem dX4_solve_230 : decode cX4_solve 230 = .ok (.iastore, 1) := by decide +kernel
theorem dX4_solve_231 : decode cX4_solve 231 = .ok (.aload_n 0, 1) := by decide +kernel
theorem dX4_solve_232 : decode cX4_solve 232 = .ok (.getfield 34, 3) := by decide +kernel
theorem dX4_solve_235 : decode cX4_solve 235 = .ok (.iload 5, 2) := by decide +kernel
theorem dX4_solve_237 : decode cX4_solve 237 = .ok (.aload_n 0, 1) := by decide +kernel
theorem dX4_solve_238 : decode cX4_solve 238 = .ok (.getfield 34, 3) := by decide +kernel
theorem dX4_solve_241 : decode cX4_solve 241 = .ok (.iload_n 3, 1) := by decide +kernel
theorem dX4_solve_242 : decode cX4_solve 242 = .ok (.iaload, 1) := by decide +kernel
theorem dX4_solve_243 : decode cX4_solve 243 = .ok (.iastore, 1) := by decide +kernel
theorem dX4_solve_244 : decode cX4_solve 244 = .ok (.aload_n 0, 1) := by decide +kernel
theorem dX4_solve_245 : decode cX4_solve 245 = .ok (.getfield 31, 3) := by decide +kernel
theorem dX4_solve_248 : decode cX4_solve 248 = .ok (.iload_n 3, 1) := by decide +kernel
theorem dX4_solve_249 : decode cX4_solve 249 = .ok (.iload 6, 2) := by decide +kernel
theorem dX4_solve_251 : decode cX4_solve 251 = .ok (.iastore, 1) := by decide +kernel
theorem dX4_solve_252 : decode cX4_solve 252 = .ok (.aload_n 0, 1) := by decide +kernel
theorem dX4_solve_253 : decode cX4_solve 253 = .ok (.getfield 34, 3) := by decide +kernel
theorem dX4_solve_256 : decode cX4_solve 256 = .ok (.iload_n 3, 1) := by decide +kernel
theorem dX4_solve_257 : decode cX4_solve 257 = .ok (.iload 7, 2) := by decide +kernel
theorem dX4_solve_259 : decode cX4_solve 259 = .ok (.iastore, 1) := by decide +kernel
theorem dX4_solve_260 : decode cX4_solve 260 = .ok (.iconst 0, 1) := by decide +kernel
theorem dX4_solve_261 : decode cX4_solve 261 = .ok (.istore 8, 2) := by decide +kernel
theorem dX4_solve_263 : decode cX4_solve 263 = .ok (.iload 8, 2) := by decide +kernel
theorem dX4_solve_265 : decode cX4_solve 265 = .ok (.iconst 2, 1) := by decide +kernel
theorem dX4_solve_266 : decode cX4_solve 266 = .ok (.aload_n 0, 1) := by decide +kernel
theorem dX4_solve_267 : decode cX4_solve 267 = .ok (.getfield 43, 3) := by decide +kernel
theorem dX4_solve_270 : decode cX4_solve 270 = .ok (.imul, 1) := by decide +kernel
theorem dX4_solve_271 : decode cX4_solve 271 = .ok (.if_icmp .ge 65, 3) := by decide +kernel
theorem dX4_solve_274 : decode cX4_solve 274 = .ok (.iload 8, 2) := by decide +kernel
theorem dX4_solve_276 : decode cX4_solve 276 = .ok (.iload_n 3, 1) := by decide +kernel
theorem dX4_solve_277 : decode cX4_solve 277 = .ok (.if_icmp .eq 53, 3) := by decide +kernel
theorem dX4_solve_280 : decode cX4_solve 280 = .ok (.aload_n 0, 1) := by decide +kernel
theorem dX4_solve_281 : decode cX4_solve 281 = .ok (.getfield 31, 3) := by decide +kernel
theorem dX4_solve_284 : decode cX4_solve 284 = .ok (.iload 8, 2) := by decide +kernel
theorem dX4_solve_286 : decode cX4_solve 286 = .ok (.iaload, 1) := by decide +kernel
theorem dX4_solve_287 : decode cX4_solve 287 = .ok (.iload 4, 2) := by decide +kernel
theorem dX4_solve_289 : decode cX4_solve 289 = .ok (.ishr, 1) := by decide +kernel
theorem dX4_solve_290 : decode cX4_solve 290 = .ok (.iconst 1, 1) := by decide +kernel
theorem dX4_solve_291 : decode cX4_solve 291 = .ok (.iand, 1) := by decide +kernel
theorem dX4_solve_292 : decode cX4_solve 292 = .ok (.iconst 1, 1) := by decide +kernel
theorem dX4_solve_293 : decode cX4_solve 293 = .ok (.if_icmp .ne 37, 3) := by decide +kernel
theorem dX4_solve_296 : decode cX4_solve 296 = .ok (.aload_n 0, 1) := by decide +kernel
theorem dX4_solve_297 : decode cX4_solve 297 = .ok (.getfield 31, 3) := by decide +kernel
theorem dX4_solve_300 : decode cX4_solve 300 = .ok (.iload 8, 2) := by decide +kernel
theorem dX4_solve_302 : decode cX4_solve 302 = .ok (.aload_n 0, 1) := by decide +kernel
theorem dX4_solve_303 : decode cX4_solve 303 = .ok (.getfield 31, 3) := by decide +kernel
theorem dX4_solve_306 : decode cX4_solve 306 = .ok (.iload 8, 2) := by decide +kernel
theorem dX4_solve_308 : decode cX4_solve 308 = .ok (.iaload, 1) := by decide +kernel
theorem dX4_solve_309 : decode cX4_solve 309 = .ok (.iload 6, 2) := by decide +kernel
theorem dX4_solve_311 : decode cX4_solve 311 = .ok (.ixor, 1) := by decide +kernel
theorem dX4_solve_312 : decode cX4_solve 312 = .ok (.iastore, 1) := by decide +kernel
theorem dX4_solve_313 : decode cX4_solve 313 = .ok (.aload_n 0, 1) := by decide +kernel
theorem dX4_solve_314 : decode cX4_solve 314 = .ok (.getfield 34, 3) := by decide +kernel
theorem dX4_solve_317 : decode cX4_solve 317 = .ok (.iload 8, 2) := by decide +kernel
theorem dX4_solve_319 : decode cX4_solve 319 = .ok (.aload_n 0, 1) := by decide +kernel
theorem dX4_solve_320 : decode cX4_solve 320 = .ok (.getfield 34, 3) := by decide +kernel
theorem dX4_solve_323 : decode cX4_solve 323 = .ok (.iload 8, 2) := by decide +kernel
theorem dX4_solve_325 : decode cX4_solve 325 = .ok (.iaload, 1) := by decide +kernel
theorem dX4_solve_326 : decode cX4_solve 326 = .ok (.iload 7, 2) := by decide +kernel
theorem dX4_solve_328 : decode cX4_solve 328 = .ok (.ixor, 1) := by decide +kernel
theorem dX4_solve_329 : decode cX4_solve 329 = .ok (.iastore, 1) := by decide +kernel
theorem dX4_solve_330 : decode cX4_solve 330 = .ok (.iinc 8  1, 3) := by decide +kernel
theorem dX4_solve_333 : decode cX4_solve 333 = .ok (.goto (-70), 3) := by decide +kernel
theorem dX4_solve_336 : decode cX4_solve 336 = .ok (.iinc 3  1, 3) := by decide +kernel
theorem dX4_solve_339 : decode cX4_solve 339 = .ok (.iinc 4  1, 3) := by decide +kernel
theorem dX4_solve_342 : decode cX4_solve 342 = .ok (.goto (-205), 3) := by decide +kernel
theorem dX4_solve_345 : decode cX4_solve 345 = .ok (.iconst 0, 1) := by decide +kernel
theorem dX4_solve_346 : decode cX4_solve 346 = .ok (.istore 4, 2) := by decide +kernel
theorem dX4_solve_348 : decode cX4_solve 348 = .ok (.iload 4, 2) := by decide +kernel
theorem dX4_solve_350 : decode cX4_solve 350 = .ok (.iload_n 3, 1) := by decide +kernel
theorem dX4_solve_351 : decode cX4_solve 351 = .ok (.if_icmp .ge 47, 3) := by decide +kernel
theorem dX4_solve_354 : decode cX4_solve 354 = .ok (.iconst 0, 1) := by decide +kernel
theorem dX4_solve_355 : decode cX4_solve 355 = .ok (.istore 5, 2) := by decide +kernel
theorem dX4_solve_357 : decode cX4_solve 357 = .ok (.aload_n 0, 1) := by decide +kernel
theorem dX4_solve_358 : decode cX4_solve 358 = .ok (.getfield 31, 3) := by decide +kernel
theorem dX4_solve_361 : decode cX4_solve 361 = .ok (.iload 4, 2) := by decide +kernel
theorem dX4_solve_363 : decode cX4_solve 363 = .ok (.iaload, 1) := by decide +kernel
theorem dX4_solve_364 : decode cX4_solve 364 = .ok (.iload 5, 2) := by decide +kernel
theorem dX4_solve_366 : decode cX4_solve 366 = .ok (.ishr, 1) := by decide +kernel
theorem dX4_solve_367 : decode cX4_solve 367 = .ok (.iconst 1, 1) := by decide +kernel
theorem dX4_solve_368 : decode cX4_solve 368 = .ok (.iand, 1) := by decide +kernel
theorem dX4_solve_369 : decode cX4_solve 369 = .ok (.ifCond .ne 9, 3) := by decide +kernel
theorem dX4_solve_372 : decode cX4_solve 372 = .ok (.iinc 5  1, 3) := by decide +kernel
theorem dX4_solve_375 : decode cX4_solve 375 = .ok (.goto (-18), 3) := by decide +kernel
theorem dX4_solve_378 : decode cX4_solve 378 = .ok (.aload_n 0, 1) := by decide +kernel
theorem dX4_solve_379 : decode cX4_solve 379 = .ok (.getfield 37, 3) := by decide +kernel
theorem dX4_solve_382 : decode cX4_solve 382 = .ok (.iload 5, 2) := by decide +kernel
theorem dX4_solve_384 : decode cX4_solve 384 = .ok (.aload_n 0, 1) := by decide +kernel
theorem dX4_solve_385 : decode cX4_solve 385 = .ok (.getfield 34, 3) := by decide +kernel
theorem dX4_solve_388 : decode cX4_solve 388 = .ok (.iload 4, 2) := by decide +kernel
theorem dX4_solve_390 : decode cX4_solve 390 = .ok (.iaload, 1) := by decide +kernel
theorem dX4_solve_391 : decode cX4_solve 391 = .ok (.iastore, 1) := by decide +kernel
theorem dX4_solve_392 : decode cX4_solve 392 = .ok (.iinc 4  1, 3) := by decide +kernel
theorem dX4_solve_395 : decode cX4_solve 395 = .ok (.goto (-47), 3) := by decide +kernel
theorem dX4_solve_398 : decode cX4_solve 398 = .ok (.return_, 1) := by decide +kernel
theorem dX4_write_0 : decode cX4_write 0 = .ok (.aload_n 0, 1) := by decide +kernel
theorem dX4_write_1 : decode cX4_write 1 = .ok (.iconst 0, 1) := by decide +kernel
theorem dX4_write_2 : decode cX4_write 2 = .ok (.putfield 49, 3) := by decide +kernel
theorem dX4_write_5 : decode cX4_write 5 = .ok (.aload_n 0, 1) := by decide +kernel
theorem dX4_write_6 : decode cX4_write 6 = .ok (.getfield 23, 3) := by decide +kernel
theorem dX4_write_9 : decode cX4_write 9 = .ok (.ifCond .eq 11, 3) := by decide +kernel
theorem dX4_write_12 : decode cX4_write 12 = .ok (.aload_n 0, 1) := by decide +kernel
theorem dX4_write_13 : decode cX4_write 13 = .ok (.iload_n 1, 1) := by decide +kernel
theorem dX4_write_14 : decode cX4_write 14 = .ok (.invokevirtual 77, 3) := by decide +kernel
theorem dX4_write_17 : decode cX4_write 17 = .ok (.ifCond .ne 5, 3) := by decide +kernel
theorem dX4_write_20 : decode cX4_write 20 = .ok (.iconst (-1), 1) := by decide +kernel
theorem dX4_write_21 : decode cX4_write 21 = .ok (.ireturn, 1) := by decide +kernel
theorem dX4_write_22 : decode cX4_write 22 = .ok (.iload_n 1, 1) := by decide +kernel
theorem dX4_write_23 : decode cX4_write 23 = .ok (.aload_n 0, 1) := by decide +kernel
theorem dX4_write_24 : decode cX4_write 24 = .ok (.getfield 43, 3) := by decide +kernel
theorem dX4_write_27 : decode cX4_write 27 = .ok (.aload_n 0, 1) := by decide +kernel
theorem dX4_write_28 : decode cX4_write 28 = .ok (.getfield 43, 3) := by decide +kernel
theorem dX4_write_31 : decode cX4_write 31 = .ok (.iconst 2, 1) := by decide +kernel
theorem dX4_write_32 : decode cX4_write 32 = .ok (.isub, 1) := by decide +kernel
theorem dX4_write_33 : decode cX4_write 33 = .ok (.imul, 1) := by decide +kernel
theorem dX4_write_34 : decode cX4_write 34 = .ok (.idiv, 1) := by decide +kernel
theorem dX4_write_35 : decode cX4_write 35 = .ok (.istore_n 3, 1) := by decide +kernel
theorem dX4_write_36 : decode cX4_write 36 = .ok (.iload_n 1, 1) := by decide +kernel
theorem dX4_write_37 : decode cX4_write 37 = .ok (.aload_n 0, 1) := by decide +kernel
theorem dX4_write_38 : decode cX4_write 38 = .ok (.getfield 43, 3) := by decide +kernel
theorem dX4_write_41 : decode cX4_write 41 = .ok (.idiv, 1) := by decide +kernel
theorem dX4_write_42 : decode cX4_write 42 = .ok (.aload_n 0, 1) := by decide +kernel
theorem dX4_write_43 : decode cX4_write 43 = .ok (.getfield 43, 3) := by decide +kernel
theorem dX4_write_46 : decode cX4_write 46 = .ok (.iconst 2, 1) := by decide +kernel
theorem dX4_write_47 : decode cX4_write 47 = .ok (.isub, 1) := by decide +kernel
theorem dX4_write_48 : decode cX4_write 48 = .ok (.irem, 1) := by decide +kernel
theorem dX4_write_49 : decode cX4_write 49 = .ok (.istore 4, 2) := by decide +kernel
theorem dX4_write_51 : decode cX4_write 51 = .ok (.iload_n 1, 1) := by decide +kernel
theorem dX4_write_52 : decode cX4_write 52 = .ok (.aload_n 0, 1) := by decide +kernel
theorem dX4_write_53 : decode cX4_write 53 = .ok (.getfield 43, 3) := by decide +kernel
theorem dX4_write_56 : decode cX4_write 56 = .ok (.irem, 1) := by decide +kernel
theorem dX4_write_57 : decode cX4_write 57 = .ok (.istore 5, 2) := by decide +kernel
theorem dX4_write_59 : decode cX4_write 59 = .ok (.aload_n 0, 1) := by decide +kernel
theorem dX4_write_60 : decode cX4_write 60 = .ok (.iload_n 3, 1) := by decide +kernel
theorem dX4_write_61 : decode cX4_write 61 = .ok (.invokevirtual 63, 3) := by decide +kernel
theorem dX4_write_64 : decode cX4_write 64 = .ok (.iconst 2, 1) := by decide +kernel
theorem dX4_write_65 : decode cX4_write 65 = .ok (.if_icmp .gt 19, 3) := by decide +kernel
theorem dX4_write_68 : decode cX4_write 68 = .ok (.aload_n 0, 1) := by decide +kernel
theorem dX4_write_69 : decode cX4_write 69 = .ok (.getfield 20, 3) := by decide +kernel
theorem dX4_write_72 : decode cX4_write 72 = .ok (.iload_n 3, 1) := by decide +kernel
theorem dX4_write_73 : decode cX4_write 73 = .ok (.baload, 1) := by decide +kernel
theorem dX4_write_74 : decode cX4_write 74 = .ok (.ifCond .eq 12, 3) := by decide +kernel
theorem dX4_write_77 : decode cX4_write 77 = .ok (.aload_n 0, 1) := by decide +kernel
theorem dX4_write_78 : decode cX4_write 78 = .ok (.getfield 52, 3) := by decide +kernel
theorem dX4_write_81 : decode cX4_write 81 = .ok (.ifCond .le 5, 3) := by decide +kernel
theorem dX4_write_84 : decode cX4_write 84 = .ok (.iconst (-1), 1) := by decide +kernel
theorem dX4_write_85 : decode cX4_write 85 = .ok (.ireturn, 1) := by decide +kernel
theorem dX4_write_86 : decode cX4_write 86 = .ok (.aload_n 0, 1) := by decide +kernel
theorem dX4_write_87 : decode cX4_write 87 = .ok (.getfield 7, 3) := by decide +kernel
theorem dX4_write_90 : decode cX4_write 90 = .ok (.iload_n 3, 1) := by decide +kernel
theorem dX4_write_91 : decode cX4_write 91 = .ok (.iload 5, 2) := by decide +kernel
theorem dX4_write_93 : decode cX4_write 93 = .ok (.iload 4, 2) := by decide +kernel
theorem dX4_write_95 : decode cX4_write 95 = .ok (.invokestatic 59, 3) := by decide +kernel
theorem dX4_write_98 : decode cX4_write 98 = .ok (.iaload, 1) := by decide +kernel
theorem dX4_write_99 : decode cX4_write 99 = .ok (.istore 6, 2) := by decide +kernel
theorem dX4_write_101 : decode cX4_write 101 = .ok (.aload_n 0, 1) := by decide +kernel
theorem dX4_write_102 : decode cX4_write 102 = .ok (.iload 5, 2) := by decide +kernel
theorem dX4_write_104 : decode cX4_write 104 = .ok (.iload_n 3, 1) := by decide +kernel
theorem dX4_write_105 : decode cX4_write 105 = .ok (.invokevirtual 55, 3) := by decide +kernel
theorem dX4_write_108 : decode cX4_write 108 = .ok (.ifCond .eq 18, 3) := by decide +kernel
theorem dX4_write_111 : decode cX4_write 111 = .ok (.aload_n 0, 1) := by decide +kernel
theorem dX4_write_112 : decode cX4_write 112 = .ok (.iload_n 3, 1) := by decide +kernel
theorem dX4_write_113 : decode cX4_write 113 = .ok (.invokevirtual 81, 3) := by decide +kernel
theorem dX4_write_116 : decode cX4_write 116 = .ok (.aload_n 0, 1) := by decide +kernel
theorem dX4_write_117 : decode cX4_write 117 = .ok (.iload 5, 2) := by decide +kernel
theorem dX4_write_119 : decode cX4_write 119 = .ok (.iload 4, 2) := by decide +kernel
theorem dX4_write_121 : decode cX4_write 121 = .ok (.invokevirtual 85, 3) := by decide +kernel
theorem dX4_write_124 : decode cX4_write 124 = .ok (.istore 6, 2) := by decide +kernel
theorem dX4_write_126 : decode cX4_write 126 = .ok (.iload 6, 2) := by decide +kernel
theorem dX4_write_128 : decode cX4_write 128 = .ok (.iload_n 2, 1) := by decide +kernel
theorem dX4_write_129 : decode cX4_write 129 = .ok (.ixor, 1) := by decide +kernel
theorem dX4_write_130 : decode cX4_write 130 = .ok (.istore 7, 2) := by decide +kernel
theorem dX4_write_132 : decode cX4_write 132 = .ok (.iload 5, 2) := by decide +kernel
theorem dX4_write_134 : decode cX4_write 134 = .ok (.iload 4, 2) := by decide +kernel
theorem dX4_write_136 : decode cX4_write 136 = .ok (.isub, 1) := by decide +kernel
theorem dX4_write_137 : decode cX4_write 137 = .ok (.iconst 2, 1) := by decide +kernel
theorem dX4_write_138 : decode cX4_write 138 = .ok (.isub, 1) := by decide +kernel
theorem dX4_write_139 : decode cX4_write 139 = .ok (.iconst 2, 1) := by decide +kernel
theorem dX4_write_140 : decode cX4_write 140 = .ok (.aload_n 0, 1) := by decide +kernel
theorem dX4_write_141 : decode cX4_write 141 = .ok (.getfield 43, 3) := by decide +kernel
theorem dX4_write_144 : decode cX4_write 144 = .ok (.imul, 1) := by decide +kernel
theorem dX4_write_145 : decode cX4_write 145 = .ok (.iadd, 1) := by decide +kernel
theorem dX4_write_146 : decode cX4_write 146 = .ok (.aload_n 0, 1) := by decide +kernel
theorem dX4_write_147 : decode cX4_write 147 = .ok (.getfield 43, 3) := by decide +kernel
theorem dX4_write_150 : decode cX4_write 150 = .ok (.irem, 1) := by decide +kernel
theorem dX4_write_151 : decode cX4_write 151 = .ok (.istore 8, 2) := by decide +kernel
theorem dX4_write_153 : decode cX4_write 153 = .ok (.iload 5, 2) := by decide +kernel
theorem dX4_write_155 : decode cX4_write 155 = .ok (.iload 4, 2) := by decide +kernel
theorem dX4_write_157 : decode cX4_write 157 = .ok (.iadd, 1) := by decide +kernel
theorem dX4_write_158 : decode cX4_write 158 = .ok (.iconst 2, 1) := by decide +kernel
theorem dX4_write_159 : decode cX4_write 159 = .ok (.iadd, 1) := by decide +kernel
theorem dX4_write_160 : decode cX4_write 160 = .ok (.aload_n 0, 1) := by decide +kernel
theorem dX4_write_161 : decode cX4_write 161 = .ok (.getfield 43, 3) := by decide +kernel
theorem dX4_write_164 : decode cX4_write 164 = .ok (.irem, 1) := by decide +kernel
theorem dX4_write_165 : decode cX4_write 165 = .ok (.istore 9, 2) := by decide +kernel
theorem dX4_write_167 : decode cX4_write 167 = .ok (.aload_n 0, 1) := by decide +kernel
theorem dX4_write_168 : decode cX4_write 168 = .ok (.getfield 20, 3) := by decide +kernel
theorem dX4_write_171 : decode cX4_write 171 = .ok (.iload_n 3, 1) := by decide +kernel
theorem dX4_write_172 : decode cX4_write 172 = .ok (.iconst 1, 1) := by decide +kernel
theorem dX4_write_173 : decode cX4_write 173 = .ok (.bastore, 1) := by decide +kernel
theorem dX4_write_174 : decode cX4_write 174 = .ok (.aload_n 0, 1) := by decide +kernel
theorem dX4_write_175 : decode cX4_write 175 = .ok (.iload 5, 2) := by decide +kernel
theorem dX4_write_177 : decode cX4_write 177 = .ok (.iload_n 3, 1) := by decide +kernel
theorem dX4_write_178 : decode cX4_write 178 = .ok (.invokevirtual 55, 3) := by decide +kernel
theorem dX4_write_181 : decode cX4_write 181 = .ok (.ifCond .ne 18, 3) := by decide +kernel
theorem dX4_write_184 : decode cX4_write 184 = .ok (.aload_n 0, 1) := by decide +kernel
theorem dX4_write_185 : decode cX4_write 185 = .ok (.iload_n 3, 1) := by decide +kernel
theorem dX4_write_186 : decode cX4_write 186 = .ok (.iload 5, 2) := by decide +kernel
theorem dX4_write_188 : decode cX4_write 188 = .ok (.iload 4, 2) := by decide +kernel
theorem dX4_write_190 : decode cX4_write 190 = .ok (.iload_n 2, 1) := by decide +kernel
theorem dX4_write_191 : decode cX4_write 191 = .ok (.invokevirtual 89, 3) := by decide +kernel
theorem dX4_write_194 : decode cX4_write 194 = .ok (.ifCond .ne 5, 3) := by decide +kernel
theorem dX4_write_197 : decode cX4_write 197 = .ok (.iconst 0, 1) := by decide +kernel
theorem dX4_write_198 : decode cX4_write 198 = .ok (.ireturn, 1) := by decide +kernel
theorem dX4_write_199 : decode cX4_write 199 = .ok (.aload_n 0, 1) := by decide +kernel
theorem dX4_write_200 : decode cX4_write 200 = .ok (.iload 8, 2) := by decide +kernel
theorem dX4_write_202 : decode cX4_write 202 = .ok (.iload_n 3, 1) := by decide +kernel
theorem dX4_write_203 : decode cX4_write 203 = .ok (.invokevirtual 55, 3) := by decide +kernel
theorem dX4_write_206 : decode cX4_write 206 = .ok (.ifCond .ne 41, 3) := by decide +kernel
theorem dX4_write_209 : decode cX4_write 209 = .ok (.aload_n 0, 1) := by decide +kernel
theorem dX4_write_210 : decode cX4_write 210 = .ok (.iload_n 3, 1) := by decide +kernel
theorem dX4_write_211 : decode cX4_write 211 = .ok (.iload 8, 2) := by decide +kernel
theorem dX4_write_213 : decode cX4_write 213 = .ok (.aload_n 0, 1) := by decide +kernel
theorem dX4_write_214 : decode cX4_write 214 = .ok (.getfield 43, 3) := by decide +kernel
theorem dX4_write_217 : decode cX4_write 217 = .ok (.iconst 2, 1) := by decide +kernel
theorem dX4_write_218 : decode cX4_write 218 = .ok (.isub, 1) := by decide +kernel
theorem dX4_write_219 : decode cX4_write 219 = .ok (.aload_n 0, 1) := by decide +kernel
theorem dX4_write_220 : decode cX4_write 220 = .ok (.getfield 7, 3) := by decide +kernel
theorem dX4_write_223 : decode cX4_write 223 = .ok (.iload_n 3, 1) := by decide +kernel
theorem dX4_write_224 : decode cX4_write 224 = .ok (.iload 8, 2) := by decide +kernel
theorem dX4_write_226 : decode cX4_write 226 = .ok (.aload_n 0, 1) := by decide +kernel
theorem dX4_write_227 : decode cX4_write 227 = .ok (.getfield 43, 3) := by decide +kernel
theorem dX4_write_230 : decode cX4_write 230 = .ok (.iconst 2, 1) := by decide +kernel
theorem dX4_write_231 : decode cX4_write 231 = .ok (.isub, 1) := by decide +kernel
theorem dX4_write_232 : decode cX4_write 232 = .ok (.invokestatic 59, 3) := by decide +kernel
theorem dX4_write_235 : decode cX4_write 235 = .ok (.iaload, 1) := by decide +kernel
theorem dX4_write_236 : decode cX4_write 236 = .ok (.iload 7, 2) := by decide +kernel
theorem dX4_write_238 : decode cX4_write 238 = .ok (.ixor, 1) := by decide +kernel
theorem dX4_write_239 : decode cX4_write 239 = .ok (.invokevirtual 89, 3) := by decide +kernel
theorem dX4_write_242 : decode cX4_write 242 = .ok (.ifCond .ne 5, 3) := by decide +kernel
theorem dX4_write_245 : decode cX4_write 245 = .ok (.iconst 0, 1) := by decide +kernel
theorem dX4_write_246 : decode cX4_write 246 = .ok (.ireturn, 1) := by decide +kernel
theorem dX4_write_247 : decode cX4_write 247 = .ok (.aload_n 0, 1) := by decide +kernel
theorem dX4_write_248 : decode cX4_write 248 = .ok (.iload 9, 2) := by decide +kernel
theorem dX4_write_250 : decode cX4_write 250 = .ok (.iload_n 3, 1) := by decide +kernel
theorem dX4_write_251 : decode cX4_write 251 = .ok (.invokevirtual 55, 3) := by decide +kernel
theorem dX4_write_254 : decode cX4_write 254 = .ok (.ifCond .ne 41, 3) := by decide +kernel
theorem dX4_write_257 : decode cX4_write 257 = .ok (.aload_n 0, 1) := by decide +kernel
theorem dX4_write_258 : decode cX4_write 258 = .ok (.iload_n 3, 1) := by decide +kernel
theorem dX4_write_259 : decode cX4_write 259 = .ok (.iload 9, 2) := by decide +kernel
theorem dX4_write_261 : decode cX4_write 261 = .ok (.aload_n 0, 1) := by decide +kernel
theorem dX4_write_262 : decode cX4_write 262 = .ok (.getfield 43, 3) := by decide +kernel
theorem dX4_write_265 : decode cX4_write 265 = .ok (.iconst 1, 1) := by decide +kernel
theorem dX4_write_266 : decode cX4_write 266 = .ok (.isub, 1) := by decide +kernel
theorem dX4_write_267 : decode cX4_write 267 = .ok (.aload_n 0, 1) := by decide +kernel
theorem dX4_write_268 : decode cX4_write 268 = .ok (.getfield 7, 3) := by decide +kernel
theorem dX4_write_271 : decode cX4_write 271 = .ok (.iload_n 3, 1) := by decide +kernel
theorem dX4_write_272 : decode cX4_write 272 = .ok (.iload 9, 2) := by decide +kernel
theorem dX4_write_274 : decode cX4_write 274 = .ok (.aload_n 0, 1) := by decide +kernel
theorem dX4_write_275 : decode cX4_write 275 = .ok (.getfield 43, 3) := by decide +kernel
theorem dX4_write_278 : decode cX4_write 278 = .ok (.iconst 1, 1) := by decide +kernel
theorem dX4_write_279 : decode cX4_write 279 = .ok (.isub, 1) := by decide +kernel
theorem dX4_write_280 : decode cX4_write 280 = .ok (.invokestatic 59, 3) := by decide +kernel
theorem dX4_write_283 : decode cX4_write 283 = .ok (.iaload, 1) := by decide +kernel
theorem dX4_write_284 : decode cX4_write 284 = .ok (.iload 7, 2) := by decide +kernel
theorem dX4_write_286 : decode cX4_write 286 = .ok (.ixor, 1) := by decide +kernel
theorem dX4_write_287 : decode cX4_write 287 = .ok (.invokevirtual 89, 3) := by decide +kernel
theorem dX4_write_290 : decode cX4_write 290 = .ok (.ifCond .ne 5, 3) := by decide +kernel
theorem dX4_write_293 : decode cX4_write 293 = .ok (.iconst 0, 1) := by decide +kernel
theorem dX4_write_294 : decode cX4_write 294 = .ok (.ireturn, 1) := by decide +kernel
theorem dX4_write_295 : decode cX4_write 295 = .ok (.aload_n 0, 1) := by decide +kernel
theorem dX4_write_296 : decode cX4_write 296 = .ok (.getfield 20, 3) := by decide +kernel
theorem dX4_write_299 : decode cX4_write 299 = .ok (.iload_n 3, 1) := by decide +kernel
theorem dX4_write_300 : decode cX4_write 300 = .ok (.iconst 0, 1) := by decide +kernel
theorem dX4_write_301 : decode cX4_write 301 = .ok (.bastore, 1) := by decide +kernel
theorem dX4_write_302 : decode cX4_write 302 = .ok (.iconst 1, 1) := by decide +kernel
theorem dX4_write_303 : decode cX4_write 303 = .ok (.ireturn, 1) := by decide +kernel
theorem dX4_read_0 : decode cX4_read 0 = .ok (.aload_n 0, 1) := by decide +kernel
theorem dX4_read_1 : decode cX4_read 1 = .ok (.iload_n 1, 1) := by decide +kernel
theorem dX4_read_2 : decode cX4_read 2 = .ok (.invokevirtual 77, 3) := by decide +kernel
theorem dX4_read_5 : decode cX4_read 5 = .ok (.istore_n 2, 1) := by decide +kernel
theorem dX4_read_6 : decode cX4_read 6 = .ok (.aload_n 0, 1) := by decide +kernel
theorem dX4_read_7 : decode cX4_read 7 = .ok (.iload_n 2, 1) := by decide +kernel
theorem dX4_read_8 : decode cX4_read 8 = .ok (.ifCond .ne 7, 3) := by decide +kernel
theorem dX4_read_11 : decode cX4_read 11 = .ok (.iconst 1, 1) := by decide +kernel
theorem dX4_read_12 : decode cX4_read 12 = .ok (.goto 15, 3) := by decide +kernel
theorem dX4_read_15 : decode cX4_read 15 = .ok (.aload_n 0, 1) := by decide +kernel
theorem dX4_read_16 : decode cX4_read 16 = .ok (.getfield 23, 3) := by decide +kernel
theorem dX4_read_19 : decode cX4_read 19 = .ok (.ifCond .ne 7, 3) := by decide +kernel
theorem dX4_read_22 : decode cX4_read 22 = .ok (.iconst 2, 1) := by decide +kernel
theorem dX4_read_23 : decode cX4_read 23 = .ok (.goto 4, 3) := by decide +kernel
theorem dX4_read_26 : decode cX4_read 26 = .ok (.iconst 0, 1) := by decide +kernel
theorem dX4_read_27 : decode cX4_read 27 = .ok (.putfield 49, 3) := by decide +kernel
theorem dX4_read_30 : decode cX4_read 30 = .ok (.aload_n 0, 1) := by decide +kernel
theorem dX4_read_31 : decode cX4_read 31 = .ok (.getfield 49, 3) := by decide +kernel
theorem dX4_read_34 : decode cX4_read 34 = .ok (.ifCond .le 5, 3) := by decide +kernel
theorem dX4_read_37 : decode cX4_read 37 = .ok (.iconst 0, 1) := by decide +kernel
theorem dX4_read_38 : decode cX4_read 38 = .ok (.ireturn, 1) := by decide +kernel
theorem dX4_read_39 : decode cX4_read 39 = .ok (.iload_n 1, 1) := by decide +kernel
theorem dX4_read_40 : decode cX4_read 40 = .ok (.aload_n 0, 1) := by decide +kernel
theorem dX4_read_41 : decode cX4_read 41 = .ok (.getfield 43, 3) := by decide +kernel
theorem dX4_read_44 : decode cX4_read 44 = .ok (.aload_n 0, 1) := by decide +kernel
theorem dX4_read_45 : decode cX4_read 45 = .ok (.getfield 43, 3) := by decide +kernel
theorem dX4_read_48 : decode cX4_read 48 = .ok (.iconst 2, 1) := by decide +kernel
theorem dX4_read_49 : decode cX4_read 49 = .ok (.isub, 1) := by decide +kernel
theorem dX4_read_50 : decode cX4_read 50 = .ok (.imul, 1) := by decide +kernel
theorem dX4_read_51 : decode cX4_read 51 = .ok (.idiv, 1) := by decide +kernel
theorem dX4_read_52 : decode cX4_read 52 = .ok (.istore_n 3, 1) := by decide +kernel
theorem dX4_read_53 : decode cX4_read 53 = .ok (.iload_n 1, 1) := by decide +kernel
theorem dX4_read_54 : decode cX4_read 54 = .ok (.aload_n 0, 1) := by decide +kernel
theorem dX4_read_55 : decode cX4_read 55 = .ok (.getfield 43, 3) := by decide +kernel
theorem dX4_read_58 : decode cX4_read 58 = .ok (.idiv, 1) := by decide +kernel
theorem dX4_read_59 : decode cX4_read 59 = .ok (.aload_n 0, 1) := by decide +kernel
theorem dX4_read_60 : decode cX4_read 60 = .ok (.getfield 43, 3) := by decide +kernel
theorem dX4_read_63 : decode cX4_read 63 = .ok (.iconst 2, 1) := by decide +kernel
theorem dX4_read_64 : decode cX4_read 64 = .ok (.isub, 1) := by decide +kernel
theorem dX4_read_65 : decode cX4_read 65 = .ok (.irem, 1) := by decide +kernel
theorem dX4_read_66 : decode cX4_read 66 = .ok (.istore 4, 2) := by decide +kernel
theorem dX4_read_68 : decode cX4_read 68 = .ok (.iload_n 1, 1) := by decide +kernel
theorem dX4_read_69 : decode cX4_read 69 = .ok (.aload_n 0, 1) := by decide +kernel
theorem dX4_read_70 : decode cX4_read 70 = .ok (.getfield 43, 3) := by decide +kernel
theorem dX4_read_73 : decode cX4_read 73 = .ok (.irem, 1) := by decide +kernel
theorem dX4_read_74 : decode cX4_read 74 = .ok (.istore 5, 2) := by decide +kernel
theorem dX4_read_76 : decode cX4_read 76 = .ok (.aload_n 0, 1) := by decide +kernel
theorem dX4_read_77 : decode cX4_read 77 = .ok (.iload 5, 2) := by decide +kernel
theorem dX4_read_79 : decode cX4_read 79 = .ok (.iload_n 3, 1) := by decide +kernel
theorem dX4_read_80 : decode cX4_read 80 = .ok (.invokevirtual 55, 3) := by decide +kernel
theorem dX4_read_83 : decode cX4_read 83 = .ok (.ifCond .ne 17, 3) := by decide +kernel
theorem dX4_read_86 : decode cX4_read 86 = .ok (.aload_n 0, 1) := by decide +kernel
theorem dX4_read_87 : decode cX4_read 87 = .ok (.getfield 7, 3) := by decide +kernel
theorem dX4_read_90 : decode cX4_read 90 = .ok (.iload_n 3, 1) := by decide +kernel
theorem dX4_read_91 : decode cX4_read 91 = .ok (.iload 5, 2) := by decide +kernel
theorem dX4_read_93 : decode cX4_read 93 = .ok (.iload 4, 2) := by decide +kernel
theorem dX4_read_95 : decode cX4_read 95 = .ok (.invokestatic 59, 3) := by decide +kernel
theorem dX4_read_98 : decode cX4_read 98 = .ok (.iaload, 1) := by decide +kernel
theorem dX4_read_99 : decode cX4_read 99 = .ok (.ireturn, 1) := by decide +kernel
theorem dX4_read_100 : decode cX4_read 100 = .ok (.aload_n 0, 1) := by decide +kernel
theorem dX4_read_101 : decode cX4_read 101 = .ok (.getfield 20, 3) := by decide +kernel
theorem dX4_read_104 : decode cX4_read 104 = .ok (.iload_n 3, 1) := by decide +kernel
theorem dX4_read_105 : decode cX4_read 105 = .ok (.baload, 1) := by decide +kernel
theorem dX4_read_106 : decode cX4_read 106 = .ok (.ifCond .ne 12, 3) := by decide +kernel
theorem dX4_read_109 : decode cX4_read 109 = .ok (.aload_n 0, 1) := by decide +kernel
theorem dX4_read_110 : decode cX4_read 110 = .ok (.iload_n 3, 1) := by decide +kernel
theorem dX4_read_111 : decode cX4_read 111 = .ok (.invokevirtual 63, 3) := by decide +kernel
theorem dX4_read_114 : decode cX4_read 114 = .ok (.iconst 2, 1) := by decide +kernel
theorem dX4_read_115 : decode cX4_read 115 = .ok (.if_icmp .le 10, 3) := by decide +kernel
theorem dX4_read_118 : decode cX4_read 118 = .ok (.aload_n 0, 1) := by decide +kernel
theorem dX4_read_119 : decode cX4_read 119 = .ok (.iconst 1, 1) := by decide +kernel
theorem dX4_read_120 : decode cX4_read 120 = .ok (.putfield 49, 3) := by decide +kernel
theorem dX4_read_123 : decode cX4_read 123 = .ok (.iconst 0, 1) := by decide +kernel
theorem dX4_read_124 : decode cX4_read 124 = .ok (.ireturn, 1) := by decide +kernel
theorem dX4_read_125 : decode cX4_read 125 = .ok (.aload_n 0, 1) := by decide +kernel
theorem dX4_read_126 : decode cX4_read 126 = .ok (.iload_n 3, 1) := by decide +kernel
theorem dX4_read_127 : decode cX4_read 127 = .ok (.invokevirtual 81, 3) := by decide +kernel
theorem dX4_read_130 : decode cX4_read 130 = .ok (.aload_n 0, 1) := by decide +kernel
theorem dX4_read_131 : decode cX4_read 131 = .ok (.iload 5, 2) := by decide +kernel
theorem dX4_read_133 : decode cX4_read 133 = .ok (.iload 4, 2) := by decide +kernel
theorem dX4_read_135 : decode cX4_read 135 = .ok (.invokevirtual 85, 3) := by decide +kernel
theorem dX4_read_138 : decode cX4_read 138 = .ok (.ireturn, 1) := by decide +kernel
theorem dX4_rebuild_0 : decode cX4_rebuild 0 = .ok (.aload_n 0, 1) := by decide +kernel
theorem dX4_rebuild_1 : decode cX4_rebuild 1 = .ok (.iconst 0, 1) := by decide +kernel
theorem dX4_rebuild_2 : decode cX4_rebuild 2 = .ok (.putfield 49, 3) := by decide +kernel
theorem dX4_rebuild_5 : decode cX4_rebuild 5 = .ok (.aload_n 0, 1) := by decide +kernel
theorem dX4_rebuild_6 : decode cX4_rebuild 6 = .ok (.getfield 23, 3) := by decide +kernel
theorem dX4_rebuild_9 : decode cX4_rebuild 9 = .ok (.ifCond .ne 5, 3) := by decide +kernel
theorem dX4_rebuild_12 : decode cX4_rebuild 12 = .ok (.iconst (-1), 1) := by decide +kernel
theorem dX4_rebuild_13 : decode cX4_rebuild 13 = .ok (.ireturn, 1) := by decide +kernel
theorem dX4_rebuild_14 : decode cX4_rebuild 14 = .ok (.iconst 0, 1) := by decide +kernel
theorem dX4_rebuild_15 : decode cX4_rebuild 15 = .ok (.istore_n 2, 1) := by decide +kernel
theorem dX4_rebuild_16 : decode cX4_rebuild 16 = .ok (.iconst 0, 1) := by decide +kernel
theorem dX4_rebuild_17 : decode cX4_rebuild 17 = .ok (.istore_n 3, 1) := by decide +kernel
theorem dX4_rebuild_18 : decode cX4_rebuild 18 = .ok (.iload_n 3, 1) := by decide +kernel
theorem dX4_rebuild_19 : decode cX4_rebuild 19 = .ok (.aload_n 0, 1) := by decide +kernel
theorem dX4_rebuild_20 : decode cX4_rebuild 20 = .ok (.getfield 46, 3) := by decide +kernel
theorem dX4_rebuild_23 : decode cX4_rebuild 23 = .ok (.if_icmp .ge 153, 3) := by decide +kernel
theorem dX4_rebuild_26 : decode cX4_rebuild 26 = .ok (.iload_n 2, 1) := by decide +kernel
theorem dX4_rebuild_27 : decode cX4_rebuild 27 = .ok (.iload_n 1, 1) := by decide +kernel
theorem dX4_rebuild_28 : decode cX4_rebuild 28 = .ok (.if_icmp .ge 148, 3) := by decide +kernel
theorem dX4_rebuild_31 : decode cX4_rebuild 31 = .ok (.aload_n 0, 1) := by decide +kernel
theorem dX4_rebuild_32 : decode cX4_rebuild 32 = .ok (.iload_n 3, 1) := by decide +kernel
theorem dX4_rebuild_33 : decode cX4_rebuild 33 = .ok (.invokevirtual 96, 3) := by decide +kernel
theorem dX4_rebuild_36 : decode cX4_rebuild 36 = .ok (.ifCond .eq 134, 3) := by decide +kernel
theorem dX4_rebuild_39 : decode cX4_rebuild 39 = .ok (.aload_n 0, 1) := by decide +kernel
theorem dX4_rebuild_40 : decode cX4_rebuild 40 = .ok (.getfield 20, 3) := by decide +kernel
theorem dX4_rebuild_43 : decode cX4_rebuild 43 = .ok (.iload_n 3, 1) := by decide +kernel
theorem dX4_rebuild_44 : decode cX4_rebuild 44 = .ok (.baload, 1) := by decide +kernel
theorem dX4_rebuild_45 : decode cX4_rebuild 45 = .ok (.ifCond .ne 125, 3) := by decide +kernel
theorem dX4_rebuild_48 : decode cX4_rebuild 48 = .ok (.aload_n 0, 1) := by decide +kernel
theorem dX4_rebuild_49 : decode cX4_rebuild 49 = .ok (.iload_n 3, 1) := by decide +kernel
theorem dX4_rebuild_50 : decode cX4_rebuild 50 = .ok (.invokevirtual 63, 3) := by decide +kernel
theorem dX4_rebuild_53 : decode cX4_rebuild 53 = .ok (.iconst 2, 1) := by decide +kernel
theorem dX4_rebuild_54 : decode cX4_rebuild 54 = .ok (.if_icmp .le 6, 3) := by decide +kernel
theorem dX4_rebuild_57 : decode cX4_rebuild 57 = .ok (.goto 113, 3) := by decide +kernel
theorem dX4_rebuild_60 : decode cX4_rebuild 60 = .ok (.aload_n 0, 1) := by decide +kernel
theorem dX4_rebuild_61 : decode cX4_rebuild 61 = .ok (.iload_n 3, 1) := by decide +kernel
theorem dX4_rebuild_62 : decode cX4_rebuild 62 = .ok (.invokevirtual 81, 3) := by decide +kernel
theorem dX4_rebuild_65 : decode cX4_rebuild 65 = .ok (.iconst 0, 1) := by decide +kernel
theorem dX4_rebuild_66 : decode cX4_rebuild 66 = .ok (.istore 4, 2) := by decide +kernel
theorem dX4_rebuild_68 : decode cX4_rebuild 68 = .ok (.iload 4, 2) := by decide +kernel
theorem dX4_rebuild_70 : decode cX4_rebuild 70 = .ok (.aload_n 0, 1) := by decide +kernel
theorem dX4_rebuild_71 : decode cX4_rebuild 71 = .ok (.getfield 43, 3) := by decide +kernel
theorem dX4_rebuild_74 : decode cX4_rebuild 74 = .ok (.if_icmp .ge 63, 3) := by decide +kernel
theorem dX4_rebuild_77 : decode cX4_rebuild 77 = .ok (.iconst 0, 1) := by decide +kernel
theorem dX4_rebuild_78 : decode cX4_rebuild 78 = .ok (.istore 5, 2) := by decide +kernel
theorem dX4_rebuild_80 : decode cX4_rebuild 80 = .ok (.iload 5, 2) := by decide +kernel
theorem dX4_rebuild_82 : decode cX4_rebuild 82 = .ok (.aload_n 0, 1) := by decide +kernel
theorem dX4_rebuild_83 : decode cX4_rebuild 83 = .ok (.getfield 43, 3) := by decide +kernel
theorem dX4_rebuild_86 : decode cX4_rebuild 86 = .ok (.if_icmp .ge 45, 3) := by decide +kernel
theorem dX4_rebuild_89 : decode cX4_rebuild 89 = .ok (.aload_n 0, 1) := by decide +kernel
theorem dX4_rebuild_90 : decode cX4_rebuild 90 = .ok (.getfield 17, 3) := by decide +kernel
theorem dX4_rebuild_93 : decode cX4_rebuild 93 = .ok (.iconst 4, 1) := by decide +kernel
theorem dX4_rebuild_94 : decode cX4_rebuild 94 = .ok (.iload 4, 2) := by decide +kernel
theorem dX4_rebuild_96 : decode cX4_rebuild 96 = .ok (.imul, 1) := by decide +kernel
theorem dX4_rebuild_97 : decode cX4_rebuild 97 = .ok (.iload_n 3, 1) := by decide +kernel
theorem dX4_rebuild_98 : decode cX4_rebuild 98 = .ok (.iadd, 1) := by decide +kernel
theorem dX4_rebuild_99 : decode cX4_rebuild 99 = .ok (.baload, 1) := by decide +kernel
theorem dX4_rebuild_100 : decode cX4_rebuild 100 = .ok (.ifCond .eq 31, 3) := by decide +kernel
theorem dX4_rebuild_103 : decode cX4_rebuild 103 = .ok (.aload_n 0, 1) := by decide +kernel
theorem dX4_rebuild_104 : decode cX4_rebuild 104 = .ok (.iload_n 3, 1) := by decide +kernel
theorem dX4_rebuild_105 : decode cX4_rebuild 105 = .ok (.iload 4, 2) := by decide +kernel
theorem dX4_rebuild_107 : decode cX4_rebuild 107 = .ok (.iload 5, 2) := by decide +kernel
theorem dX4_rebuild_109 : decode cX4_rebuild 109 = .ok (.aload_n 0, 1) := by decide +kernel
theorem dX4_rebuild_110 : decode cX4_rebuild 110 = .ok (.iload 4, 2) := by decide +kernel
theorem dX4_rebuild_112 : decode cX4_rebuild 112 = .ok (.iload 5, 2) := by decide +kernel
theorem dX4_rebuild_114 : decode cX4_rebuild 114 = .ok (.invokevirtual 85, 3) := by decide +kernel
theorem dX4_rebuild_117 : decode cX4_rebuild 117 = .ok (.invokevirtual 89, 3) := by decide +kernel
theorem dX4_rebuild_120 : decode cX4_rebuild 120 = .ok (.ifCond .ne 5, 3) := by decide +kernel
theorem dX4_rebuild_123 : decode cX4_rebuild 123 = .ok (.iload_n 2, 1) := by decide +kernel
theorem dX4_rebuild_124 : decode cX4_rebuild 124 = .ok (.ireturn, 1) := by decide +kernel
theorem dX4_rebuild_125 : decode cX4_rebuild 125 = .ok (.iinc 5  1, 3) := by decide +kernel
theorem dX4_rebuild_128 : decode cX4_rebuild 128 = .ok (.goto (-48), 3) := by decide +kernel
theorem dX4_rebuild_131 : decode cX4_rebuild 131 = .ok (.iinc 4  1, 3) := by decide +kernel
theorem dX4_rebuild_134 : decode cX4_rebuild 134 = .ok (.goto (-66), 3) := by decide +kernel
theorem dX4_rebuild_137 : decode cX4_rebuild 137 = .ok (.iconst 0, 1) := by decide +kernel
theorem dX4_rebuild_138 : decode cX4_rebuild 138 = .ok (.istore 4, 2) := by decide +kernel
theorem dX4_rebuild_140 : decode cX4_rebuild 140 = .ok (.iload 4, 2) := by decide +kernel
theorem dX4_rebuild_142 : decode cX4_rebuild 142 = .ok (.aload_n 0, 1) := by decide +kernel
theorem dX4_rebuild_143 : decode cX4_rebuild 143 = .ok (.getfield 43, 3) := by decide +kernel
theorem dX4_rebuild_146 : decode cX4_rebuild 146 = .ok (.if_icmp .ge 21, 3) := by decide +kernel
theorem dX4_rebuild_149 : decode cX4_rebuild 149 = .ok (.aload_n 0, 1) := by decide +kernel
theorem dX4_rebuild_150 : decode cX4_rebuild 150 = .ok (.getfield 17, 3) := by decide +kernel
theorem dX4_rebuild_153 : decode cX4_rebuild 153 = .ok (.iconst 4, 1) := by decide +kernel
theorem dX4_rebuild_154 : decode cX4_rebuild 154 = .ok (.iload 4, 2) := by decide +kernel
theorem dX4_rebuild_156 : decode cX4_rebuild 156 = .ok (.imul, 1) := by decide +kernel
theorem dX4_rebuild_157 : decode cX4_rebuild 157 = .ok (.iload_n 3, 1) := by decide +kernel
theorem dX4_rebuild_158 : decode cX4_rebuild 158 = .ok (.iadd, 1) := by decide +kernel
theorem dX4_rebuild_159 : decode cX4_rebuild 159 = .ok (.iconst 0, 1) := by decide +kernel
theorem dX4_rebuild_160 : decode cX4_rebuild 160 = .ok (.bastore, 1) := by decide +kernel
theorem dX4_rebuild_161 : decode cX4_rebuild 161 = .ok (.iinc 4  1, 3) := by decide +kernel
theorem dX4_rebuild_164 : decode cX4_rebuild 164 = .ok (.goto (-24), 3) := by decide +kernel
theorem dX4_rebuild_167 : decode cX4_rebuild 167 = .ok (.iinc 2  1, 3) := by decide +kernel
theorem dX4_rebuild_170 : decode cX4_rebuild 170 = .ok (.iinc 3  1, 3) := by decide +kernel
theorem dX4_rebuild_173 : decode cX4_rebuild 173 = .ok (.goto (-155), 3) := by decide +kernel
theorem dX4_rebuild_176 : decode cX4_rebuild 176 = .ok (.iload_n 2, 1) := by decide +kernel
theorem dX4_rebuild_177 : decode cX4_rebuild 177 = .ok (.ireturn, 1) := by decide +kernel
theorem dX4_count_0 : decode cX4_count 0 = .ok (.aload_n 0, 1) := by decide +kernel
theorem dX4_count_1 : decode cX4_count 1 = .ok (.iconst 0, 1) := by decide +kernel
theorem dX4_count_2 : decode cX4_count 2 = .ok (.putfield 49, 3) := by decide +kernel
theorem dX4_count_5 : decode cX4_count 5 = .ok (.iconst 0, 1) := by decide +kernel
theorem dX4_count_6 : decode cX4_count 6 = .ok (.istore_n 2, 1) := by decide +kernel
theorem dX4_count_7 : decode cX4_count 7 = .ok (.iconst 0, 1) := by decide +kernel
theorem dX4_count_8 : decode cX4_count 8 = .ok (.istore_n 3, 1) := by decide +kernel
theorem dX4_count_9 : decode cX4_count 9 = .ok (.iconst 0, 1) := by decide +kernel
theorem dX4_count_10 : decode cX4_count 10 = .ok (.istore 4, 2) := by decide +kernel
theorem dX4_count_12 : decode cX4_count 12 = .ok (.iload 4, 2) := by decide +kernel
theorem dX4_count_14 : decode cX4_count 14 = .ok (.aload_n 0, 1) := by decide +kernel
theorem dX4_count_15 : decode cX4_count 15 = .ok (.getfield 43, 3) := by decide +kernel
theorem dX4_count_18 : decode cX4_count 18 = .ok (.if_icmp .ge 44, 3) := by decide +kernel
theorem dX4_count_21 : decode cX4_count 21 = .ok (.iload_n 2, 1) := by decide +kernel
theorem dX4_count_22 : decode cX4_count 22 = .ok (.aload_n 0, 1) := by decide +kernel
theorem dX4_count_23 : decode cX4_count 23 = .ok (.getfield 13, 3) := by decide +kernel
theorem dX4_count_26 : decode cX4_count 26 = .ok (.iload 4, 2) := by decide +kernel
theorem dX4_count_28 : decode cX4_count 28 = .ok (.baload, 1) := by decide +kernel
theorem dX4_count_29 : decode cX4_count 29 = .ok (.ifCond .eq 7, 3) := by decide +kernel
theorem dX4_count_32 : decode cX4_count 32 = .ok (.iconst 1, 1) := by decide +kernel
theorem dX4_count_33 : decode cX4_count 33 = .ok (.goto 4, 3) := by decide +kernel
theorem dX4_count_36 : decode cX4_count 36 = .ok (.iconst 0, 1) := by decide +kernel
theorem dX4_count_37 : decode cX4_count 37 = .ok (.iadd, 1) := by decide +kernel
theorem dX4_count_38 : decode cX4_count 38 = .ok (.istore_n 2, 1) := by decide +kernel
theorem dX4_count_39 : decode cX4_count 39 = .ok (.iload_n 3, 1) := by decide +kernel
theorem dX4_count_40 : decode cX4_count 40 = .ok (.aload_n 0, 1) := by decide +kernel
theorem dX4_count_41 : decode cX4_count 41 = .ok (.iload 4, 2) := by decide +kernel
theorem dX4_count_43 : decode cX4_count 43 = .ok (.invokevirtual 99, 3) := by decide +kernel
theorem dX4_count_46 : decode cX4_count 46 = .ok (.ifCond .le 7, 3) := by decide +kernel
theorem dX4_count_49 : decode cX4_count 49 = .ok (.iconst 1, 1) := by decide +kernel
theorem dX4_count_50 : decode cX4_count 50 = .ok (.goto 4, 3) := by decide +kernel
theorem dX4_count_53 : decode cX4_count 53 = .ok (.iconst 0, 1) := by decide +kernel
theorem dX4_count_54 : decode cX4_count 54 = .ok (.iadd, 1) := by decide +kernel
theorem dX4_count_55 : decode cX4_count 55 = .ok (.istore_n 3, 1) := by decide +kernel
theorem dX4_count_56 : decode cX4_count 56 = .ok (.iinc 4  1, 3) := by decide +kernel
theorem dX4_count_59 : decode cX4_count 59 = .ok (.goto (-47), 3) := by decide +kernel
theorem dX4_count_62 : decode cX4_count 62 = .ok (.iload_n 1, 1) := by decide +kernel
theorem dX4_count_63 : decode cX4_count 63 = .ok (.tableswitch 64 0 4 #[33, 38, 43, 60, 62], 33) := by decide +kernel
theorem dX4_count_96 : decode cX4_count 96 = .ok (.aload_n 0, 1) := by decide +kernel
theorem dX4_count_97 : decode cX4_count 97 = .ok (.getfield 43, 3) := by decide +kernel
theorem dX4_count_100 : decode cX4_count 100 = .ok (.ireturn, 1) := by decide +kernel
theorem dX4_count_101 : decode cX4_count 101 = .ok (.aload_n 0, 1) := by decide +kernel
theorem dX4_count_102 : decode cX4_count 102 = .ok (.getfield 46, 3) := by decide +kernel
theorem dX4_count_105 : decode cX4_count 105 = .ok (.ireturn, 1) := by decide +kernel
theorem dX4_count_106 : decode cX4_count 106 = .ok (.aload_n 0, 1) := by decide +kernel
theorem dX4_count_107 : decode cX4_count 107 = .ok (.getfield 46, 3) := by decide +kernel
theorem dX4_count_110 : decode cX4_count 110 = .ok (.aload_n 0, 1) := by decide +kernel
theorem dX4_count_111 : decode cX4_count 111 = .ok (.getfield 43, 3) := by decide +kernel
theorem dX4_count_114 : decode cX4_count 114 = .ok (.iconst 2, 1) := by decide +kernel
theorem dX4_count_115 : decode cX4_count 115 = .ok (.isub, 1) := by decide +kernel
theorem dX4_count_116 : decode cX4_count 116 = .ok (.imul, 1) := by decide +kernel
theorem dX4_count_117 : decode cX4_count 117 = .ok (.aload_n 0, 1) := by decide +kernel
theorem dX4_count_118 : decode cX4_count 118 = .ok (.getfield 43, 3) := by decide +kernel
theorem dX4_count_121 : decode cX4_count 121 = .ok (.imul, 1) := by decide +kernel
theorem dX4_count_122 : decode cX4_count 122 = .ok (.ireturn, 1) := by decide +kernel
theorem dX4_count_123 : decode cX4_count 123 = .ok (.iload_n 2, 1) := by decide +kernel
theorem dX4_count_124 : decode cX4_count 124 = .ok (.ireturn, 1) := by decide +kernel
theorem dX4_count_125 : decode cX4_count 125 = .ok (.iload_n 3, 1) := by decide +kernel
theorem dX4_count_126 : decode cX4_count 126 = .ok (.ireturn, 1) := by decide +kernel
theorem dX4_count_127 : decode cX4_count 127 = .ok (.iconst (-1), 1) := by decide +kernel
theorem dX4_count_128 : decode cX4_count 128 = .ok (.ireturn, 1) := by decide +kernel
theorem dX4_drive_0 : decode cX4_drive 0 = .ok (.aload_n 0, 1) := by decide +kernel
theorem dX4_drive_1 : decode cX4_drive 1 = .ok (.iconst 0, 1) := by decide +kernel
theorem dX4_drive_2 : decode cX4_drive 2 = .ok (.putfield 49, 3) := by decide +kernel
theorem dX4_drive_5 : decode cX4_drive 5 = .ok (.aload_n 0, 1) := by decide +kernel
theorem dX4_drive_6 : decode cX4_drive 6 = .ok (.iload_n 1, 1) := by decide +kernel
theorem dX4_drive_7 : decode cX4_drive 7 = .ok (.invokevirtual 93, 3) := by decide +kernel
theorem dX4_drive_10 : decode cX4_drive 10 = .ok (.ifCond .ne 5, 3) := by decide +kernel
theorem dX4_drive_13 : decode cX4_drive 13 = .ok (.iconst (-1), 1) := by decide +kernel
theorem dX4_drive_14 : decode cX4_drive 14 = .ok (.ireturn, 1) := by decide +kernel
theorem dX4_drive_15 : decode cX4_drive 15 = .ok (.iconst 0, 1) := by decide +kernel
theorem dX4_drive_16 : decode cX4_drive 16 = .ok (.istore_n 2, 1) := by decide +kernel
theorem dX4_drive_17 : decode cX4_drive 17 = .ok (.iconst 0, 1) := by decide +kernel
theorem dX4_drive_18 : decode cX4_drive 18 = .ok (.istore_n 3, 1) := by decide +kernel
theorem dX4_drive_19 : decode cX4_drive 19 = .ok (.iload_n 3, 1) := by decide +kernel
theorem dX4_drive_20 : decode cX4_drive 20 = .ok (.aload_n 0, 1) := by decide +kernel
theorem dX4_drive_21 : decode cX4_drive 21 = .ok (.getfield 46, 3) := by decide +kernel
theorem dX4_drive_24 : decode cX4_drive 24 = .ok (.if_icmp .ge 32, 3) := by decide +kernel
theorem dX4_drive_27 : decode cX4_drive 27 = .ok (.iload_n 2, 1) := by decide +kernel
theorem dX4_drive_28 : decode cX4_drive 28 = .ok (.ifCond .ne 16, 3) := by decide +kernel
theorem dX4_drive_31 : decode cX4_drive 31 = .ok (.aload_n 0, 1) := by decide +kernel
theorem dX4_drive_32 : decode cX4_drive 32 = .ok (.getfield 17, 3) := by decide +kernel
theorem dX4_drive_35 : decode cX4_drive 35 = .ok (.iconst 4, 1) := by decide +kernel
theorem dX4_drive_36 : decode cX4_drive 36 = .ok (.iload_n 1, 1) := by decide +kernel
theorem dX4_drive_37 : decode cX4_drive 37 = .ok (.imul, 1) := by decide +kernel
theorem dX4_drive_38 : decode cX4_drive 38 = .ok (.iload_n 3, 1) := by decide +kernel
theorem dX4_drive_39 : decode cX4_drive 39 = .ok (.iadd, 1) := by decide +kernel
theorem dX4_drive_40 : decode cX4_drive 40 = .ok (.baload, 1) := by decide +kernel
theorem dX4_drive_41 : decode cX4_drive 41 = .ok (.ifCond .eq 7, 3) := by decide +kernel
theorem dX4_drive_44 : decode cX4_drive 44 = .ok (.iconst 1, 1) := by decide +kernel
theorem dX4_drive_45 : decode cX4_drive 45 = .ok (.goto 4, 3) := by decide +kernel
theorem dX4_drive_48 : decode cX4_drive 48 = .ok (.iconst 0, 1) := by decide +kernel
theorem dX4_drive_49 : decode cX4_drive 49 = .ok (.istore_n 2, 1) := by decide +kernel
theorem dX4_drive_50 : decode cX4_drive 50 = .ok (.iinc 3  1, 3) := by decide +kernel
theorem dX4_drive_53 : decode cX4_drive 53 = .ok (.goto (-34), 3) := by decide +kernel
theorem dX4_drive_56 : decode cX4_drive 56 = .ok (.aload_n 0, 1) := by decide +kernel
theorem dX4_drive_57 : decode cX4_drive 57 = .ok (.getfield 13, 3) := by decide +kernel
theorem dX4_drive_60 : decode cX4_drive 60 = .ok (.iload_n 1, 1) := by decide +kernel
theorem dX4_drive_61 : decode cX4_drive 61 = .ok (.baload, 1) := by decide +kernel
theorem dX4_drive_62 : decode cX4_drive 62 = .ok (.ifCond .eq 7, 3) := by decide +kernel
theorem dX4_drive_65 : decode cX4_drive 65 = .ok (.iconst 1, 1) := by decide +kernel
theorem dX4_drive_66 : decode cX4_drive 66 = .ok (.goto 12, 3) := by decide +kernel
theorem dX4_drive_69 : decode cX4_drive 69 = .ok (.iload_n 2, 1) := by decide +kernel
theorem dX4_drive_70 : decode cX4_drive 70 = .ok (.ifCond .eq 7, 3) := by decide +kernel
theorem dX4_drive_73 : decode cX4_drive 73 = .ok (.iconst 2, 1) := by decide +kernel
theorem dX4_drive_74 : decode cX4_drive 74 = .ok (.goto 4, 3) := by decide +kernel
theorem dX4_drive_77 : decode cX4_drive 77 = .ok (.iconst 0, 1) := by decide +kernel
theorem dX4_drive_78 : decode cX4_drive 78 = .ok (.ireturn, 1) := by decide +kernel
theorem dX4_agree_0 : decode cX4_agree 0 = .ok (.aload_n 0, 1) := by decide +kernel
theorem dX4_agree_1 : decode cX4_agree 1 = .ok (.iconst 0, 1) := by decide +kernel
theorem dX4_agree_2 : decode cX4_agree 2 = .ok (.putfield 49, 3) := by decide +kernel
theorem dX4_agree_5 : decode cX4_agree 5 = .ok (.aload_n 0, 1) := by decide +kernel
theorem dX4_agree_6 : decode cX4_agree 6 = .ok (.iload_n 1, 1) := by decide +kernel
theorem dX4_agree_7 : decode cX4_agree 7 = .ok (.invokevirtual 102, 3) := by decide +kernel
theorem dX4_agree_10 : decode cX4_agree 10 = .ok (.ifCond .ne 5, 3) := by decide +kernel
theorem dX4_agree_13 : decode cX4_agree 13 = .ok (.iconst (-1), 1) := by decide +kernel
theorem dX4_agree_14 : decode cX4_agree 14 = .ok (.ireturn, 1) := by decide +kernel
theorem dX4_agree_15 : decode cX4_agree 15 = .ok (.iconst 0, 1) := by decide +kernel
theorem dX4_agree_16 : decode cX4_agree 16 = .ok (.istore_n 2, 1) := by decide +kernel
theorem dX4_agree_17 : decode cX4_agree 17 = .ok (.iconst 0, 1) := by decide +kernel
theorem dX4_agree_18 : decode cX4_agree 18 = .ok (.istore_n 3, 1) := by decide +kernel
theorem dX4_agree_19 : decode cX4_agree 19 = .ok (.iload_n 3, 1) := by decide +kernel
theorem dX4_agree_20 : decode cX4_agree 20 = .ok (.iconst 2, 1) := by decide +kernel
theorem dX4_agree_21 : decode cX4_agree 21 = .ok (.aload_n 0, 1) := by decide +kernel
theorem dX4_agree_22 : decode cX4_agree 22 = .ok (.getfield 43, 3) := by decide +kernel
theorem dX4_agree_25 : decode cX4_agree 25 = .ok (.imul, 1) := by decide +kernel
theorem dX4_agree_26 : decode cX4_agree 26 = .ok (.if_icmp .ge 155, 3) := by decide +kernel
theorem dX4_agree_29 : decode cX4_agree 29 = .ok (.iload_n 3, 1) := by decide +kernel
theorem dX4_agree_30 : decode cX4_agree 30 = .ok (.aload_n 0, 1) := by decide +kernel
theorem dX4_agree_31 : decode cX4_agree 31 = .ok (.getfield 43, 3) := by decide +kernel
theorem dX4_agree_34 : decode cX4_agree 34 = .ok (.irem, 1) := by decide +kernel
theorem dX4_agree_35 : decode cX4_agree 35 = .ok (.istore 4, 2) := by decide +kernel
theorem dX4_agree_37 : decode cX4_agree 37 = .ok (.iload_n 3, 1) := by decide +kernel
theorem dX4_agree_38 : decode cX4_agree 38 = .ok (.aload_n 0, 1) := by decide +kernel
theorem dX4_agree_39 : decode cX4_agree 39 = .ok (.getfield 43, 3) := by decide +kernel
theorem dX4_agree_42 : decode cX4_agree 42 = .ok (.if_icmp .lt 7, 3) := by decide +kernel
theorem dX4_agree_45 : decode cX4_agree 45 = .ok (.iconst 1, 1) := by decide +kernel
theorem dX4_agree_46 : decode cX4_agree 46 = .ok (.goto 4, 3) := by decide +kernel
theorem dX4_agree_49 : decode cX4_agree 49 = .ok (.iconst 0, 1) := by decide +kernel
theorem dX4_agree_50 : decode cX4_agree 50 = .ok (.istore 5, 2) := by decide +kernel
theorem dX4_agree_52 : decode cX4_agree 52 = .ok (.aload_n 0, 1) := by decide +kernel
theorem dX4_agree_53 : decode cX4_agree 53 = .ok (.iload 4, 2) := by decide +kernel
theorem dX4_agree_55 : decode cX4_agree 55 = .ok (.iload_n 1, 1) := by decide +kernel
theorem dX4_agree_56 : decode cX4_agree 56 = .ok (.invokevirtual 55, 3) := by decide +kernel
theorem dX4_agree_59 : decode cX4_agree 59 = .ok (.ifCond .ne 7, 3) := by decide +kernel
theorem dX4_agree_62 : decode cX4_agree 62 = .ok (.iconst 1, 1) := by decide +kernel
theorem dX4_agree_63 : decode cX4_agree 63 = .ok (.goto 4, 3) := by decide +kernel
theorem dX4_agree_66 : decode cX4_agree 66 = .ok (.iconst 0, 1) := by decide +kernel
theorem dX4_agree_67 : decode cX4_agree 67 = .ok (.istore 6, 2) := by decide +kernel
theorem dX4_agree_69 : decode cX4_agree 69 = .ok (.iconst 0, 1) := by decide +kernel
theorem dX4_agree_70 : decode cX4_agree 70 = .ok (.istore 7, 2) := by decide +kernel
theorem dX4_agree_72 : decode cX4_agree 72 = .ok (.iload 7, 2) := by decide +kernel
theorem dX4_agree_74 : decode cX4_agree 74 = .ok (.aload_n 0, 1) := by decide +kernel
theorem dX4_agree_75 : decode cX4_agree 75 = .ok (.getfield 43, 3) := by decide +kernel
theorem dX4_agree_78 : decode cX4_agree 78 = .ok (.iconst 2, 1) := by decide +kernel
theorem dX4_agree_79 : decode cX4_agree 79 = .ok (.isub, 1) := by decide +kernel
theorem dX4_agree_80 : decode cX4_agree 80 = .ok (.if_icmp .ge 39, 3) := by decide +kernel
theorem dX4_agree_83 : decode cX4_agree 83 = .ok (.iload 6, 2) := by decide +kernel
theorem dX4_agree_85 : decode cX4_agree 85 = .ok (.ifCond .eq 25, 3) := by decide +kernel
theorem dX4_agree_88 : decode cX4_agree 88 = .ok (.aload_n 0, 1) := by decide +kernel
theorem dX4_agree_89 : decode cX4_agree 89 = .ok (.aload_n 0, 1) := by decide +kernel
theorem dX4_agree_90 : decode cX4_agree 90 = .ok (.iload 4, 2) := by decide +kernel
theorem dX4_agree_92 : decode cX4_agree 92 = .ok (.iload 7, 2) := by decide +kernel
theorem dX4_agree_94 : decode cX4_agree 94 = .ok (.iload 5, 2) := by decide +kernel
theorem dX4_agree_96 : decode cX4_agree 96 = .ok (.invokevirtual 70, 3) := by decide +kernel
theorem dX4_agree_99 : decode cX4_agree 99 = .ok (.iload_n 1, 1) := by decide +kernel
theorem dX4_agree_100 : decode cX4_agree 100 = .ok (.invokevirtual 55, 3) := by decide +kernel
theorem dX4_agree_103 : decode cX4_agree 103 = .ok (.ifCond .ne 7, 3) := by decide +kernel
theorem dX4_agree_106 : decode cX4_agree 106 = .ok (.iconst 1, 1) := by decide +kernel
theorem dX4_agree_107 : decode cX4_agree 107 = .ok (.goto 4, 3) := by decide +kernel
theorem dX4_agree_110 : decode cX4_agree 110 = .ok (.iconst 0, 1) := by decide +kernel
theorem dX4_agree_111 : decode cX4_agree 111 = .ok (.istore 6, 2) := by decide +kernel
theorem dX4_agree_113 : decode cX4_agree 113 = .ok (.iinc 7  1, 3) := by decide +kernel
theorem dX4_agree_116 : decode cX4_agree 116 = .ok (.goto (-44), 3) := by decide +kernel
theorem dX4_agree_119 : decode cX4_agree 119 = .ok (.iload_n 2, 1) := by decide +kernel
theorem dX4_agree_120 : decode cX4_agree 120 = .ok (.iload 6, 2) := by decide +kernel
theorem dX4_agree_122 : decode cX4_agree 122 = .ok (.ifCond .eq 50, 3) := by decide +kernel
theorem dX4_agree_125 : decode cX4_agree 125 = .ok (.aload_n 0, 1) := by decide +kernel
theorem dX4_agree_126 : decode cX4_agree 126 = .ok (.getfield 7, 3) := by decide +kernel
theorem dX4_agree_129 : decode cX4_agree 129 = .ok (.iload_n 1, 1) := by decide +kernel
theorem dX4_agree_130 : decode cX4_agree 130 = .ok (.iload 4, 2) := by decide +kernel
theorem dX4_agree_132 : decode cX4_agree 132 = .ok (.iload 5, 2) := by decide +kernel
theorem dX4_agree_134 : decode cX4_agree 134 = .ok (.ifCond .eq 12, 3) := by decide +kernel
theorem dX4_agree_137 : decode cX4_agree 137 = .ok (.aload_n 0, 1) := by decide +kernel
theorem dX4_agree_138 : decode cX4_agree 138 = .ok (.getfield 43, 3) := by decide +kernel
theorem dX4_agree_141 : decode cX4_agree 141 = .ok (.iconst 1, 1) := by decide +kernel
theorem dX4_agree_142 : decode cX4_agree 142 = .ok (.isub, 1) := by decide +kernel
theorem dX4_agree_143 : decode cX4_agree 143 = .ok (.goto 9, 3) := by decide +kernel
theorem dX4_agree_146 : decode cX4_agree 146 = .ok (.aload_n 0, 1) := by decide +kernel
theorem dX4_agree_147 : decode cX4_agree 147 = .ok (.getfield 43, 3) := by decide +kernel
theorem dX4_agree_150 : decode cX4_agree 150 = .ok (.iconst 2, 1) := by decide +kernel
theorem dX4_agree_151 : decode cX4_agree 151 = .ok (.isub, 1) := by decide +kernel
theorem dX4_agree_152 : decode cX4_agree 152 = .ok (.invokestatic 59, 3) := by decide +kernel
theorem dX4_agree_155 : decode cX4_agree 155 = .ok (.iaload, 1) := by decide +kernel
theorem dX4_agree_156 : decode cX4_agree 156 = .ok (.aload_n 0, 1) := by decide +kernel
theorem dX4_agree_157 : decode cX4_agree 157 = .ok (.iload_n 1, 1) := by decide +kernel
theorem dX4_agree_158 : decode cX4_agree 158 = .ok (.iload 4, 2) := by decide +kernel
theorem dX4_agree_160 : decode cX4_agree 160 = .ok (.iload 5, 2) := by decide +kernel
theorem dX4_agree_162 : decode cX4_agree 162 = .ok (.invokevirtual 74, 3) := by decide +kernel
theorem dX4_agree_165 : decode cX4_agree 165 = .ok (.if_icmp .ne 7, 3) := by decide +kernel
theorem dX4_agree_168 : decode cX4_agree 168 = .ok (.iconst 1, 1) := by decide +kernel
theorem dX4_agree_169 : decode cX4_agree 169 = .ok (.goto 4, 3) := by decide +kernel
theorem dX4_agree_172 : decode cX4_agree 172 = .ok (.iconst 0, 1) := by decide +kernel
theorem dX4_agree_173 : decode cX4_agree 173 = .ok (.iadd, 1) := by decide +kernel
theorem dX4_agree_174 : decode cX4_agree 174 = .ok (.istore_n 2, 1) := by decide +kernel
theorem dX4_agree_175 : decode cX4_agree 175 = .ok (.iinc 3  1, 3) := by decide +kernel
theorem dX4_agree_178 : decode cX4_agree 178 = .ok (.goto (-159), 3) := by decide +kernel
theorem dX4_agree_181 : decode cX4_agree 181 = .ok (.iload_n 2, 1) := by decide +kernel
theorem dX4_agree_182 : decode cX4_agree 182 = .ok (.ireturn, 1) := by decide +kernel
theorem dL_cell_0 : decode cL_cell 0 = .ok (.iload_n 1, 1) := by decide +kernel
theorem dL_cell_1 : decode cL_cell 1 = .ok (.aload_n 0, 1) := by decide +kernel
theorem dL_cell_2 : decode cL_cell 2 = .ok (.arraylength, 1) := by decide +kernel
theorem dL_cell_3 : decode cL_cell 3 = .ok (.if_icmp .ge 9, 3) := by decide +kernel
theorem dL_cell_6 : decode cL_cell 6 = .ok (.aload_n 0, 1) := by decide +kernel
theorem dL_cell_7 : decode cL_cell 7 = .ok (.iload_n 1, 1) := by decide +kernel
theorem dL_cell_8 : decode cL_cell 8 = .ok (.iaload, 1) := by decide +kernel
theorem dL_cell_9 : decode cL_cell 9 = .ok (.goto 4, 3) := by decide +kernel
theorem dL_cell_12 : decode cL_cell 12 = .ok (.iconst 0, 1) := by decide +kernel
theorem dL_cell_13 : decode cL_cell 13 = .ok (.ireturn, 1) := by decide +kernel
theorem dL_read_0 : decode cL_read 0 = .ok (.aload_n 2, 1) := by decide +kernel
theorem dL_read_1 : decode cL_read 1 = .ok (.iconst 0, 1) := by decide +kernel
theorem dL_read_2 : decode cL_read 2 = .ok (.aload_n 0, 1) := by decide +kernel
theorem dL_read_3 : decode cL_read 3 = .ok (.iload_n 1, 1) := by decide +kernel
theorem dL_read_4 : decode cL_read 4 = .ok (.invokevirtual 7, 3) := by decide +kernel
theorem dL_read_7 : decode cL_read 7 = .ok (.i2l, 1) := by decide +kernel
theorem dL_read_8 : decode cL_read 8 = .ok (.lastore, 1) := by decide +kernel
theorem dL_read_9 : decode cL_read 9 = .ok (.goto 9, 3) := by decide +kernel
theorem dL_read_12 : decode cL_read 12 = .ok (.astore_n 3, 1) := by decide +kernel
theorem dL_read_13 : decode cL_read 13 = .ok (.iconst 1, 1) := by decide +kernel
theorem dL_read_14 : decode cL_read 14 = .ok (.ireturn, 1) := by decide +kernel
theorem dL_read_15 : decode cL_read 15 = .ok (.astore_n 3, 1) := by decide +kernel
theorem dL_read_16 : decode cL_read 16 = .ok (.iconst 2, 1) := by decide +kernel
theorem dL_read_17 : decode cL_read 17 = .ok (.ireturn, 1) := by decide +kernel
theorem dL_read_18 : decode cL_read 18 = .ok (.iconst 0, 1) := by decide +kernel
theorem dL_read_19 : decode cL_read 19 = .ok (.ireturn, 1) := by decide +kernel
