theorem dLW_0 : decode code 0 = .ok (.new 8, 3) := by decide +kernel
theorem dLW_3 : decode code 3 = .ok (.dup, 1) := by decide +kernel
theorem dLW_4 : decode code 4 = .ok (.aload_n 0, 1) := by decide +kernel
theorem dLW_5 : decode code 5 = .ok (.iconst 0, 1) := by decide +kernel
theorem dLW_6 : decode code 6 = .ok (.invokestatic 17, 3) := by decide +kernel
theorem dLW_9 : decode code 9 = .ok (.aload_n 0, 1) := by decide +kernel
theorem dLW_10 : decode code 10 = .ok (.iconst 1, 1) := by decide +kernel
theorem dLW_11 : decode code 11 = .ok (.invokestatic 17, 3) := by decide +kernel
theorem dLW_14 : decode code 14 = .ok (.invokespecial 23, 3) := by decide +kernel
theorem dLW_17 : decode code 17 = .ok (.astore_n 1, 1) := by decide +kernel
theorem dLW_18 : decode code 18 = .ok (.new 26, 3) := by decide +kernel
theorem dLW_21 : decode code 21 = .ok (.dup, 1) := by decide +kernel
theorem dLW_22 : decode code 22 = .ok (.aload_n 0, 1) := by decide +kernel
theorem dLW_23 : decode code 23 = .ok (.iconst 0, 1) := by decide +kernel
theorem dLW_24 : decode code 24 = .ok (.invokestatic 17, 3) := by decide +kernel
theorem dLW_27 : decode code 27 = .ok (.aload_n 0, 1) := by decide +kernel
theorem dLW_28 : decode code 28 = .ok (.iconst 1, 1) := by decide +kernel
theorem dLW_29 : decode code 29 = .ok (.invokestatic 17, 3) := by decide +kernel
theorem dLW_32 : decode code 32 = .ok (.invokespecial 28, 3) := by decide +kernel
theorem dLW_35 : decode code 35 = .ok (.astore_n 2, 1) := by decide +kernel
theorem dLW_36 : decode code 36 = .ok (.iconst 1, 1) := by decide +kernel
theorem dLW_37 : decode code 37 = .ok (.newarray .long, 2) := by decide +kernel
theorem dLW_39 : decode code 39 = .ok (.astore_n 3, 1) := by decide +kernel
theorem dLW_40 : decode code 40 = .ok (.iconst 2, 1) := by decide +kernel
theorem dLW_41 : decode code 41 = .ok (.istore 4, 2) := by decide +kernel
theorem dLW_43 : decode code 43 = .ok (.iload 4, 2) := by decide +kernel
theorem dLW_45 : decode code 45 = .ok (.aload_n 0, 1) := by decide +kernel
theorem dLW_46 : decode code 46 = .ok (.arraylength, 1) := by decide +kernel
theorem dLW_47 : decode code 47 = .ok (.iconst 4, 1) := by decide +kernel
theorem dLW_48 : decode code 48 = .ok (.isub, 1) := by decide +kernel
theorem dLW_49 : decode code 49 = .ok (.if_icmp .gt 449, 3) := by decide +kernel
theorem dLW_52 : decode code 52 = .ok (.aload_n 0, 1) := by decide +kernel
theorem dLW_53 : decode code 53 = .ok (.iload 4, 2) := by decide +kernel
theorem dLW_55 : decode code 55 = .ok (.iaload, 1) := by decide +kernel
theorem dLW_56 : decode code 56 = .ok (.bipush 15, 2) := by decide +kernel
theorem dLW_58 : decode code 58 = .ok (.iand, 1) := by decide +kernel
theorem dLW_59 : decode code 59 = .ok (.tableswitch 433 0 12 #[65, 90, 127, 183, 208, 233, 258, 283, 296, 309, 334, 359, 408], 65) := by decide +kernel
theorem dLW_124 : decode code 124 = .ok (.aload_n 1, 1) := by decide +kernel
theorem dLW_125 : decode code 125 = .ok (.aload_n 0, 1) := by decide +kernel
theorem dLW_126 : decode code 126 = .ok (.iload 4, 2) := by decide +kernel
theorem dLW_128 : decode code 128 = .ok (.iconst 1, 1) := by decide +kernel
theorem dLW_129 : decode code 129 = .ok (.iadd, 1) := by decide +kernel
theorem dLW_130 : decode code 130 = .ok (.iaload, 1) := by decide +kernel
theorem dLW_131 : decode code 131 = .ok (.invokevirtual 29, 3) := by decide +kernel
theorem dLW_134 : decode code 134 = .ok (.aload_n 2, 1) := by decide +kernel
theorem dLW_135 : decode code 135 = .ok (.aload_n 0, 1) := by decide +kernel
theorem dLW_136 : decode code 136 = .ok (.iload 4, 2) := by decide +kernel
theorem dLW_138 : decode code 138 = .ok (.iconst 1, 1) := by decide +kernel
theorem dLW_139 : decode code 139 = .ok (.iadd, 1) := by decide +kernel
theorem dLW_140 : decode code 140 = .ok (.iaload, 1) := by decide +kernel
theorem dLW_141 : decode code 141 = .ok (.invokevirtual 32, 3) := by decide +kernel
theorem dLW_144 : decode code 144 = .ok (.if_icmp .eq 348, 3) := by decide +kernel
theorem dLW_147 : decode code 147 = .ok (.iconst 0, 1) := by decide +kernel
theorem dLW_148 : decode code 148 = .ok (.ireturn, 1) := by decide +kernel
theorem dLW_149 : decode code 149 = .ok (.aload_n 1, 1) := by decide +kernel
theorem dLW_150 : decode code 150 = .ok (.aload_n 0, 1) := by decide +kernel
theorem dLW_151 : decode code 151 = .ok (.iload 4, 2) := by decide +kernel
theorem dLW_153 : decode code 153 = .ok (.iconst 1, 1) := by decide +kernel
theorem dLW_154 : decode code 154 = .ok (.iadd, 1) := by decide +kernel
theorem dLW_155 : decode code 155 = .ok (.iaload, 1) := by decide +kernel
theorem dLW_156 : decode code 156 = .ok (.aload_n 0, 1) := by decide +kernel
theorem dLW_157 : decode code 157 = .ok (.iload 4, 2) := by decide +kernel
theorem dLW_159 : decode code 159 = .ok (.iconst 2, 1) := by decide +kernel
theorem dLW_160 : decode code 160 = .ok (.iadd, 1) := by decide +kernel
theorem dLW_161 : decode code 161 = .ok (.iaload, 1) := by decide +kernel
theorem dLW_162 : decode code 162 = .ok (.invokevirtual 33, 3) := by decide +kernel
theorem dLW_165 : decode code 165 = .ok (.aload_n 2, 1) := by decide +kernel
theorem dLW_166 : decode code 166 = .ok (.aload_n 0, 1) := by decide +kernel
theorem dLW_167 : decode code 167 = .ok (.iload 4, 2) := by decide +kernel
theorem dLW_169 : decode code 169 = .ok (.iconst 1, 1) := by decide +kernel
theorem dLW_170 : decode code 170 = .ok (.iadd, 1) := by decide +kernel
theorem dLW_171 : decode code 171 = .ok (.iaload, 1) := by decide +kernel
theorem dLW_172 : decode code 172 = .ok (.aload_n 0, 1) := by decide +kernel
theorem dLW_173 : decode code 173 = .ok (.iload 4, 2) := by decide +kernel
theorem dLW_175 : decode code 175 = .ok (.iconst 2, 1) := by decide +kernel
theorem dLW_176 : decode code 176 = .ok (.iadd, 1) := by decide +kernel
theorem dLW_177 : decode code 177 = .ok (.iaload, 1) := by decide +kernel
theorem dLW_178 : decode code 178 = .ok (.invokevirtual 37, 3) := by decide +kernel
theorem dLW_181 : decode code 181 = .ok (.if_icmp .eq 311, 3) := by decide +kernel
theorem dLW_184 : decode code 184 = .ok (.iconst 0, 1) := by decide +kernel
theorem dLW_185 : decode code 185 = .ok (.ireturn, 1) := by decide +kernel
theorem dLW_186 : decode code 186 = .ok (.aload_n 1, 1) := by decide +kernel
theorem dLW_187 : decode code 187 = .ok (.aload_n 0, 1) := by decide +kernel
theorem dLW_188 : decode code 188 = .ok (.iload 4, 2) := by decide +kernel
theorem dLW_190 : decode code 190 = .ok (.iconst 1, 1) := by decide +kernel
theorem dLW_191 : decode code 191 = .ok (.iadd, 1) := by decide +kernel
theorem dLW_192 : decode code 192 = .ok (.iaload, 1) := by decide +kernel
theorem dLW_193 : decode code 193 = .ok (.aload_n 3, 1) := by decide +kernel
theorem dLW_194 : decode code 194 = .ok (.invokestatic 38, 3) := by decide +kernel
theorem dLW_197 : decode code 197 = .ok (.istore 5, 2) := by decide +kernel
theorem dLW_199 : decode code 199 = .ok (.aload_n 2, 1) := by decide +kernel
theorem dLW_200 : decode code 200 = .ok (.aload_n 0, 1) := by decide +kernel
theorem dLW_201 : decode code 201 = .ok (.iload 4, 2) := by decide +kernel
theorem dLW_203 : decode code 203 = .ok (.iconst 1, 1) := by decide +kernel
theorem dLW_204 : decode code 204 = .ok (.iadd, 1) := by decide +kernel
theorem dLW_205 : decode code 205 = .ok (.iaload, 1) := by decide +kernel
theorem dLW_206 : decode code 206 = .ok (.invokevirtual 41, 3) := by decide +kernel
theorem dLW_209 : decode code 209 = .ok (.istore 6, 2) := by decide +kernel
theorem dLW_211 : decode code 211 = .ok (.aload_n 2, 1) := by decide +kernel
theorem dLW_212 : decode code 212 = .ok (.invokevirtual 42, 3) := by decide +kernel
theorem dLW_215 : decode code 215 = .ok (.iload 5, 2) := by decide +kernel
theorem dLW_217 : decode code 217 = .ok (.if_icmp .eq 5, 3) := by decide +kernel
theorem dLW_220 : decode code 220 = .ok (.iconst 0, 1) := by decide +kernel
theorem dLW_221 : decode code 221 = .ok (.ireturn, 1) := by decide +kernel
theorem dLW_222 : decode code 222 = .ok (.iload 5, 2) := by decide +kernel
theorem dLW_224 : decode code 224 = .ok (.ifCond .ne 15, 3) := by decide +kernel
theorem dLW_227 : decode code 227 = .ok (.aload_n 3, 1) := by decide +kernel
theorem dLW_228 : decode code 228 = .ok (.iconst 0, 1) := by decide +kernel
theorem dLW_229 : decode code 229 = .ok (.laload, 1) := by decide +kernel
theorem dLW_230 : decode code 230 = .ok (.iload 6, 2) := by decide +kernel
theorem dLW_232 : decode code 232 = .ok (.i2l, 1) := by decide +kernel
theorem dLW_233 : decode code 233 = .ok (.lcmp, 1) := by decide +kernel
theorem dLW_234 : decode code 234 = .ok (.ifCond .eq 5, 3) := by decide +kernel
theorem dLW_237 : decode code 237 = .ok (.iconst 0, 1) := by decide +kernel
theorem dLW_238 : decode code 238 = .ok (.ireturn, 1) := by decide +kernel
theorem dLW_239 : decode code 239 = .ok (.goto 253, 3) := by decide +kernel
theorem dLW_242 : decode code 242 = .ok (.aload_n 1, 1) := by decide +kernel
theorem dLW_243 : decode code 243 = .ok (.aload_n 0, 1) := by decide +kernel
theorem dLW_244 : decode code 244 = .ok (.iload 4, 2) := by decide +kernel
theorem dLW_246 : decode code 246 = .ok (.iconst 1, 1) := by decide +kernel
theorem dLW_247 : decode code 247 = .ok (.iadd, 1) := by decide +kernel
theorem dLW_248 : decode code 248 = .ok (.iaload, 1) := by decide +kernel
theorem dLW_249 : decode code 249 = .ok (.invokevirtual 46, 3) := by decide +kernel
theorem dLW_252 : decode code 252 = .ok (.aload_n 2, 1) := by decide +kernel
theorem dLW_253 : decode code 253 = .ok (.aload_n 0, 1) := by decide +kernel
theorem dLW_254 : decode code 254 = .ok (.iload 4, 2) := by decide +kernel
theorem dLW_256 : decode code 256 = .ok (.iconst 1, 1) := by decide +kernel
theorem dLW_257 : decode code 257 = .ok (.iadd, 1) := by decide +kernel
theorem dLW_258 : decode code 258 = .ok (.iaload, 1) := by decide +kernel
theorem dLW_259 : decode code 259 = .ok (.invokevirtual 50, 3) := by decide +kernel
theorem dLW_262 : decode code 262 = .ok (.if_icmp .eq 230, 3) := by decide +kernel
theorem dLW_265 : decode code 265 = .ok (.iconst 0, 1) := by decide +kernel
theorem dLW_266 : decode code 266 = .ok (.ireturn, 1) := by decide +kernel
theorem dLW_267 : decode code 267 = .ok (.aload_n 1, 1) := by decide +kernel
theorem dLW_268 : decode code 268 = .ok (.aload_n 0, 1) := by decide +kernel
theorem dLW_269 : decode code 269 = .ok (.iload 4, 2) := by decide +kernel
theorem dLW_271 : decode code 271 = .ok (.iconst 1, 1) := by decide +kernel
theorem dLW_272 : decode code 272 = .ok (.iadd, 1) := by decide +kernel
theorem dLW_273 : decode code 273 = .ok (.iaload, 1) := by decide +kernel
theorem dLW_274 : decode code 274 = .ok (.invokevirtual 51, 3) := by decide +kernel
theorem dLW_277 : decode code 277 = .ok (.aload_n 2, 1) := by decide +kernel
theorem dLW_278 : decode code 278 = .ok (.aload_n 0, 1) := by decide +kernel
theorem dLW_279 : decode code 279 = .ok (.iload 4, 2) := by decide +kernel
theorem dLW_281 : decode code 281 = .ok (.iconst 1, 1) := by decide +kernel
theorem dLW_282 : decode code 282 = .ok (.iadd, 1) := by decide +kernel
theorem dLW_283 : decode code 283 = .ok (.iaload, 1) := by decide +kernel
theorem dLW_284 : decode code 284 = .ok (.invokevirtual 54, 3) := by decide +kernel
theorem dLW_287 : decode code 287 = .ok (.if_icmp .eq 205, 3) := by decide +kernel
theorem dLW_290 : decode code 290 = .ok (.iconst 0, 1) := by decide +kernel
theorem dLW_291 : decode code 291 = .ok (.ireturn, 1) := by decide +kernel
theorem dLW_292 : decode code 292 = .ok (.aload_n 1, 1) := by decide +kernel
theorem dLW_293 : decode code 293 = .ok (.aload_n 0, 1) := by decide +kernel
theorem dLW_294 : decode code 294 = .ok (.iload 4, 2) := by decide +kernel
theorem dLW_296 : decode code 296 = .ok (.iconst 1, 1) := by decide +kernel
theorem dLW_297 : decode code 297 = .ok (.iadd, 1) := by decide +kernel
theorem dLW_298 : decode code 298 = .ok (.iaload, 1) := by decide +kernel
theorem dLW_299 : decode code 299 = .ok (.invokevirtual 55, 3) := by decide +kernel
theorem dLW_302 : decode code 302 = .ok (.aload_n 2, 1) := by decide +kernel
theorem dLW_303 : decode code 303 = .ok (.aload_n 0, 1) := by decide +kernel
theorem dLW_304 : decode code 304 = .ok (.iload 4, 2) := by decide +kernel
theorem dLW_306 : decode code 306 = .ok (.iconst 1, 1) := by decide +kernel
theorem dLW_307 : decode code 307 = .ok (.iadd, 1) := by decide +kernel
theorem dLW_308 : decode code 308 = .ok (.iaload, 1) := by decide +kernel
theorem dLW_309 : decode code 309 = .ok (.invokevirtual 58, 3) := by decide +kernel
theorem dLW_312 : decode code 312 = .ok (.if_icmp .eq 180, 3) := by decide +kernel
theorem dLW_315 : decode code 315 = .ok (.iconst 0, 1) := by decide +kernel
theorem dLW_316 : decode code 316 = .ok (.ireturn, 1) := by decide +kernel
theorem dLW_317 : decode code 317 = .ok (.aload_n 1, 1) := by decide +kernel
theorem dLW_318 : decode code 318 = .ok (.aload_n 0, 1) := by decide +kernel
theorem dLW_319 : decode code 319 = .ok (.iload 4, 2) := by decide +kernel
theorem dLW_321 : decode code 321 = .ok (.iconst 1, 1) := by decide +kernel
theorem dLW_322 : decode code 322 = .ok (.iadd, 1) := by decide +kernel
theorem dLW_323 : decode code 323 = .ok (.iaload, 1) := by decide +kernel
theorem dLW_324 : decode code 324 = .ok (.invokevirtual 59, 3) := by decide +kernel
theorem dLW_327 : decode code 327 = .ok (.aload_n 2, 1) := by decide +kernel
theorem dLW_328 : decode code 328 = .ok (.aload_n 0, 1) := by decide +kernel
theorem dLW_329 : decode code 329 = .ok (.iload 4, 2) := by decide +kernel
theorem dLW_331 : decode code 331 = .ok (.iconst 1, 1) := by decide +kernel
theorem dLW_332 : decode code 332 = .ok (.iadd, 1) := by decide +kernel
theorem dLW_333 : decode code 333 = .ok (.iaload, 1) := by decide +kernel
theorem dLW_334 : decode code 334 = .ok (.invokevirtual 62, 3) := by decide +kernel
theorem dLW_337 : decode code 337 = .ok (.if_icmp .eq 155, 3) := by decide +kernel
theorem dLW_340 : decode code 340 = .ok (.iconst 0, 1) := by decide +kernel
theorem dLW_341 : decode code 341 = .ok (.ireturn, 1) := by decide +kernel
theorem dLW_342 : decode code 342 = .ok (.aload_n 1, 1) := by decide +kernel
theorem dLW_343 : decode code 343 = .ok (.invokevirtual 63, 3) := by decide +kernel
theorem dLW_346 : decode code 346 = .ok (.aload_n 2, 1) := by decide +kernel
theorem dLW_347 : decode code 347 = .ok (.invokevirtual 66, 3) := by decide +kernel
theorem dLW_350 : decode code 350 = .ok (.if_icmp .eq 142, 3) := by decide +kernel
theorem dLW_353 : decode code 353 = .ok (.iconst 0, 1) := by decide +kernel
theorem dLW_354 : decode code 354 = .ok (.ireturn, 1) := by decide +kernel
theorem dLW_355 : decode code 355 = .ok (.aload_n 1, 1) := by decide +kernel
theorem dLW_356 : decode code 356 = .ok (.invokevirtual 67, 3) := by decide +kernel
theorem dLW_359 : decode code 359 = .ok (.aload_n 2, 1) := by decide +kernel
theorem dLW_360 : decode code 360 = .ok (.invokevirtual 71, 3) := by decide +kernel
theorem dLW_363 : decode code 363 = .ok (.if_icmp .eq 129, 3) := by decide +kernel
theorem dLW_366 : decode code 366 = .ok (.iconst 0, 1) := by decide +kernel
theorem dLW_367 : decode code 367 = .ok (.ireturn, 1) := by decide +kernel
theorem dLW_368 : decode code 368 = .ok (.aload_n 1, 1) := by decide +kernel
theorem dLW_369 : decode code 369 = .ok (.aload_n 0, 1) := by decide +kernel
theorem dLW_370 : decode code 370 = .ok (.iload 4, 2) := by decide +kernel
theorem dLW_372 : decode code 372 = .ok (.iconst 1, 1) := by decide +kernel
theorem dLW_373 : decode code 373 = .ok (.iadd, 1) := by decide +kernel
theorem dLW_374 : decode code 374 = .ok (.iaload, 1) := by decide +kernel
theorem dLW_375 : decode code 375 = .ok (.invokevirtual 72, 3) := by decide +kernel
theorem dLW_378 : decode code 378 = .ok (.aload_n 2, 1) := by decide +kernel
theorem dLW_379 : decode code 379 = .ok (.aload_n 0, 1) := by decide +kernel
theorem dLW_380 : decode code 380 = .ok (.iload 4, 2) := by decide +kernel
theorem dLW_382 : decode code 382 = .ok (.iconst 1, 1) := by decide +kernel
theorem dLW_383 : decode code 383 = .ok (.iadd, 1) := by decide +kernel
theorem dLW_384 : decode code 384 = .ok (.iaload, 1) := by decide +kernel
theorem dLW_385 : decode code 385 = .ok (.invokevirtual 75, 3) := by decide +kernel
theorem dLW_388 : decode code 388 = .ok (.if_icmp .eq 104, 3) := by decide +kernel
theorem dLW_391 : decode code 391 = .ok (.iconst 0, 1) := by decide +kernel
theorem dLW_392 : decode code 392 = .ok (.ireturn, 1) := by decide +kernel
theorem dLW_393 : decode code 393 = .ok (.aload_n 1, 1) := by decide +kernel
theorem dLW_394 : decode code 394 = .ok (.aload_n 0, 1) := by decide +kernel
theorem dLW_395 : decode code 395 = .ok (.iload 4, 2) := by decide +kernel
theorem dLW_397 : decode code 397 = .ok (.iconst 1, 1) := by decide +kernel
theorem dLW_398 : decode code 398 = .ok (.iadd, 1) := by decide +kernel
theorem dLW_399 : decode code 399 = .ok (.iaload, 1) := by decide +kernel
theorem dLW_400 : decode code 400 = .ok (.invokevirtual 76, 3) := by decide +kernel
theorem dLW_403 : decode code 403 = .ok (.aload_n 2, 1) := by decide +kernel
theorem dLW_404 : decode code 404 = .ok (.aload_n 0, 1) := by decide +kernel
theorem dLW_405 : decode code 405 = .ok (.iload 4, 2) := by decide +kernel
theorem dLW_407 : decode code 407 = .ok (.iconst 1, 1) := by decide +kernel
theorem dLW_408 : decode code 408 = .ok (.iadd, 1) := by decide +kernel
theorem dLW_409 : decode code 409 = .ok (.iaload, 1) := by decide +kernel
theorem dLW_410 : decode code 410 = .ok (.invokevirtual 79, 3) := by decide +kernel
theorem dLW_413 : decode code 413 = .ok (.if_icmp .eq 79, 3) := by decide +kernel
theorem dLW_416 : decode code 416 = .ok (.iconst 0, 1) := by decide +kernel
theorem dLW_417 : decode code 417 = .ok (.ireturn, 1) := by decide +kernel
theorem dLW_418 : decode code 418 = .ok (.aload_n 1, 1) := by decide +kernel
theorem dLW_419 : decode code 419 = .ok (.aload_n 0, 1) := by decide +kernel
theorem dLW_420 : decode code 420 = .ok (.iload 4, 2) := by decide +kernel
theorem dLW_422 : decode code 422 = .ok (.iconst 1, 1) := by decide +kernel
theorem dLW_423 : decode code 423 = .ok (.iadd, 1) := by decide +kernel
theorem dLW_424 : decode code 424 = .ok (.iaload, 1) := by decide +kernel
theorem dLW_425 : decode code 425 = .ok (.aload_n 0, 1) := by decide +kernel
theorem dLW_426 : decode code 426 = .ok (.iload 4, 2) := by decide +kernel
theorem dLW_428 : decode code 428 = .ok (.iconst 2, 1) := by decide +kernel
theorem dLW_429 : decode code 429 = .ok (.iadd, 1) := by decide +kernel
theorem dLW_430 : decode code 430 = .ok (.iaload, 1) := by decide +kernel
theorem dLW_431 : decode code 431 = .ok (.aload_n 0, 1) := by decide +kernel
theorem dLW_432 : decode code 432 = .ok (.iload 4, 2) := by decide +kernel
theorem dLW_434 : decode code 434 = .ok (.iconst 3, 1) := by decide +kernel
theorem dLW_435 : decode code 435 = .ok (.iadd, 1) := by decide +kernel
theorem dLW_436 : decode code 436 = .ok (.iaload, 1) := by decide +kernel
theorem dLW_437 : decode code 437 = .ok (.invokevirtual 80, 3) := by decide +kernel
theorem dLW_440 : decode code 440 = .ok (.aload_n 2, 1) := by decide +kernel
theorem dLW_441 : decode code 441 = .ok (.aload_n 0, 1) := by decide +kernel
theorem dLW_442 : decode code 442 = .ok (.iload 4, 2) := by decide +kernel
theorem dLW_444 : decode code 444 = .ok (.iconst 1, 1) := by decide +kernel
theorem dLW_445 : decode code 445 = .ok (.iadd, 1) := by decide +kernel
theorem dLW_446 : decode code 446 = .ok (.iaload, 1) := by decide +kernel
theorem dLW_447 : decode code 447 = .ok (.aload_n 0, 1) := by decide +kernel
theorem dLW_448 : decode code 448 = .ok (.iload 4, 2) := by decide +kernel
theorem dLW_450 : decode code 450 = .ok (.iconst 2, 1) := by decide +kernel
theorem dLW_451 : decode code 451 = .ok (.iadd, 1) := by decide +kernel
theorem dLW_452 : decode code 452 = .ok (.iaload, 1) := by decide +kernel
theorem dLW_453 : decode code 453 = .ok (.aload_n 0, 1) := by decide +kernel
theorem dLW_454 : decode code 454 = .ok (.iload 4, 2) := by decide +kernel
theorem dLW_456 : decode code 456 = .ok (.iconst 3, 1) := by decide +kernel
theorem dLW_457 : decode code 457 = .ok (.iadd, 1) := by decide +kernel
theorem dLW_458 : decode code 458 = .ok (.iaload, 1) := by decide +kernel
theorem dLW_459 : decode code 459 = .ok (.invokevirtual 84, 3) := by decide +kernel
theorem dLW_462 : decode code 462 = .ok (.if_icmp .eq 30, 3) := by decide +kernel
theorem dLW_465 : decode code 465 = .ok (.iconst 0, 1) := by decide +kernel
theorem dLW_466 : decode code 466 = .ok (.ireturn, 1) := by decide +kernel
theorem dLW_467 : decode code 467 = .ok (.aload_n 1, 1) := by decide +kernel
theorem dLW_468 : decode code 468 = .ok (.aload_n 0, 1) := by decide +kernel
theorem dLW_469 : decode code 469 = .ok (.iload 4, 2) := by decide +kernel
theorem dLW_471 : decode code 471 = .ok (.iconst 1, 1) := by decide +kernel
theorem dLW_472 : decode code 472 = .ok (.iadd, 1) := by decide +kernel
theorem dLW_473 : decode code 473 = .ok (.iaload, 1) := by decide +kernel
theorem dLW_474 : decode code 474 = .ok (.invokevirtual 85, 3) := by decide +kernel
theorem dLW_477 : decode code 477 = .ok (.aload_n 2, 1) := by decide +kernel
theorem dLW_478 : decode code 478 = .ok (.aload_n 0, 1) := by decide +kernel
theorem dLW_479 : decode code 479 = .ok (.iload 4, 2) := by decide +kernel
theorem dLW_481 : decode code 481 = .ok (.iconst 1, 1) := by decide +kernel
theorem dLW_482 : decode code 482 = .ok (.iadd, 1) := by decide +kernel
theorem dLW_483 : decode code 483 = .ok (.iaload, 1) := by decide +kernel
theorem dLW_484 : decode code 484 = .ok (.invokevirtual 88, 3) := by decide +kernel
theorem dLW_487 : decode code 487 = .ok (.if_icmp .eq 5, 3) := by decide +kernel
theorem dLW_490 : decode code 490 = .ok (.iconst 0, 1) := by decide +kernel
theorem dLW_491 : decode code 491 = .ok (.ireturn, 1) := by decide +kernel
theorem dLW_492 : decode code 492 = .ok (.iinc 4 4, 3) := by decide +kernel
theorem dLW_495 : decode code 495 = .ok (.goto (-452), 3) := by decide +kernel
theorem dLW_498 : decode code 498 = .ok (.iconst 1, 1) := by decide +kernel
theorem dLW_499 : decode code 499 = .ok (.ireturn, 1) := by decide +kernel
