theorem dX12_init_0 : decode cX12_init 0 = .ok (.aload_n 0, 1) := by decide +kernel
theorem dX12_init_1 : decode cX12_init 1 = .ok (.invokespecial 1, 3) := by decide +kernel
theorem dX12_init_4 : decode cX12_init 4 = .ok (.aload_n 0, 1) := by decide +kernel
theorem dX12_init_5 : decode cX12_init 5 = .ok (.bipush 12, 2) := by decide +kernel
theorem dX12_init_7 : decode cX12_init 7 = .ok (.newarray .long, 2) := by decide +kernel
theorem dX12_init_9 : decode cX12_init 9 = .ok (.putfield 7, 3) := by decide +kernel
theorem dX12_init_12 : decode cX12_init 12 = .ok (.aload_n 0, 1) := by decide +kernel
theorem dX12_init_13 : decode cX12_init 13 = .ok (.bipush 40, 2) := by decide +kernel
theorem dX12_init_15 : decode cX12_init 15 = .ok (.newarray .int, 2) := by decide +kernel
theorem dX12_init_17 : decode cX12_init 17 = .ok (.putfield 13, 3) := by decide +kernel
theorem dX12_init_20 : decode cX12_init 20 = .ok (.aload_n 0, 1) := by decide +kernel
theorem dX12_init_21 : decode cX12_init 21 = .ok (.bipush 20, 2) := by decide +kernel
theorem dX12_init_23 : decode cX12_init 23 = .ok (.newarray .long, 2) := by decide +kernel
theorem dX12_init_25 : decode cX12_init 25 = .ok (.putfield 17, 3) := by decide +kernel
theorem dX12_init_28 : decode cX12_init 28 = .ok (.aload_n 0, 1) := by decide +kernel
theorem dX12_init_29 : decode cX12_init 29 = .ok (.bipush 10, 2) := by decide +kernel
theorem dX12_init_31 : decode cX12_init 31 = .ok (.newarray .long, 2) := by decide +kernel
theorem dX12_init_33 : decode cX12_init 33 = .ok (.putfield 20, 3) := by decide +kernel
theorem dX12_init_36 : decode cX12_init 36 = .ok (.aload_n 0, 1) := by decide +kernel
theorem dX12_init_37 : decode cX12_init 37 = .ok (.bipush 10, 2) := by decide +kernel
theorem dX12_init_39 : decode cX12_init 39 = .ok (.newarray .long, 2) := by decide +kernel
theorem dX12_init_41 : decode cX12_init 41 = .ok (.putfield 23, 3) := by decide +kernel
theorem dX12_init_44 : decode cX12_init 44 = .ok (.aload_n 0, 1) := by decide +kernel
theorem dX12_init_45 : decode cX12_init 45 = .ok (.bipush 10, 2) := by decide +kernel
theorem dX12_init_47 : decode cX12_init 47 = .ok (.newarray .long, 2) := by decide +kernel
theorem dX12_init_49 : decode cX12_init 49 = .ok (.putfield 26, 3) := by decide +kernel
theorem dX12_init_52 : decode cX12_init 52 = .ok (.aload_n 0, 1) := by decide +kernel
theorem dX12_init_53 : decode cX12_init 53 = .ok (.bipush 40, 2) := by decide +kernel
theorem dX12_init_55 : decode cX12_init 55 = .ok (.newarray .long, 2) := by decide +kernel
theorem dX12_init_57 : decode cX12_init 57 = .ok (.putfield 29, 3) := by decide +kernel
theorem dX12_init_60 : decode cX12_init 60 = .ok (.aload_n 0, 1) := by decide +kernel
theorem dX12_init_61 : decode cX12_init 61 = .ok (.iconst 2, 1) := by decide +kernel
theorem dX12_init_62 : decode cX12_init 62 = .ok (.newarray .int, 2) := by decide +kernel
theorem dX12_init_64 : decode cX12_init 64 = .ok (.putfield 32, 3) := by decide +kernel
theorem dX12_init_67 : decode cX12_init 67 = .ok (.aload_n 0, 1) := by decide +kernel
theorem dX12_init_68 : decode cX12_init 68 = .ok (.bipush 12, 2) := by decide +kernel
theorem dX12_init_70 : decode cX12_init 70 = .ok (.newarray .int, 2) := by decide +kernel
theorem dX12_init_72 : decode cX12_init 72 = .ok (.putfield 35, 3) := by decide +kernel
theorem dX12_init_75 : decode cX12_init 75 = .ok (.aload_n 0, 1) := by decide +kernel
theorem dX12_init_76 : decode cX12_init 76 = .ok (.bipush 12, 2) := by decide +kernel
theorem dX12_init_78 : decode cX12_init 78 = .ok (.newarray .int, 2) := by decide +kernel
theorem dX12_init_80 : decode cX12_init 80 = .ok (.putfield 38, 3) := by decide +kernel
theorem dX12_init_83 : decode cX12_init 83 = .ok (.aload_n 0, 1) := by decide +kernel
theorem dX12_init_84 : decode cX12_init 84 = .ok (.bipush 12, 2) := by decide +kernel
theorem dX12_init_86 : decode cX12_init 86 = .ok (.newarray .int, 2) := by decide +kernel
theorem dX12_init_88 : decode cX12_init 88 = .ok (.putfield 41, 3) := by decide +kernel
theorem dX12_init_91 : decode cX12_init 91 = .ok (.aload_n 0, 1) := by decide +kernel
theorem dX12_init_92 : decode cX12_init 92 = .ok (.sipush 480, 3) := by decide +kernel
theorem dX12_init_95 : decode cX12_init 95 = .ok (.newarray .long, 2) := by decide +kernel
theorem dX12_init_97 : decode cX12_init 97 = .ok (.putfield 44, 3) := by decide +kernel
theorem dX12_init_100 : decode cX12_init 100 = .ok (.aload_n 0, 1) := by decide +kernel
theorem dX12_init_101 : decode cX12_init 101 = .ok (.bipush 24, 2) := by decide +kernel
theorem dX12_init_103 : decode cX12_init 103 = .ok (.newarray .int, 2) := by decide +kernel
theorem dX12_init_105 : decode cX12_init 105 = .ok (.putfield 47, 3) := by decide +kernel
theorem dX12_init_108 : decode cX12_init 108 = .ok (.aload_n 0, 1) := by decide +kernel
theorem dX12_init_109 : decode cX12_init 109 = .ok (.sipush 2424, 3) := by decide +kernel
theorem dX12_init_112 : decode cX12_init 112 = .ok (.newarray .int, 2) := by decide +kernel
theorem dX12_init_114 : decode cX12_init 114 = .ok (.putfield 50, 3) := by decide +kernel
theorem dX12_init_117 : decode cX12_init 117 = .ok (.aload_n 0, 1) := by decide +kernel
theorem dX12_init_118 : decode cX12_init 118 = .ok (.sipush 2424, 3) := by decide +kernel
theorem dX12_init_121 : decode cX12_init 121 = .ok (.newarray .int, 2) := by decide +kernel
theorem dX12_init_123 : decode cX12_init 123 = .ok (.putfield 53, 3) := by decide +kernel
theorem dX12_init_126 : decode cX12_init 126 = .ok (.aload_n 0, 1) := by decide +kernel
theorem dX12_init_127 : decode cX12_init 127 = .ok (.sipush 2424, 3) := by decide +kernel
theorem dX12_init_130 : decode cX12_init 130 = .ok (.newarray .int, 2) := by decide +kernel
theorem dX12_init_132 : decode cX12_init 132 = .ok (.putfield 56, 3) := by decide +kernel
theorem dX12_init_135 : decode cX12_init 135 = .ok (.aload_n 0, 1) := by decide +kernel
theorem dX12_init_136 : decode cX12_init 136 = .ok (.ldc 59, 2) := by decide +kernel
theorem dX12_init_138 : decode cX12_init 138 = .ok (.newarray .long, 2) := by decide +kernel
theorem dX12_init_140 : decode cX12_init 140 = .ok (.putfield 60, 3) := by decide +kernel
theorem dX12_init_143 : decode cX12_init 143 = .ok (.aload_n 0, 1) := by decide +kernel
theorem dX12_init_144 : decode cX12_init 144 = .ok (.sipush 4848, 3) := by decide +kernel
theorem dX12_init_147 : decode cX12_init 147 = .ok (.newarray .int, 2) := by decide +kernel
theorem dX12_init_149 : decode cX12_init 149 = .ok (.putfield 63, 3) := by decide +kernel
theorem dX12_init_152 : decode cX12_init 152 = .ok (.aload_n 0, 1) := by decide +kernel
theorem dX12_init_153 : decode cX12_init 153 = .ok (.sipush 20200, 3) := by decide +kernel
theorem dX12_init_156 : decode cX12_init 156 = .ok (.newarray .int, 2) := by decide +kernel
theorem dX12_init_158 : decode cX12_init 158 = .ok (.putfield 66, 3) := by decide +kernel
theorem dX12_init_161 : decode cX12_init 161 = .ok (.aload_n 0, 1) := by decide +kernel
theorem dX12_init_162 : decode cX12_init 162 = .ok (.sipush 202, 3) := by decide +kernel
theorem dX12_init_165 : decode cX12_init 165 = .ok (.newarray .int, 2) := by decide +kernel
theorem dX12_init_167 : decode cX12_init 167 = .ok (.putfield 69, 3) := by decide +kernel
theorem dX12_init_170 : decode cX12_init 170 = .ok (.aload_n 0, 1) := by decide +kernel
theorem dX12_init_171 : decode cX12_init 171 = .ok (.sipush 20200, 3) := by decide +kernel
theorem dX12_init_174 : decode cX12_init 174 = .ok (.newarray .boolean, 2) := by decide +kernel
theorem dX12_init_176 : decode cX12_init 176 = .ok (.putfield 72, 3) := by decide +kernel
theorem dX12_init_179 : decode cX12_init 179 = .ok (.aload_n 0, 1) := by decide +kernel
theorem dX12_init_180 : decode cX12_init 180 = .ok (.sipush 20200, 3) := by decide +kernel
theorem dX12_init_183 : decode cX12_init 183 = .ok (.newarray .boolean, 2) := by decide +kernel
theorem dX12_init_185 : decode cX12_init 185 = .ok (.putfield 76, 3) := by decide +kernel
theorem dX12_init_188 : decode cX12_init 188 = .ok (.aload_n 0, 1) := by decide +kernel
theorem dX12_init_189 : decode cX12_init 189 = .ok (.sipush 20200, 3) := by decide +kernel
theorem dX12_init_192 : decode cX12_init 192 = .ok (.newarray .boolean, 2) := by decide +kernel
theorem dX12_init_194 : decode cX12_init 194 = .ok (.putfield 79, 3) := by decide +kernel
theorem dX12_init_197 : decode cX12_init 197 = .ok (.aload_n 0, 1) := by decide +kernel
theorem dX12_init_198 : decode cX12_init 198 = .ok (.sipush 202, 3) := by decide +kernel
theorem dX12_init_201 : decode cX12_init 201 = .ok (.newarray .int, 2) := by decide +kernel
theorem dX12_init_203 : decode cX12_init 203 = .ok (.putfield 82, 3) := by decide +kernel
theorem dX12_init_206 : decode cX12_init 206 = .ok (.aload_n 0, 1) := by decide +kernel
theorem dX12_init_207 : decode cX12_init 207 = .ok (.sipush 202, 3) := by decide +kernel
theorem dX12_init_210 : decode cX12_init 210 = .ok (.newarray .int, 2) := by decide +kernel
theorem dX12_init_212 : decode cX12_init 212 = .ok (.putfield 85, 3) := by decide +kernel
theorem dX12_init_215 : decode cX12_init 215 = .ok (.aload_n 0, 1) := by decide +kernel
theorem dX12_init_216 : decode cX12_init 216 = .ok (.sipush 20200, 3) := by decide +kernel
theorem dX12_init_219 : decode cX12_init 219 = .ok (.newarray .boolean, 2) := by decide +kernel
theorem dX12_init_221 : decode cX12_init 221 = .ok (.putfield 88, 3) := by decide +kernel
theorem dX12_init_224 : decode cX12_init 224 = .ok (.aload_n 0, 1) := by decide +kernel
theorem dX12_init_225 : decode cX12_init 225 = .ok (.sipush 202, 3) := by decide +kernel
theorem dX12_init_228 : decode cX12_init 228 = .ok (.newarray .int, 2) := by decide +kernel
theorem dX12_init_230 : decode cX12_init 230 = .ok (.putfield 91, 3) := by decide +kernel
theorem dX12_init_233 : decode cX12_init 233 = .ok (.aload_n 0, 1) := by decide +kernel
theorem dX12_init_234 : decode cX12_init 234 = .ok (.sipush 20200, 3) := by decide +kernel
theorem dX12_init_237 : decode cX12_init 237 = .ok (.newarray .boolean, 2) := by decide +kernel
theorem dX12_init_239 : decode cX12_init 239 = .ok (.putfield 94, 3) := by decide +kernel
theorem dX12_init_242 : decode cX12_init 242 = .ok (.aload_n 0, 1) := by decide +kernel
theorem dX12_init_243 : decode cX12_init 243 = .ok (.iconst 5, 1) := by decide +kernel
theorem dX12_init_244 : decode cX12_init 244 = .ok (.newarray .int, 2) := by decide +kernel
theorem dX12_init_246 : decode cX12_init 246 = .ok (.putfield 97, 3) := by decide +kernel
theorem dX12_init_249 : decode cX12_init 249 = .ok (.aload_n 0, 1) := by decide +kernel
theorem dX12_init_250 : decode cX12_init 250 = .ok (.sipush 1010, 3) := by decide +kernel
theorem dX12_init_253 : decode cX12_init 253 = .ok (.newarray .int, 2) := by decide +kernel
theorem dX12_init_255 : decode cX12_init 255 = .ok (.putfield 100, 3) := by decide +kernel
theorem dX12_init_258 : decode cX12_init 258 = .ok (.aload_n 0, 1) := by decide +kernel
theorem dX12_init_259 : decode cX12_init 259 = .ok (.iconst 5, 1) := by decide +kernel
theorem dX12_init_260 : decode cX12_init 260 = .ok (.newarray .int, 2) := by decide +kernel
theorem dX12_init_262 : decode cX12_init 262 = .ok (.putfield 103, 3) := by decide +kernel
theorem dX12_init_265 : decode cX12_init 265 = .ok (.aload_n 0, 1) := by decide +kernel
theorem dX12_init_266 : decode cX12_init 266 = .ok (.ldc 106, 2) := by decide +kernel
theorem dX12_init_268 : decode cX12_init 268 = .ok (.newarray .boolean, 2) := by decide +kernel
theorem dX12_init_270 : decode cX12_init 270 = .ok (.putfield 107, 3) := by decide +kernel
theorem dX12_init_273 : decode cX12_init 273 = .ok (.aload_n 0, 1) := by decide +kernel
theorem dX12_init_274 : decode cX12_init 274 = .ok (.iconst 3, 1) := by decide +kernel
theorem dX12_init_275 : decode cX12_init 275 = .ok (.newarray .int, 2) := by decide +kernel
theorem dX12_init_277 : decode cX12_init 277 = .ok (.putfield 110, 3) := by decide +kernel
theorem dX12_init_280 : decode cX12_init 280 = .ok (.aload_n 0, 1) := by decide +kernel
theorem dX12_init_281 : decode cX12_init 281 = .ok (.bipush 100, 2) := by decide +kernel
theorem dX12_init_283 : decode cX12_init 283 = .ok (.newarray .int, 2) := by decide +kernel
theorem dX12_init_285 : decode cX12_init 285 = .ok (.putfield 113, 3) := by decide +kernel
theorem dX12_init_288 : decode cX12_init 288 = .ok (.aload_n 0, 1) := by decide +kernel
theorem dX12_init_289 : decode cX12_init 289 = .ok (.sipush 2200, 3) := by decide +kernel
theorem dX12_init_292 : decode cX12_init 292 = .ok (.newarray .long, 2) := by decide +kernel
theorem dX12_init_294 : decode cX12_init 294 = .ok (.putfield 116, 3) := by decide +kernel
theorem dX12_init_297 : decode cX12_init 297 = .ok (.aload_n 0, 1) := by decide +kernel
theorem dX12_init_298 : decode cX12_init 298 = .ok (.sipush 2300, 3) := by decide +kernel
theorem dX12_init_301 : decode cX12_init 301 = .ok (.newarray .int, 2) := by decide +kernel
theorem dX12_init_303 : decode cX12_init 303 = .ok (.putfield 119, 3) := by decide +kernel
theorem dX12_init_306 : decode cX12_init 306 = .ok (.aload_n 0, 1) := by decide +kernel
theorem dX12_init_307 : decode cX12_init 307 = .ok (.sipush 2400, 3) := by decide +kernel
theorem dX12_init_310 : decode cX12_init 310 = .ok (.newarray .int, 2) := by decide +kernel
theorem dX12_init_312 : decode cX12_init 312 = .ok (.putfield 122, 3) := by decide +kernel
theorem dX12_init_315 : decode cX12_init 315 = .ok (.aload_n 0, 1) := by decide +kernel
theorem dX12_init_316 : decode cX12_init 316 = .ok (.sipush 2424, 3) := by decide +kernel
theorem dX12_init_319 : decode cX12_init 319 = .ok (.newarray .int, 2) := by decide +kernel
theorem dX12_init_321 : decode cX12_init 321 = .ok (.putfield 125, 3) := by decide +kernel
theorem dX12_init_324 : decode cX12_init 324 = .ok (.aload_n 0, 1) := by decide +kernel
theorem dX12_init_325 : decode cX12_init 325 = .ok (.sipush 2424, 3) := by decide +kernel
theorem dX12_init_328 : decode cX12_init 328 = .ok (.newarray .int, 2) := by decide +kernel
theorem dX12_init_330 : decode cX12_init 330 = .ok (.putfield 128, 3) := by decide +kernel
theorem dX12_init_333 : decode cX12_init 333 = .ok (.aload_n 0, 1) := by decide +kernel
theorem dX12_init_334 : decode cX12_init 334 = .ok (.sipush 1968, 3) := by decide +kernel
theorem dX12_init_337 : decode cX12_init 337 = .ok (.newarray .int, 2) := by decide +kernel
theorem dX12_init_339 : decode cX12_init 339 = .ok (.putfield 131, 3) := by decide +kernel
theorem dX12_init_342 : decode cX12_init 342 = .ok (.aload_n 0, 1) := by decide +kernel
theorem dX12_init_343 : decode cX12_init 343 = .ok (.sipush 1968, 3) := by decide +kernel
theorem dX12_init_346 : decode cX12_init 346 = .ok (.newarray .int, 2) := by decide +kernel
theorem dX12_init_348 : decode cX12_init 348 = .ok (.putfield 134, 3) := by decide +kernel
theorem dX12_init_351 : decode cX12_init 351 = .ok (.aload_n 0, 1) := by decide +kernel
theorem dX12_init_352 : decode cX12_init 352 = .ok (.sipush 1968, 3) := by decide +kernel
theorem dX12_init_355 : decode cX12_init 355 = .ok (.newarray .int, 2) := by decide +kernel
theorem dX12_init_357 : decode cX12_init 357 = .ok (.putfield 137, 3) := by decide +kernel
theorem dX12_init_360 : decode cX12_init 360 = .ok (.aload_n 0, 1) := by decide +kernel
theorem dX12_init_361 : decode cX12_init 361 = .ok (.sipush 1968, 3) := by decide +kernel
theorem dX12_init_364 : decode cX12_init 364 = .ok (.newarray .boolean, 2) := by decide +kernel
theorem dX12_init_366 : decode cX12_init 366 = .ok (.putfield 140, 3) := by decide +kernel
theorem dX12_init_369 : decode cX12_init 369 = .ok (.aload_n 0, 1) := by decide +kernel
theorem dX12_init_370 : decode cX12_init 370 = .ok (.sipush 1968, 3) := by decide +kernel
theorem dX12_init_373 : decode cX12_init 373 = .ok (.newarray .int, 2) := by decide +kernel
theorem dX12_init_375 : decode cX12_init 375 = .ok (.putfield 143, 3) := by decide +kernel
theorem dX12_init_378 : decode cX12_init 378 = .ok (.aload_n 0, 1) := by decide +kernel
theorem dX12_init_379 : decode cX12_init 379 = .ok (.sipush 11808, 3) := by decide +kernel
theorem dX12_init_382 : decode cX12_init 382 = .ok (.newarray .long, 2) := by decide +kernel
theorem dX12_init_384 : decode cX12_init 384 = .ok (.putfield 146, 3) := by decide +kernel
theorem dX12_init_387 : decode cX12_init 387 = .ok (.aload_n 0, 1) := by decide +kernel
theorem dX12_init_388 : decode cX12_init 388 = .ok (.sipush 11808, 3) := by decide +kernel
theorem dX12_init_391 : decode cX12_init 391 = .ok (.newarray .int, 2) := by decide +kernel
theorem dX12_init_393 : decode cX12_init 393 = .ok (.putfield 149, 3) := by decide +kernel
theorem dX12_init_396 : decode cX12_init 396 = .ok (.aload_n 0, 1) := by decide +kernel
theorem dX12_init_397 : decode cX12_init 397 = .ok (.sipush 23616, 3) := by decide +kernel
theorem dX12_init_400 : decode cX12_init 400 = .ok (.newarray .int, 2) := by decide +kernel
theorem dX12_init_402 : decode cX12_init 402 = .ok (.putfield 152, 3) := by decide +kernel
theorem dX12_init_405 : decode cX12_init 405 = .ok (.aload_n 0, 1) := by decide +kernel
theorem dX12_init_406 : decode cX12_init 406 = .ok (.bipush 41, 2) := by decide +kernel
theorem dX12_init_408 : decode cX12_init 408 = .ok (.newarray .int, 2) := by decide +kernel
theorem dX12_init_410 : decode cX12_init 410 = .ok (.putfield 155, 3) := by decide +kernel
theorem dX12_init_413 : decode cX12_init 413 = .ok (.aload_n 0, 1) := by decide +kernel
theorem dX12_init_414 : decode cX12_init 414 = .ok (.iconst 2, 1) := by decide +kernel
theorem dX12_init_415 : decode cX12_init 415 = .ok (.newarray .int, 2) := by decide +kernel
theorem dX12_init_417 : decode cX12_init 417 = .ok (.putfield 158, 3) := by decide +kernel
theorem dX12_init_420 : decode cX12_init 420 = .ok (.aload_n 0, 1) := by decide +kernel
theorem dX12_init_421 : decode cX12_init 421 = .ok (.bipush 20, 2) := by decide +kernel
theorem dX12_init_423 : decode cX12_init 423 = .ok (.newarray .long, 2) := by decide +kernel
theorem dX12_init_425 : decode cX12_init 425 = .ok (.putfield 161, 3) := by decide +kernel
theorem dX12_init_428 : decode cX12_init 428 = .ok (.aload_n 0, 1) := by decide +kernel
theorem dX12_init_429 : decode cX12_init 429 = .ok (.bipush 20, 2) := by decide +kernel
theorem dX12_init_431 : decode cX12_init 431 = .ok (.newarray .int, 2) := by decide +kernel
theorem dX12_init_433 : decode cX12_init 433 = .ok (.putfield 164, 3) := by decide +kernel
theorem dX12_init_436 : decode cX12_init 436 = .ok (.aload_n 0, 1) := by decide +kernel
theorem dX12_init_437 : decode cX12_init 437 = .ok (.bipush 14, 2) := by decide +kernel
theorem dX12_init_439 : decode cX12_init 439 = .ok (.newarray .int, 2) := by decide +kernel
theorem dX12_init_441 : decode cX12_init 441 = .ok (.putfield 167, 3) := by decide +kernel
theorem dX12_init_444 : decode cX12_init 444 = .ok (.aload_n 0, 1) := by decide +kernel
theorem dX12_init_445 : decode cX12_init 445 = .ok (.bipush 14, 2) := by decide +kernel
theorem dX12_init_447 : decode cX12_init 447 = .ok (.newarray .int, 2) := by decide +kernel
theorem dX12_init_449 : decode cX12_init 449 = .ok (.putfield 170, 3) := by decide +kernel
theorem dX12_init_452 : decode cX12_init 452 = .ok (.aload_n 0, 1) := by decide +kernel
theorem dX12_init_453 : decode cX12_init 453 = .ok (.bipush 50, 2) := by decide +kernel
theorem dX12_init_455 : decode cX12_init 455 = .ok (.newarray .int, 2) := by decide +kernel
theorem dX12_init_457 : decode cX12_init 457 = .ok (.putfield 173, 3) := by decide +kernel
theorem dX12_init_460 : decode cX12_init 460 = .ok (.aload_n 0, 1) := by decide +kernel
theorem dX12_init_461 : decode cX12_init 461 = .ok (.bipush 48, 2) := by decide +kernel
theorem dX12_init_463 : decode cX12_init 463 = .ok (.newarray .int, 2) := by decide +kernel
theorem dX12_init_465 : decode cX12_init 465 = .ok (.putfield 176, 3) := by decide +kernel
theorem dX12_init_468 : decode cX12_init 468 = .ok (.aload_n 0, 1) := by decide +kernel
theorem dX12_init_469 : decode cX12_init 469 = .ok (.bipush 48, 2) := by decide +kernel
theorem dX12_init_471 : decode cX12_init 471 = .ok (.newarray .boolean, 2) := by decide +kernel
theorem dX12_init_473 : decode cX12_init 473 = .ok (.putfield 179, 3) := by decide +kernel
theorem dX12_init_476 : decode cX12_init 476 = .ok (.aload_n 0, 1) := by decide +kernel
theorem dX12_init_477 : decode cX12_init 477 = .ok (.bipush 8, 2) := by decide +kernel
theorem dX12_init_479 : decode cX12_init 479 = .ok (.newarray .int, 2) := by decide +kernel
theorem dX12_init_481 : decode cX12_init 481 = .ok (.putfield 182, 3) := by decide +kernel
theorem dX12_init_484 : decode cX12_init 484 = .ok (.aload_n 0, 1) := by decide +kernel
theorem dX12_init_485 : decode cX12_init 485 = .ok (.bipush 8, 2) := by decide +kernel
theorem dX12_init_487 : decode cX12_init 487 = .ok (.newarray .int, 2) := by decide +kernel
theorem dX12_init_489 : decode cX12_init 489 = .ok (.putfield 185, 3) := by decide +kernel
theorem dX12_init_492 : decode cX12_init 492 = .ok (.aload_n 0, 1) := by decide +kernel
theorem dX12_init_493 : decode cX12_init 493 = .ok (.bipush 20, 2) := by decide +kernel
theorem dX12_init_495 : decode cX12_init 495 = .ok (.newarray .int, 2) := by decide +kernel
theorem dX12_init_497 : decode cX12_init 497 = .ok (.putfield 188, 3) := by decide +kernel
theorem dX12_init_500 : decode cX12_init 500 = .ok (.aload_n 0, 1) := by decide +kernel
theorem dX12_init_501 : decode cX12_init 501 = .ok (.bipush 20, 2) := by decide +kernel
theorem dX12_init_503 : decode cX12_init 503 = .ok (.newarray .int, 2) := by decide +kernel
theorem dX12_init_505 : decode cX12_init 505 = .ok (.putfield 191, 3) := by decide +kernel
theorem dX12_init_508 : decode cX12_init 508 = .ok (.aload_n 0, 1) := by decide +kernel
theorem dX12_init_509 : decode cX12_init 509 = .ok (.bipush 48, 2) := by decide +kernel
theorem dX12_init_511 : decode cX12_init 511 = .ok (.newarray .int, 2) := by decide +kernel
theorem dX12_init_513 : decode cX12_init 513 = .ok (.putfield 194, 3) := by decide +kernel
theorem dX12_init_516 : decode cX12_init 516 = .ok (.aload_n 0, 1) := by decide +kernel
theorem dX12_init_517 : decode cX12_init 517 = .ok (.bipush 20, 2) := by decide +kernel
theorem dX12_init_519 : decode cX12_init 519 = .ok (.newarray .int, 2) := by decide +kernel
theorem dX12_init_521 : decode cX12_init 521 = .ok (.putfield 197, 3) := by decide +kernel
theorem dX12_init_524 : decode cX12_init 524 = .ok (.aload_n 0, 1) := by decide +kernel
theorem dX12_init_525 : decode cX12_init 525 = .ok (.bipush 20, 2) := by decide +kernel
theorem dX12_init_527 : decode cX12_init 527 = .ok (.newarray .int, 2) := by decide +kernel
theorem dX12_init_529 : decode cX12_init 529 = .ok (.putfield 200, 3) := by decide +kernel
theorem dX12_init_532 : decode cX12_init 532 = .ok (.aload_n 0, 1) := by decide +kernel
theorem dX12_init_533 : decode cX12_init 533 = .ok (.bipush 20, 2) := by decide +kernel
theorem dX12_init_535 : decode cX12_init 535 = .ok (.newarray .int, 2) := by decide +kernel
theorem dX12_init_537 : decode cX12_init 537 = .ok (.putfield 203, 3) := by decide +kernel
theorem dX12_init_540 : decode cX12_init 540 = .ok (.aload_n 0, 1) := by decide +kernel
theorem dX12_init_541 : decode cX12_init 541 = .ok (.iconst (-1), 1) := by decide +kernel
theorem dX12_init_542 : decode cX12_init 542 = .ok (.putfield 206, 3) := by decide +kernel
theorem dX12_init_545 : decode cX12_init 545 = .ok (.lconst 1, 1) := by decide +kernel
theorem dX12_init_546 : decode cX12_init 546 = .ok (.lstore_n 1, 1) := by decide +kernel
theorem dX12_init_547 : decode cX12_init 547 = .ok (.bipush 11, 2) := by decide +kernel
theorem dX12_init_549 : decode cX12_init 549 = .ok (.istore_n 3, 1) := by decide +kernel
theorem dX12_init_550 : decode cX12_init 550 = .ok (.iload_n 3, 1) := by decide +kernel
theorem dX12_init_551 : decode cX12_init 551 = .ok (.ifCond .lt 22, 3) := by decide +kernel
theorem dX12_init_554 : decode cX12_init 554 = .ok (.aload_n 0, 1) := by decide +kernel
theorem dX12_init_555 : decode cX12_init 555 = .ok (.getfield 7, 3) := by decide +kernel
theorem dX12_init_558 : decode cX12_init 558 = .ok (.iload_n 3, 1) := by decide +kernel
theorem dX12_init_559 : decode cX12_init 559 = .ok (.lload_n 1, 1) := by decide +kernel
theorem dX12_init_560 : decode cX12_init 560 = .ok (.lastore, 1) := by decide +kernel
theorem dX12_init_561 : decode cX12_init 561 = .ok (.lload_n 1, 1) := by decide +kernel
theorem dX12_init_562 : decode cX12_init 562 = .ok (.ldc2_w 210, 3) := by decide +kernel
theorem dX12_init_565 : decode cX12_init 565 = .ok (.lmul, 1) := by decide +kernel
theorem dX12_init_566 : decode cX12_init 566 = .ok (.lstore_n 1, 1) := by decide +kernel
theorem dX12_init_567 : decode cX12_init 567 = .ok (.iinc 3 (-1), 3) := by decide +kernel
theorem dX12_init_570 : decode cX12_init 570 = .ok (.goto (-20), 3) := by decide +kernel
theorem dX12_init_573 : decode cX12_init 573 = .ok (.iconst 0, 1) := by decide +kernel
theorem dX12_init_574 : decode cX12_init 574 = .ok (.istore_n 3, 1) := by decide +kernel
theorem dX12_init_575 : decode cX12_init 575 = .ok (.iload_n 3, 1) := by decide +kernel
theorem dX12_init_576 : decode cX12_init 576 = .ok (.iconst 5, 1) := by decide +kernel
theorem dX12_init_577 : decode cX12_init 577 = .ok (.if_icmp .ge 16, 3) := by decide +kernel
theorem dX12_init_580 : decode cX12_init 580 = .ok (.aload_n 0, 1) := by decide +kernel
theorem dX12_init_581 : decode cX12_init 581 = .ok (.getfield 97, 3) := by decide +kernel
theorem dX12_init_584 : decode cX12_init 584 = .ok (.iload_n 3, 1) := by decide +kernel
theorem dX12_init_585 : decode cX12_init 585 = .ok (.iconst (-1), 1) := by decide +kernel
theorem dX12_init_586 : decode cX12_init 586 = .ok (.iastore, 1) := by decide +kernel
theorem dX12_init_587 : decode cX12_init 587 = .ok (.iinc 3 1, 3) := by decide +kernel
theorem dX12_init_590 : decode cX12_init 590 = .ok (.goto (-15), 3) := by decide +kernel
theorem dX12_init_593 : decode cX12_init 593 = .ok (.aload_n 0, 1) := by decide +kernel
theorem dX12_init_594 : decode cX12_init 594 = .ok (.getfield 158, 3) := by decide +kernel
theorem dX12_init_597 : decode cX12_init 597 = .ok (.iconst 0, 1) := by decide +kernel
theorem dX12_init_598 : decode cX12_init 598 = .ok (.iconst 3, 1) := by decide +kernel
theorem dX12_init_599 : decode cX12_init 599 = .ok (.iastore, 1) := by decide +kernel
theorem dX12_init_600 : decode cX12_init 600 = .ok (.aload_n 0, 1) := by decide +kernel
theorem dX12_init_601 : decode cX12_init 601 = .ok (.getfield 158, 3) := by decide +kernel
theorem dX12_init_604 : decode cX12_init 604 = .ok (.iconst 1, 1) := by decide +kernel
theorem dX12_init_605 : decode cX12_init 605 = .ok (.iconst 1, 1) := by decide +kernel
theorem dX12_init_606 : decode cX12_init 606 = .ok (.iastore, 1) := by decide +kernel
theorem dX12_init_607 : decode cX12_init 607 = .ok (.return_, 1) := by decide +kernel
theorem dX12_thrown_0 : decode cX12_thrown 0 = .ok (.aload_n 0, 1) := by decide +kernel
theorem dX12_thrown_1 : decode cX12_thrown 1 = .ok (.getfield 212, 3) := by decide +kernel
theorem dX12_thrown_4 : decode cX12_thrown 4 = .ok (.ireturn, 1) := by decide +kernel
theorem dX12_in_0 : decode cX12_in 0 = .ok (.iload_n 0, 1) := by decide +kernel
theorem dX12_in_1 : decode cX12_in 1 = .ok (.iload_n 1, 1) := by decide +kernel
theorem dX12_in_2 : decode cX12_in 2 = .ok (.if_icmp .lt 12, 3) := by decide +kernel
theorem dX12_in_5 : decode cX12_in 5 = .ok (.iload_n 0, 1) := by decide +kernel
theorem dX12_in_6 : decode cX12_in 6 = .ok (.iload_n 2, 1) := by decide +kernel
theorem dX12_in_7 : decode cX12_in 7 = .ok (.if_icmp .gt 7, 3) := by decide +kernel
theorem dX12_in_10 : decode cX12_in 10 = .ok (.iconst 1, 1) := by decide +kernel
theorem dX12_in_11 : decode cX12_in 11 = .ok (.goto 4, 3) := by decide +kernel
theorem dX12_in_14 : decode cX12_in 14 = .ok (.iconst 0, 1) := by decide +kernel
theorem dX12_in_15 : decode cX12_in 15 = .ok (.ireturn, 1) := by decide +kernel
theorem dX12_goes_0 : decode cX12_goes 0 = .ok (.aload_n 0, 1) := by decide +kernel
theorem dX12_goes_1 : decode cX12_goes 1 = .ok (.iload_n 1, 1) := by decide +kernel
theorem dX12_goes_2 : decode cX12_goes 2 = .ok (.ifCond .ne 7, 3) := by decide +kernel
theorem dX12_goes_5 : decode cX12_goes 5 = .ok (.iconst 1, 1) := by decide +kernel
theorem dX12_goes_6 : decode cX12_goes 6 = .ok (.goto 20, 3) := by decide +kernel
theorem dX12_goes_9 : decode cX12_goes 9 = .ok (.iload_n 2, 1) := by decide +kernel
theorem dX12_goes_10 : decode cX12_goes 10 = .ok (.ifCond .ne 7, 3) := by decide +kernel
theorem dX12_goes_13 : decode cX12_goes 13 = .ok (.iconst 2, 1) := by decide +kernel
theorem dX12_goes_14 : decode cX12_goes 14 = .ok (.goto 12, 3) := by decide +kernel
theorem dX12_goes_17 : decode cX12_goes 17 = .ok (.iload_n 3, 1) := by decide +kernel
theorem dX12_goes_18 : decode cX12_goes 18 = .ok (.ifCond .eq 7, 3) := by decide +kernel
theorem dX12_goes_21 : decode cX12_goes 21 = .ok (.iconst 0, 1) := by decide +kernel
theorem dX12_goes_22 : decode cX12_goes 22 = .ok (.goto 4, 3) := by decide +kernel
theorem dX12_goes_25 : decode cX12_goes 25 = .ok (.iconst 3, 1) := by decide +kernel
theorem dX12_goes_26 : decode cX12_goes 26 = .ok (.putfield 212, 3) := by decide +kernel
theorem dX12_goes_29 : decode cX12_goes 29 = .ok (.aload_n 0, 1) := by decide +kernel
theorem dX12_goes_30 : decode cX12_goes 30 = .ok (.getfield 212, 3) := by decide +kernel
theorem dX12_goes_33 : decode cX12_goes 33 = .ok (.ifCond .ne 7, 3) := by decide +kernel
theorem dX12_goes_36 : decode cX12_goes 36 = .ok (.iconst 1, 1) := by decide +kernel
theorem dX12_goes_37 : decode cX12_goes 37 = .ok (.goto 4, 3) := by decide +kernel
theorem dX12_goes_40 : decode cX12_goes 40 = .ok (.iconst 0, 1) := by decide +kernel
theorem dX12_goes_41 : decode cX12_goes 41 = .ok (.ireturn, 1) := by decide +kernel
theorem dX12_figure_0 : decode cX12_figure 0 = .ok (.iload_n 0, 1) := by decide +kernel
theorem dX12_figure_1 : decode cX12_figure 1 = .ok (.bipush 48, 2) := by decide +kernel
theorem dX12_figure_3 : decode cX12_figure 3 = .ok (.bipush 57, 2) := by decide +kernel
theorem dX12_figure_5 : decode cX12_figure 5 = .ok (.invokestatic 215, 3) := by decide +kernel
theorem dX12_figure_8 : decode cX12_figure 8 = .ok (.ifCond .eq 12, 3) := by decide +kernel
theorem dX12_figure_11 : decode cX12_figure 11 = .ok (.iload_n 0, 1) := by decide +kernel
theorem dX12_figure_12 : decode cX12_figure 12 = .ok (.bipush 48, 2) := by decide +kernel
theorem dX12_figure_14 : decode cX12_figure 14 = .ok (.isub, 1) := by decide +kernel
theorem dX12_figure_15 : decode cX12_figure 15 = .ok (.iconst 1, 1) := by decide +kernel
theorem dX12_figure_16 : decode cX12_figure 16 = .ok (.iadd, 1) := by decide +kernel
theorem dX12_figure_17 : decode cX12_figure 17 = .ok (.goto 46, 3) := by decide +kernel
theorem dX12_figure_20 : decode cX12_figure 20 = .ok (.iload_n 0, 1) := by decide +kernel
theorem dX12_figure_21 : decode cX12_figure 21 = .ok (.bipush 97, 2) := by decide +kernel
theorem dX12_figure_23 : decode cX12_figure 23 = .ok (.bipush 122, 2) := by decide +kernel
theorem dX12_figure_25 : decode cX12_figure 25 = .ok (.invokestatic 215, 3) := by decide +kernel
theorem dX12_figure_28 : decode cX12_figure 28 = .ok (.ifCond .eq 13, 3) := by decide +kernel
theorem dX12_figure_31 : decode cX12_figure 31 = .ok (.iload_n 0, 1) := by decide +kernel
theorem dX12_figure_32 : decode cX12_figure 32 = .ok (.bipush 97, 2) := by decide +kernel
theorem dX12_figure_34 : decode cX12_figure 34 = .ok (.isub, 1) := by decide +kernel
theorem dX12_figure_35 : decode cX12_figure 35 = .ok (.bipush 11, 2) := by decide +kernel
theorem dX12_figure_37 : decode cX12_figure 37 = .ok (.iadd, 1) := by decide +kernel
theorem dX12_figure_38 : decode cX12_figure 38 = .ok (.goto 25, 3) := by decide +kernel
theorem dX12_figure_41 : decode cX12_figure 41 = .ok (.iload_n 0, 1) := by decide +kernel
theorem dX12_figure_42 : decode cX12_figure 42 = .ok (.bipush 65, 2) := by decide +kernel
theorem dX12_figure_44 : decode cX12_figure 44 = .ok (.bipush 90, 2) := by decide +kernel
theorem dX12_figure_46 : decode cX12_figure 46 = .ok (.invokestatic 215, 3) := by decide +kernel
theorem dX12_figure_49 : decode cX12_figure 49 = .ok (.ifCond .eq 13, 3) := by decide +kernel
theorem dX12_figure_52 : decode cX12_figure 52 = .ok (.iload_n 0, 1) := by decide +kernel
theorem dX12_figure_53 : decode cX12_figure 53 = .ok (.bipush 65, 2) := by decide +kernel
theorem dX12_figure_55 : decode cX12_figure 55 = .ok (.isub, 1) := by decide +kernel
theorem dX12_figure_56 : decode cX12_figure 56 = .ok (.bipush 11, 2) := by decide +kernel
theorem dX12_figure_58 : decode cX12_figure 58 = .ok (.iadd, 1) := by decide +kernel
theorem dX12_figure_59 : decode cX12_figure 59 = .ok (.goto 4, 3) := by decide +kernel
theorem dX12_figure_62 : decode cX12_figure 62 = .ok (.iconst 0, 1) := by decide +kernel
theorem dX12_figure_63 : decode cX12_figure 63 = .ok (.ireturn, 1) := by decide +kernel
theorem dX12_at_0 : decode cX12_at 0 = .ok (.lload_n 1, 1) := by decide +kernel
theorem dX12_at_1 : decode cX12_at 1 = .ok (.aload_n 0, 1) := by decide +kernel
theorem dX12_at_2 : decode cX12_at 2 = .ok (.getfield 7, 3) := by decide +kernel
theorem dX12_at_5 : decode cX12_at 5 = .ok (.iload_n 3, 1) := by decide +kernel
theorem dX12_at_6 : decode cX12_at 6 = .ok (.laload, 1) := by decide +kernel
theorem dX12_at_7 : decode cX12_at 7 = .ok (.ldiv, 1) := by decide +kernel
theorem dX12_at_8 : decode cX12_at 8 = .ok (.ldc2_w 210, 3) := by decide +kernel
theorem dX12_at_11 : decode cX12_at 11 = .ok (.lrem, 1) := by decide +kernel
theorem dX12_at_12 : decode cX12_at 12 = .ok (.l2i, 1) := by decide +kernel
theorem dX12_at_13 : decode cX12_at 13 = .ok (.ireturn, 1) := by decide +kernel
theorem dX12_length_0 : decode cX12_length 0 = .ok (.iconst 0, 1) := by decide +kernel
theorem dX12_length_1 : decode cX12_length 1 = .ok (.istore_n 3, 1) := by decide +kernel
theorem dX12_length_2 : decode cX12_length 2 = .ok (.iload_n 3, 1) := by decide +kernel
theorem dX12_length_3 : decode cX12_length 3 = .ok (.bipush 12, 2) := by decide +kernel
theorem dX12_length_5 : decode cX12_length 5 = .ok (.if_icmp .ge 18, 3) := by decide +kernel
theorem dX12_length_8 : decode cX12_length 8 = .ok (.aload_n 0, 1) := by decide +kernel
theorem dX12_length_9 : decode cX12_length 9 = .ok (.lload_n 1, 1) := by decide +kernel
theorem dX12_length_10 : decode cX12_length 10 = .ok (.iload_n 3, 1) := by decide +kernel
theorem dX12_length_11 : decode cX12_length 11 = .ok (.invokevirtual 219, 3) := by decide +kernel
theorem dX12_length_14 : decode cX12_length 14 = .ok (.ifCond .le 9, 3) := by decide +kernel
theorem dX12_length_17 : decode cX12_length 17 = .ok (.iinc 3 1, 3) := by decide +kernel
theorem dX12_length_20 : decode cX12_length 20 = .ok (.goto (-18), 3) := by decide +kernel
theorem dX12_length_23 : decode cX12_length 23 = .ok (.iload_n 3, 1) := by decide +kernel
theorem dX12_length_24 : decode cX12_length 24 = .ok (.ireturn, 1) := by decide +kernel
theorem dX12_without_0 : decode cX12_without 0 = .ok (.aload_n 0, 1) := by decide +kernel
theorem dX12_without_1 : decode cX12_without 1 = .ok (.getfield 7, 3) := by decide +kernel
theorem dX12_without_4 : decode cX12_without 4 = .ok (.iload_n 3, 1) := by decide +kernel
theorem dX12_without_5 : decode cX12_without 5 = .ok (.iload 4, 2) := by decide +kernel
theorem dX12_without_7 : decode cX12_without 7 = .ok (.isub, 1) := by decide +kernel
theorem dX12_without_8 : decode cX12_without 8 = .ok (.iconst 1, 1) := by decide +kernel
theorem dX12_without_9 : decode cX12_without 9 = .ok (.isub, 1) := by decide +kernel
theorem dX12_without_10 : decode cX12_without 10 = .ok (.laload, 1) := by decide +kernel
theorem dX12_without_11 : decode cX12_without 11 = .ok (.lstore 5, 2) := by decide +kernel
theorem dX12_without_13 : decode cX12_without 13 = .ok (.lload_n 1, 1) := by decide +kernel
theorem dX12_without_14 : decode cX12_without 14 = .ok (.lload 5, 2) := by decide +kernel
theorem dX12_without_16 : decode cX12_without 16 = .ok (.ldiv, 1) := by decide +kernel
theorem dX12_without_17 : decode cX12_without 17 = .ok (.lload 5, 2) := by decide +kernel
theorem dX12_without_19 : decode cX12_without 19 = .ok (.lmul, 1) := by decide +kernel
theorem dX12_without_20 : decode cX12_without 20 = .ok (.lreturn, 1) := by decide +kernel
theorem dX12_ends_0 : decode cX12_ends 0 = .ok (.iload_n 3, 1) := by decide +kernel
theorem dX12_ends_1 : decode cX12_ends 1 = .ok (.iload 5, 2) := by decide +kernel
theorem dX12_ends_3 : decode cX12_ends 3 = .ok (.if_icmp .le 26, 3) := by decide +kernel
theorem dX12_ends_6 : decode cX12_ends 6 = .ok (.aload_n 0, 1) := by decide +kernel
theorem dX12_ends_7 : decode cX12_ends 7 = .ok (.lload_n 1, 1) := by decide +kernel
theorem dX12_ends_8 : decode cX12_ends 8 = .ok (.iload_n 3, 1) := by decide +kernel
theorem dX12_ends_9 : decode cX12_ends 9 = .ok (.iconst 1, 1) := by decide +kernel
theorem dX12_ends_10 : decode cX12_ends 10 = .ok (.isub, 1) := by decide +kernel
theorem dX12_ends_11 : decode cX12_ends 11 = .ok (.iload 5, 2) := by decide +kernel
theorem dX12_ends_13 : decode cX12_ends 13 = .ok (.isub, 1) := by decide +kernel
theorem dX12_ends_14 : decode cX12_ends 14 = .ok (.invokevirtual 219, 3) := by decide +kernel
theorem dX12_ends_17 : decode cX12_ends 17 = .ok (.iload 4, 2) := by decide +kernel
theorem dX12_ends_19 : decode cX12_ends 19 = .ok (.invokestatic 223, 3) := by decide +kernel
theorem dX12_ends_22 : decode cX12_ends 22 = .ok (.if_icmp .ne 7, 3) := by decide +kernel
theorem dX12_ends_25 : decode cX12_ends 25 = .ok (.iconst 1, 1) := by decide +kernel
theorem dX12_ends_26 : decode cX12_ends 26 = .ok (.goto 4, 3) := by decide +kernel
theorem dX12_ends_29 : decode cX12_ends 29 = .ok (.iconst 0, 1) := by decide +kernel
theorem dX12_ends_30 : decode cX12_ends 30 = .ok (.ireturn, 1) := by decide +kernel
theorem dX12_stem_0 : decode cX12_stem 0 = .ok (.aload_n 0, 1) := by decide +kernel
theorem dX12_stem_1 : decode cX12_stem 1 = .ok (.lload_n 1, 1) := by decide +kernel
theorem dX12_stem_2 : decode cX12_stem 2 = .ok (.invokevirtual 227, 3) := by decide +kernel
theorem dX12_stem_5 : decode cX12_stem 5 = .ok (.istore_n 3, 1) := by decide +kernel
theorem dX12_stem_6 : decode cX12_stem 6 = .ok (.iload_n 3, 1) := by decide +kernel
theorem dX12_stem_7 : decode cX12_stem 7 = .ok (.bipush 6, 2) := by decide +kernel
theorem dX12_stem_9 : decode cX12_stem 9 = .ok (.if_icmp .lt 47, 3) := by decide +kernel
theorem dX12_stem_12 : decode cX12_stem 12 = .ok (.aload_n 0, 1) := by decide +kernel
theorem dX12_stem_13 : decode cX12_stem 13 = .ok (.lload_n 1, 1) := by decide +kernel
theorem dX12_stem_14 : decode cX12_stem 14 = .ok (.iload_n 3, 1) := by decide +kernel
theorem dX12_stem_15 : decode cX12_stem 15 = .ok (.bipush 103, 2) := by decide +kernel
theorem dX12_stem_17 : decode cX12_stem 17 = .ok (.iconst 0, 1) := by decide +kernel
theorem dX12_stem_18 : decode cX12_stem 18 = .ok (.invokevirtual 231, 3) := by decide +kernel
theorem dX12_stem_21 : decode cX12_stem 21 = .ok (.ifCond .eq 35, 3) := by decide +kernel
theorem dX12_stem_24 : decode cX12_stem 24 = .ok (.aload_n 0, 1) := by decide +kernel
theorem dX12_stem_25 : decode cX12_stem 25 = .ok (.lload_n 1, 1) := by decide +kernel
theorem dX12_stem_26 : decode cX12_stem 26 = .ok (.iload_n 3, 1) := by decide +kernel
theorem dX12_stem_27 : decode cX12_stem 27 = .ok (.bipush 110, 2) := by decide +kernel
theorem dX12_stem_29 : decode cX12_stem 29 = .ok (.iconst 1, 1) := by decide +kernel
theorem dX12_stem_30 : decode cX12_stem 30 = .ok (.invokevirtual 231, 3) := by decide +kernel
theorem dX12_stem_33 : decode cX12_stem 33 = .ok (.ifCond .eq 23, 3) := by decide +kernel
theorem dX12_stem_36 : decode cX12_stem 36 = .ok (.aload_n 0, 1) := by decide +kernel
theorem dX12_stem_37 : decode cX12_stem 37 = .ok (.lload_n 1, 1) := by decide +kernel
theorem dX12_stem_38 : decode cX12_stem 38 = .ok (.iload_n 3, 1) := by decide +kernel
theorem dX12_stem_39 : decode cX12_stem 39 = .ok (.bipush 105, 2) := by decide +kernel
theorem dX12_stem_41 : decode cX12_stem 41 = .ok (.iconst 2, 1) := by decide +kernel
theorem dX12_stem_42 : decode cX12_stem 42 = .ok (.invokevirtual 231, 3) := by decide +kernel
theorem dX12_stem_45 : decode cX12_stem 45 = .ok (.ifCond .eq 11, 3) := by decide +kernel
theorem dX12_stem_48 : decode cX12_stem 48 = .ok (.aload_n 0, 1) := by decide +kernel
theorem dX12_stem_49 : decode cX12_stem 49 = .ok (.lload_n 1, 1) := by decide +kernel
theorem dX12_stem_50 : decode cX12_stem 50 = .ok (.iload_n 3, 1) := by decide +kernel
theorem dX12_stem_51 : decode cX12_stem 51 = .ok (.iconst 3, 1) := by decide +kernel
theorem dX12_stem_52 : decode cX12_stem 52 = .ok (.invokevirtual 235, 3) := by decide +kernel
theorem dX12_stem_55 : decode cX12_stem 55 = .ok (.lreturn, 1) := by decide +kernel
theorem dX12_stem_56 : decode cX12_stem 56 = .ok (.iload_n 3, 1) := by decide +kernel
theorem dX12_stem_57 : decode cX12_stem 57 = .ok (.iconst 5, 1) := by decide +kernel
theorem dX12_stem_58 : decode cX12_stem 58 = .ok (.if_icmp .lt 35, 3) := by decide +kernel
theorem dX12_stem_61 : decode cX12_stem 61 = .ok (.aload_n 0, 1) := by decide +kernel
theorem dX12_stem_62 : decode cX12_stem 62 = .ok (.lload_n 1, 1) := by decide +kernel
theorem dX12_stem_63 : decode cX12_stem 63 = .ok (.iload_n 3, 1) := by decide +kernel
theorem dX12_stem_64 : decode cX12_stem 64 = .ok (.bipush 100, 2) := by decide +kernel
theorem dX12_stem_66 : decode cX12_stem 66 = .ok (.iconst 0, 1) := by decide +kernel
theorem dX12_stem_67 : decode cX12_stem 67 = .ok (.invokevirtual 231, 3) := by decide +kernel
theorem dX12_stem_70 : decode cX12_stem 70 = .ok (.ifCond .eq 23, 3) := by decide +kernel
theorem dX12_stem_73 : decode cX12_stem 73 = .ok (.aload_n 0, 1) := by decide +kernel
theorem dX12_stem_74 : decode cX12_stem 74 = .ok (.lload_n 1, 1) := by decide +kernel
theorem dX12_stem_75 : decode cX12_stem 75 = .ok (.iload_n 3, 1) := by decide +kernel
theorem dX12_stem_76 : decode cX12_stem 76 = .ok (.bipush 101, 2) := by decide +kernel
theorem dX12_stem_78 : decode cX12_stem 78 = .ok (.iconst 1, 1) := by decide +kernel
theorem dX12_stem_79 : decode cX12_stem 79 = .ok (.invokevirtual 231, 3) := by decide +kernel
theorem dX12_stem_82 : decode cX12_stem 82 = .ok (.ifCond .eq 11, 3) := by decide +kernel
theorem dX12_stem_85 : decode cX12_stem 85 = .ok (.aload_n 0, 1) := by decide +kernel
theorem dX12_stem_86 : decode cX12_stem 86 = .ok (.lload_n 1, 1) := by decide +kernel
theorem dX12_stem_87 : decode cX12_stem 87 = .ok (.iload_n 3, 1) := by decide +kernel
theorem dX12_stem_88 : decode cX12_stem 88 = .ok (.iconst 2, 1) := by decide +kernel
theorem dX12_stem_89 : decode cX12_stem 89 = .ok (.invokevirtual 235, 3) := by decide +kernel
theorem dX12_stem_92 : decode cX12_stem 92 = .ok (.lreturn, 1) := by decide +kernel
theorem dX12_stem_93 : decode cX12_stem 93 = .ok (.iload_n 3, 1) := by decide +kernel
theorem dX12_stem_94 : decode cX12_stem 94 = .ok (.iconst 4, 1) := by decide +kernel
theorem dX12_stem_95 : decode cX12_stem 95 = .ok (.if_icmp .lt 37, 3) := by decide +kernel
theorem dX12_stem_98 : decode cX12_stem 98 = .ok (.aload_n 0, 1) := by decide +kernel
theorem dX12_stem_99 : decode cX12_stem 99 = .ok (.lload_n 1, 1) := by decide +kernel
theorem dX12_stem_100 : decode cX12_stem 100 = .ok (.iload_n 3, 1) := by decide +kernel
theorem dX12_stem_101 : decode cX12_stem 101 = .ok (.bipush 115, 2) := by decide +kernel
theorem dX12_stem_103 : decode cX12_stem 103 = .ok (.iconst 0, 1) := by decide +kernel
theorem dX12_stem_104 : decode cX12_stem 104 = .ok (.invokevirtual 231, 3) := by decide +kernel
theorem dX12_stem_107 : decode cX12_stem 107 = .ok (.ifCond .eq 25, 3) := by decide +kernel
theorem dX12_stem_110 : decode cX12_stem 110 = .ok (.aload_n 0, 1) := by decide +kernel
theorem dX12_stem_111 : decode cX12_stem 111 = .ok (.lload_n 1, 1) := by decide +kernel
theorem dX12_stem_112 : decode cX12_stem 112 = .ok (.iload_n 3, 1) := by decide +kernel
theorem dX12_stem_113 : decode cX12_stem 113 = .ok (.bipush 115, 2) := by decide +kernel
theorem dX12_stem_115 : decode cX12_stem 115 = .ok (.iconst 1, 1) := by decide +kernel
theorem dX12_stem_116 : decode cX12_stem 116 = .ok (.invokevirtual 231, 3) := by decide +kernel
theorem dX12_stem_119 : decode cX12_stem 119 = .ok (.ifCond .ne 13, 3) := by decide +kernel
theorem dX12_stem_122 : decode cX12_stem 122 = .ok (.aload_n 0, 1) := by decide +kernel
theorem dX12_stem_123 : decode cX12_stem 123 = .ok (.lload_n 1, 1) := by decide +kernel
theorem dX12_stem_124 : decode cX12_stem 124 = .ok (.iload_n 3, 1) := by decide +kernel
theorem dX12_stem_125 : decode cX12_stem 125 = .ok (.iconst 1, 1) := by decide +kernel
theorem dX12_stem_126 : decode cX12_stem 126 = .ok (.invokevirtual 235, 3) := by decide +kernel
theorem dX12_stem_129 : decode cX12_stem 129 = .ok (.goto 4, 3) := by decide +kernel
theorem dX12_stem_132 : decode cX12_stem 132 = .ok (.lload_n 1, 1) := by decide +kernel
theorem dX12_stem_133 : decode cX12_stem 133 = .ok (.lreturn, 1) := by decide +kernel
theorem dX12_reads_0 : decode cX12_reads 0 = .ok (.aload_n 0, 1) := by decide +kernel
theorem dX12_reads_1 : decode cX12_reads 1 = .ok (.iconst 0, 1) := by decide +kernel
theorem dX12_reads_2 : decode cX12_reads 2 = .ok (.putfield 239, 3) := by decide +kernel
theorem dX12_reads_5 : decode cX12_reads 5 = .ok (.iconst 0, 1) := by decide +kernel
theorem dX12_reads_6 : decode cX12_reads 6 = .ok (.istore_n 1, 1) := by decide +kernel
theorem dX12_reads_7 : decode cX12_reads 7 = .ok (.iconst 0, 1) := by decide +kernel
theorem dX12_reads_8 : decode cX12_reads 8 = .ok (.istore_n 2, 1) := by decide +kernel
theorem dX12_reads_9 : decode cX12_reads 9 = .ok (.iload_n 2, 1) := by decide +kernel
theorem dX12_reads_10 : decode cX12_reads 10 = .ok (.aload_n 0, 1) := by decide +kernel
theorem dX12_reads_11 : decode cX12_reads 11 = .ok (.getfield 242, 3) := by decide +kernel
theorem dX12_reads_14 : decode cX12_reads 14 = .ok (.if_icmp .ge 92, 3) := by decide +kernel
theorem dX12_reads_17 : decode cX12_reads 17 = .ok (.aload_n 0, 1) := by decide +kernel
theorem dX12_reads_18 : decode cX12_reads 18 = .ok (.getfield 13, 3) := by decide +kernel
theorem dX12_reads_21 : decode cX12_reads 21 = .ok (.iload_n 2, 1) := by decide +kernel
theorem dX12_reads_22 : decode cX12_reads 22 = .ok (.iaload, 1) := by decide +kernel
theorem dX12_reads_23 : decode cX12_reads 23 = .ok (.invokestatic 223, 3) := by decide +kernel
theorem dX12_reads_26 : decode cX12_reads 26 = .ok (.istore_n 3, 1) := by decide +kernel
theorem dX12_reads_27 : decode cX12_reads 27 = .ok (.iload_n 3, 1) := by decide +kernel
theorem dX12_reads_28 : decode cX12_reads 28 = .ok (.ifCond .le 60, 3) := by decide +kernel
theorem dX12_reads_31 : decode cX12_reads 31 = .ok (.iload_n 1, 1) := by decide +kernel
theorem dX12_reads_32 : decode cX12_reads 32 = .ok (.ifCond .ne 23, 3) := by decide +kernel
theorem dX12_reads_35 : decode cX12_reads 35 = .ok (.aload_n 0, 1) := by decide +kernel
theorem dX12_reads_36 : decode cX12_reads 36 = .ok (.getfield 17, 3) := by decide +kernel
theorem dX12_reads_39 : decode cX12_reads 39 = .ok (.aload_n 0, 1) := by decide +kernel
theorem dX12_reads_40 : decode cX12_reads 40 = .ok (.getfield 239, 3) := by decide +kernel
theorem dX12_reads_43 : decode cX12_reads 43 = .ok (.lconst 0, 1) := by decide +kernel
theorem dX12_reads_44 : decode cX12_reads 44 = .ok (.lastore, 1) := by decide +kernel
theorem dX12_reads_45 : decode cX12_reads 45 = .ok (.aload_n 0, 1) := by decide +kernel
theorem dX12_reads_46 : decode cX12_reads 46 = .ok (.dup, 1) := by decide +kernel
theorem dX12_reads_47 : decode cX12_reads 47 = .ok (.getfield 239, 3) := by decide +kernel
theorem dX12_reads_50 : decode cX12_reads 50 = .ok (.iconst 1, 1) := by decide +kernel
theorem dX12_reads_51 : decode cX12_reads 51 = .ok (.iadd, 1) := by decide +kernel
theorem dX12_reads_52 : decode cX12_reads 52 = .ok (.putfield 239, 3) := by decide +kernel
theorem dX12_reads_55 : decode cX12_reads 55 = .ok (.aload_n 0, 1) := by decide +kernel
theorem dX12_reads_56 : decode cX12_reads 56 = .ok (.getfield 17, 3) := by decide +kernel
theorem dX12_reads_59 : decode cX12_reads 59 = .ok (.aload_n 0, 1) := by decide +kernel
theorem dX12_reads_60 : decode cX12_reads 60 = .ok (.getfield 239, 3) := by decide +kernel
theorem dX12_reads_63 : decode cX12_reads 63 = .ok (.iconst 1, 1) := by decide +kernel
theorem dX12_reads_64 : decode cX12_reads 64 = .ok (.isub, 1) := by decide +kernel
theorem dX12_reads_65 : decode cX12_reads 65 = .ok (.dup2, 1) := by decide +kernel
theorem dX12_reads_66 : decode cX12_reads 66 = .ok (.laload, 1) := by decide +kernel
theorem dX12_reads_67 : decode cX12_reads 67 = .ok (.iload_n 1, 1) := by decide +kernel
theorem dX12_reads_68 : decode cX12_reads 68 = .ok (.bipush 12, 2) := by decide +kernel
theorem dX12_reads_70 : decode cX12_reads 70 = .ok (.if_icmp .ge 15, 3) := by decide +kernel
theorem dX12_reads_73 : decode cX12_reads 73 = .ok (.iload_n 3, 1) := by decide +kernel
theorem dX12_reads_74 : decode cX12_reads 74 = .ok (.i2l, 1) := by decide +kernel
theorem dX12_reads_75 : decode cX12_reads 75 = .ok (.aload_n 0, 1) := by decide +kernel
theorem dX12_reads_76 : decode cX12_reads 76 = .ok (.getfield 7, 3) := by decide +kernel
theorem dX12_reads_79 : decode cX12_reads 79 = .ok (.iload_n 1, 1) := by decide +kernel
theorem dX12_reads_80 : decode cX12_reads 80 = .ok (.laload, 1) := by decide +kernel
theorem dX12_reads_81 : decode cX12_reads 81 = .ok (.lmul, 1) := by decide +kernel
theorem dX12_reads_82 : decode cX12_reads 82 = .ok (.goto 4, 3) := by decide +kernel
theorem dX12_reads_85 : decode cX12_reads 85 = .ok (.lconst 0, 1) := by decide +kernel
theorem dX12_reads_86 : decode cX12_reads 86 = .ok (.ladd, 1) := by decide +kernel
theorem dX12_reads_87 : decode cX12_reads 87 = .ok (.lastore, 1) := by decide +kernel
theorem dX12_reads_88 : decode cX12_reads 88 = .ok (.iload_n 3, 1) := by decide +kernel
theorem dX12_reads_89 : decode cX12_reads 89 = .ok (.ifCond .le 9, 3) := by decide +kernel
theorem dX12_reads_92 : decode cX12_reads 92 = .ok (.iload_n 1, 1) := by decide +kernel
theorem dX12_reads_93 : decode cX12_reads 93 = .ok (.iconst 1, 1) := by decide +kernel
theorem dX12_reads_94 : decode cX12_reads 94 = .ok (.iadd, 1) := by decide +kernel
theorem dX12_reads_95 : decode cX12_reads 95 = .ok (.goto 4, 3) := by decide +kernel
theorem dX12_reads_98 : decode cX12_reads 98 = .ok (.iconst 0, 1) := by decide +kernel
theorem dX12_reads_99 : decode cX12_reads 99 = .ok (.istore_n 1, 1) := by decide +kernel
theorem dX12_reads_100 : decode cX12_reads 100 = .ok (.iinc 2 1, 3) := by decide +kernel
theorem dX12_reads_103 : decode cX12_reads 103 = .ok (.goto (-94), 3) := by decide +kernel
theorem dX12_reads_106 : decode cX12_reads 106 = .ok (.return_, 1) := by decide +kernel
theorem dX12_isStop_0 : decode cX12_isStop 0 = .ok (.iconst 0, 1) := by decide +kernel
theorem dX12_isStop_1 : decode cX12_isStop 1 = .ok (.istore_n 3, 1) := by decide +kernel
theorem dX12_isStop_2 : decode cX12_isStop 2 = .ok (.iconst 0, 1) := by decide +kernel
theorem dX12_isStop_3 : decode cX12_isStop 3 = .ok (.istore 4, 2) := by decide +kernel
theorem dX12_isStop_5 : decode cX12_isStop 5 = .ok (.iload 4, 2) := by decide +kernel
theorem dX12_isStop_7 : decode cX12_isStop 7 = .ok (.aload_n 0, 1) := by decide +kernel
theorem dX12_isStop_8 : decode cX12_isStop 8 = .ok (.getfield 245, 3) := by decide +kernel
theorem dX12_isStop_11 : decode cX12_isStop 11 = .ok (.if_icmp .ge 31, 3) := by decide +kernel
theorem dX12_isStop_14 : decode cX12_isStop 14 = .ok (.iload_n 3, 1) := by decide +kernel
theorem dX12_isStop_15 : decode cX12_isStop 15 = .ok (.ifCond .ne 15, 3) := by decide +kernel
theorem dX12_isStop_18 : decode cX12_isStop 18 = .ok (.aload_n 0, 1) := by decide +kernel
theorem dX12_isStop_19 : decode cX12_isStop 19 = .ok (.getfield 20, 3) := by decide +kernel
theorem dX12_isStop_22 : decode cX12_isStop 22 = .ok (.iload 4, 2) := by decide +kernel
theorem dX12_isStop_24 : decode cX12_isStop 24 = .ok (.laload, 1) := by decide +kernel
theorem dX12_isStop_25 : decode cX12_isStop 25 = .ok (.lload_n 1, 1) := by decide +kernel
theorem dX12_isStop_26 : decode cX12_isStop 26 = .ok (.lcmp, 1) := by decide +kernel
theorem dX12_isStop_27 : decode cX12_isStop 27 = .ok (.ifCond .ne 7, 3) := by decide +kernel
theorem dX12_isStop_30 : decode cX12_isStop 30 = .ok (.iconst 1, 1) := by decide +kernel
theorem dX12_isStop_31 : decode cX12_isStop 31 = .ok (.goto 4, 3) := by decide +kernel
theorem dX12_isStop_34 : decode cX12_isStop 34 = .ok (.iconst 0, 1) := by decide +kernel
theorem dX12_isStop_35 : decode cX12_isStop 35 = .ok (.istore_n 3, 1) := by decide +kernel
theorem dX12_isStop_36 : decode cX12_isStop 36 = .ok (.iinc 4 1, 3) := by decide +kernel
theorem dX12_isStop_39 : decode cX12_isStop 39 = .ok (.goto (-34), 3) := by decide +kernel
theorem dX12_isStop_42 : decode cX12_isStop 42 = .ok (.iload_n 3, 1) := by decide +kernel
theorem dX12_isStop_43 : decode cX12_isStop 43 = .ok (.ireturn, 1) := by decide +kernel
theorem dX12_gives_0 : decode cX12_gives 0 = .ok (.aload_n 0, 1) := by decide +kernel
theorem dX12_gives_1 : decode cX12_gives 1 = .ok (.getfield 23, 3) := by decide +kernel
theorem dX12_gives_4 : decode cX12_gives 4 = .ok (.iload_n 1, 1) := by decide +kernel
theorem dX12_gives_5 : decode cX12_gives 5 = .ok (.laload, 1) := by decide +kernel
theorem dX12_gives_6 : decode cX12_gives 6 = .ok (.lload_n 2, 1) := by decide +kernel
theorem dX12_gives_7 : decode cX12_gives 7 = .ok (.lcmp, 1) := by decide +kernel
theorem dX12_gives_8 : decode cX12_gives 8 = .ok (.ifCond .ne 18, 3) := by decide +kernel
theorem dX12_gives_11 : decode cX12_gives 11 = .ok (.aload_n 0, 1) := by decide +kernel
theorem dX12_gives_12 : decode cX12_gives 12 = .ok (.getfield 26, 3) := by decide +kernel
theorem dX12_gives_15 : decode cX12_gives 15 = .ok (.iload_n 1, 1) := by decide +kernel
theorem dX12_gives_16 : decode cX12_gives 16 = .ok (.laload, 1) := by decide +kernel
theorem dX12_gives_17 : decode cX12_gives 17 = .ok (.lload_n 2, 1) := by decide +kernel
theorem dX12_gives_18 : decode cX12_gives 18 = .ok (.lcmp, 1) := by decide +kernel
theorem dX12_gives_19 : decode cX12_gives 19 = .ok (.ifCond .eq 7, 3) := by decide +kernel
theorem dX12_gives_22 : decode cX12_gives 22 = .ok (.iconst 1, 1) := by decide +kernel
theorem dX12_gives_23 : decode cX12_gives 23 = .ok (.goto 4, 3) := by decide +kernel
theorem dX12_gives_26 : decode cX12_gives 26 = .ok (.iconst 0, 1) := by decide +kernel
theorem dX12_gives_27 : decode cX12_gives 27 = .ok (.istore 4, 2) := by decide +kernel
theorem dX12_gives_29 : decode cX12_gives 29 = .ok (.iconst 0, 1) := by decide +kernel
theorem dX12_gives_30 : decode cX12_gives 30 = .ok (.istore 5, 2) := by decide +kernel
theorem dX12_gives_32 : decode cX12_gives 32 = .ok (.iload 5, 2) := by decide +kernel
theorem dX12_gives_34 : decode cX12_gives 34 = .ok (.iload_n 1, 1) := by decide +kernel
theorem dX12_gives_35 : decode cX12_gives 35 = .ok (.if_icmp .ge 50, 3) := by decide +kernel
theorem dX12_gives_38 : decode cX12_gives 38 = .ok (.iload 4, 2) := by decide +kernel
theorem dX12_gives_40 : decode cX12_gives 40 = .ok (.ifCond .eq 36, 3) := by decide +kernel
theorem dX12_gives_43 : decode cX12_gives 43 = .ok (.aload_n 0, 1) := by decide +kernel
theorem dX12_gives_44 : decode cX12_gives 44 = .ok (.getfield 23, 3) := by decide +kernel
theorem dX12_gives_47 : decode cX12_gives 47 = .ok (.iload 5, 2) := by decide +kernel
theorem dX12_gives_49 : decode cX12_gives 49 = .ok (.laload, 1) := by decide +kernel
theorem dX12_gives_50 : decode cX12_gives 50 = .ok (.lload_n 2, 1) := by decide +kernel
theorem dX12_gives_51 : decode cX12_gives 51 = .ok (.lcmp, 1) := by decide +kernel
theorem dX12_gives_52 : decode cX12_gives 52 = .ok (.ifCond .ne 20, 3) := by decide +kernel
theorem dX12_gives_55 : decode cX12_gives 55 = .ok (.aload_n 0, 1) := by decide +kernel
theorem dX12_gives_56 : decode cX12_gives 56 = .ok (.getfield 26, 3) := by decide +kernel
theorem dX12_gives_59 : decode cX12_gives 59 = .ok (.iload 5, 2) := by decide +kernel
theorem dX12_gives_61 : decode cX12_gives 61 = .ok (.laload, 1) := by decide +kernel
theorem dX12_gives_62 : decode cX12_gives 62 = .ok (.aload_n 0, 1) := by decide +kernel
theorem dX12_gives_63 : decode cX12_gives 63 = .ok (.getfield 26, 3) := by decide +kernel
theorem dX12_gives_66 : decode cX12_gives 66 = .ok (.iload_n 1, 1) := by decide +kernel
theorem dX12_gives_67 : decode cX12_gives 67 = .ok (.laload, 1) := by decide +kernel
theorem dX12_gives_68 : decode cX12_gives 68 = .ok (.lcmp, 1) := by decide +kernel
theorem dX12_gives_69 : decode cX12_gives 69 = .ok (.ifCond .eq 7, 3) := by decide +kernel
theorem dX12_gives_72 : decode cX12_gives 72 = .ok (.iconst 1, 1) := by decide +kernel
theorem dX12_gives_73 : decode cX12_gives 73 = .ok (.goto 4, 3) := by decide +kernel
theorem dX12_gives_76 : decode cX12_gives 76 = .ok (.iconst 0, 1) := by decide +kernel
theorem dX12_gives_77 : decode cX12_gives 77 = .ok (.istore 4, 2) := by decide +kernel
theorem dX12_gives_79 : decode cX12_gives 79 = .ok (.iinc 5 1, 3) := by decide +kernel
theorem dX12_gives_82 : decode cX12_gives 82 = .ok (.goto (-50), 3) := by decide +kernel
theorem dX12_gives_85 : decode cX12_gives 85 = .ok (.iload 4, 2) := by decide +kernel
theorem dX12_gives_87 : decode cX12_gives 87 = .ok (.ireturn, 1) := by decide +kernel
theorem dX12_type_0 : decode cX12_type 0 = .ok (.aload_n 0, 1) := by decide +kernel
theorem dX12_type_1 : decode cX12_type 1 = .ok (.iload_n 1, 1) := by decide +kernel
theorem dX12_type_2 : decode cX12_type 2 = .ok (.bipush 32, 2) := by decide +kernel
theorem dX12_type_4 : decode cX12_type 4 = .ok (.bipush 126, 2) := by decide +kernel
theorem dX12_type_6 : decode cX12_type 6 = .ok (.invokestatic 215, 3) := by decide +kernel
theorem dX12_type_9 : decode cX12_type 9 = .ok (.aload_n 0, 1) := by decide +kernel
theorem dX12_type_10 : decode cX12_type 10 = .ok (.getfield 242, 3) := by decide +kernel
theorem dX12_type_13 : decode cX12_type 13 = .ok (.bipush 40, 2) := by decide +kernel
theorem dX12_type_15 : decode cX12_type 15 = .ok (.if_icmp .ge 7, 3) := by decide +kernel
theorem dX12_type_18 : decode cX12_type 18 = .ok (.iconst 1, 1) := by decide +kernel
theorem dX12_type_19 : decode cX12_type 19 = .ok (.goto 4, 3) := by decide +kernel
theorem dX12_type_22 : decode cX12_type 22 = .ok (.iconst 0, 1) := by decide +kernel
theorem dX12_type_23 : decode cX12_type 23 = .ok (.iconst 1, 1) := by decide +kernel
theorem dX12_type_24 : decode cX12_type 24 = .ok (.invokevirtual 248, 3) := by decide +kernel
theorem dX12_type_27 : decode cX12_type 27 = .ok (.ifCond .ne 5, 3) := by decide +kernel
theorem dX12_type_30 : decode cX12_type 30 = .ok (.iconst 0, 1) := by decide +kernel
theorem dX12_type_31 : decode cX12_type 31 = .ok (.ireturn, 1) := by decide +kernel
theorem dX12_type_32 : decode cX12_type 32 = .ok (.aload_n 0, 1) := by decide +kernel
theorem dX12_type_33 : decode cX12_type 33 = .ok (.getfield 13, 3) := by decide +kernel
theorem dX12_type_36 : decode cX12_type 36 = .ok (.aload_n 0, 1) := by decide +kernel
theorem dX12_type_37 : decode cX12_type 37 = .ok (.getfield 242, 3) := by decide +kernel
theorem dX12_type_40 : decode cX12_type 40 = .ok (.iload_n 1, 1) := by decide +kernel
theorem dX12_type_41 : decode cX12_type 41 = .ok (.iastore, 1) := by decide +kernel
theorem dX12_type_42 : decode cX12_type 42 = .ok (.aload_n 0, 1) := by decide +kernel
theorem dX12_type_43 : decode cX12_type 43 = .ok (.dup, 1) := by decide +kernel
theorem dX12_type_44 : decode cX12_type 44 = .ok (.getfield 242, 3) := by decide +kernel
theorem dX12_type_47 : decode cX12_type 47 = .ok (.iconst 1, 1) := by decide +kernel
theorem dX12_type_48 : decode cX12_type 48 = .ok (.iadd, 1) := by decide +kernel
theorem dX12_type_49 : decode cX12_type 49 = .ok (.putfield 242, 3) := by decide +kernel
theorem dX12_type_52 : decode cX12_type 52 = .ok (.aload_n 0, 1) := by decide +kernel
theorem dX12_type_53 : decode cX12_type 53 = .ok (.getfield 242, 3) := by decide +kernel
theorem dX12_type_56 : decode cX12_type 56 = .ok (.ireturn, 1) := by decide +kernel
theorem dX12_wipe_0 : decode cX12_wipe 0 = .ok (.aload_n 0, 1) := by decide +kernel
theorem dX12_wipe_1 : decode cX12_wipe 1 = .ok (.iconst 0, 1) := by decide +kernel
theorem dX12_wipe_2 : decode cX12_wipe 2 = .ok (.putfield 212, 3) := by decide +kernel
theorem dX12_wipe_5 : decode cX12_wipe 5 = .ok (.aload_n 0, 1) := by decide +kernel
theorem dX12_wipe_6 : decode cX12_wipe 6 = .ok (.getfield 242, 3) := by decide +kernel
theorem dX12_wipe_9 : decode cX12_wipe 9 = .ok (.istore_n 1, 1) := by decide +kernel
theorem dX12_wipe_10 : decode cX12_wipe 10 = .ok (.aload_n 0, 1) := by decide +kernel
theorem dX12_wipe_11 : decode cX12_wipe 11 = .ok (.iconst 0, 1) := by decide +kernel
theorem dX12_wipe_12 : decode cX12_wipe 12 = .ok (.putfield 242, 3) := by decide +kernel
theorem dX12_wipe_15 : decode cX12_wipe 15 = .ok (.iload_n 1, 1) := by decide +kernel
theorem dX12_wipe_16 : decode cX12_wipe 16 = .ok (.ireturn, 1) := by decide +kernel
theorem dX12_stop_0 : decode cX12_stop 0 = .ok (.aload_n 0, 1) := by decide +kernel
theorem dX12_stop_1 : decode cX12_stop 1 = .ok (.invokevirtual 252, 3) := by decide +kernel
theorem dX12_stop_4 : decode cX12_stop 4 = .ok (.aload_n 0, 1) := by decide +kernel
theorem dX12_stop_5 : decode cX12_stop 5 = .ok (.aload_n 0, 1) := by decide +kernel
theorem dX12_stop_6 : decode cX12_stop 6 = .ok (.getfield 239, 3) := by decide +kernel
theorem dX12_stop_9 : decode cX12_stop 9 = .ok (.iconst 1, 1) := by decide +kernel
theorem dX12_stop_10 : decode cX12_stop 10 = .ok (.if_icmp .ne 23, 3) := by decide +kernel
theorem dX12_stop_13 : decode cX12_stop 13 = .ok (.aload_n 0, 1) := by decide +kernel
theorem dX12_stop_14 : decode cX12_stop 14 = .ok (.getfield 245, 3) := by decide +kernel
theorem dX12_stop_17 : decode cX12_stop 17 = .ok (.bipush 10, 2) := by decide +kernel
theorem dX12_stop_19 : decode cX12_stop 19 = .ok (.if_icmp .ge 14, 3) := by decide +kernel
theorem dX12_stop_22 : decode cX12_stop 22 = .ok (.aload_n 0, 1) := by decide +kernel
theorem dX12_stop_23 : decode cX12_stop 23 = .ok (.getfield 255, 3) := by decide +kernel
theorem dX12_stop_26 : decode cX12_stop 26 = .ok (.ifCond .ne 7, 3) := by decide +kernel
theorem dX12_stop_29 : decode cX12_stop 29 = .ok (.iconst 1, 1) := by decide +kernel
theorem dX12_stop_30 : decode cX12_stop 30 = .ok (.goto 4, 3) := by decide +kernel
theorem dX12_stop_33 : decode cX12_stop 33 = .ok (.iconst 0, 1) := by decide +kernel
theorem dX12_stop_34 : decode cX12_stop 34 = .ok (.iconst 1, 1) := by decide +kernel
theorem dX12_stop_35 : decode cX12_stop 35 = .ok (.iconst 1, 1) := by decide +kernel
theorem dX12_stop_36 : decode cX12_stop 36 = .ok (.invokevirtual 248, 3) := by decide +kernel
theorem dX12_stop_39 : decode cX12_stop 39 = .ok (.ifCond .ne 5, 3) := by decide +kernel
theorem dX12_stop_42 : decode cX12_stop 42 = .ok (.iconst 0, 1) := by decide +kernel
theorem dX12_stop_43 : decode cX12_stop 43 = .ok (.ireturn, 1) := by decide +kernel
theorem dX12_stop_44 : decode cX12_stop 44 = .ok (.aload_n 0, 1) := by decide +kernel
theorem dX12_stop_45 : decode cX12_stop 45 = .ok (.aload_n 0, 1) := by decide +kernel
theorem dX12_stop_46 : decode cX12_stop 46 = .ok (.getfield 17, 3) := by decide +kernel
theorem dX12_stop_49 : decode cX12_stop 49 = .ok (.iconst 0, 1) := by decide +kernel
theorem dX12_stop_50 : decode cX12_stop 50 = .ok (.laload, 1) := by decide +kernel
theorem dX12_stop_51 : decode cX12_stop 51 = .ok (.invokevirtual 259, 3) := by decide +kernel
theorem dX12_stop_54 : decode cX12_stop 54 = .ok (.lstore_n 1, 1) := by decide +kernel
theorem dX12_stop_55 : decode cX12_stop 55 = .ok (.aload_n 0, 1) := by decide +kernel
theorem dX12_stop_56 : decode cX12_stop 56 = .ok (.lload_n 1, 1) := by decide +kernel
theorem dX12_stop_57 : decode cX12_stop 57 = .ok (.invokevirtual 263, 3) := by decide +kernel
theorem dX12_stop_60 : decode cX12_stop 60 = .ok (.ifCond .ne 23, 3) := by decide +kernel
theorem dX12_stop_63 : decode cX12_stop 63 = .ok (.aload_n 0, 1) := by decide +kernel
theorem dX12_stop_64 : decode cX12_stop 64 = .ok (.getfield 20, 3) := by decide +kernel
theorem dX12_stop_67 : decode cX12_stop 67 = .ok (.aload_n 0, 1) := by decide +kernel
theorem dX12_stop_68 : decode cX12_stop 68 = .ok (.getfield 245, 3) := by decide +kernel
theorem dX12_stop_71 : decode cX12_stop 71 = .ok (.lload_n 1, 1) := by decide +kernel
theorem dX12_stop_72 : decode cX12_stop 72 = .ok (.lastore, 1) := by decide +kernel
theorem dX12_stop_73 : decode cX12_stop 73 = .ok (.aload_n 0, 1) := by decide +kernel
theorem dX12_stop_74 : decode cX12_stop 74 = .ok (.dup, 1) := by decide +kernel
theorem dX12_stop_75 : decode cX12_stop 75 = .ok (.getfield 245, 3) := by decide +kernel
theorem dX12_stop_78 : decode cX12_stop 78 = .ok (.iconst 1, 1) := by decide +kernel
theorem dX12_stop_79 : decode cX12_stop 79 = .ok (.iadd, 1) := by decide +kernel
theorem dX12_stop_80 : decode cX12_stop 80 = .ok (.putfield 245, 3) := by decide +kernel
theorem dX12_stop_83 : decode cX12_stop 83 = .ok (.aload_n 0, 1) := by decide +kernel
theorem dX12_stop_84 : decode cX12_stop 84 = .ok (.iconst 0, 1) := by decide +kernel
theorem dX12_stop_85 : decode cX12_stop 85 = .ok (.putfield 242, 3) := by decide +kernel
theorem dX12_stop_88 : decode cX12_stop 88 = .ok (.aload_n 0, 1) := by decide +kernel
theorem dX12_stop_89 : decode cX12_stop 89 = .ok (.getfield 245, 3) := by decide +kernel
theorem dX12_stop_92 : decode cX12_stop 92 = .ok (.ireturn, 1) := by decide +kernel
theorem dX12_synonym_0 : decode cX12_synonym 0 = .ok (.aload_n 0, 1) := by decide +kernel
theorem dX12_synonym_1 : decode cX12_synonym 1 = .ok (.invokevirtual 252, 3) := by decide +kernel
theorem dX12_synonym_4 : decode cX12_synonym 4 = .ok (.aload_n 0, 1) := by decide +kernel
theorem dX12_synonym_5 : decode cX12_synonym 5 = .ok (.aload_n 0, 1) := by decide +kernel
theorem dX12_synonym_6 : decode cX12_synonym 6 = .ok (.getfield 239, 3) := by decide +kernel
theorem dX12_synonym_9 : decode cX12_synonym 9 = .ok (.iconst 2, 1) := by decide +kernel
theorem dX12_synonym_10 : decode cX12_synonym 10 = .ok (.if_icmp .ne 23, 3) := by decide +kernel
theorem dX12_synonym_13 : decode cX12_synonym 13 = .ok (.aload_n 0, 1) := by decide +kernel
theorem dX12_synonym_14 : decode cX12_synonym 14 = .ok (.getfield 267, 3) := by decide +kernel
theorem dX12_synonym_17 : decode cX12_synonym 17 = .ok (.bipush 10, 2) := by decide +kernel
theorem dX12_synonym_19 : decode cX12_synonym 19 = .ok (.if_icmp .ge 14, 3) := by decide +kernel
theorem dX12_synonym_22 : decode cX12_synonym 22 = .ok (.aload_n 0, 1) := by decide +kernel
theorem dX12_synonym_23 : decode cX12_synonym 23 = .ok (.getfield 255, 3) := by decide +kernel
theorem dX12_synonym_26 : decode cX12_synonym 26 = .ok (.ifCond .ne 7, 3) := by decide +kernel
theorem dX12_synonym_29 : decode cX12_synonym 29 = .ok (.iconst 1, 1) := by decide +kernel
theorem dX12_synonym_30 : decode cX12_synonym 30 = .ok (.goto 4, 3) := by decide +kernel
theorem dX12_synonym_33 : decode cX12_synonym 33 = .ok (.iconst 0, 1) := by decide +kernel
theorem dX12_synonym_34 : decode cX12_synonym 34 = .ok (.iconst 1, 1) := by decide +kernel
theorem dX12_synonym_35 : decode cX12_synonym 35 = .ok (.iconst 1, 1) := by decide +kernel
theorem dX12_synonym_36 : decode cX12_synonym 36 = .ok (.invokevirtual 248, 3) := by decide +kernel
theorem dX12_synonym_39 : decode cX12_synonym 39 = .ok (.ifCond .ne 5, 3) := by decide +kernel
theorem dX12_synonym_42 : decode cX12_synonym 42 = .ok (.iconst 0, 1) := by decide +kernel
theorem dX12_synonym_43 : decode cX12_synonym 43 = .ok (.ireturn, 1) := by decide +kernel
theorem dX12_synonym_44 : decode cX12_synonym 44 = .ok (.aload_n 0, 1) := by decide +kernel
theorem dX12_synonym_45 : decode cX12_synonym 45 = .ok (.getfield 23, 3) := by decide +kernel
theorem dX12_synonym_48 : decode cX12_synonym 48 = .ok (.aload_n 0, 1) := by decide +kernel
theorem dX12_synonym_49 : decode cX12_synonym 49 = .ok (.getfield 267, 3) := by decide +kernel
theorem dX12_synonym_52 : decode cX12_synonym 52 = .ok (.aload_n 0, 1) := by decide +kernel
theorem dX12_synonym_53 : decode cX12_synonym 53 = .ok (.aload_n 0, 1) := by decide +kernel
theorem dX12_synonym_54 : decode cX12_synonym 54 = .ok (.getfield 17, 3) := by decide +kernel
theorem dX12_synonym_57 : decode cX12_synonym 57 = .ok (.iconst 0, 1) := by decide +kernel
theorem dX12_synonym_58 : decode cX12_synonym 58 = .ok (.laload, 1) := by decide +kernel
theorem dX12_synonym_59 : decode cX12_synonym 59 = .ok (.invokevirtual 259, 3) := by decide +kernel
theorem dX12_synonym_62 : decode cX12_synonym 62 = .ok (.lastore, 1) := by decide +kernel
theorem dX12_synonym_63 : decode cX12_synonym 63 = .ok (.aload_n 0, 1) := by decide +kernel
theorem dX12_synonym_64 : decode cX12_synonym 64 = .ok (.getfield 26, 3) := by decide +kernel
theorem dX12_synonym_67 : decode cX12_synonym 67 = .ok (.aload_n 0, 1) := by decide +kernel
theorem dX12_synonym_68 : decode cX12_synonym 68 = .ok (.getfield 267, 3) := by decide +kernel
theorem dX12_synonym_71 : decode cX12_synonym 71 = .ok (.aload_n 0, 1) := by decide +kernel
theorem dX12_synonym_72 : decode cX12_synonym 72 = .ok (.aload_n 0, 1) := by decide +kernel
theorem dX12_synonym_73 : decode cX12_synonym 73 = .ok (.getfield 17, 3) := by decide +kernel
theorem dX12_synonym_76 : decode cX12_synonym 76 = .ok (.iconst 1, 1) := by decide +kernel
theorem dX12_synonym_77 : decode cX12_synonym 77 = .ok (.laload, 1) := by decide +kernel
theorem dX12_synonym_78 : decode cX12_synonym 78 = .ok (.invokevirtual 259, 3) := by decide +kernel
theorem dX12_synonym_81 : decode cX12_synonym 81 = .ok (.lastore, 1) := by decide +kernel
theorem dX12_synonym_82 : decode cX12_synonym 82 = .ok (.aload_n 0, 1) := by decide +kernel
theorem dX12_synonym_83 : decode cX12_synonym 83 = .ok (.dup, 1) := by decide +kernel
theorem dX12_synonym_84 : decode cX12_synonym 84 = .ok (.getfield 267, 3) := by decide +kernel
theorem dX12_synonym_87 : decode cX12_synonym 87 = .ok (.iconst 1, 1) := by decide +kernel
theorem dX12_synonym_88 : decode cX12_synonym 88 = .ok (.iadd, 1) := by decide +kernel
theorem dX12_synonym_89 : decode cX12_synonym 89 = .ok (.putfield 267, 3) := by decide +kernel
theorem dX12_synonym_92 : decode cX12_synonym 92 = .ok (.aload_n 0, 1) := by decide +kernel
theorem dX12_synonym_93 : decode cX12_synonym 93 = .ok (.iconst 0, 1) := by decide +kernel
theorem dX12_synonym_94 : decode cX12_synonym 94 = .ok (.putfield 242, 3) := by decide +kernel
theorem dX12_synonym_97 : decode cX12_synonym 97 = .ok (.aload_n 0, 1) := by decide +kernel
theorem dX12_synonym_98 : decode cX12_synonym 98 = .ok (.getfield 267, 3) := by decide +kernel
theorem dX12_synonym_101 : decode cX12_synonym 101 = .ok (.ireturn, 1) := by decide +kernel
theorem dX12_text_0 : decode cX12_text 0 = .ok (.aload_n 0, 1) := by decide +kernel
theorem dX12_text_1 : decode cX12_text 1 = .ok (.iload_n 1, 1) := by decide +kernel
theorem dX12_text_2 : decode cX12_text 2 = .ok (.iconst 0, 1) := by decide +kernel
theorem dX12_text_3 : decode cX12_text 3 = .ok (.iconst 1, 1) := by decide +kernel
theorem dX12_text_4 : decode cX12_text 4 = .ok (.invokestatic 215, 3) := by decide +kernel
theorem dX12_text_7 : decode cX12_text 7 = .ok (.iconst 1, 1) := by decide +kernel
theorem dX12_text_8 : decode cX12_text 8 = .ok (.iconst 1, 1) := by decide +kernel
theorem dX12_text_9 : decode cX12_text 9 = .ok (.invokevirtual 248, 3) := by decide +kernel
theorem dX12_text_12 : decode cX12_text 12 = .ok (.ifCond .ne 5, 3) := by decide +kernel
theorem dX12_text_15 : decode cX12_text 15 = .ok (.iconst 0, 1) := by decide +kernel
theorem dX12_text_16 : decode cX12_text 16 = .ok (.ireturn, 1) := by decide +kernel
theorem dX12_text_17 : decode cX12_text 17 = .ok (.iconst 0, 1) := by decide +kernel
theorem dX12_text_18 : decode cX12_text 18 = .ok (.istore_n 2, 1) := by decide +kernel
theorem dX12_text_19 : decode cX12_text 19 = .ok (.aload_n 0, 1) := by decide +kernel
theorem dX12_text_20 : decode cX12_text 20 = .ok (.invokevirtual 252, 3) := by decide +kernel
theorem dX12_text_23 : decode cX12_text 23 = .ok (.aload_n 0, 1) := by decide +kernel
theorem dX12_text_24 : decode cX12_text 24 = .ok (.getfield 32, 3) := by decide +kernel
theorem dX12_text_27 : decode cX12_text 27 = .ok (.iload_n 1, 1) := by decide +kernel
theorem dX12_text_28 : decode cX12_text 28 = .ok (.aload_n 0, 1) := by decide +kernel
theorem dX12_text_29 : decode cX12_text 29 = .ok (.getfield 239, 3) := by decide +kernel
theorem dX12_text_32 : decode cX12_text 32 = .ok (.iastore, 1) := by decide +kernel
theorem dX12_text_33 : decode cX12_text 33 = .ok (.iconst 0, 1) := by decide +kernel
theorem dX12_text_34 : decode cX12_text 34 = .ok (.istore_n 3, 1) := by decide +kernel
theorem dX12_text_35 : decode cX12_text 35 = .ok (.iload_n 3, 1) := by decide +kernel
theorem dX12_text_36 : decode cX12_text 36 = .ok (.aload_n 0, 1) := by decide +kernel
theorem dX12_text_37 : decode cX12_text 37 = .ok (.getfield 239, 3) := by decide +kernel
theorem dX12_text_40 : decode cX12_text 40 = .ok (.if_icmp .ge 97, 3) := by decide +kernel
theorem dX12_text_43 : decode cX12_text 43 = .ok (.aload_n 0, 1) := by decide +kernel
theorem dX12_text_44 : decode cX12_text 44 = .ok (.aload_n 0, 1) := by decide +kernel
theorem dX12_text_45 : decode cX12_text 45 = .ok (.getfield 17, 3) := by decide +kernel
theorem dX12_text_48 : decode cX12_text 48 = .ok (.iload_n 3, 1) := by decide +kernel
theorem dX12_text_49 : decode cX12_text 49 = .ok (.laload, 1) := by decide +kernel
theorem dX12_text_50 : decode cX12_text 50 = .ok (.invokevirtual 259, 3) := by decide +kernel
theorem dX12_text_53 : decode cX12_text 53 = .ok (.lstore 4, 2) := by decide +kernel
theorem dX12_text_55 : decode cX12_text 55 = .ok (.aload_n 0, 1) := by decide +kernel
theorem dX12_text_56 : decode cX12_text 56 = .ok (.getfield 29, 3) := by decide +kernel
theorem dX12_text_59 : decode cX12_text 59 = .ok (.bipush 20, 2) := by decide +kernel
theorem dX12_text_61 : decode cX12_text 61 = .ok (.iload_n 1, 1) := by decide +kernel
theorem dX12_text_62 : decode cX12_text 62 = .ok (.imul, 1) := by decide +kernel
theorem dX12_text_63 : decode cX12_text 63 = .ok (.iload_n 3, 1) := by decide +kernel
theorem dX12_text_64 : decode cX12_text 64 = .ok (.iadd, 1) := by decide +kernel
theorem dX12_text_65 : decode cX12_text 65 = .ok (.lload 4, 2) := by decide +kernel
theorem dX12_text_67 : decode cX12_text 67 = .ok (.lastore, 1) := by decide +kernel
theorem dX12_text_68 : decode cX12_text 68 = .ok (.iload_n 2, 1) := by decide +kernel
theorem dX12_text_69 : decode cX12_text 69 = .ok (.aload_n 0, 1) := by decide +kernel
theorem dX12_text_70 : decode cX12_text 70 = .ok (.lload 4, 2) := by decide +kernel
theorem dX12_text_72 : decode cX12_text 72 = .ok (.invokevirtual 263, 3) := by decide +kernel
theorem dX12_text_75 : decode cX12_text 75 = .ok (.ifCond .eq 7, 3) := by decide +kernel
theorem dX12_text_78 : decode cX12_text 78 = .ok (.iconst 0, 1) := by decide +kernel
theorem dX12_text_79 : decode cX12_text 79 = .ok (.goto 4, 3) := by decide +kernel
theorem dX12_text_82 : decode cX12_text 82 = .ok (.iconst 1, 1) := by decide +kernel
theorem dX12_text_83 : decode cX12_text 83 = .ok (.iadd, 1) := by decide +kernel
theorem dX12_text_84 : decode cX12_text 84 = .ok (.istore_n 2, 1) := by decide +kernel
theorem dX12_text_85 : decode cX12_text 85 = .ok (.iconst 0, 1) := by decide +kernel
theorem dX12_text_86 : decode cX12_text 86 = .ok (.istore 6, 2) := by decide +kernel
theorem dX12_text_88 : decode cX12_text 88 = .ok (.iload 6, 2) := by decide +kernel
theorem dX12_text_90 : decode cX12_text 90 = .ok (.aload_n 0, 1) := by decide +kernel
theorem dX12_text_91 : decode cX12_text 91 = .ok (.getfield 267, 3) := by decide +kernel
theorem dX12_text_94 : decode cX12_text 94 = .ok (.if_icmp .ge 37, 3) := by decide +kernel
theorem dX12_text_97 : decode cX12_text 97 = .ok (.aload_n 0, 1) := by decide +kernel
theorem dX12_text_98 : decode cX12_text 98 = .ok (.lload 4, 2) := by decide +kernel
theorem dX12_text_100 : decode cX12_text 100 = .ok (.invokevirtual 263, 3) := by decide +kernel
theorem dX12_text_103 : decode cX12_text 103 = .ok (.ifCond .ne 28, 3) := by decide +kernel
theorem dX12_text_106 : decode cX12_text 106 = .ok (.iload_n 2, 1) := by decide +kernel
theorem dX12_text_107 : decode cX12_text 107 = .ok (.aload_n 0, 1) := by decide +kernel
theorem dX12_text_108 : decode cX12_text 108 = .ok (.iload 6, 2) := by decide +kernel
theorem dX12_text_110 : decode cX12_text 110 = .ok (.lload 4, 2) := by decide +kernel
theorem dX12_text_112 : decode cX12_text 112 = .ok (.invokevirtual 270, 3) := by decide +kernel
theorem dX12_text_115 : decode cX12_text 115 = .ok (.ifCond .eq 7, 3) := by decide +kernel
theorem dX12_text_118 : decode cX12_text 118 = .ok (.iconst 1, 1) := by decide +kernel
theorem dX12_text_119 : decode cX12_text 119 = .ok (.goto 4, 3) := by decide +kernel
theorem dX12_text_122 : decode cX12_text 122 = .ok (.iconst 0, 1) := by decide +kernel
theorem dX12_text_123 : decode cX12_text 123 = .ok (.iadd, 1) := by decide +kernel
theorem dX12_text_124 : decode cX12_text 124 = .ok (.istore_n 2, 1) := by decide +kernel
theorem dX12_text_125 : decode cX12_text 125 = .ok (.iinc 6 1, 3) := by decide +kernel
theorem dX12_text_128 : decode cX12_text 128 = .ok (.goto (-40), 3) := by decide +kernel
theorem dX12_text_131 : decode cX12_text 131 = .ok (.iinc 3 1, 3) := by decide +kernel
theorem dX12_text_134 : decode cX12_text 134 = .ok (.goto (-99), 3) := by decide +kernel
theorem dX12_text_137 : decode cX12_text 137 = .ok (.aload_n 0, 1) := by decide +kernel
theorem dX12_text_138 : decode cX12_text 138 = .ok (.iconst 0, 1) := by decide +kernel
theorem dX12_text_139 : decode cX12_text 139 = .ok (.putfield 242, 3) := by decide +kernel
theorem dX12_text_142 : decode cX12_text 142 = .ok (.iload_n 2, 1) := by decide +kernel
theorem dX12_text_143 : decode cX12_text 143 = .ok (.ireturn, 1) := by decide +kernel
theorem dX12_columns_0 : decode cX12_columns 0 = .ok (.aload_n 0, 1) := by decide +kernel
theorem dX12_columns_1 : decode cX12_columns 1 = .ok (.iload_n 1, 1) := by decide +kernel
theorem dX12_columns_2 : decode cX12_columns 2 = .ok (.iconst 0, 1) := by decide +kernel
theorem dX12_columns_3 : decode cX12_columns 3 = .ok (.bipush 9, 2) := by decide +kernel
theorem dX12_columns_5 : decode cX12_columns 5 = .ok (.invokestatic 215, 3) := by decide +kernel
theorem dX12_columns_8 : decode cX12_columns 8 = .ok (.ifCond .eq 18, 3) := by decide +kernel
theorem dX12_columns_11 : decode cX12_columns 11 = .ok (.iload_n 2, 1) := by decide +kernel
theorem dX12_columns_12 : decode cX12_columns 12 = .ok (.iconst 0, 1) := by decide +kernel
theorem dX12_columns_13 : decode cX12_columns 13 = .ok (.sipush 999, 3) := by decide +kernel
theorem dX12_columns_16 : decode cX12_columns 16 = .ok (.invokestatic 215, 3) := by decide +kernel
theorem dX12_columns_19 : decode cX12_columns 19 = .ok (.ifCond .eq 7, 3) := by decide +kernel
theorem dX12_columns_22 : decode cX12_columns 22 = .ok (.iconst 1, 1) := by decide +kernel
theorem dX12_columns_23 : decode cX12_columns 23 = .ok (.goto 4, 3) := by decide +kernel
theorem dX12_columns_26 : decode cX12_columns 26 = .ok (.iconst 0, 1) := by decide +kernel
theorem dX12_columns_27 : decode cX12_columns 27 = .ok (.iconst 1, 1) := by decide +kernel
theorem dX12_columns_28 : decode cX12_columns 28 = .ok (.iconst 1, 1) := by decide +kernel
theorem dX12_columns_29 : decode cX12_columns 29 = .ok (.invokevirtual 248, 3) := by decide +kernel
theorem dX12_columns_32 : decode cX12_columns 32 = .ok (.ifCond .eq 13, 3) := by decide +kernel
theorem dX12_columns_35 : decode cX12_columns 35 = .ok (.aload_n 0, 1) := by decide +kernel
theorem dX12_columns_36 : decode cX12_columns 36 = .ok (.iload_n 1, 1) := by decide +kernel
theorem dX12_columns_37 : decode cX12_columns 37 = .ok (.putfield 274, 3) := by decide +kernel
theorem dX12_columns_40 : decode cX12_columns 40 = .ok (.aload_n 0, 1) := by decide +kernel
theorem dX12_columns_41 : decode cX12_columns 41 = .ok (.iload_n 2, 1) := by decide +kernel
theorem dX12_columns_42 : decode cX12_columns 42 = .ok (.putfield 277, 3) := by decide +kernel
theorem dX12_columns_45 : decode cX12_columns 45 = .ok (.return_, 1) := by decide +kernel
theorem dX12_isKey_0 : decode cX12_isKey 0 = .ok (.iload_n 0, 1) := by decide +kernel
theorem dX12_isKey_1 : decode cX12_isKey 1 = .ok (.iconst 0, 1) := by decide +kernel
theorem dX12_isKey_2 : decode cX12_isKey 2 = .ok (.bipush 99, 2) := by decide +kernel
theorem dX12_isKey_4 : decode cX12_isKey 4 = .ok (.invokestatic 215, 3) := by decide +kernel
theorem dX12_isKey_7 : decode cX12_isKey 7 = .ok (.ireturn, 1) := by decide +kernel
theorem dX12_inBuffer_0 : decode cX12_inBuffer 0 = .ok (.iconst (-1), 1) := by decide +kernel
theorem dX12_inBuffer_1 : decode cX12_inBuffer 1 = .ok (.istore_n 2, 1) := by decide +kernel
theorem dX12_inBuffer_2 : decode cX12_inBuffer 2 = .ok (.iconst 0, 1) := by decide +kernel
theorem dX12_inBuffer_3 : decode cX12_inBuffer 3 = .ok (.istore_n 3, 1) := by decide +kernel
theorem dX12_inBuffer_4 : decode cX12_inBuffer 4 = .ok (.iload_n 3, 1) := by decide +kernel
theorem dX12_inBuffer_5 : decode cX12_inBuffer 5 = .ok (.aload_n 0, 1) := by decide +kernel
theorem dX12_inBuffer_6 : decode cX12_inBuffer 6 = .ok (.getfield 280, 3) := by decide +kernel
theorem dX12_inBuffer_9 : decode cX12_inBuffer 9 = .ok (.if_icmp .ge 25, 3) := by decide +kernel
theorem dX12_inBuffer_12 : decode cX12_inBuffer 12 = .ok (.aload_n 0, 1) := by decide +kernel
theorem dX12_inBuffer_13 : decode cX12_inBuffer 13 = .ok (.getfield 35, 3) := by decide +kernel
theorem dX12_inBuffer_16 : decode cX12_inBuffer 16 = .ok (.iload_n 3, 1) := by decide +kernel
theorem dX12_inBuffer_17 : decode cX12_inBuffer 17 = .ok (.iaload, 1) := by decide +kernel
theorem dX12_inBuffer_18 : decode cX12_inBuffer 18 = .ok (.iload_n 1, 1) := by decide +kernel
theorem dX12_inBuffer_19 : decode cX12_inBuffer 19 = .ok (.if_icmp .ne 7, 3) := by decide +kernel
theorem dX12_inBuffer_22 : decode cX12_inBuffer 22 = .ok (.iload_n 3, 1) := by decide +kernel
theorem dX12_inBuffer_23 : decode cX12_inBuffer 23 = .ok (.goto 4, 3) := by decide +kernel
theorem dX12_inBuffer_26 : decode cX12_inBuffer 26 = .ok (.iload_n 2, 1) := by decide +kernel
theorem dX12_inBuffer_27 : decode cX12_inBuffer 27 = .ok (.istore_n 2, 1) := by decide +kernel
theorem dX12_inBuffer_28 : decode cX12_inBuffer 28 = .ok (.iinc 3 1, 3) := by decide +kernel
theorem dX12_inBuffer_31 : decode cX12_inBuffer 31 = .ok (.goto (-27), 3) := by decide +kernel
theorem dX12_inBuffer_34 : decode cX12_inBuffer 34 = .ok (.iload_n 2, 1) := by decide +kernel
theorem dX12_inBuffer_35 : decode cX12_inBuffer 35 = .ok (.ireturn, 1) := by decide +kernel
theorem dX12_moves_0 : decode cX12_moves 0 = .ok (.aload_n 0, 1) := by decide +kernel
theorem dX12_moves_1 : decode cX12_moves 1 = .ok (.getfield 35, 3) := by decide +kernel
theorem dX12_moves_4 : decode cX12_moves 4 = .ok (.iload_n 2, 1) := by decide +kernel
theorem dX12_moves_5 : decode cX12_moves 5 = .ok (.aload_n 0, 1) := by decide +kernel
theorem dX12_moves_6 : decode cX12_moves 6 = .ok (.getfield 35, 3) := by decide +kernel
theorem dX12_moves_9 : decode cX12_moves 9 = .ok (.iload_n 1, 1) := by decide +kernel
theorem dX12_moves_10 : decode cX12_moves 10 = .ok (.iaload, 1) := by decide +kernel
theorem dX12_moves_11 : decode cX12_moves 11 = .ok (.iastore, 1) := by decide +kernel
theorem dX12_moves_12 : decode cX12_moves 12 = .ok (.aload_n 0, 1) := by decide +kernel
theorem dX12_moves_13 : decode cX12_moves 13 = .ok (.getfield 38, 3) := by decide +kernel
theorem dX12_moves_16 : decode cX12_moves 16 = .ok (.iload_n 2, 1) := by decide +kernel
theorem dX12_moves_17 : decode cX12_moves 17 = .ok (.aload_n 0, 1) := by decide +kernel
theorem dX12_moves_18 : decode cX12_moves 18 = .ok (.getfield 38, 3) := by decide +kernel
theorem dX12_moves_21 : decode cX12_moves 21 = .ok (.iload_n 1, 1) := by decide +kernel
theorem dX12_moves_22 : decode cX12_moves 22 = .ok (.iaload, 1) := by decide +kernel
theorem dX12_moves_23 : decode cX12_moves 23 = .ok (.iastore, 1) := by decide +kernel
theorem dX12_moves_24 : decode cX12_moves 24 = .ok (.aload_n 0, 1) := by decide +kernel
theorem dX12_moves_25 : decode cX12_moves 25 = .ok (.getfield 41, 3) := by decide +kernel
theorem dX12_moves_28 : decode cX12_moves 28 = .ok (.iload_n 2, 1) := by decide +kernel
theorem dX12_moves_29 : decode cX12_moves 29 = .ok (.aload_n 0, 1) := by decide +kernel
theorem dX12_moves_30 : decode cX12_moves 30 = .ok (.getfield 41, 3) := by decide +kernel
theorem dX12_moves_33 : decode cX12_moves 33 = .ok (.iload_n 1, 1) := by decide +kernel
theorem dX12_moves_34 : decode cX12_moves 34 = .ok (.iaload, 1) := by decide +kernel
theorem dX12_moves_35 : decode cX12_moves 35 = .ok (.iastore, 1) := by decide +kernel
theorem dX12_moves_36 : decode cX12_moves 36 = .ok (.iconst 0, 1) := by decide +kernel
theorem dX12_moves_37 : decode cX12_moves 37 = .ok (.istore_n 3, 1) := by decide +kernel
theorem dX12_moves_38 : decode cX12_moves 38 = .ok (.iload_n 3, 1) := by decide +kernel
theorem dX12_moves_39 : decode cX12_moves 39 = .ok (.bipush 40, 2) := by decide +kernel
theorem dX12_moves_41 : decode cX12_moves 41 = .ok (.if_icmp .ge 31, 3) := by decide +kernel
theorem dX12_moves_44 : decode cX12_moves 44 = .ok (.aload_n 0, 1) := by decide +kernel
theorem dX12_moves_45 : decode cX12_moves 45 = .ok (.getfield 44, 3) := by decide +kernel
theorem dX12_moves_48 : decode cX12_moves 48 = .ok (.bipush 40, 2) := by decide +kernel
theorem dX12_moves_50 : decode cX12_moves 50 = .ok (.iload_n 2, 1) := by decide +kernel
theorem dX12_moves_51 : decode cX12_moves 51 = .ok (.imul, 1) := by decide +kernel
theorem dX12_moves_52 : decode cX12_moves 52 = .ok (.iload_n 3, 1) := by decide +kernel
theorem dX12_moves_53 : decode cX12_moves 53 = .ok (.iadd, 1) := by decide +kernel
theorem dX12_moves_54 : decode cX12_moves 54 = .ok (.aload_n 0, 1) := by decide +kernel
theorem dX12_moves_55 : decode cX12_moves 55 = .ok (.getfield 44, 3) := by decide +kernel
theorem dX12_moves_58 : decode cX12_moves 58 = .ok (.bipush 40, 2) := by decide +kernel
theorem dX12_moves_60 : decode cX12_moves 60 = .ok (.iload_n 1, 1) := by decide +kernel
theorem dX12_moves_61 : decode cX12_moves 61 = .ok (.imul, 1) := by decide +kernel
theorem dX12_moves_62 : decode cX12_moves 62 = .ok (.iload_n 3, 1) := by decide +kernel
theorem dX12_moves_63 : decode cX12_moves 63 = .ok (.iadd, 1) := by decide +kernel
theorem dX12_moves_64 : decode cX12_moves 64 = .ok (.laload, 1) := by decide +kernel
theorem dX12_moves_65 : decode cX12_moves 65 = .ok (.lastore, 1) := by decide +kernel
theorem dX12_moves_66 : decode cX12_moves 66 = .ok (.iinc 3 1, 3) := by decide +kernel
theorem dX12_moves_69 : decode cX12_moves 69 = .ok (.goto (-31), 3) := by decide +kernel
theorem dX12_moves_72 : decode cX12_moves 72 = .ok (.aload_n 0, 1) := by decide +kernel
theorem dX12_moves_73 : decode cX12_moves 73 = .ok (.getfield 47, 3) := by decide +kernel
theorem dX12_moves_76 : decode cX12_moves 76 = .ok (.iconst 2, 1) := by decide +kernel
theorem dX12_moves_77 : decode cX12_moves 77 = .ok (.iload_n 2, 1) := by decide +kernel
theorem dX12_moves_78 : decode cX12_moves 78 = .ok (.imul, 1) := by decide +kernel
theorem dX12_moves_79 : decode cX12_moves 79 = .ok (.aload_n 0, 1) := by decide +kernel
theorem dX12_moves_80 : decode cX12_moves 80 = .ok (.getfield 47, 3) := by decide +kernel
theorem dX12_moves_83 : decode cX12_moves 83 = .ok (.iconst 2, 1) := by decide +kernel
theorem dX12_moves_84 : decode cX12_moves 84 = .ok (.iload_n 1, 1) := by decide +kernel
theorem dX12_moves_85 : decode cX12_moves 85 = .ok (.imul, 1) := by decide +kernel
theorem dX12_moves_86 : decode cX12_moves 86 = .ok (.iaload, 1) := by decide +kernel
theorem dX12_moves_87 : decode cX12_moves 87 = .ok (.iastore, 1) := by decide +kernel
theorem dX12_moves_88 : decode cX12_moves 88 = .ok (.aload_n 0, 1) := by decide +kernel
theorem dX12_moves_89 : decode cX12_moves 89 = .ok (.getfield 47, 3) := by decide +kernel
theorem dX12_moves_92 : decode cX12_moves 92 = .ok (.iconst 2, 1) := by decide +kernel
theorem dX12_moves_93 : decode cX12_moves 93 = .ok (.iload_n 2, 1) := by decide +kernel
theorem dX12_moves_94 : decode cX12_moves 94 = .ok (.imul, 1) := by decide +kernel
theorem dX12_moves_95 : decode cX12_moves 95 = .ok (.iconst 1, 1) := by decide +kernel
theorem dX12_moves_96 : decode cX12_moves 96 = .ok (.iadd, 1) := by decide +kernel
theorem dX12_moves_97 : decode cX12_moves 97 = .ok (.aload_n 0, 1) := by decide +kernel
theorem dX12_moves_98 : decode cX12_moves 98 = .ok (.getfield 47, 3) := by decide +kernel
theorem dX12_moves_101 : decode cX12_moves 101 = .ok (.iconst 2, 1) := by decide +kernel
theorem dX12_moves_102 : decode cX12_moves 102 = .ok (.iload_n 1, 1) := by decide +kernel
theorem dX12_moves_103 : decode cX12_moves 103 = .ok (.imul, 1) := by decide +kernel
theorem dX12_moves_104 : decode cX12_moves 104 = .ok (.iconst 1, 1) := by decide +kernel
theorem dX12_moves_105 : decode cX12_moves 105 = .ok (.iadd, 1) := by decide +kernel
theorem dX12_moves_106 : decode cX12_moves 106 = .ok (.iaload, 1) := by decide +kernel
theorem dX12_moves_107 : decode cX12_moves 107 = .ok (.iastore, 1) := by decide +kernel
theorem dX12_moves_108 : decode cX12_moves 108 = .ok (.return_, 1) := by decide +kernel
theorem dX12_deletes_0 : decode cX12_deletes 0 = .ok (.aload_n 0, 1) := by decide +kernel
theorem dX12_deletes_1 : decode cX12_deletes 1 = .ok (.iload_n 1, 1) := by decide +kernel
theorem dX12_deletes_2 : decode cX12_deletes 2 = .ok (.invokevirtual 283, 3) := by decide +kernel
theorem dX12_deletes_5 : decode cX12_deletes 5 = .ok (.istore_n 2, 1) := by decide +kernel
theorem dX12_deletes_6 : decode cX12_deletes 6 = .ok (.iload_n 2, 1) := by decide +kernel
theorem dX12_deletes_7 : decode cX12_deletes 7 = .ok (.iconst (-1), 1) := by decide +kernel
theorem dX12_deletes_8 : decode cX12_deletes 8 = .ok (.if_icmp .eq 7, 3) := by decide +kernel
theorem dX12_deletes_11 : decode cX12_deletes 11 = .ok (.iconst 1, 1) := by decide +kernel
theorem dX12_deletes_12 : decode cX12_deletes 12 = .ok (.goto 4, 3) := by decide +kernel
theorem dX12_deletes_15 : decode cX12_deletes 15 = .ok (.iconst 0, 1) := by decide +kernel
theorem dX12_deletes_16 : decode cX12_deletes 16 = .ok (.istore_n 3, 1) := by decide +kernel
theorem dX12_deletes_17 : decode cX12_deletes 17 = .ok (.iload_n 3, 1) := by decide +kernel
theorem dX12_deletes_18 : decode cX12_deletes 18 = .ok (.ifCond .eq 43, 3) := by decide +kernel
theorem dX12_deletes_21 : decode cX12_deletes 21 = .ok (.iload_n 2, 1) := by decide +kernel
theorem dX12_deletes_22 : decode cX12_deletes 22 = .ok (.iconst 1, 1) := by decide +kernel
theorem dX12_deletes_23 : decode cX12_deletes 23 = .ok (.iadd, 1) := by decide +kernel
theorem dX12_deletes_24 : decode cX12_deletes 24 = .ok (.istore 4, 2) := by decide +kernel
theorem dX12_deletes_26 : decode cX12_deletes 26 = .ok (.iload 4, 2) := by decide +kernel
theorem dX12_deletes_28 : decode cX12_deletes 28 = .ok (.aload_n 0, 1) := by decide +kernel
theorem dX12_deletes_29 : decode cX12_deletes 29 = .ok (.getfield 280, 3) := by decide +kernel
theorem dX12_deletes_32 : decode cX12_deletes 32 = .ok (.if_icmp .ge 19, 3) := by decide +kernel
theorem dX12_deletes_35 : decode cX12_deletes 35 = .ok (.aload_n 0, 1) := by decide +kernel
theorem dX12_deletes_36 : decode cX12_deletes 36 = .ok (.iload 4, 2) := by decide +kernel
theorem dX12_deletes_38 : decode cX12_deletes 38 = .ok (.iload 4, 2) := by decide +kernel
theorem dX12_deletes_40 : decode cX12_deletes 40 = .ok (.iconst 1, 1) := by decide +kernel
theorem dX12_deletes_41 : decode cX12_deletes 41 = .ok (.isub, 1) := by decide +kernel
theorem dX12_deletes_42 : decode cX12_deletes 42 = .ok (.invokevirtual 286, 3) := by decide +kernel
theorem dX12_deletes_45 : decode cX12_deletes 45 = .ok (.iinc 4 1, 3) := by decide +kernel
theorem dX12_deletes_48 : decode cX12_deletes 48 = .ok (.goto (-22), 3) := by decide +kernel
theorem dX12_deletes_51 : decode cX12_deletes 51 = .ok (.aload_n 0, 1) := by decide +kernel
theorem dX12_deletes_52 : decode cX12_deletes 52 = .ok (.dup, 1) := by decide +kernel
theorem dX12_deletes_53 : decode cX12_deletes 53 = .ok (.getfield 280, 3) := by decide +kernel
theorem dX12_deletes_56 : decode cX12_deletes 56 = .ok (.iconst 1, 1) := by decide +kernel
theorem dX12_deletes_57 : decode cX12_deletes 57 = .ok (.isub, 1) := by decide +kernel
theorem dX12_deletes_58 : decode cX12_deletes 58 = .ok (.putfield 280, 3) := by decide +kernel
theorem dX12_deletes_61 : decode cX12_deletes 61 = .ok (.iconst 0, 1) := by decide +kernel
theorem dX12_deletes_62 : decode cX12_deletes 62 = .ok (.istore 4, 2) := by decide +kernel
theorem dX12_deletes_64 : decode cX12_deletes 64 = .ok (.iload 4, 2) := by decide +kernel
theorem dX12_deletes_66 : decode cX12_deletes 66 = .ok (.aload_n 0, 1) := by decide +kernel
theorem dX12_deletes_67 : decode cX12_deletes 67 = .ok (.getfield 290, 3) := by decide +kernel
theorem dX12_deletes_70 : decode cX12_deletes 70 = .ok (.if_icmp .ge 86, 3) := by decide +kernel
theorem dX12_deletes_73 : decode cX12_deletes 73 = .ok (.iconst 0, 1) := by decide +kernel
theorem dX12_deletes_74 : decode cX12_deletes 74 = .ok (.istore 5, 2) := by decide +kernel
theorem dX12_deletes_76 : decode cX12_deletes 76 = .ok (.iload 5, 2) := by decide +kernel
theorem dX12_deletes_78 : decode cX12_deletes 78 = .ok (.aload_n 0, 1) := by decide +kernel
theorem dX12_deletes_79 : decode cX12_deletes 79 = .ok (.getfield 69, 3) := by decide +kernel
theorem dX12_deletes_82 : decode cX12_deletes 82 = .ok (.aload_n 0, 1) := by decide +kernel
theorem dX12_deletes_83 : decode cX12_deletes 83 = .ok (.getfield 82, 3) := by decide +kernel
theorem dX12_deletes_86 : decode cX12_deletes 86 = .ok (.iload 4, 2) := by decide +kernel
theorem dX12_deletes_88 : decode cX12_deletes 88 = .ok (.iaload, 1) := by decide +kernel
theorem dX12_deletes_89 : decode cX12_deletes 89 = .ok (.iaload, 1) := by decide +kernel
theorem dX12_deletes_90 : decode cX12_deletes 90 = .ok (.if_icmp .ge 60, 3) := by decide +kernel
theorem dX12_deletes_93 : decode cX12_deletes 93 = .ok (.bipush 100, 2) := by decide +kernel
theorem dX12_deletes_95 : decode cX12_deletes 95 = .ok (.aload_n 0, 1) := by decide +kernel
theorem dX12_deletes_96 : decode cX12_deletes 96 = .ok (.getfield 82, 3) := by decide +kernel
theorem dX12_deletes_99 : decode cX12_deletes 99 = .ok (.iload 4, 2) := by decide +kernel
theorem dX12_deletes_101 : decode cX12_deletes 101 = .ok (.iaload, 1) := by decide +kernel
theorem dX12_deletes_102 : decode cX12_deletes 102 = .ok (.imul, 1) := by decide +kernel
theorem dX12_deletes_103 : decode cX12_deletes 103 = .ok (.iload 5, 2) := by decide +kernel
theorem dX12_deletes_105 : decode cX12_deletes 105 = .ok (.iadd, 1) := by decide +kernel
theorem dX12_deletes_106 : decode cX12_deletes 106 = .ok (.istore 6, 2) := by decide +kernel
theorem dX12_deletes_108 : decode cX12_deletes 108 = .ok (.aload_n 0, 1) := by decide +kernel
theorem dX12_deletes_109 : decode cX12_deletes 109 = .ok (.getfield 72, 3) := by decide +kernel
theorem dX12_deletes_112 : decode cX12_deletes 112 = .ok (.iload 6, 2) := by decide +kernel
theorem dX12_deletes_114 : decode cX12_deletes 114 = .ok (.baload, 1) := by decide +kernel
theorem dX12_deletes_115 : decode cX12_deletes 115 = .ok (.ifCond .eq 29, 3) := by decide +kernel
theorem dX12_deletes_118 : decode cX12_deletes 118 = .ok (.aload_n 0, 1) := by decide +kernel
theorem dX12_deletes_119 : decode cX12_deletes 119 = .ok (.getfield 50, 3) := by decide +kernel
theorem dX12_deletes_122 : decode cX12_deletes 122 = .ok (.aload_n 0, 1) := by decide +kernel
theorem dX12_deletes_123 : decode cX12_deletes 123 = .ok (.getfield 66, 3) := by decide +kernel
theorem dX12_deletes_126 : decode cX12_deletes 126 = .ok (.iload 6, 2) := by decide +kernel
theorem dX12_deletes_128 : decode cX12_deletes 128 = .ok (.iaload, 1) := by decide +kernel
theorem dX12_deletes_129 : decode cX12_deletes 129 = .ok (.iaload, 1) := by decide +kernel
theorem dX12_deletes_130 : decode cX12_deletes 130 = .ok (.iload_n 1, 1) := by decide +kernel
theorem dX12_deletes_131 : decode cX12_deletes 131 = .ok (.if_icmp .ne 13, 3) := by decide +kernel
theorem dX12_deletes_134 : decode cX12_deletes 134 = .ok (.aload_n 0, 1) := by decide +kernel
theorem dX12_deletes_135 : decode cX12_deletes 135 = .ok (.getfield 72, 3) := by decide +kernel
theorem dX12_deletes_138 : decode cX12_deletes 138 = .ok (.iload 6, 2) := by decide +kernel
theorem dX12_deletes_140 : decode cX12_deletes 140 = .ok (.iconst 0, 1) := by decide +kernel
theorem dX12_deletes_141 : decode cX12_deletes 141 = .ok (.bastore, 1) := by decide +kernel
theorem dX12_deletes_142 : decode cX12_deletes 142 = .ok (.iconst 1, 1) := by decide +kernel
theorem dX12_deletes_143 : decode cX12_deletes 143 = .ok (.istore_n 3, 1) := by decide +kernel
theorem dX12_deletes_144 : decode cX12_deletes 144 = .ok (.iinc 5 1, 3) := by decide +kernel
theorem dX12_deletes_147 : decode cX12_deletes 147 = .ok (.goto (-71), 3) := by decide +kernel
theorem dX12_deletes_150 : decode cX12_deletes 150 = .ok (.iinc 4 1, 3) := by decide +kernel
theorem dX12_deletes_153 : decode cX12_deletes 153 = .ok (.goto (-89), 3) := by decide +kernel
theorem dX12_deletes_156 : decode cX12_deletes 156 = .ok (.iload_n 3, 1) := by decide +kernel
theorem dX12_deletes_157 : decode cX12_deletes 157 = .ok (.ireturn, 1) := by decide +kernel
theorem dX12_add_0 : decode cX12_add 0 = .ok (.aload_n 0, 1) := by decide +kernel
theorem dX12_add_1 : decode cX12_add 1 = .ok (.iload_n 1, 1) := by decide +kernel
theorem dX12_add_2 : decode cX12_add 2 = .ok (.invokestatic 293, 3) := by decide +kernel
theorem dX12_add_5 : decode cX12_add 5 = .ok (.aload_n 0, 1) := by decide +kernel
theorem dX12_add_6 : decode cX12_add 6 = .ok (.getfield 297, 3) := by decide +kernel
theorem dX12_add_9 : decode cX12_add 9 = .ok (.ifCond .ne 25, 3) := by decide +kernel
theorem dX12_add_12 : decode cX12_add 12 = .ok (.aload_n 0, 1) := by decide +kernel
theorem dX12_add_13 : decode cX12_add 13 = .ok (.getfield 280, 3) := by decide +kernel
theorem dX12_add_16 : decode cX12_add 16 = .ok (.bipush 12, 2) := by decide +kernel
theorem dX12_add_18 : decode cX12_add 18 = .ok (.if_icmp .lt 12, 3) := by decide +kernel
theorem dX12_add_21 : decode cX12_add 21 = .ok (.aload_n 0, 1) := by decide +kernel
theorem dX12_add_22 : decode cX12_add 22 = .ok (.iload_n 1, 1) := by decide +kernel
theorem dX12_add_23 : decode cX12_add 23 = .ok (.invokevirtual 283, 3) := by decide +kernel
theorem dX12_add_26 : decode cX12_add 26 = .ok (.iconst (-1), 1) := by decide +kernel
theorem dX12_add_27 : decode cX12_add 27 = .ok (.if_icmp .eq 7, 3) := by decide +kernel
theorem dX12_add_30 : decode cX12_add 30 = .ok (.iconst 1, 1) := by decide +kernel
theorem dX12_add_31 : decode cX12_add 31 = .ok (.goto 4, 3) := by decide +kernel
theorem dX12_add_34 : decode cX12_add 34 = .ok (.iconst 0, 1) := by decide +kernel
theorem dX12_add_35 : decode cX12_add 35 = .ok (.iconst 1, 1) := by decide +kernel
theorem dX12_add_36 : decode cX12_add 36 = .ok (.invokevirtual 248, 3) := by decide +kernel
theorem dX12_add_39 : decode cX12_add 39 = .ok (.ifCond .ne 5, 3) := by decide +kernel
theorem dX12_add_42 : decode cX12_add 42 = .ok (.iconst 0, 1) := by decide +kernel
theorem dX12_add_43 : decode cX12_add 43 = .ok (.ireturn, 1) := by decide +kernel
theorem dX12_add_44 : decode cX12_add 44 = .ok (.aload_n 0, 1) := by decide +kernel
theorem dX12_add_45 : decode cX12_add 45 = .ok (.iload_n 1, 1) := by decide +kernel
theorem dX12_add_46 : decode cX12_add 46 = .ok (.invokevirtual 300, 3) := by decide +kernel
theorem dX12_add_49 : decode cX12_add 49 = .ok (.pop, 1) := by decide +kernel
theorem dX12_add_50 : decode cX12_add 50 = .ok (.aload_n 0, 1) := by decide +kernel
theorem dX12_add_51 : decode cX12_add 51 = .ok (.getfield 35, 3) := by decide +kernel
theorem dX12_add_54 : decode cX12_add 54 = .ok (.aload_n 0, 1) := by decide +kernel
theorem dX12_add_55 : decode cX12_add 55 = .ok (.getfield 280, 3) := by decide +kernel
theorem dX12_add_58 : decode cX12_add 58 = .ok (.iload_n 1, 1) := by decide +kernel
theorem dX12_add_59 : decode cX12_add 59 = .ok (.iastore, 1) := by decide +kernel
theorem dX12_add_60 : decode cX12_add 60 = .ok (.aload_n 0, 1) := by decide +kernel
theorem dX12_add_61 : decode cX12_add 61 = .ok (.getfield 38, 3) := by decide +kernel
theorem dX12_add_64 : decode cX12_add 64 = .ok (.aload_n 0, 1) := by decide +kernel
theorem dX12_add_65 : decode cX12_add 65 = .ok (.getfield 280, 3) := by decide +kernel
theorem dX12_add_68 : decode cX12_add 68 = .ok (.aload_n 0, 1) := by decide +kernel
theorem dX12_add_69 : decode cX12_add 69 = .ok (.getfield 274, 3) := by decide +kernel
theorem dX12_add_72 : decode cX12_add 72 = .ok (.iastore, 1) := by decide +kernel
theorem dX12_add_73 : decode cX12_add 73 = .ok (.aload_n 0, 1) := by decide +kernel
theorem dX12_add_74 : decode cX12_add 74 = .ok (.getfield 41, 3) := by decide +kernel
theorem dX12_add_77 : decode cX12_add 77 = .ok (.aload_n 0, 1) := by decide +kernel
theorem dX12_add_78 : decode cX12_add 78 = .ok (.getfield 280, 3) := by decide +kernel
theorem dX12_add_81 : decode cX12_add 81 = .ok (.aload_n 0, 1) := by decide +kernel
theorem dX12_add_82 : decode cX12_add 82 = .ok (.getfield 277, 3) := by decide +kernel
theorem dX12_add_85 : decode cX12_add 85 = .ok (.iastore, 1) := by decide +kernel
theorem dX12_add_86 : decode cX12_add 86 = .ok (.iconst 0, 1) := by decide +kernel
theorem dX12_add_87 : decode cX12_add 87 = .ok (.istore_n 2, 1) := by decide +kernel
theorem dX12_add_88 : decode cX12_add 88 = .ok (.iload_n 2, 1) := by decide +kernel
theorem dX12_add_89 : decode cX12_add 89 = .ok (.bipush 40, 2) := by decide +kernel
theorem dX12_add_91 : decode cX12_add 91 = .ok (.if_icmp .ge 29, 3) := by decide +kernel
theorem dX12_add_94 : decode cX12_add 94 = .ok (.aload_n 0, 1) := by decide +kernel
theorem dX12_add_95 : decode cX12_add 95 = .ok (.getfield 44, 3) := by decide +kernel
theorem dX12_add_98 : decode cX12_add 98 = .ok (.bipush 40, 2) := by decide +kernel
theorem dX12_add_100 : decode cX12_add 100 = .ok (.aload_n 0, 1) := by decide +kernel
theorem dX12_add_101 : decode cX12_add 101 = .ok (.getfield 280, 3) := by decide +kernel
theorem dX12_add_104 : decode cX12_add 104 = .ok (.imul, 1) := by decide +kernel
theorem dX12_add_105 : decode cX12_add 105 = .ok (.iload_n 2, 1) := by decide +kernel
theorem dX12_add_106 : decode cX12_add 106 = .ok (.iadd, 1) := by decide +kernel
theorem dX12_add_107 : decode cX12_add 107 = .ok (.aload_n 0, 1) := by decide +kernel
theorem dX12_add_108 : decode cX12_add 108 = .ok (.getfield 29, 3) := by decide +kernel
theorem dX12_add_111 : decode cX12_add 111 = .ok (.iload_n 2, 1) := by decide +kernel
theorem dX12_add_112 : decode cX12_add 112 = .ok (.laload, 1) := by decide +kernel
theorem dX12_add_113 : decode cX12_add 113 = .ok (.lastore, 1) := by decide +kernel
theorem dX12_add_114 : decode cX12_add 114 = .ok (.iinc 2 1, 3) := by decide +kernel
theorem dX12_add_117 : decode cX12_add 117 = .ok (.goto (-29), 3) := by decide +kernel
theorem dX12_add_120 : decode cX12_add 120 = .ok (.iconst 0, 1) := by decide +kernel
theorem dX12_add_121 : decode cX12_add 121 = .ok (.istore_n 2, 1) := by decide +kernel
theorem dX12_add_122 : decode cX12_add 122 = .ok (.iload_n 2, 1) := by decide +kernel
theorem dX12_add_123 : decode cX12_add 123 = .ok (.iconst 2, 1) := by decide +kernel
theorem dX12_add_124 : decode cX12_add 124 = .ok (.if_icmp .ge 35, 3) := by decide +kernel
theorem dX12_add_127 : decode cX12_add 127 = .ok (.aload_n 0, 1) := by decide +kernel
theorem dX12_add_128 : decode cX12_add 128 = .ok (.getfield 47, 3) := by decide +kernel
theorem dX12_add_131 : decode cX12_add 131 = .ok (.iconst 2, 1) := by decide +kernel
theorem dX12_add_132 : decode cX12_add 132 = .ok (.aload_n 0, 1) := by decide +kernel
theorem dX12_add_133 : decode cX12_add 133 = .ok (.getfield 280, 3) := by decide +kernel
theorem dX12_add_136 : decode cX12_add 136 = .ok (.imul, 1) := by decide +kernel
theorem dX12_add_137 : decode cX12_add 137 = .ok (.iload_n 2, 1) := by decide +kernel
theorem dX12_add_138 : decode cX12_add 138 = .ok (.iadd, 1) := by decide +kernel
theorem dX12_add_139 : decode cX12_add 139 = .ok (.aload_n 0, 1) := by decide +kernel
theorem dX12_add_140 : decode cX12_add 140 = .ok (.getfield 32, 3) := by decide +kernel
theorem dX12_add_143 : decode cX12_add 143 = .ok (.iload_n 2, 1) := by decide +kernel
theorem dX12_add_144 : decode cX12_add 144 = .ok (.iaload, 1) := by decide +kernel
theorem dX12_add_145 : decode cX12_add 145 = .ok (.iastore, 1) := by decide +kernel
theorem dX12_add_146 : decode cX12_add 146 = .ok (.aload_n 0, 1) := by decide +kernel
theorem dX12_add_147 : decode cX12_add 147 = .ok (.getfield 32, 3) := by decide +kernel
theorem dX12_add_150 : decode cX12_add 150 = .ok (.iload_n 2, 1) := by decide +kernel
theorem dX12_add_151 : decode cX12_add 151 = .ok (.iconst 0, 1) := by decide +kernel
theorem dX12_add_152 : decode cX12_add 152 = .ok (.iastore, 1) := by decide +kernel
theorem dX12_add_153 : decode cX12_add 153 = .ok (.iinc 2 1, 3) := by decide +kernel
theorem dX12_add_156 : decode cX12_add 156 = .ok (.goto (-34), 3) := by decide +kernel
theorem dX12_add_159 : decode cX12_add 159 = .ok (.aload_n 0, 1) := by decide +kernel
theorem dX12_add_160 : decode cX12_add 160 = .ok (.iconst 0, 1) := by decide +kernel
theorem dX12_add_161 : decode cX12_add 161 = .ok (.putfield 274, 3) := by decide +kernel
theorem dX12_add_164 : decode cX12_add 164 = .ok (.aload_n 0, 1) := by decide +kernel
theorem dX12_add_165 : decode cX12_add 165 = .ok (.iconst 0, 1) := by decide +kernel
theorem dX12_add_166 : decode cX12_add 166 = .ok (.putfield 277, 3) := by decide +kernel
theorem dX12_add_169 : decode cX12_add 169 = .ok (.aload_n 0, 1) := by decide +kernel
theorem dX12_add_170 : decode cX12_add 170 = .ok (.dup, 1) := by decide +kernel
theorem dX12_add_171 : decode cX12_add 171 = .ok (.getfield 280, 3) := by decide +kernel
theorem dX12_add_174 : decode cX12_add 174 = .ok (.iconst 1, 1) := by decide +kernel
theorem dX12_add_175 : decode cX12_add 175 = .ok (.iadd, 1) := by decide +kernel
theorem dX12_add_176 : decode cX12_add 176 = .ok (.putfield 280, 3) := by decide +kernel
theorem dX12_add_179 : decode cX12_add 179 = .ok (.aload_n 0, 1) := by decide +kernel
theorem dX12_add_180 : decode cX12_add 180 = .ok (.iconst 1, 1) := by decide +kernel
theorem dX12_add_181 : decode cX12_add 181 = .ok (.putfield 255, 3) := by decide +kernel
theorem dX12_add_184 : decode cX12_add 184 = .ok (.aload_n 0, 1) := by decide +kernel
theorem dX12_add_185 : decode cX12_add 185 = .ok (.getfield 280, 3) := by decide +kernel
theorem dX12_add_188 : decode cX12_add 188 = .ok (.ireturn, 1) := by decide +kernel
theorem dX12_delete_0 : decode cX12_delete 0 = .ok (.aload_n 0, 1) := by decide +kernel
theorem dX12_delete_1 : decode cX12_delete 1 = .ok (.iload_n 1, 1) := by decide +kernel
theorem dX12_delete_2 : decode cX12_delete 2 = .ok (.invokestatic 293, 3) := by decide +kernel
theorem dX12_delete_5 : decode cX12_delete 5 = .ok (.aload_n 0, 1) := by decide +kernel
theorem dX12_delete_6 : decode cX12_delete 6 = .ok (.getfield 297, 3) := by decide +kernel
theorem dX12_delete_9 : decode cX12_delete 9 = .ok (.ifCond .ne 7, 3) := by decide +kernel
theorem dX12_delete_12 : decode cX12_delete 12 = .ok (.iconst 1, 1) := by decide +kernel
theorem dX12_delete_13 : decode cX12_delete 13 = .ok (.goto 4, 3) := by decide +kernel
theorem dX12_delete_16 : decode cX12_delete 16 = .ok (.iconst 0, 1) := by decide +kernel
theorem dX12_delete_17 : decode cX12_delete 17 = .ok (.iconst 1, 1) := by decide +kernel
theorem dX12_delete_18 : decode cX12_delete 18 = .ok (.invokevirtual 248, 3) := by decide +kernel
theorem dX12_delete_21 : decode cX12_delete 21 = .ok (.ifCond .eq 15, 3) := by decide +kernel
theorem dX12_delete_24 : decode cX12_delete 24 = .ok (.aload_n 0, 1) := by decide +kernel
theorem dX12_delete_25 : decode cX12_delete 25 = .ok (.iload_n 1, 1) := by decide +kernel
theorem dX12_delete_26 : decode cX12_delete 26 = .ok (.invokevirtual 300, 3) := by decide +kernel
theorem dX12_delete_29 : decode cX12_delete 29 = .ok (.ifCond .eq 7, 3) := by decide +kernel
theorem dX12_delete_32 : decode cX12_delete 32 = .ok (.iconst 1, 1) := by decide +kernel
theorem dX12_delete_33 : decode cX12_delete 33 = .ok (.goto 4, 3) := by decide +kernel
theorem dX12_delete_36 : decode cX12_delete 36 = .ok (.iconst 0, 1) := by decide +kernel
theorem dX12_delete_37 : decode cX12_delete 37 = .ok (.ireturn, 1) := by decide +kernel
theorem dX12_writes1_0 : decode cX12_writes1 0 = .ok (.aload_n 0, 1) := by decide +kernel
theorem dX12_writes1_1 : decode cX12_writes1 1 = .ok (.getfield 206, 3) := by decide +kernel
theorem dX12_writes1_4 : decode cX12_writes1 4 = .ok (.ifCond .ne 70, 3) := by decide +kernel
theorem dX12_writes1_7 : decode cX12_writes1 7 = .ok (.aload_n 0, 1) := by decide +kernel
theorem dX12_writes1_8 : decode cX12_writes1 8 = .ok (.iconst 1, 1) := by decide +kernel
theorem dX12_writes1_9 : decode cX12_writes1 9 = .ok (.putfield 297, 3) := by decide +kernel
theorem dX12_writes1_12 : decode cX12_writes1 12 = .ok (.aload_n 0, 1) := by decide +kernel
theorem dX12_writes1_13 : decode cX12_writes1 13 = .ok (.iconst 0, 1) := by decide +kernel
theorem dX12_writes1_14 : decode cX12_writes1 14 = .ok (.putfield 280, 3) := by decide +kernel
theorem dX12_writes1_17 : decode cX12_writes1 17 = .ok (.aload_n 0, 1) := by decide +kernel
theorem dX12_writes1_18 : decode cX12_writes1 18 = .ok (.iconst 0, 1) := by decide +kernel
theorem dX12_writes1_19 : decode cX12_writes1 19 = .ok (.putfield 303, 3) := by decide +kernel
theorem dX12_writes1_22 : decode cX12_writes1 22 = .ok (.aload_n 0, 1) := by decide +kernel
theorem dX12_writes1_23 : decode cX12_writes1 23 = .ok (.iconst 0, 1) := by decide +kernel
theorem dX12_writes1_24 : decode cX12_writes1 24 = .ok (.putfield 306, 3) := by decide +kernel
theorem dX12_writes1_27 : decode cX12_writes1 27 = .ok (.aload_n 0, 1) := by decide +kernel
theorem dX12_writes1_28 : decode cX12_writes1 28 = .ok (.iconst 0, 1) := by decide +kernel
theorem dX12_writes1_29 : decode cX12_writes1 29 = .ok (.putfield 309, 3) := by decide +kernel
theorem dX12_writes1_32 : decode cX12_writes1 32 = .ok (.aload_n 0, 1) := by decide +kernel
theorem dX12_writes1_33 : decode cX12_writes1 33 = .ok (.iconst 0, 1) := by decide +kernel
theorem dX12_writes1_34 : decode cX12_writes1 34 = .ok (.putfield 312, 3) := by decide +kernel
theorem dX12_writes1_37 : decode cX12_writes1 37 = .ok (.aload_n 0, 1) := by decide +kernel
theorem dX12_writes1_38 : decode cX12_writes1 38 = .ok (.iconst 0, 1) := by decide +kernel
theorem dX12_writes1_39 : decode cX12_writes1 39 = .ok (.putfield 315, 3) := by decide +kernel
theorem dX12_writes1_42 : decode cX12_writes1 42 = .ok (.aload_n 0, 1) := by decide +kernel
theorem dX12_writes1_43 : decode cX12_writes1 43 = .ok (.iconst 0, 1) := by decide +kernel
theorem dX12_writes1_44 : decode cX12_writes1 44 = .ok (.putfield 318, 3) := by decide +kernel
theorem dX12_writes1_47 : decode cX12_writes1 47 = .ok (.aload_n 0, 1) := by decide +kernel
theorem dX12_writes1_48 : decode cX12_writes1 48 = .ok (.iconst 0, 1) := by decide +kernel
theorem dX12_writes1_49 : decode cX12_writes1 49 = .ok (.putfield 290, 3) := by decide +kernel
theorem dX12_writes1_52 : decode cX12_writes1 52 = .ok (.iconst 0, 1) := by decide +kernel
theorem dX12_writes1_53 : decode cX12_writes1 53 = .ok (.istore_n 1, 1) := by decide +kernel
theorem dX12_writes1_54 : decode cX12_writes1 54 = .ok (.iload_n 1, 1) := by decide +kernel
theorem dX12_writes1_55 : decode cX12_writes1 55 = .ok (.iconst 5, 1) := by decide +kernel
theorem dX12_writes1_56 : decode cX12_writes1 56 = .ok (.if_icmp .ge 16, 3) := by decide +kernel
theorem dX12_writes1_59 : decode cX12_writes1 59 = .ok (.aload_n 0, 1) := by decide +kernel
theorem dX12_writes1_60 : decode cX12_writes1 60 = .ok (.getfield 97, 3) := by decide +kernel
theorem dX12_writes1_63 : decode cX12_writes1 63 = .ok (.iload_n 1, 1) := by decide +kernel
theorem dX12_writes1_64 : decode cX12_writes1 64 = .ok (.iconst (-1), 1) := by decide +kernel
theorem dX12_writes1_65 : decode cX12_writes1 65 = .ok (.iastore, 1) := by decide +kernel
theorem dX12_writes1_66 : decode cX12_writes1 66 = .ok (.iinc 1 1, 3) := by decide +kernel
theorem dX12_writes1_69 : decode cX12_writes1 69 = .ok (.goto (-15), 3) := by decide +kernel
theorem dX12_writes1_72 : decode cX12_writes1 72 = .ok (.iconst 0, 1) := by decide +kernel
theorem dX12_writes1_73 : decode cX12_writes1 73 = .ok (.ireturn, 1) := by decide +kernel
theorem dX12_writes1_74 : decode cX12_writes1 74 = .ok (.aload_n 0, 1) := by decide +kernel
theorem dX12_writes1_75 : decode cX12_writes1 75 = .ok (.dup, 1) := by decide +kernel
theorem dX12_writes1_76 : decode cX12_writes1 76 = .ok (.getfield 206, 3) := by decide +kernel
theorem dX12_writes1_79 : decode cX12_writes1 79 = .ok (.aload_n 0, 1) := by decide +kernel
theorem dX12_writes1_80 : decode cX12_writes1 80 = .ok (.getfield 206, 3) := by decide +kernel
theorem dX12_writes1_83 : decode cX12_writes1 83 = .ok (.ifCond .le 7, 3) := by decide +kernel
theorem dX12_writes1_86 : decode cX12_writes1 86 = .ok (.iconst 1, 1) := by decide +kernel
theorem dX12_writes1_87 : decode cX12_writes1 87 = .ok (.goto 4, 3) := by decide +kernel
theorem dX12_writes1_90 : decode cX12_writes1 90 = .ok (.iconst 0, 1) := by decide +kernel
theorem dX12_writes1_91 : decode cX12_writes1 91 = .ok (.isub, 1) := by decide +kernel
theorem dX12_writes1_92 : decode cX12_writes1 92 = .ok (.putfield 206, 3) := by decide +kernel
theorem dX12_writes1_95 : decode cX12_writes1 95 = .ok (.aload_n 0, 1) := by decide +kernel
theorem dX12_writes1_96 : decode cX12_writes1 96 = .ok (.dup, 1) := by decide +kernel
theorem dX12_writes1_97 : decode cX12_writes1 97 = .ok (.getfield 321, 3) := by decide +kernel
theorem dX12_writes1_100 : decode cX12_writes1 100 = .ok (.iconst 1, 1) := by decide +kernel
theorem dX12_writes1_101 : decode cX12_writes1 101 = .ok (.iadd, 1) := by decide +kernel
theorem dX12_writes1_102 : decode cX12_writes1 102 = .ok (.putfield 321, 3) := by decide +kernel
theorem dX12_writes1_105 : decode cX12_writes1 105 = .ok (.iconst 1, 1) := by decide +kernel
theorem dX12_writes1_106 : decode cX12_writes1 106 = .ok (.ireturn, 1) := by decide +kernel
theorem dX12_flushes_0 : decode cX12_flushes 0 = .ok (.aload_n 0, 1) := by decide +kernel
theorem dX12_flushes_1 : decode cX12_flushes 1 = .ok (.getfield 280, 3) := by decide +kernel
theorem dX12_flushes_4 : decode cX12_flushes 4 = .ok (.istore_n 1, 1) := by decide +kernel
theorem dX12_flushes_5 : decode cX12_flushes 5 = .ok (.iload_n 1, 1) := by decide +kernel
theorem dX12_flushes_6 : decode cX12_flushes 6 = .ok (.ifCond .ne 5, 3) := by decide +kernel
theorem dX12_flushes_9 : decode cX12_flushes 9 = .ok (.iconst (-1), 1) := by decide +kernel
theorem dX12_flushes_10 : decode cX12_flushes 10 = .ok (.ireturn, 1) := by decide +kernel
theorem dX12_flushes_11 : decode cX12_flushes 11 = .ok (.iconst 0, 1) := by decide +kernel
theorem dX12_flushes_12 : decode cX12_flushes 12 = .ok (.istore_n 2, 1) := by decide +kernel
theorem dX12_flushes_13 : decode cX12_flushes 13 = .ok (.iload_n 2, 1) := by decide +kernel
theorem dX12_flushes_14 : decode cX12_flushes 14 = .ok (.iload_n 1, 1) := by decide +kernel
theorem dX12_flushes_15 : decode cX12_flushes 15 = .ok (.if_icmp .gt 19, 3) := by decide +kernel
theorem dX12_flushes_18 : decode cX12_flushes 18 = .ok (.aload_n 0, 1) := by decide +kernel
theorem dX12_flushes_19 : decode cX12_flushes 19 = .ok (.invokevirtual 324, 3) := by decide +kernel
theorem dX12_flushes_22 : decode cX12_flushes 22 = .ok (.ifCond .ne 6, 3) := by decide +kernel
theorem dX12_flushes_25 : decode cX12_flushes 25 = .ok (.bipush (-2), 2) := by decide +kernel
theorem dX12_flushes_27 : decode cX12_flushes 27 = .ok (.ireturn, 1) := by decide +kernel
theorem dX12_flushes_28 : decode cX12_flushes 28 = .ok (.iinc 2 1, 3) := by decide +kernel
theorem dX12_flushes_31 : decode cX12_flushes 31 = .ok (.goto (-18), 3) := by decide +kernel
theorem dX12_flushes_34 : decode cX12_flushes 34 = .ok (.iconst 0, 1) := by decide +kernel
theorem dX12_flushes_35 : decode cX12_flushes 35 = .ok (.istore_n 2, 1) := by decide +kernel
theorem dX12_flushes_36 : decode cX12_flushes 36 = .ok (.iload_n 2, 1) := by decide +kernel
theorem dX12_flushes_37 : decode cX12_flushes 37 = .ok (.iload_n 1, 1) := by decide +kernel
theorem dX12_flushes_38 : decode cX12_flushes 38 = .ok (.if_icmp .ge 193, 3) := by decide +kernel
theorem dX12_flushes_41 : decode cX12_flushes 41 = .ok (.aload_n 0, 1) := by decide +kernel
theorem dX12_flushes_42 : decode cX12_flushes 42 = .ok (.getfield 50, 3) := by decide +kernel
theorem dX12_flushes_45 : decode cX12_flushes 45 = .ok (.aload_n 0, 1) := by decide +kernel
theorem dX12_flushes_46 : decode cX12_flushes 46 = .ok (.getfield 328, 3) := by decide +kernel
theorem dX12_flushes_49 : decode cX12_flushes 49 = .ok (.aload_n 0, 1) := by decide +kernel
theorem dX12_flushes_50 : decode cX12_flushes 50 = .ok (.getfield 35, 3) := by decide +kernel
theorem dX12_flushes_53 : decode cX12_flushes 53 = .ok (.iload_n 2, 1) := by decide +kernel
theorem dX12_flushes_54 : decode cX12_flushes 54 = .ok (.iaload, 1) := by decide +kernel
theorem dX12_flushes_55 : decode cX12_flushes 55 = .ok (.iastore, 1) := by decide +kernel
theorem dX12_flushes_56 : decode cX12_flushes 56 = .ok (.aload_n 0, 1) := by decide +kernel
theorem dX12_flushes_57 : decode cX12_flushes 57 = .ok (.getfield 53, 3) := by decide +kernel
theorem dX12_flushes_60 : decode cX12_flushes 60 = .ok (.aload_n 0, 1) := by decide +kernel
theorem dX12_flushes_61 : decode cX12_flushes 61 = .ok (.getfield 328, 3) := by decide +kernel
theorem dX12_flushes_64 : decode cX12_flushes 64 = .ok (.aload_n 0, 1) := by decide +kernel
theorem dX12_flushes_65 : decode cX12_flushes 65 = .ok (.getfield 38, 3) := by decide +kernel
theorem dX12_flushes_68 : decode cX12_flushes 68 = .ok (.iload_n 2, 1) := by decide +kernel
theorem dX12_flushes_69 : decode cX12_flushes 69 = .ok (.iaload, 1) := by decide +kernel
theorem dX12_flushes_70 : decode cX12_flushes 70 = .ok (.iastore, 1) := by decide +kernel
theorem dX12_flushes_71 : decode cX12_flushes 71 = .ok (.aload_n 0, 1) := by decide +kernel
theorem dX12_flushes_72 : decode cX12_flushes 72 = .ok (.getfield 56, 3) := by decide +kernel
theorem dX12_flushes_75 : decode cX12_flushes 75 = .ok (.aload_n 0, 1) := by decide +kernel
theorem dX12_flushes_76 : decode cX12_flushes 76 = .ok (.getfield 328, 3) := by decide +kernel
theorem dX12_flushes_79 : decode cX12_flushes 79 = .ok (.aload_n 0, 1) := by decide +kernel
theorem dX12_flushes_80 : decode cX12_flushes 80 = .ok (.getfield 41, 3) := by decide +kernel
theorem dX12_flushes_83 : decode cX12_flushes 83 = .ok (.iload_n 2, 1) := by decide +kernel
theorem dX12_flushes_84 : decode cX12_flushes 84 = .ok (.iaload, 1) := by decide +kernel
theorem dX12_flushes_85 : decode cX12_flushes 85 = .ok (.iastore, 1) := by decide +kernel
theorem dX12_flushes_86 : decode cX12_flushes 86 = .ok (.iconst 0, 1) := by decide +kernel
theorem dX12_flushes_87 : decode cX12_flushes 87 = .ok (.istore_n 3, 1) := by decide +kernel
theorem dX12_flushes_88 : decode cX12_flushes 88 = .ok (.iload_n 3, 1) := by decide +kernel
theorem dX12_flushes_89 : decode cX12_flushes 89 = .ok (.bipush 40, 2) := by decide +kernel
theorem dX12_flushes_91 : decode cX12_flushes 91 = .ok (.if_icmp .ge 34, 3) := by decide +kernel
theorem dX12_flushes_94 : decode cX12_flushes 94 = .ok (.aload_n 0, 1) := by decide +kernel
theorem dX12_flushes_95 : decode cX12_flushes 95 = .ok (.getfield 60, 3) := by decide +kernel
theorem dX12_flushes_98 : decode cX12_flushes 98 = .ok (.bipush 40, 2) := by decide +kernel
theorem dX12_flushes_100 : decode cX12_flushes 100 = .ok (.aload_n 0, 1) := by decide +kernel
theorem dX12_flushes_101 : decode cX12_flushes 101 = .ok (.getfield 328, 3) := by decide +kernel
theorem dX12_flushes_104 : decode cX12_flushes 104 = .ok (.imul, 1) := by decide +kernel
theorem dX12_flushes_105 : decode cX12_flushes 105 = .ok (.iload_n 3, 1) := by decide +kernel
theorem dX12_flushes_106 : decode cX12_flushes 106 = .ok (.iadd, 1) := by decide +kernel
theorem dX12_flushes_107 : decode cX12_flushes 107 = .ok (.aload_n 0, 1) := by decide +kernel
theorem dX12_flushes_108 : decode cX12_flushes 108 = .ok (.getfield 44, 3) := by decide +kernel
theorem dX12_flushes_111 : decode cX12_flushes 111 = .ok (.bipush 40, 2) := by decide +kernel
theorem dX12_flushes_113 : decode cX12_flushes 113 = .ok (.iload_n 2, 1) := by decide +kernel
theorem dX12_flushes_114 : decode cX12_flushes 114 = .ok (.imul, 1) := by decide +kernel
theorem dX12_flushes_115 : decode cX12_flushes 115 = .ok (.iload_n 3, 1) := by decide +kernel
theorem dX12_flushes_116 : decode cX12_flushes 116 = .ok (.iadd, 1) := by decide +kernel
theorem dX12_flushes_117 : decode cX12_flushes 117 = .ok (.laload, 1) := by decide +kernel
theorem dX12_flushes_118 : decode cX12_flushes 118 = .ok (.lastore, 1) := by decide +kernel
theorem dX12_flushes_119 : decode cX12_flushes 119 = .ok (.iinc 3 1, 3) := by decide +kernel
theorem dX12_flushes_122 : decode cX12_flushes 122 = .ok (.goto (-34), 3) := by decide +kernel
theorem dX12_flushes_125 : decode cX12_flushes 125 = .ok (.aload_n 0, 1) := by decide +kernel
theorem dX12_flushes_126 : decode cX12_flushes 126 = .ok (.getfield 63, 3) := by decide +kernel
theorem dX12_flushes_129 : decode cX12_flushes 129 = .ok (.iconst 2, 1) := by decide +kernel
theorem dX12_flushes_130 : decode cX12_flushes 130 = .ok (.aload_n 0, 1) := by decide +kernel
theorem dX12_flushes_131 : decode cX12_flushes 131 = .ok (.getfield 328, 3) := by decide +kernel
theorem dX12_flushes_134 : decode cX12_flushes 134 = .ok (.imul, 1) := by decide +kernel
theorem dX12_flushes_135 : decode cX12_flushes 135 = .ok (.aload_n 0, 1) := by decide +kernel
theorem dX12_flushes_136 : decode cX12_flushes 136 = .ok (.getfield 47, 3) := by decide +kernel
theorem dX12_flushes_139 : decode cX12_flushes 139 = .ok (.iconst 2, 1) := by decide +kernel
theorem dX12_flushes_140 : decode cX12_flushes 140 = .ok (.iload_n 2, 1) := by decide +kernel
theorem dX12_flushes_141 : decode cX12_flushes 141 = .ok (.imul, 1) := by decide +kernel
theorem dX12_flushes_142 : decode cX12_flushes 142 = .ok (.iaload, 1) := by decide +kernel
theorem dX12_flushes_143 : decode cX12_flushes 143 = .ok (.iastore, 1) := by decide +kernel
theorem dX12_flushes_144 : decode cX12_flushes 144 = .ok (.aload_n 0, 1) := by decide +kernel
theorem dX12_flushes_145 : decode cX12_flushes 145 = .ok (.getfield 63, 3) := by decide +kernel
theorem dX12_flushes_148 : decode cX12_flushes 148 = .ok (.iconst 2, 1) := by decide +kernel
theorem dX12_flushes_149 : decode cX12_flushes 149 = .ok (.aload_n 0, 1) := by decide +kernel
theorem dX12_flushes_150 : decode cX12_flushes 150 = .ok (.getfield 328, 3) := by decide +kernel
theorem dX12_flushes_153 : decode cX12_flushes 153 = .ok (.imul, 1) := by decide +kernel
theorem dX12_flushes_154 : decode cX12_flushes 154 = .ok (.iconst 1, 1) := by decide +kernel
theorem dX12_flushes_155 : decode cX12_flushes 155 = .ok (.iadd, 1) := by decide +kernel
theorem dX12_flushes_156 : decode cX12_flushes 156 = .ok (.aload_n 0, 1) := by decide +kernel
theorem dX12_flushes_157 : decode cX12_flushes 157 = .ok (.getfield 47, 3) := by decide +kernel
theorem dX12_flushes_160 : decode cX12_flushes 160 = .ok (.iconst 2, 1) := by decide +kernel
theorem dX12_flushes_161 : decode cX12_flushes 161 = .ok (.iload_n 2, 1) := by decide +kernel
theorem dX12_flushes_162 : decode cX12_flushes 162 = .ok (.imul, 1) := by decide +kernel
theorem dX12_flushes_163 : decode cX12_flushes 163 = .ok (.iconst 1, 1) := by decide +kernel
theorem dX12_flushes_164 : decode cX12_flushes 164 = .ok (.iadd, 1) := by decide +kernel
theorem dX12_flushes_165 : decode cX12_flushes 165 = .ok (.iaload, 1) := by decide +kernel
theorem dX12_flushes_166 : decode cX12_flushes 166 = .ok (.iastore, 1) := by decide +kernel
theorem dX12_flushes_167 : decode cX12_flushes 167 = .ok (.aload_n 0, 1) := by decide +kernel
theorem dX12_flushes_168 : decode cX12_flushes 168 = .ok (.getfield 66, 3) := by decide +kernel
theorem dX12_flushes_171 : decode cX12_flushes 171 = .ok (.bipush 100, 2) := by decide +kernel
theorem dX12_flushes_173 : decode cX12_flushes 173 = .ok (.aload_n 0, 1) := by decide +kernel
theorem dX12_flushes_174 : decode cX12_flushes 174 = .ok (.getfield 331, 3) := by decide +kernel
theorem dX12_flushes_177 : decode cX12_flushes 177 = .ok (.imul, 1) := by decide +kernel
theorem dX12_flushes_178 : decode cX12_flushes 178 = .ok (.iload_n 2, 1) := by decide +kernel
theorem dX12_flushes_179 : decode cX12_flushes 179 = .ok (.iadd, 1) := by decide +kernel
theorem dX12_flushes_180 : decode cX12_flushes 180 = .ok (.aload_n 0, 1) := by decide +kernel
theorem dX12_flushes_181 : decode cX12_flushes 181 = .ok (.getfield 328, 3) := by decide +kernel
theorem dX12_flushes_184 : decode cX12_flushes 184 = .ok (.iastore, 1) := by decide +kernel
theorem dX12_flushes_185 : decode cX12_flushes 185 = .ok (.aload_n 0, 1) := by decide +kernel
theorem dX12_flushes_186 : decode cX12_flushes 186 = .ok (.getfield 72, 3) := by decide +kernel
theorem dX12_flushes_189 : decode cX12_flushes 189 = .ok (.bipush 100, 2) := by decide +kernel
theorem dX12_flushes_191 : decode cX12_flushes 191 = .ok (.aload_n 0, 1) := by decide +kernel
theorem dX12_flushes_192 : decode cX12_flushes 192 = .ok (.getfield 331, 3) := by decide +kernel
theorem dX12_flushes_195 : decode cX12_flushes 195 = .ok (.imul, 1) := by decide +kernel
theorem dX12_flushes_196 : decode cX12_flushes 196 = .ok (.iload_n 2, 1) := by decide +kernel
theorem dX12_flushes_197 : decode cX12_flushes 197 = .ok (.iadd, 1) := by decide +kernel
theorem dX12_flushes_198 : decode cX12_flushes 198 = .ok (.iconst 1, 1) := by decide +kernel
theorem dX12_flushes_199 : decode cX12_flushes 199 = .ok (.bastore, 1) := by decide +kernel
theorem dX12_flushes_200 : decode cX12_flushes 200 = .ok (.aload_n 0, 1) := by decide +kernel
theorem dX12_flushes_201 : decode cX12_flushes 201 = .ok (.getfield 76, 3) := by decide +kernel
theorem dX12_flushes_204 : decode cX12_flushes 204 = .ok (.bipush 100, 2) := by decide +kernel
theorem dX12_flushes_206 : decode cX12_flushes 206 = .ok (.aload_n 0, 1) := by decide +kernel
theorem dX12_flushes_207 : decode cX12_flushes 207 = .ok (.getfield 331, 3) := by decide +kernel
theorem dX12_flushes_210 : decode cX12_flushes 210 = .ok (.imul, 1) := by decide +kernel
theorem dX12_flushes_211 : decode cX12_flushes 211 = .ok (.iload_n 2, 1) := by decide +kernel
theorem dX12_flushes_212 : decode cX12_flushes 212 = .ok (.iadd, 1) := by decide +kernel
theorem dX12_flushes_213 : decode cX12_flushes 213 = .ok (.iconst 1, 1) := by decide +kernel
theorem dX12_flushes_214 : decode cX12_flushes 214 = .ok (.bastore, 1) := by decide +kernel
theorem dX12_flushes_215 : decode cX12_flushes 215 = .ok (.aload_n 0, 1) := by decide +kernel
theorem dX12_flushes_216 : decode cX12_flushes 216 = .ok (.dup, 1) := by decide +kernel
theorem dX12_flushes_217 : decode cX12_flushes 217 = .ok (.getfield 328, 3) := by decide +kernel
theorem dX12_flushes_220 : decode cX12_flushes 220 = .ok (.iconst 1, 1) := by decide +kernel
theorem dX12_flushes_221 : decode cX12_flushes 221 = .ok (.iadd, 1) := by decide +kernel
theorem dX12_flushes_222 : decode cX12_flushes 222 = .ok (.putfield 328, 3) := by decide +kernel
theorem dX12_flushes_225 : decode cX12_flushes 225 = .ok (.iinc 2 1, 3) := by decide +kernel
theorem dX12_flushes_228 : decode cX12_flushes 228 = .ok (.goto (-192), 3) := by decide +kernel
theorem dX12_flushes_231 : decode cX12_flushes 231 = .ok (.aload_n 0, 1) := by decide +kernel
theorem dX12_flushes_232 : decode cX12_flushes 232 = .ok (.getfield 69, 3) := by decide +kernel
theorem dX12_flushes_235 : decode cX12_flushes 235 = .ok (.aload_n 0, 1) := by decide +kernel
theorem dX12_flushes_236 : decode cX12_flushes 236 = .ok (.getfield 331, 3) := by decide +kernel
theorem dX12_flushes_239 : decode cX12_flushes 239 = .ok (.iload_n 1, 1) := by decide +kernel
theorem dX12_flushes_240 : decode cX12_flushes 240 = .ok (.iastore, 1) := by decide +kernel
theorem dX12_flushes_241 : decode cX12_flushes 241 = .ok (.aload_n 0, 1) := by decide +kernel
theorem dX12_flushes_242 : decode cX12_flushes 242 = .ok (.getfield 82, 3) := by decide +kernel
theorem dX12_flushes_245 : decode cX12_flushes 245 = .ok (.aload_n 0, 1) := by decide +kernel
theorem dX12_flushes_246 : decode cX12_flushes 246 = .ok (.getfield 290, 3) := by decide +kernel
theorem dX12_flushes_249 : decode cX12_flushes 249 = .ok (.aload_n 0, 1) := by decide +kernel
theorem dX12_flushes_250 : decode cX12_flushes 250 = .ok (.getfield 331, 3) := by decide +kernel
theorem dX12_flushes_253 : decode cX12_flushes 253 = .ok (.iastore, 1) := by decide +kernel
theorem dX12_flushes_254 : decode cX12_flushes 254 = .ok (.aload_n 0, 1) := by decide +kernel
theorem dX12_flushes_255 : decode cX12_flushes 255 = .ok (.dup, 1) := by decide +kernel
theorem dX12_flushes_256 : decode cX12_flushes 256 = .ok (.getfield 290, 3) := by decide +kernel
theorem dX12_flushes_259 : decode cX12_flushes 259 = .ok (.iconst 1, 1) := by decide +kernel
theorem dX12_flushes_260 : decode cX12_flushes 260 = .ok (.iadd, 1) := by decide +kernel
theorem dX12_flushes_261 : decode cX12_flushes 261 = .ok (.putfield 290, 3) := by decide +kernel
theorem dX12_flushes_264 : decode cX12_flushes 264 = .ok (.aload_n 0, 1) := by decide +kernel
theorem dX12_flushes_265 : decode cX12_flushes 265 = .ok (.dup, 1) := by decide +kernel
theorem dX12_flushes_266 : decode cX12_flushes 266 = .ok (.getfield 331, 3) := by decide +kernel
theorem dX12_flushes_269 : decode cX12_flushes 269 = .ok (.iconst 1, 1) := by decide +kernel
theorem dX12_flushes_270 : decode cX12_flushes 270 = .ok (.iadd, 1) := by decide +kernel
theorem dX12_flushes_271 : decode cX12_flushes 271 = .ok (.putfield 331, 3) := by decide +kernel
theorem dX12_flushes_274 : decode cX12_flushes 274 = .ok (.aload_n 0, 1) := by decide +kernel
theorem dX12_flushes_275 : decode cX12_flushes 275 = .ok (.iconst 0, 1) := by decide +kernel
theorem dX12_flushes_276 : decode cX12_flushes 276 = .ok (.putfield 280, 3) := by decide +kernel
theorem dX12_flushes_279 : decode cX12_flushes 279 = .ok (.aload_n 0, 1) := by decide +kernel
theorem dX12_flushes_280 : decode cX12_flushes 280 = .ok (.getfield 331, 3) := by decide +kernel
theorem dX12_flushes_283 : decode cX12_flushes 283 = .ok (.iconst 1, 1) := by decide +kernel
theorem dX12_flushes_284 : decode cX12_flushes 284 = .ok (.isub, 1) := by decide +kernel
theorem dX12_flushes_285 : decode cX12_flushes 285 = .ok (.ireturn, 1) := by decide +kernel
theorem dX12_flush_0 : decode cX12_flush 0 = .ok (.aload_n 0, 1) := by decide +kernel
theorem dX12_flush_1 : decode cX12_flush 1 = .ok (.aload_n 0, 1) := by decide +kernel
theorem dX12_flush_2 : decode cX12_flush 2 = .ok (.getfield 297, 3) := by decide +kernel
theorem dX12_flush_5 : decode cX12_flush 5 = .ok (.ifCond .ne 17, 3) := by decide +kernel
theorem dX12_flush_8 : decode cX12_flush 8 = .ok (.aload_n 0, 1) := by decide +kernel
theorem dX12_flush_9 : decode cX12_flush 9 = .ok (.getfield 331, 3) := by decide +kernel
theorem dX12_flush_12 : decode cX12_flush 12 = .ok (.sipush 200, 3) := by decide +kernel
theorem dX12_flush_15 : decode cX12_flush 15 = .ok (.if_icmp .ge 7, 3) := by decide +kernel
theorem dX12_flush_18 : decode cX12_flush 18 = .ok (.iconst 1, 1) := by decide +kernel
theorem dX12_flush_19 : decode cX12_flush 19 = .ok (.goto 4, 3) := by decide +kernel
theorem dX12_flush_22 : decode cX12_flush 22 = .ok (.iconst 0, 1) := by decide +kernel
theorem dX12_flush_23 : decode cX12_flush 23 = .ok (.iconst 1, 1) := by decide +kernel
theorem dX12_flush_24 : decode cX12_flush 24 = .ok (.iconst 1, 1) := by decide +kernel
theorem dX12_flush_25 : decode cX12_flush 25 = .ok (.invokevirtual 248, 3) := by decide +kernel
theorem dX12_flush_28 : decode cX12_flush 28 = .ok (.ifCond .eq 10, 3) := by decide +kernel
theorem dX12_flush_31 : decode cX12_flush 31 = .ok (.aload_n 0, 1) := by decide +kernel
theorem dX12_flush_32 : decode cX12_flush 32 = .ok (.invokevirtual 334, 3) := by decide +kernel
theorem dX12_flush_35 : decode cX12_flush 35 = .ok (.goto 4, 3) := by decide +kernel
theorem dX12_flush_38 : decode cX12_flush 38 = .ok (.iconst 0, 1) := by decide +kernel
theorem dX12_flush_39 : decode cX12_flush 39 = .ok (.ireturn, 1) := by decide +kernel
theorem dX12_tier_0 : decode cX12_tier 0 = .ok (.iconst 0, 1) := by decide +kernel
theorem dX12_tier_1 : decode cX12_tier 1 = .ok (.istore_n 2, 1) := by decide +kernel
theorem dX12_tier_2 : decode cX12_tier 2 = .ok (.aload_n 0, 1) := by decide +kernel
theorem dX12_tier_3 : decode cX12_tier 3 = .ok (.getfield 69, 3) := by decide +kernel
theorem dX12_tier_6 : decode cX12_tier 6 = .ok (.aload_n 0, 1) := by decide +kernel
theorem dX12_tier_7 : decode cX12_tier 7 = .ok (.getfield 82, 3) := by decide +kernel
theorem dX12_tier_10 : decode cX12_tier 10 = .ok (.iload_n 1, 1) := by decide +kernel
theorem dX12_tier_11 : decode cX12_tier 11 = .ok (.iaload, 1) := by decide +kernel
theorem dX12_tier_12 : decode cX12_tier 12 = .ok (.iaload, 1) := by decide +kernel
theorem dX12_tier_13 : decode cX12_tier 13 = .ok (.istore_n 3, 1) := by decide +kernel
theorem dX12_tier_14 : decode cX12_tier 14 = .ok (.iload_n 3, 1) := by decide +kernel
theorem dX12_tier_15 : decode cX12_tier 15 = .ok (.iconst 3, 1) := by decide +kernel
theorem dX12_tier_16 : decode cX12_tier 16 = .ok (.if_icmp .lt 13, 3) := by decide +kernel
theorem dX12_tier_19 : decode cX12_tier 19 = .ok (.iinc 2 1, 3) := by decide +kernel
theorem dX12_tier_22 : decode cX12_tier 22 = .ok (.iload_n 3, 1) := by decide +kernel
theorem dX12_tier_23 : decode cX12_tier 23 = .ok (.iconst 3, 1) := by decide +kernel
theorem dX12_tier_24 : decode cX12_tier 24 = .ok (.idiv, 1) := by decide +kernel
theorem dX12_tier_25 : decode cX12_tier 25 = .ok (.istore_n 3, 1) := by decide +kernel
theorem dX12_tier_26 : decode cX12_tier 26 = .ok (.goto (-12), 3) := by decide +kernel
theorem dX12_tier_29 : decode cX12_tier 29 = .ok (.iload_n 2, 1) := by decide +kernel
theorem dX12_tier_30 : decode cX12_tier 30 = .ok (.ireturn, 1) := by decide +kernel
theorem dX12_dueAt_0 : decode cX12_dueAt 0 = .ok (.iconst 0, 1) := by decide +kernel
theorem dX12_dueAt_1 : decode cX12_dueAt 1 = .ok (.istore_n 1, 1) := by decide +kernel
theorem dX12_dueAt_2 : decode cX12_dueAt 2 = .ok (.iload_n 1, 1) := by decide +kernel
theorem dX12_dueAt_3 : decode cX12_dueAt 3 = .ok (.iconst 2, 1) := by decide +kernel
theorem dX12_dueAt_4 : decode cX12_dueAt 4 = .ok (.iadd, 1) := by decide +kernel
theorem dX12_dueAt_5 : decode cX12_dueAt 5 = .ok (.aload_n 0, 1) := by decide +kernel
theorem dX12_dueAt_6 : decode cX12_dueAt 6 = .ok (.getfield 290, 3) := by decide +kernel
theorem dX12_dueAt_9 : decode cX12_dueAt 9 = .ok (.if_icmp .ge 41, 3) := by decide +kernel
theorem dX12_dueAt_12 : decode cX12_dueAt 12 = .ok (.aload_n 0, 1) := by decide +kernel
theorem dX12_dueAt_13 : decode cX12_dueAt 13 = .ok (.iload_n 1, 1) := by decide +kernel
theorem dX12_dueAt_14 : decode cX12_dueAt 14 = .ok (.invokevirtual 338, 3) := by decide +kernel
theorem dX12_dueAt_17 : decode cX12_dueAt 17 = .ok (.aload_n 0, 1) := by decide +kernel
theorem dX12_dueAt_18 : decode cX12_dueAt 18 = .ok (.iload_n 1, 1) := by decide +kernel
theorem dX12_dueAt_19 : decode cX12_dueAt 19 = .ok (.iconst 1, 1) := by decide +kernel
theorem dX12_dueAt_20 : decode cX12_dueAt 20 = .ok (.iadd, 1) := by decide +kernel
theorem dX12_dueAt_21 : decode cX12_dueAt 21 = .ok (.invokevirtual 338, 3) := by decide +kernel
theorem dX12_dueAt_24 : decode cX12_dueAt 24 = .ok (.if_icmp .ne 20, 3) := by decide +kernel
theorem dX12_dueAt_27 : decode cX12_dueAt 27 = .ok (.aload_n 0, 1) := by decide +kernel
theorem dX12_dueAt_28 : decode cX12_dueAt 28 = .ok (.iload_n 1, 1) := by decide +kernel
theorem dX12_dueAt_29 : decode cX12_dueAt 29 = .ok (.invokevirtual 338, 3) := by decide +kernel
theorem dX12_dueAt_32 : decode cX12_dueAt 32 = .ok (.aload_n 0, 1) := by decide +kernel
theorem dX12_dueAt_33 : decode cX12_dueAt 33 = .ok (.iload_n 1, 1) := by decide +kernel
theorem dX12_dueAt_34 : decode cX12_dueAt 34 = .ok (.iconst 2, 1) := by decide +kernel
theorem dX12_dueAt_35 : decode cX12_dueAt 35 = .ok (.iadd, 1) := by decide +kernel
theorem dX12_dueAt_36 : decode cX12_dueAt 36 = .ok (.invokevirtual 338, 3) := by decide +kernel
theorem dX12_dueAt_39 : decode cX12_dueAt 39 = .ok (.if_icmp .ne 5, 3) := by decide +kernel
theorem dX12_dueAt_42 : decode cX12_dueAt 42 = .ok (.iload_n 1, 1) := by decide +kernel
theorem dX12_dueAt_43 : decode cX12_dueAt 43 = .ok (.ireturn, 1) := by decide +kernel
theorem dX12_dueAt_44 : decode cX12_dueAt 44 = .ok (.iinc 1 1, 3) := by decide +kernel
theorem dX12_dueAt_47 : decode cX12_dueAt 47 = .ok (.goto (-45), 3) := by decide +kernel
theorem dX12_dueAt_50 : decode cX12_dueAt 50 = .ok (.iconst (-1), 1) := by decide +kernel
theorem dX12_dueAt_51 : decode cX12_dueAt 51 = .ok (.ireturn, 1) := by decide +kernel
theorem dX12_due_0 : decode cX12_due 0 = .ok (.aload_n 0, 1) := by decide +kernel
theorem dX12_due_1 : decode cX12_due 1 = .ok (.aload_n 0, 1) := by decide +kernel
theorem dX12_due_2 : decode cX12_due 2 = .ok (.getfield 297, 3) := by decide +kernel
theorem dX12_due_5 : decode cX12_due 5 = .ok (.ifCond .ne 7, 3) := by decide +kernel
theorem dX12_due_8 : decode cX12_due 8 = .ok (.iconst 1, 1) := by decide +kernel
theorem dX12_due_9 : decode cX12_due 9 = .ok (.goto 4, 3) := by decide +kernel
theorem dX12_due_12 : decode cX12_due 12 = .ok (.iconst 0, 1) := by decide +kernel
theorem dX12_due_13 : decode cX12_due 13 = .ok (.iconst 1, 1) := by decide +kernel
theorem dX12_due_14 : decode cX12_due 14 = .ok (.iconst 1, 1) := by decide +kernel
theorem dX12_due_15 : decode cX12_due 15 = .ok (.invokevirtual 248, 3) := by decide +kernel
theorem dX12_due_18 : decode cX12_due 18 = .ok (.ifCond .eq 10, 3) := by decide +kernel
theorem dX12_due_21 : decode cX12_due 21 = .ok (.aload_n 0, 1) := by decide +kernel
theorem dX12_due_22 : decode cX12_due 22 = .ok (.invokevirtual 341, 3) := by decide +kernel
theorem dX12_due_25 : decode cX12_due 25 = .ok (.goto 4, 3) := by decide +kernel
theorem dX12_due_28 : decode cX12_due 28 = .ok (.iconst 0, 1) := by decide +kernel
theorem dX12_due_29 : decode cX12_due 29 = .ok (.ireturn, 1) := by decide +kernel
theorem dX12_merge_0 : decode cX12_merge 0 = .ok (.aload_n 0, 1) := by decide +kernel
theorem dX12_merge_1 : decode cX12_merge 1 = .ok (.getfield 297, 3) := by decide +kernel
theorem dX12_merge_4 : decode cX12_merge 4 = .ok (.ifCond .eq 7, 3) := by decide +kernel
theorem dX12_merge_7 : decode cX12_merge 7 = .ok (.iconst (-1), 1) := by decide +kernel
theorem dX12_merge_8 : decode cX12_merge 8 = .ok (.goto 7, 3) := by decide +kernel
theorem dX12_merge_11 : decode cX12_merge 11 = .ok (.aload_n 0, 1) := by decide +kernel
theorem dX12_merge_12 : decode cX12_merge 12 = .ok (.invokevirtual 341, 3) := by decide +kernel
theorem dX12_merge_15 : decode cX12_merge 15 = .ok (.istore_n 1, 1) := by decide +kernel
theorem dX12_merge_16 : decode cX12_merge 16 = .ok (.aload_n 0, 1) := by decide +kernel
theorem dX12_merge_17 : decode cX12_merge 17 = .ok (.aload_n 0, 1) := by decide +kernel
theorem dX12_merge_18 : decode cX12_merge 18 = .ok (.getfield 297, 3) := by decide +kernel
theorem dX12_merge_21 : decode cX12_merge 21 = .ok (.ifCond .ne 29, 3) := by decide +kernel
theorem dX12_merge_24 : decode cX12_merge 24 = .ok (.iload_n 1, 1) := by decide +kernel
theorem dX12_merge_25 : decode cX12_merge 25 = .ok (.iconst (-1), 1) := by decide +kernel
theorem dX12_merge_26 : decode cX12_merge 26 = .ok (.if_icmp .eq 24, 3) := by decide +kernel
theorem dX12_merge_29 : decode cX12_merge 29 = .ok (.aload_n 0, 1) := by decide +kernel
theorem dX12_merge_30 : decode cX12_merge 30 = .ok (.getfield 303, 3) := by decide +kernel
theorem dX12_merge_33 : decode cX12_merge 33 = .ok (.ifCond .ne 17, 3) := by decide +kernel
theorem dX12_merge_36 : decode cX12_merge 36 = .ok (.aload_n 0, 1) := by decide +kernel
theorem dX12_merge_37 : decode cX12_merge 37 = .ok (.getfield 331, 3) := by decide +kernel
theorem dX12_merge_40 : decode cX12_merge 40 = .ok (.sipush 200, 3) := by decide +kernel
theorem dX12_merge_43 : decode cX12_merge 43 = .ok (.if_icmp .ge 7, 3) := by decide +kernel
theorem dX12_merge_46 : decode cX12_merge 46 = .ok (.iconst 1, 1) := by decide +kernel
theorem dX12_merge_47 : decode cX12_merge 47 = .ok (.goto 4, 3) := by decide +kernel
theorem dX12_merge_50 : decode cX12_merge 50 = .ok (.iconst 0, 1) := by decide +kernel
theorem dX12_merge_51 : decode cX12_merge 51 = .ok (.iconst 1, 1) := by decide +kernel
theorem dX12_merge_52 : decode cX12_merge 52 = .ok (.iconst 1, 1) := by decide +kernel
theorem dX12_merge_53 : decode cX12_merge 53 = .ok (.invokevirtual 248, 3) := by decide +kernel
theorem dX12_merge_56 : decode cX12_merge 56 = .ok (.ifCond .ne 5, 3) := by decide +kernel
theorem dX12_merge_59 : decode cX12_merge 59 = .ok (.iconst 0, 1) := by decide +kernel
theorem dX12_merge_60 : decode cX12_merge 60 = .ok (.ireturn, 1) := by decide +kernel
theorem dX12_merge_61 : decode cX12_merge 61 = .ok (.aload_n 0, 1) := by decide +kernel
theorem dX12_merge_62 : decode cX12_merge 62 = .ok (.iconst 1, 1) := by decide +kernel
theorem dX12_merge_63 : decode cX12_merge 63 = .ok (.putfield 303, 3) := by decide +kernel
theorem dX12_merge_66 : decode cX12_merge 66 = .ok (.aload_n 0, 1) := by decide +kernel
theorem dX12_merge_67 : decode cX12_merge 67 = .ok (.iconst 0, 1) := by decide +kernel
theorem dX12_merge_68 : decode cX12_merge 68 = .ok (.putfield 344, 3) := by decide +kernel
theorem dX12_merge_71 : decode cX12_merge 71 = .ok (.aload_n 0, 1) := by decide +kernel
theorem dX12_merge_72 : decode cX12_merge 72 = .ok (.iconst 0, 1) := by decide +kernel
theorem dX12_merge_73 : decode cX12_merge 73 = .ok (.putfield 347, 3) := by decide +kernel
theorem dX12_merge_76 : decode cX12_merge 76 = .ok (.iconst 0, 1) := by decide +kernel
theorem dX12_merge_77 : decode cX12_merge 77 = .ok (.istore_n 2, 1) := by decide +kernel
theorem dX12_merge_78 : decode cX12_merge 78 = .ok (.iload_n 2, 1) := by decide +kernel
theorem dX12_merge_79 : decode cX12_merge 79 = .ok (.iconst 3, 1) := by decide +kernel
theorem dX12_merge_80 : decode cX12_merge 80 = .ok (.if_icmp .ge 90, 3) := by decide +kernel
theorem dX12_merge_83 : decode cX12_merge 83 = .ok (.aload_n 0, 1) := by decide +kernel
theorem dX12_merge_84 : decode cX12_merge 84 = .ok (.getfield 110, 3) := by decide +kernel
theorem dX12_merge_87 : decode cX12_merge 87 = .ok (.iload_n 2, 1) := by decide +kernel
theorem dX12_merge_88 : decode cX12_merge 88 = .ok (.aload_n 0, 1) := by decide +kernel
theorem dX12_merge_89 : decode cX12_merge 89 = .ok (.getfield 82, 3) := by decide +kernel
theorem dX12_merge_92 : decode cX12_merge 92 = .ok (.iload_n 1, 1) := by decide +kernel
theorem dX12_merge_93 : decode cX12_merge 93 = .ok (.iload_n 2, 1) := by decide +kernel
theorem dX12_merge_94 : decode cX12_merge 94 = .ok (.iadd, 1) := by decide +kernel
theorem dX12_merge_95 : decode cX12_merge 95 = .ok (.iaload, 1) := by decide +kernel
theorem dX12_merge_96 : decode cX12_merge 96 = .ok (.iastore, 1) := by decide +kernel
theorem dX12_merge_97 : decode cX12_merge 97 = .ok (.iconst 0, 1) := by decide +kernel
theorem dX12_merge_98 : decode cX12_merge 98 = .ok (.istore_n 3, 1) := by decide +kernel
theorem dX12_merge_99 : decode cX12_merge 99 = .ok (.iload_n 3, 1) := by decide +kernel
theorem dX12_merge_100 : decode cX12_merge 100 = .ok (.aload_n 0, 1) := by decide +kernel
theorem dX12_merge_101 : decode cX12_merge 101 = .ok (.getfield 69, 3) := by decide +kernel
theorem dX12_merge_104 : decode cX12_merge 104 = .ok (.aload_n 0, 1) := by decide +kernel
theorem dX12_merge_105 : decode cX12_merge 105 = .ok (.getfield 110, 3) := by decide +kernel
theorem dX12_merge_108 : decode cX12_merge 108 = .ok (.iload_n 2, 1) := by decide +kernel
theorem dX12_merge_109 : decode cX12_merge 109 = .ok (.iaload, 1) := by decide +kernel
theorem dX12_merge_110 : decode cX12_merge 110 = .ok (.iaload, 1) := by decide +kernel
theorem dX12_merge_111 : decode cX12_merge 111 = .ok (.if_icmp .ge 53, 3) := by decide +kernel
theorem dX12_merge_114 : decode cX12_merge 114 = .ok (.bipush 100, 2) := by decide +kernel
theorem dX12_merge_116 : decode cX12_merge 116 = .ok (.aload_n 0, 1) := by decide +kernel
theorem dX12_merge_117 : decode cX12_merge 117 = .ok (.getfield 110, 3) := by decide +kernel
theorem dX12_merge_120 : decode cX12_merge 120 = .ok (.iload_n 2, 1) := by decide +kernel
theorem dX12_merge_121 : decode cX12_merge 121 = .ok (.iaload, 1) := by decide +kernel
theorem dX12_merge_122 : decode cX12_merge 122 = .ok (.imul, 1) := by decide +kernel
theorem dX12_merge_123 : decode cX12_merge 123 = .ok (.iload_n 3, 1) := by decide +kernel
theorem dX12_merge_124 : decode cX12_merge 124 = .ok (.iadd, 1) := by decide +kernel
theorem dX12_merge_125 : decode cX12_merge 125 = .ok (.istore 4, 2) := by decide +kernel
theorem dX12_merge_127 : decode cX12_merge 127 = .ok (.aload_n 0, 1) := by decide +kernel
theorem dX12_merge_128 : decode cX12_merge 128 = .ok (.getfield 72, 3) := by decide +kernel
theorem dX12_merge_131 : decode cX12_merge 131 = .ok (.iload 4, 2) := by decide +kernel
theorem dX12_merge_133 : decode cX12_merge 133 = .ok (.baload, 1) := by decide +kernel
theorem dX12_merge_134 : decode cX12_merge 134 = .ok (.ifCond .eq 24, 3) := by decide +kernel
theorem dX12_merge_137 : decode cX12_merge 137 = .ok (.aload_n 0, 1) := by decide +kernel
theorem dX12_merge_138 : decode cX12_merge 138 = .ok (.getfield 113, 3) := by decide +kernel
theorem dX12_merge_141 : decode cX12_merge 141 = .ok (.aload_n 0, 1) := by decide +kernel
theorem dX12_merge_142 : decode cX12_merge 142 = .ok (.getfield 344, 3) := by decide +kernel
theorem dX12_merge_145 : decode cX12_merge 145 = .ok (.iload 4, 2) := by decide +kernel
theorem dX12_merge_147 : decode cX12_merge 147 = .ok (.iastore, 1) := by decide +kernel
theorem dX12_merge_148 : decode cX12_merge 148 = .ok (.aload_n 0, 1) := by decide +kernel
theorem dX12_merge_149 : decode cX12_merge 149 = .ok (.dup, 1) := by decide +kernel
theorem dX12_merge_150 : decode cX12_merge 150 = .ok (.getfield 344, 3) := by decide +kernel
theorem dX12_merge_153 : decode cX12_merge 153 = .ok (.iconst 1, 1) := by decide +kernel
theorem dX12_merge_154 : decode cX12_merge 154 = .ok (.iadd, 1) := by decide +kernel
theorem dX12_merge_155 : decode cX12_merge 155 = .ok (.putfield 344, 3) := by decide +kernel
theorem dX12_merge_158 : decode cX12_merge 158 = .ok (.iinc 3 1, 3) := by decide +kernel
theorem dX12_merge_161 : decode cX12_merge 161 = .ok (.goto (-62), 3) := by decide +kernel
theorem dX12_merge_164 : decode cX12_merge 164 = .ok (.iinc 2 1, 3) := by decide +kernel
theorem dX12_merge_167 : decode cX12_merge 167 = .ok (.goto (-89), 3) := by decide +kernel
theorem dX12_merge_170 : decode cX12_merge 170 = .ok (.aload_n 0, 1) := by decide +kernel
theorem dX12_merge_171 : decode cX12_merge 171 = .ok (.getfield 344, 3) := by decide +kernel
theorem dX12_merge_174 : decode cX12_merge 174 = .ok (.ireturn, 1) := by decide +kernel
theorem dX12_ends1_0 : decode cX12_ends1 0 = .ok (.iconst 0, 1) := by decide +kernel
theorem dX12_ends1_1 : decode cX12_ends1 1 = .ok (.istore_n 1, 1) := by decide +kernel
theorem dX12_ends1_2 : decode cX12_ends1 2 = .ok (.aload_n 0, 1) := by decide +kernel
theorem dX12_ends1_3 : decode cX12_ends1 3 = .ok (.getfield 82, 3) := by decide +kernel
theorem dX12_ends1_6 : decode cX12_ends1 6 = .ok (.iload_n 1, 1) := by decide +kernel
theorem dX12_ends1_7 : decode cX12_ends1 7 = .ok (.iaload, 1) := by decide +kernel
theorem dX12_ends1_8 : decode cX12_ends1 8 = .ok (.aload_n 0, 1) := by decide +kernel
theorem dX12_ends1_9 : decode cX12_ends1 9 = .ok (.getfield 110, 3) := by decide +kernel
theorem dX12_ends1_12 : decode cX12_ends1 12 = .ok (.iconst 0, 1) := by decide +kernel
theorem dX12_ends1_13 : decode cX12_ends1 13 = .ok (.iaload, 1) := by decide +kernel
theorem dX12_ends1_14 : decode cX12_ends1 14 = .ok (.if_icmp .eq 9, 3) := by decide +kernel
theorem dX12_ends1_17 : decode cX12_ends1 17 = .ok (.iinc 1 1, 3) := by decide +kernel
theorem dX12_ends1_20 : decode cX12_ends1 20 = .ok (.goto (-18), 3) := by decide +kernel
theorem dX12_ends1_23 : decode cX12_ends1 23 = .ok (.iconst 0, 1) := by decide +kernel
theorem dX12_ends1_24 : decode cX12_ends1 24 = .ok (.istore_n 2, 1) := by decide +kernel
theorem dX12_ends1_25 : decode cX12_ends1 25 = .ok (.iload_n 2, 1) := by decide +kernel
theorem dX12_ends1_26 : decode cX12_ends1 26 = .ok (.aload_n 0, 1) := by decide +kernel
theorem dX12_ends1_27 : decode cX12_ends1 27 = .ok (.getfield 347, 3) := by decide +kernel
theorem dX12_ends1_30 : decode cX12_ends1 30 = .ok (.if_icmp .ge 60, 3) := by decide +kernel
theorem dX12_ends1_33 : decode cX12_ends1 33 = .ok (.bipush 100, 2) := by decide +kernel
theorem dX12_ends1_35 : decode cX12_ends1 35 = .ok (.aload_n 0, 1) := by decide +kernel
theorem dX12_ends1_36 : decode cX12_ends1 36 = .ok (.getfield 331, 3) := by decide +kernel
theorem dX12_ends1_39 : decode cX12_ends1 39 = .ok (.imul, 1) := by decide +kernel
theorem dX12_ends1_40 : decode cX12_ends1 40 = .ok (.iload_n 2, 1) := by decide +kernel
theorem dX12_ends1_41 : decode cX12_ends1 41 = .ok (.iadd, 1) := by decide +kernel
theorem dX12_ends1_42 : decode cX12_ends1 42 = .ok (.istore_n 3, 1) := by decide +kernel
theorem dX12_ends1_43 : decode cX12_ends1 43 = .ok (.aload_n 0, 1) := by decide +kernel
theorem dX12_ends1_44 : decode cX12_ends1 44 = .ok (.getfield 66, 3) := by decide +kernel
theorem dX12_ends1_47 : decode cX12_ends1 47 = .ok (.iload_n 3, 1) := by decide +kernel
theorem dX12_ends1_48 : decode cX12_ends1 48 = .ok (.aload_n 0, 1) := by decide +kernel
theorem dX12_ends1_49 : decode cX12_ends1 49 = .ok (.getfield 66, 3) := by decide +kernel
theorem dX12_ends1_52 : decode cX12_ends1 52 = .ok (.aload_n 0, 1) := by decide +kernel
theorem dX12_ends1_53 : decode cX12_ends1 53 = .ok (.getfield 113, 3) := by decide +kernel
theorem dX12_ends1_56 : decode cX12_ends1 56 = .ok (.iload_n 2, 1) := by decide +kernel
theorem dX12_ends1_57 : decode cX12_ends1 57 = .ok (.iaload, 1) := by decide +kernel
theorem dX12_ends1_58 : decode cX12_ends1 58 = .ok (.iaload, 1) := by decide +kernel
theorem dX12_ends1_59 : decode cX12_ends1 59 = .ok (.iastore, 1) := by decide +kernel
theorem dX12_ends1_60 : decode cX12_ends1 60 = .ok (.aload_n 0, 1) := by decide +kernel
theorem dX12_ends1_61 : decode cX12_ends1 61 = .ok (.getfield 72, 3) := by decide +kernel
theorem dX12_ends1_64 : decode cX12_ends1 64 = .ok (.iload_n 3, 1) := by decide +kernel
