theorem dL_holds_223 : decode cL_holds 223 = .ok (.iconst 3, 1) := by decide +kernel
theorem dL_holds_224 : decode cL_holds 224 = .ok (.iload 19, 2) := by decide +kernel
theorem dL_holds_226 : decode cL_holds 226 = .ok (.imul, 1) := by decide +kernel
theorem dL_holds_227 : decode cL_holds 227 = .ok (.iconst 2, 1) := by decide +kernel
theorem dL_holds_228 : decode cL_holds 228 = .ok (.iadd, 1) := by decide +kernel
theorem dL_holds_229 : decode cL_holds 229 = .ok (.ldc_w 269, 3) := by decide +kernel
theorem dL_holds_232 : decode cL_holds 232 = .ok (.invokestatic 270, 3) := by decide +kernel
theorem dL_holds_235 : decode cL_holds 235 = .ok (.invokestatic 274, 3) := by decide +kernel
theorem dL_holds_238 : decode cL_holds 238 = .ok (.istore 18, 2) := by decide +kernel
theorem dL_holds_240 : decode cL_holds 240 = .ok (.goto 556, 3) := by decide +kernel
theorem dL_holds_243 : decode cL_holds 243 = .ok (.iload 21, 2) := by decide +kernel
theorem dL_holds_245 : decode cL_holds 245 = .ok (.bipush 9, 2) := by decide +kernel
theorem dL_holds_247 : decode cL_holds 247 = .ok (.if_icmp .ne 71, 3) := by decide +kernel
theorem dL_holds_250 : decode cL_holds 250 = .ok (.aload 17, 2) := by decide +kernel
theorem dL_holds_252 : decode cL_holds 252 = .ok (.bipush 6, 2) := by decide +kernel
theorem dL_holds_254 : decode cL_holds 254 = .ok (.iaload, 1) := by decide +kernel
theorem dL_holds_255 : decode cL_holds 255 = .ok (.iconst 1, 1) := by decide +kernel
theorem dL_holds_256 : decode cL_holds 256 = .ok (.if_icmp .ne 8, 3) := by decide +kernel
theorem dL_holds_259 : decode cL_holds 259 = .ok (.bipush (-7), 2) := by decide +kernel
theorem dL_holds_261 : decode cL_holds 261 = .ok (.goto 31, 3) := by decide +kernel
theorem dL_holds_264 : decode cL_holds 264 = .ok (.aload_n 2, 1) := by decide +kernel
theorem dL_holds_265 : decode cL_holds 265 = .ok (.aload_n 3, 1) := by decide +kernel
theorem dL_holds_266 : decode cL_holds 266 = .ok (.aload 4, 2) := by decide +kernel
theorem dL_holds_268 : decode cL_holds 268 = .ok (.aload 5, 2) := by decide +kernel
theorem dL_holds_270 : decode cL_holds 270 = .ok (.aload 6, 2) := by decide +kernel
theorem dL_holds_272 : decode cL_holds 272 = .ok (.aload 8, 2) := by decide +kernel
theorem dL_holds_274 : decode cL_holds 274 = .ok (.aload 17, 2) := by decide +kernel
theorem dL_holds_276 : decode cL_holds 276 = .ok (.iload 20, 2) := by decide +kernel
theorem dL_holds_278 : decode cL_holds 278 = .ok (.bipush 10, 2) := by decide +kernel
theorem dL_holds_280 : decode cL_holds 280 = .ok (.irem, 1) := by decide +kernel
theorem dL_holds_281 : decode cL_holds 281 = .ok (.invokestatic 241, 3) := by decide +kernel
theorem dL_holds_284 : decode cL_holds 284 = .ok (.ifCond .le 7, 3) := by decide +kernel
theorem dL_holds_287 : decode cL_holds 287 = .ok (.iconst 1, 1) := by decide +kernel
theorem dL_holds_288 : decode cL_holds 288 = .ok (.goto 4, 3) := by decide +kernel
theorem dL_holds_291 : decode cL_holds 291 = .ok (.iconst 0, 1) := by decide +kernel
theorem dL_holds_292 : decode cL_holds 292 = .ok (.istore 23, 2) := by decide +kernel
theorem dL_holds_294 : decode cL_holds 294 = .ok (.aload_n 1, 1) := by decide +kernel
theorem dL_holds_295 : decode cL_holds 295 = .ok (.iload 20, 2) := by decide +kernel
theorem dL_holds_297 : decode cL_holds 297 = .ok (.bipush 10, 2) := by decide +kernel
theorem dL_holds_299 : decode cL_holds 299 = .ok (.irem, 1) := by decide +kernel
theorem dL_holds_300 : decode cL_holds 300 = .ok (.invokestatic 278, 3) := by decide +kernel
theorem dL_holds_303 : decode cL_holds 303 = .ok (.iload 23, 2) := by decide +kernel
theorem dL_holds_305 : decode cL_holds 305 = .ok (.if_icmp .ne 7, 3) := by decide +kernel
theorem dL_holds_308 : decode cL_holds 308 = .ok (.iconst 1, 1) := by decide +kernel
theorem dL_holds_309 : decode cL_holds 309 = .ok (.goto 4, 3) := by decide +kernel
theorem dL_holds_312 : decode cL_holds 312 = .ok (.iconst 0, 1) := by decide +kernel
theorem dL_holds_313 : decode cL_holds 313 = .ok (.istore 18, 2) := by decide +kernel
theorem dL_holds_315 : decode cL_holds 315 = .ok (.goto 481, 3) := by decide +kernel
theorem dL_holds_318 : decode cL_holds 318 = .ok (.iload 21, 2) := by decide +kernel
theorem dL_holds_320 : decode cL_holds 320 = .ok (.bipush 14, 2) := by decide +kernel
theorem dL_holds_322 : decode cL_holds 322 = .ok (.if_icmp .ge 67, 3) := by decide +kernel
theorem dL_holds_325 : decode cL_holds 325 = .ok (.iload 22, 2) := by decide +kernel
theorem dL_holds_327 : decode cL_holds 327 = .ok (.ifCond .eq 62, 3) := by decide +kernel
theorem dL_holds_330 : decode cL_holds 330 = .ok (.aload 17, 2) := by decide +kernel
theorem dL_holds_332 : decode cL_holds 332 = .ok (.bipush 6, 2) := by decide +kernel
theorem dL_holds_334 : decode cL_holds 334 = .ok (.iaload, 1) := by decide +kernel
theorem dL_holds_335 : decode cL_holds 335 = .ok (.iconst 1, 1) := by decide +kernel
theorem dL_holds_336 : decode cL_holds 336 = .ok (.if_icmp .ne 8, 3) := by decide +kernel
theorem dL_holds_339 : decode cL_holds 339 = .ok (.bipush (-7), 2) := by decide +kernel
theorem dL_holds_341 : decode cL_holds 341 = .ok (.goto 26, 3) := by decide +kernel
theorem dL_holds_344 : decode cL_holds 344 = .ok (.aload_n 2, 1) := by decide +kernel
theorem dL_holds_345 : decode cL_holds 345 = .ok (.aload_n 3, 1) := by decide +kernel
theorem dL_holds_346 : decode cL_holds 346 = .ok (.aload 4, 2) := by decide +kernel
theorem dL_holds_348 : decode cL_holds 348 = .ok (.aload 5, 2) := by decide +kernel
theorem dL_holds_350 : decode cL_holds 350 = .ok (.aload 6, 2) := by decide +kernel
theorem dL_holds_352 : decode cL_holds 352 = .ok (.aload 7, 2) := by decide +kernel
theorem dL_holds_354 : decode cL_holds 354 = .ok (.aload 8, 2) := by decide +kernel
theorem dL_holds_356 : decode cL_holds 356 = .ok (.aload 10, 2) := by decide +kernel
theorem dL_holds_358 : decode cL_holds 358 = .ok (.aload 11, 2) := by decide +kernel
theorem dL_holds_360 : decode cL_holds 360 = .ok (.aload 12, 2) := by decide +kernel
theorem dL_holds_362 : decode cL_holds 362 = .ok (.aload 17, 2) := by decide +kernel
theorem dL_holds_364 : decode cL_holds 364 = .ok (.invokestatic 245, 3) := by decide +kernel
theorem dL_holds_367 : decode cL_holds 367 = .ok (.istore 23, 2) := by decide +kernel
theorem dL_holds_369 : decode cL_holds 369 = .ok (.aload_n 1, 1) := by decide +kernel
theorem dL_holds_370 : decode cL_holds 370 = .ok (.iconst 0, 1) := by decide +kernel
theorem dL_holds_371 : decode cL_holds 371 = .ok (.invokestatic 205, 3) := by decide +kernel
theorem dL_holds_374 : decode cL_holds 374 = .ok (.iload 23, 2) := by decide +kernel
theorem dL_holds_376 : decode cL_holds 376 = .ok (.if_icmp .ne 7, 3) := by decide +kernel
theorem dL_holds_379 : decode cL_holds 379 = .ok (.iconst 1, 1) := by decide +kernel
theorem dL_holds_380 : decode cL_holds 380 = .ok (.goto 4, 3) := by decide +kernel
theorem dL_holds_383 : decode cL_holds 383 = .ok (.iconst 0, 1) := by decide +kernel
theorem dL_holds_384 : decode cL_holds 384 = .ok (.istore 18, 2) := by decide +kernel
theorem dL_holds_386 : decode cL_holds 386 = .ok (.goto 410, 3) := by decide +kernel
theorem dL_holds_389 : decode cL_holds 389 = .ok (.iload 21, 2) := by decide +kernel
theorem dL_holds_391 : decode cL_holds 391 = .ok (.bipush 21, 2) := by decide +kernel
theorem dL_holds_393 : decode cL_holds 393 = .ok (.if_icmp .ge 67, 3) := by decide +kernel
theorem dL_holds_396 : decode cL_holds 396 = .ok (.iload 22, 2) := by decide +kernel
theorem dL_holds_398 : decode cL_holds 398 = .ok (.ifCond .eq 62, 3) := by decide +kernel
theorem dL_holds_401 : decode cL_holds 401 = .ok (.aload_n 1, 1) := by decide +kernel
theorem dL_holds_402 : decode cL_holds 402 = .ok (.aload 4, 2) := by decide +kernel
theorem dL_holds_404 : decode cL_holds 404 = .ok (.aload 5, 2) := by decide +kernel
theorem dL_holds_406 : decode cL_holds 406 = .ok (.aload 6, 2) := by decide +kernel
theorem dL_holds_408 : decode cL_holds 408 = .ok (.aload 7, 2) := by decide +kernel
theorem dL_holds_410 : decode cL_holds 410 = .ok (.aload 8, 2) := by decide +kernel
theorem dL_holds_412 : decode cL_holds 412 = .ok (.aload 15, 2) := by decide +kernel
theorem dL_holds_414 : decode cL_holds 414 = .ok (.aload 10, 2) := by decide +kernel
theorem dL_holds_416 : decode cL_holds 416 = .ok (.aload 11, 2) := by decide +kernel
theorem dL_holds_418 : decode cL_holds 418 = .ok (.aload 12, 2) := by decide +kernel
theorem dL_holds_420 : decode cL_holds 420 = .ok (.aload 17, 2) := by decide +kernel
theorem dL_holds_422 : decode cL_holds 422 = .ok (.iload 21, 2) := by decide +kernel
theorem dL_holds_424 : decode cL_holds 424 = .ok (.bipush 16, 2) := by decide +kernel
theorem dL_holds_426 : decode cL_holds 426 = .ok (.if_icmp .ge 7, 3) := by decide +kernel
theorem dL_holds_429 : decode cL_holds 429 = .ok (.iconst 0, 1) := by decide +kernel
theorem dL_holds_430 : decode cL_holds 430 = .ok (.goto 22, 3) := by decide +kernel
theorem dL_holds_433 : decode cL_holds 433 = .ok (.iload 21, 2) := by decide +kernel
theorem dL_holds_435 : decode cL_holds 435 = .ok (.bipush 20, 2) := by decide +kernel
theorem dL_holds_437 : decode cL_holds 437 = .ok (.if_icmp .ne 14, 3) := by decide +kernel
theorem dL_holds_440 : decode cL_holds 440 = .ok (.iload 20, 2) := by decide +kernel
theorem dL_holds_442 : decode cL_holds 442 = .ok (.iconst 4, 1) := by decide +kernel
theorem dL_holds_443 : decode cL_holds 443 = .ok (.irem, 1) := by decide +kernel
theorem dL_holds_444 : decode cL_holds 444 = .ok (.ifCond .ne 7, 3) := by decide +kernel
theorem dL_holds_447 : decode cL_holds 447 = .ok (.iconst 2, 1) := by decide +kernel
theorem dL_holds_448 : decode cL_holds 448 = .ok (.goto 4, 3) := by decide +kernel
theorem dL_holds_451 : decode cL_holds 451 = .ok (.iconst 1, 1) := by decide +kernel
theorem dL_holds_452 : decode cL_holds 452 = .ok (.invokestatic 281, 3) := by decide +kernel
theorem dL_holds_455 : decode cL_holds 455 = .ok (.istore 18, 2) := by decide +kernel
theorem dL_holds_457 : decode cL_holds 457 = .ok (.goto 339, 3) := by decide +kernel
theorem dL_holds_460 : decode cL_holds 460 = .ok (.iload 21, 2) := by decide +kernel
theorem dL_holds_462 : decode cL_holds 462 = .ok (.bipush 25, 2) := by decide +kernel
theorem dL_holds_464 : decode cL_holds 464 = .ok (.if_icmp .ge 71, 3) := by decide +kernel
