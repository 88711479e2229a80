theorem dL_isCommitted_232 : decode cL_isCommitted 232 = .ok (.iastore, 1) := by decide +kernel
theorem dL_isCommitted_233 : decode cL_isCommitted 233 = .ok (.aload 9, 2) := by decide +kernel
theorem dL_isCommitted_235 : decode cL_isCommitted 235 = .ok (.aload 7, 2) := by decide +kernel
theorem dL_isCommitted_237 : decode cL_isCommitted 237 = .ok (.aload 5, 2) := by decide +kernel
theorem dL_isCommitted_239 : decode cL_isCommitted 239 = .ok (.aload 12, 2) := by decide +kernel
theorem dL_isCommitted_241 : decode cL_isCommitted 241 = .ok (.invokestatic 249, 3) := by decide +kernel
theorem dL_isCommitted_244 : decode cL_isCommitted 244 = .ok (.aload_n 0, 1) := by decide +kernel
theorem dL_isCommitted_245 : decode cL_isCommitted 245 = .ok (.iconst 4, 1) := by decide +kernel
theorem dL_isCommitted_246 : decode cL_isCommitted 246 = .ok (.invokestatic 205, 3) := by decide +kernel
theorem dL_isCommitted_249 : decode cL_isCommitted 249 = .ok (.iload 15, 2) := by decide +kernel
theorem dL_isCommitted_251 : decode cL_isCommitted 251 = .ok (.if_icmp .ne 7, 3) := by decide +kernel
theorem dL_isCommitted_254 : decode cL_isCommitted 254 = .ok (.iconst 1, 1) := by decide +kernel
theorem dL_isCommitted_255 : decode cL_isCommitted 255 = .ok (.goto 4, 3) := by decide +kernel
theorem dL_isCommitted_258 : decode cL_isCommitted 258 = .ok (.iconst 0, 1) := by decide +kernel
theorem dL_isCommitted_259 : decode cL_isCommitted 259 = .ok (.ireturn, 1) := by decide +kernel
theorem dL_isCommitted_260 : decode cL_isCommitted 260 = .ok (.aload 12, 2) := by decide +kernel
theorem dL_isCommitted_262 : decode cL_isCommitted 262 = .ok (.bipush 6, 2) := by decide +kernel
theorem dL_isCommitted_264 : decode cL_isCommitted 264 = .ok (.iaload, 1) := by decide +kernel
theorem dL_isCommitted_265 : decode cL_isCommitted 265 = .ok (.iconst 1, 1) := by decide +kernel
theorem dL_isCommitted_266 : decode cL_isCommitted 266 = .ok (.if_icmp .eq 10, 3) := by decide +kernel
theorem dL_isCommitted_269 : decode cL_isCommitted 269 = .ok (.aload 9, 2) := by decide +kernel
theorem dL_isCommitted_271 : decode cL_isCommitted 271 = .ok (.iconst 0, 1) := by decide +kernel
theorem dL_isCommitted_272 : decode cL_isCommitted 272 = .ok (.iaload, 1) := by decide +kernel
theorem dL_isCommitted_273 : decode cL_isCommitted 273 = .ok (.ifCond .ne 19, 3) := by decide +kernel
theorem dL_isCommitted_276 : decode cL_isCommitted 276 = .ok (.aload_n 0, 1) := by decide +kernel
theorem dL_isCommitted_277 : decode cL_isCommitted 277 = .ok (.iconst 5, 1) := by decide +kernel
theorem dL_isCommitted_278 : decode cL_isCommitted 278 = .ok (.invokestatic 205, 3) := by decide +kernel
theorem dL_isCommitted_281 : decode cL_isCommitted 281 = .ok (.bipush (-7), 2) := by decide +kernel
theorem dL_isCommitted_283 : decode cL_isCommitted 283 = .ok (.if_icmp .ne 7, 3) := by decide +kernel
theorem dL_isCommitted_286 : decode cL_isCommitted 286 = .ok (.iconst 1, 1) := by decide +kernel
theorem dL_isCommitted_287 : decode cL_isCommitted 287 = .ok (.goto 4, 3) := by decide +kernel
theorem dL_isCommitted_290 : decode cL_isCommitted 290 = .ok (.iconst 0, 1) := by decide +kernel
theorem dL_isCommitted_291 : decode cL_isCommitted 291 = .ok (.ireturn, 1) := by decide +kernel
theorem dL_isCommitted_292 : decode cL_isCommitted 292 = .ok (.iload 14, 2) := by decide +kernel
theorem dL_isCommitted_294 : decode cL_isCommitted 294 = .ok (.iconst 2, 1) := by decide +kernel
theorem dL_isCommitted_295 : decode cL_isCommitted 295 = .ok (.if_icmp .ne 66, 3) := by decide +kernel
theorem dL_isCommitted_298 : decode cL_isCommitted 298 = .ok (.iconst 0, 1) := by decide +kernel
theorem dL_isCommitted_299 : decode cL_isCommitted 299 = .ok (.istore 15, 2) := by decide +kernel
theorem dL_isCommitted_301 : decode cL_isCommitted 301 = .ok (.iload 15, 2) := by decide +kernel
theorem dL_isCommitted_303 : decode cL_isCommitted 303 = .ok (.aload 9, 2) := by decide +kernel
theorem dL_isCommitted_305 : decode cL_isCommitted 305 = .ok (.iconst 1, 1) := by decide +kernel
theorem dL_isCommitted_306 : decode cL_isCommitted 306 = .ok (.iaload, 1) := by decide +kernel
theorem dL_isCommitted_307 : decode cL_isCommitted 307 = .ok (.if_icmp .ge 29, 3) := by decide +kernel
theorem dL_isCommitted_310 : decode cL_isCommitted 310 = .ok (.aload 6, 2) := by decide +kernel
theorem dL_isCommitted_312 : decode cL_isCommitted 312 = .ok (.aload 9, 2) := by decide +kernel
theorem dL_isCommitted_314 : decode cL_isCommitted 314 = .ok (.iconst 2, 1) := by decide +kernel
theorem dL_isCommitted_315 : decode cL_isCommitted 315 = .ok (.iload 15, 2) := by decide +kernel
theorem dL_isCommitted_317 : decode cL_isCommitted 317 = .ok (.iadd, 1) := by decide +kernel
theorem dL_isCommitted_318 : decode cL_isCommitted 318 = .ok (.iaload, 1) := by decide +kernel
theorem dL_isCommitted_319 : decode cL_isCommitted 319 = .ok (.aload 13, 2) := by decide +kernel
theorem dL_isCommitted_321 : decode cL_isCommitted 321 = .ok (.aload 9, 2) := by decide +kernel
theorem dL_isCommitted_323 : decode cL_isCommitted 323 = .ok (.iconst 2, 1) := by decide +kernel
theorem dL_isCommitted_324 : decode cL_isCommitted 324 = .ok (.iload 15, 2) := by decide +kernel
theorem dL_isCommitted_326 : decode cL_isCommitted 326 = .ok (.iadd, 1) := by decide +kernel
theorem dL_isCommitted_327 : decode cL_isCommitted 327 = .ok (.iaload, 1) := by decide +kernel
theorem dL_isCommitted_328 : decode cL_isCommitted 328 = .ok (.iaload, 1) := by decide +kernel
theorem dL_isCommitted_329 : decode cL_isCommitted 329 = .ok (.iastore, 1) := by decide +kernel
theorem dL_isCommitted_330 : decode cL_isCommitted 330 = .ok (.iinc 15 1, 3) := by decide +kernel
theorem dL_isCommitted_333 : decode cL_isCommitted 333 = .ok (.goto (-32), 3) := by decide +kernel
theorem dL_isCommitted_336 : decode cL_isCommitted 336 = .ok (.aload 9, 2) := by decide +kernel
theorem dL_isCommitted_338 : decode cL_isCommitted 338 = .ok (.iconst 0, 1) := by decide +kernel
theorem dL_isCommitted_339 : decode cL_isCommitted 339 = .ok (.iconst 0, 1) := by decide +kernel
theorem dL_isCommitted_340 : decode cL_isCommitted 340 = .ok (.iastore, 1) := by decide +kernel
theorem dL_isCommitted_341 : decode cL_isCommitted 341 = .ok (.aload_n 0, 1) := by decide +kernel
theorem dL_isCommitted_342 : decode cL_isCommitted 342 = .ok (.invokevirtual 253, 3) := by decide +kernel
theorem dL_isCommitted_345 : decode cL_isCommitted 345 = .ok (.aload_n 0, 1) := by decide +kernel
theorem dL_isCommitted_346 : decode cL_isCommitted 346 = .ok (.iconst 5, 1) := by decide +kernel
theorem dL_isCommitted_347 : decode cL_isCommitted 347 = .ok (.invokestatic 205, 3) := by decide +kernel
theorem dL_isCommitted_350 : decode cL_isCommitted 350 = .ok (.bipush (-7), 2) := by decide +kernel
theorem dL_isCommitted_352 : decode cL_isCommitted 352 = .ok (.if_icmp .ne 7, 3) := by decide +kernel
theorem dL_isCommitted_355 : decode cL_isCommitted 355 = .ok (.iconst 1, 1) := by decide +kernel
theorem dL_isCommitted_356 : decode cL_isCommitted 356 = .ok (.goto 4, 3) := by decide +kernel
theorem dL_isCommitted_359 : decode cL_isCommitted 359 = .ok (.iconst 0, 1) := by decide +kernel
theorem dL_isCommitted_360 : decode cL_isCommitted 360 = .ok (.ireturn, 1) := by decide +kernel
theorem dL_isCommitted_361 : decode cL_isCommitted 361 = .ok (.aload 12, 2) := by decide +kernel
theorem dL_isCommitted_363 : decode cL_isCommitted 363 = .ok (.aload 9, 2) := by decide +kernel
theorem dL_isCommitted_365 : decode cL_isCommitted 365 = .ok (.invokestatic 256, 3) := by decide +kernel
theorem dL_isCommitted_368 : decode cL_isCommitted 368 = .ok (.aload 10, 2) := by decide +kernel
theorem dL_isCommitted_370 : decode cL_isCommitted 370 = .ok (.aload 11, 2) := by decide +kernel
theorem dL_isCommitted_372 : decode cL_isCommitted 372 = .ok (.invokestatic 57, 3) := by decide +kernel
theorem dL_isCommitted_375 : decode cL_isCommitted 375 = .ok (.istore 15, 2) := by decide +kernel
theorem dL_isCommitted_377 : decode cL_isCommitted 377 = .ok (.iload 15, 2) := by decide +kernel
theorem dL_isCommitted_379 : decode cL_isCommitted 379 = .ok (.ifCond .eq 38, 3) := by decide +kernel
theorem dL_isCommitted_382 : decode cL_isCommitted 382 = .ok (.iconst 0, 1) := by decide +kernel
theorem dL_isCommitted_383 : decode cL_isCommitted 383 = .ok (.istore 16, 2) := by decide +kernel
theorem dL_isCommitted_385 : decode cL_isCommitted 385 = .ok (.iload 16, 2) := by decide +kernel
theorem dL_isCommitted_387 : decode cL_isCommitted 387 = .ok (.bipush 64, 2) := by decide +kernel
theorem dL_isCommitted_389 : decode cL_isCommitted 389 = .ok (.if_icmp .ge 19, 3) := by decide +kernel
theorem dL_isCommitted_392 : decode cL_isCommitted 392 = .ok (.aload 8, 2) := by decide +kernel
theorem dL_isCommitted_394 : decode cL_isCommitted 394 = .ok (.iload 16, 2) := by decide +kernel
theorem dL_isCommitted_396 : decode cL_isCommitted 396 = .ok (.aload 9, 2) := by decide +kernel
theorem dL_isCommitted_398 : decode cL_isCommitted 398 = .ok (.iload 16, 2) := by decide +kernel
theorem dL_isCommitted_400 : decode cL_isCommitted 400 = .ok (.iaload, 1) := by decide +kernel
theorem dL_isCommitted_401 : decode cL_isCommitted 401 = .ok (.iastore, 1) := by decide +kernel
theorem dL_isCommitted_402 : decode cL_isCommitted 402 = .ok (.iinc 16 1, 3) := by decide +kernel
theorem dL_isCommitted_405 : decode cL_isCommitted 405 = .ok (.goto (-20), 3) := by decide +kernel
theorem dL_isCommitted_408 : decode cL_isCommitted 408 = .ok (.aload 12, 2) := by decide +kernel
theorem dL_isCommitted_410 : decode cL_isCommitted 410 = .ok (.bipush 7, 2) := by decide +kernel
theorem dL_isCommitted_412 : decode cL_isCommitted 412 = .ok (.dup2, 1) := by decide +kernel
theorem dL_isCommitted_413 : decode cL_isCommitted 413 = .ok (.iaload, 1) := by decide +kernel
theorem dL_isCommitted_414 : decode cL_isCommitted 414 = .ok (.iconst 1, 1) := by decide +kernel
theorem dL_isCommitted_415 : decode cL_isCommitted 415 = .ok (.iadd, 1) := by decide +kernel
theorem dL_isCommitted_416 : decode cL_isCommitted 416 = .ok (.iastore, 1) := by decide +kernel
theorem dL_isCommitted_417 : decode cL_isCommitted 417 = .ok (.aload 9, 2) := by decide +kernel
theorem dL_isCommitted_419 : decode cL_isCommitted 419 = .ok (.iconst 0, 1) := by decide +kernel
theorem dL_isCommitted_420 : decode cL_isCommitted 420 = .ok (.iconst 0, 1) := by decide +kernel
theorem dL_isCommitted_421 : decode cL_isCommitted 421 = .ok (.iastore, 1) := by decide +kernel
theorem dL_isCommitted_422 : decode cL_isCommitted 422 = .ok (.aload_n 0, 1) := by decide +kernel
theorem dL_isCommitted_423 : decode cL_isCommitted 423 = .ok (.iconst 5, 1) := by decide +kernel
theorem dL_isCommitted_424 : decode cL_isCommitted 424 = .ok (.invokestatic 205, 3) := by decide +kernel
theorem dL_isCommitted_427 : decode cL_isCommitted 427 = .ok (.iload 15, 2) := by decide +kernel
theorem dL_isCommitted_429 : decode cL_isCommitted 429 = .ok (.ifCond .eq 11, 3) := by decide +kernel
theorem dL_isCommitted_432 : decode cL_isCommitted 432 = .ok (.aload 12, 2) := by decide +kernel
theorem dL_isCommitted_434 : decode cL_isCommitted 434 = .ok (.bipush 7, 2) := by decide +kernel
theorem dL_isCommitted_436 : decode cL_isCommitted 436 = .ok (.iaload, 1) := by decide +kernel
theorem dL_isCommitted_437 : decode cL_isCommitted 437 = .ok (.goto 5, 3) := by decide +kernel
theorem dL_isCommitted_440 : decode cL_isCommitted 440 = .ok (.bipush (-2), 2) := by decide +kernel
theorem dL_isCommitted_442 : decode cL_isCommitted 442 = .ok (.if_icmp .ne 7, 3) := by decide +kernel
theorem dL_isCommitted_445 : decode cL_isCommitted 445 = .ok (.iconst 1, 1) := by decide +kernel
theorem dL_isCommitted_446 : decode cL_isCommitted 446 = .ok (.goto 4, 3) := by decide +kernel
