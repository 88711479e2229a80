theorem dL_isMerged_215 : decode cL_isMerged 215 = .ok (.invokestatic 205, 3) := by decide +kernel
theorem dL_isMerged_218 : decode cL_isMerged 218 = .ok (.bipush (-7), 2) := by decide +kernel
theorem dL_isMerged_220 : decode cL_isMerged 220 = .ok (.if_icmp .ne 7, 3) := by decide +kernel
theorem dL_isMerged_223 : decode cL_isMerged 223 = .ok (.iconst 1, 1) := by decide +kernel
theorem dL_isMerged_224 : decode cL_isMerged 224 = .ok (.goto 4, 3) := by decide +kernel
theorem dL_isMerged_227 : decode cL_isMerged 227 = .ok (.iconst 0, 1) := by decide +kernel
theorem dL_isMerged_228 : decode cL_isMerged 228 = .ok (.ireturn, 1) := by decide +kernel
theorem dL_isMerged_229 : decode cL_isMerged 229 = .ok (.iload 11, 2) := by decide +kernel
theorem dL_isMerged_231 : decode cL_isMerged 231 = .ok (.iconst 2, 1) := by decide +kernel
theorem dL_isMerged_232 : decode cL_isMerged 232 = .ok (.if_icmp .ne 28, 3) := by decide +kernel
theorem dL_isMerged_235 : decode cL_isMerged 235 = .ok (.aload 10, 2) := by decide +kernel
theorem dL_isMerged_237 : decode cL_isMerged 237 = .ok (.bipush 9, 2) := by decide +kernel
theorem dL_isMerged_239 : decode cL_isMerged 239 = .ok (.iconst 0, 1) := by decide +kernel
theorem dL_isMerged_240 : decode cL_isMerged 240 = .ok (.iastore, 1) := by decide +kernel
theorem dL_isMerged_241 : decode cL_isMerged 241 = .ok (.aload_n 0, 1) := by decide +kernel
theorem dL_isMerged_242 : decode cL_isMerged 242 = .ok (.iconst 3, 1) := by decide +kernel
theorem dL_isMerged_243 : decode cL_isMerged 243 = .ok (.invokestatic 205, 3) := by decide +kernel
theorem dL_isMerged_246 : decode cL_isMerged 246 = .ok (.aload 10, 2) := by decide +kernel
theorem dL_isMerged_248 : decode cL_isMerged 248 = .ok (.bipush 11, 2) := by decide +kernel
theorem dL_isMerged_250 : decode cL_isMerged 250 = .ok (.iaload, 1) := by decide +kernel
theorem dL_isMerged_251 : decode cL_isMerged 251 = .ok (.if_icmp .ne 7, 3) := by decide +kernel
theorem dL_isMerged_254 : decode cL_isMerged 254 = .ok (.iconst 1, 1) := by decide +kernel
theorem dL_isMerged_255 : decode cL_isMerged 255 = .ok (.goto 4, 3) := by decide +kernel
theorem dL_isMerged_258 : decode cL_isMerged 258 = .ok (.iconst 0, 1) := by decide +kernel
theorem dL_isMerged_259 : decode cL_isMerged 259 = .ok (.ireturn, 1) := by decide +kernel
theorem dL_isMerged_260 : decode cL_isMerged 260 = .ok (.aload 10, 2) := by decide +kernel
theorem dL_isMerged_262 : decode cL_isMerged 262 = .ok (.aload 7, 2) := by decide +kernel
theorem dL_isMerged_264 : decode cL_isMerged 264 = .ok (.aload 8, 2) := by decide +kernel
theorem dL_isMerged_266 : decode cL_isMerged 266 = .ok (.aload 9, 2) := by decide +kernel
theorem dL_isMerged_268 : decode cL_isMerged 268 = .ok (.invokestatic 57, 3) := by decide +kernel
theorem dL_isMerged_271 : decode cL_isMerged 271 = .ok (.ifCond .ne 19, 3) := by decide +kernel
theorem dL_isMerged_274 : decode cL_isMerged 274 = .ok (.aload_n 0, 1) := by decide +kernel
theorem dL_isMerged_275 : decode cL_isMerged 275 = .ok (.iconst 2, 1) := by decide +kernel
theorem dL_isMerged_276 : decode cL_isMerged 276 = .ok (.invokestatic 205, 3) := by decide +kernel
theorem dL_isMerged_279 : decode cL_isMerged 279 = .ok (.bipush (-2), 2) := by decide +kernel
theorem dL_isMerged_281 : decode cL_isMerged 281 = .ok (.if_icmp .ne 7, 3) := by decide +kernel
theorem dL_isMerged_284 : decode cL_isMerged 284 = .ok (.iconst 1, 1) := by decide +kernel
theorem dL_isMerged_285 : decode cL_isMerged 285 = .ok (.goto 4, 3) := by decide +kernel
theorem dL_isMerged_288 : decode cL_isMerged 288 = .ok (.iconst 0, 1) := by decide +kernel
theorem dL_isMerged_289 : decode cL_isMerged 289 = .ok (.ireturn, 1) := by decide +kernel
theorem dL_isMerged_290 : decode cL_isMerged 290 = .ok (.aload 10, 2) := by decide +kernel
theorem dL_isMerged_292 : decode cL_isMerged 292 = .ok (.bipush 11, 2) := by decide +kernel
theorem dL_isMerged_294 : decode cL_isMerged 294 = .ok (.iaload, 1) := by decide +kernel
theorem dL_isMerged_295 : decode cL_isMerged 295 = .ok (.aload 10, 2) := by decide +kernel
theorem dL_isMerged_297 : decode cL_isMerged 297 = .ok (.bipush 12, 2) := by decide +kernel
theorem dL_isMerged_299 : decode cL_isMerged 299 = .ok (.iaload, 1) := by decide +kernel
theorem dL_isMerged_300 : decode cL_isMerged 300 = .ok (.if_icmp .ge 37, 3) := by decide +kernel
theorem dL_isMerged_303 : decode cL_isMerged 303 = .ok (.aload 10, 2) := by decide +kernel
theorem dL_isMerged_305 : decode cL_isMerged 305 = .ok (.bipush 11, 2) := by decide +kernel
theorem dL_isMerged_307 : decode cL_isMerged 307 = .ok (.dup2, 1) := by decide +kernel
theorem dL_isMerged_308 : decode cL_isMerged 308 = .ok (.iaload, 1) := by decide +kernel
theorem dL_isMerged_309 : decode cL_isMerged 309 = .ok (.iconst 1, 1) := by decide +kernel
theorem dL_isMerged_310 : decode cL_isMerged 310 = .ok (.iadd, 1) := by decide +kernel
theorem dL_isMerged_311 : decode cL_isMerged 311 = .ok (.iastore, 1) := by decide +kernel
theorem dL_isMerged_312 : decode cL_isMerged 312 = .ok (.aload_n 0, 1) := by decide +kernel
theorem dL_isMerged_313 : decode cL_isMerged 313 = .ok (.iconst 2, 1) := by decide +kernel
theorem dL_isMerged_314 : decode cL_isMerged 314 = .ok (.invokestatic 205, 3) := by decide +kernel
theorem dL_isMerged_317 : decode cL_isMerged 317 = .ok (.aload 10, 2) := by decide +kernel
theorem dL_isMerged_319 : decode cL_isMerged 319 = .ok (.bipush 12, 2) := by decide +kernel
theorem dL_isMerged_321 : decode cL_isMerged 321 = .ok (.iaload, 1) := by decide +kernel
theorem dL_isMerged_322 : decode cL_isMerged 322 = .ok (.aload 10, 2) := by decide +kernel
theorem dL_isMerged_324 : decode cL_isMerged 324 = .ok (.bipush 11, 2) := by decide +kernel
theorem dL_isMerged_326 : decode cL_isMerged 326 = .ok (.iaload, 1) := by decide +kernel
theorem dL_isMerged_327 : decode cL_isMerged 327 = .ok (.isub, 1) := by decide +kernel
theorem dL_isMerged_328 : decode cL_isMerged 328 = .ok (.if_icmp .ne 7, 3) := by decide +kernel
theorem dL_isMerged_331 : decode cL_isMerged 331 = .ok (.iconst 1, 1) := by decide +kernel
theorem dL_isMerged_332 : decode cL_isMerged 332 = .ok (.goto 4, 3) := by decide +kernel
theorem dL_isMerged_335 : decode cL_isMerged 335 = .ok (.iconst 0, 1) := by decide +kernel
theorem dL_isMerged_336 : decode cL_isMerged 336 = .ok (.ireturn, 1) := by decide +kernel
theorem dL_isMerged_337 : decode cL_isMerged 337 = .ok (.aload 10, 2) := by decide +kernel
theorem dL_isMerged_339 : decode cL_isMerged 339 = .ok (.bipush 10, 2) := by decide +kernel
theorem dL_isMerged_341 : decode cL_isMerged 341 = .ok (.iaload, 1) := by decide +kernel
theorem dL_isMerged_342 : decode cL_isMerged 342 = .ok (.istore 12, 2) := by decide +kernel
theorem dL_isMerged_344 : decode cL_isMerged 344 = .ok (.aload 10, 2) := by decide +kernel
theorem dL_isMerged_346 : decode cL_isMerged 346 = .ok (.iconst 2, 1) := by decide +kernel
theorem dL_isMerged_347 : decode cL_isMerged 347 = .ok (.iaload, 1) := by decide +kernel
theorem dL_isMerged_348 : decode cL_isMerged 348 = .ok (.istore 13, 2) := by decide +kernel
theorem dL_isMerged_350 : decode cL_isMerged 350 = .ok (.aload 10, 2) := by decide +kernel
theorem dL_isMerged_352 : decode cL_isMerged 352 = .ok (.bipush 12, 2) := by decide +kernel
theorem dL_isMerged_354 : decode cL_isMerged 354 = .ok (.iaload, 1) := by decide +kernel
theorem dL_isMerged_355 : decode cL_isMerged 355 = .ok (.ifCond .ne 7, 3) := by decide +kernel
theorem dL_isMerged_358 : decode cL_isMerged 358 = .ok (.iconst 3, 1) := by decide +kernel
theorem dL_isMerged_359 : decode cL_isMerged 359 = .ok (.goto 4, 3) := by decide +kernel
theorem dL_isMerged_362 : decode cL_isMerged 362 = .ok (.iconst 2, 1) := by decide +kernel
theorem dL_isMerged_363 : decode cL_isMerged 363 = .ok (.istore 14, 2) := by decide +kernel
theorem dL_isMerged_365 : decode cL_isMerged 365 = .ok (.aload_n 1, 1) := by decide +kernel
theorem dL_isMerged_366 : decode cL_isMerged 366 = .ok (.iload 13, 2) := by decide +kernel
theorem dL_isMerged_368 : decode cL_isMerged 368 = .ok (.lconst 0, 1) := by decide +kernel
theorem dL_isMerged_369 : decode cL_isMerged 369 = .ok (.lastore, 1) := by decide +kernel
theorem dL_isMerged_370 : decode cL_isMerged 370 = .ok (.aload_n 3, 1) := by decide +kernel
theorem dL_isMerged_371 : decode cL_isMerged 371 = .ok (.iload 13, 2) := by decide +kernel
theorem dL_isMerged_373 : decode cL_isMerged 373 = .ok (.iconst 0, 1) := by decide +kernel
theorem dL_isMerged_374 : decode cL_isMerged 374 = .ok (.iastore, 1) := by decide +kernel
theorem dL_isMerged_375 : decode cL_isMerged 375 = .ok (.iconst 0, 1) := by decide +kernel
theorem dL_isMerged_376 : decode cL_isMerged 376 = .ok (.istore 15, 2) := by decide +kernel
theorem dL_isMerged_378 : decode cL_isMerged 378 = .ok (.iload 15, 2) := by decide +kernel
theorem dL_isMerged_380 : decode cL_isMerged 380 = .ok (.aload 10, 2) := by decide +kernel
theorem dL_isMerged_382 : decode cL_isMerged 382 = .ok (.bipush 12, 2) := by decide +kernel
theorem dL_isMerged_384 : decode cL_isMerged 384 = .ok (.iaload, 1) := by decide +kernel
theorem dL_isMerged_385 : decode cL_isMerged 385 = .ok (.if_icmp .ge 74, 3) := by decide +kernel
theorem dL_isMerged_388 : decode cL_isMerged 388 = .ok (.aload_n 1, 1) := by decide +kernel
theorem dL_isMerged_389 : decode cL_isMerged 389 = .ok (.iload 13, 2) := by decide +kernel
theorem dL_isMerged_391 : decode cL_isMerged 391 = .ok (.dup2, 1) := by decide +kernel
theorem dL_isMerged_392 : decode cL_isMerged 392 = .ok (.laload, 1) := by decide +kernel
theorem dL_isMerged_393 : decode cL_isMerged 393 = .ok (.aload_n 1, 1) := by decide +kernel
theorem dL_isMerged_394 : decode cL_isMerged 394 = .ok (.aload 6, 2) := by decide +kernel
theorem dL_isMerged_396 : decode cL_isMerged 396 = .ok (.iload 15, 2) := by decide +kernel
theorem dL_isMerged_398 : decode cL_isMerged 398 = .ok (.iaload, 1) := by decide +kernel
theorem dL_isMerged_399 : decode cL_isMerged 399 = .ok (.bipush 16, 2) := by decide +kernel
theorem dL_isMerged_401 : decode cL_isMerged 401 = .ok (.idiv, 1) := by decide +kernel
theorem dL_isMerged_402 : decode cL_isMerged 402 = .ok (.aload 6, 2) := by decide +kernel
theorem dL_isMerged_404 : decode cL_isMerged 404 = .ok (.iload 15, 2) := by decide +kernel
theorem dL_isMerged_406 : decode cL_isMerged 406 = .ok (.iaload, 1) := by decide +kernel
theorem dL_isMerged_407 : decode cL_isMerged 407 = .ok (.bipush 16, 2) := by decide +kernel
theorem dL_isMerged_409 : decode cL_isMerged 409 = .ok (.irem, 1) := by decide +kernel
theorem dL_isMerged_410 : decode cL_isMerged 410 = .ok (.invokestatic 26, 3) := by decide +kernel
theorem dL_isMerged_413 : decode cL_isMerged 413 = .ok (.i2l, 1) := by decide +kernel
theorem dL_isMerged_414 : decode cL_isMerged 414 = .ok (.bipush 6, 2) := by decide +kernel
theorem dL_isMerged_416 : decode cL_isMerged 416 = .ok (.iload 15, 2) := by decide +kernel
theorem dL_isMerged_418 : decode cL_isMerged 418 = .ok (.imul, 1) := by decide +kernel
