theorem dL_isPlain_207 : decode cL_isPlain 207 = .ok (.ifCond .ne 7, 3) := by decide +kernel
theorem dL_isPlain_210 : decode cL_isPlain 210 = .ok (.iconst 1, 1) := by decide +kernel
theorem dL_isPlain_211 : decode cL_isPlain 211 = .ok (.goto 4, 3) := by decide +kernel
theorem dL_isPlain_214 : decode cL_isPlain 214 = .ok (.iconst 0, 1) := by decide +kernel
theorem dL_isPlain_215 : decode cL_isPlain 215 = .ok (.iadd, 1) := by decide +kernel
theorem dL_isPlain_216 : decode cL_isPlain 216 = .ok (.istore 12, 2) := by decide +kernel
theorem dL_isPlain_218 : decode cL_isPlain 218 = .ok (.iload 22, 2) := by decide +kernel
theorem dL_isPlain_220 : decode cL_isPlain 220 = .ok (.ifCond .le 21, 3) := by decide +kernel
theorem dL_isPlain_223 : decode cL_isPlain 223 = .ok (.lload 19, 2) := by decide +kernel
theorem dL_isPlain_225 : decode cL_isPlain 225 = .ok (.ldc2_w 9, 3) := by decide +kernel
theorem dL_isPlain_228 : decode cL_isPlain 228 = .ok (.land, 1) := by decide +kernel
theorem dL_isPlain_229 : decode cL_isPlain 229 = .ok (.iload 8, 2) := by decide +kernel
theorem dL_isPlain_231 : decode cL_isPlain 231 = .ok (.i2l, 1) := by decide +kernel
theorem dL_isPlain_232 : decode cL_isPlain 232 = .ok (.lcmp, 1) := by decide +kernel
theorem dL_isPlain_233 : decode cL_isPlain 233 = .ok (.ifCond .ne 8, 3) := by decide +kernel
theorem dL_isPlain_236 : decode cL_isPlain 236 = .ok (.iload 22, 2) := by decide +kernel
theorem dL_isPlain_238 : decode cL_isPlain 238 = .ok (.goto 5, 3) := by decide +kernel
theorem dL_isPlain_241 : decode cL_isPlain 241 = .ok (.iload 13, 2) := by decide +kernel
theorem dL_isPlain_243 : decode cL_isPlain 243 = .ok (.istore 13, 2) := by decide +kernel
theorem dL_isPlain_245 : decode cL_isPlain 245 = .ok (.iload 22, 2) := by decide +kernel
theorem dL_isPlain_247 : decode cL_isPlain 247 = .ok (.ifCond .le 25, 3) := by decide +kernel
theorem dL_isPlain_250 : decode cL_isPlain 250 = .ok (.iload 15, 2) := by decide +kernel
theorem dL_isPlain_252 : decode cL_isPlain 252 = .ok (.ifCond .lt 10, 3) := by decide +kernel
theorem dL_isPlain_255 : decode cL_isPlain 255 = .ok (.iload 23, 2) := by decide +kernel
theorem dL_isPlain_257 : decode cL_isPlain 257 = .ok (.iload 14, 2) := by decide +kernel
theorem dL_isPlain_259 : decode cL_isPlain 259 = .ok (.if_icmp .ge 13, 3) := by decide +kernel
theorem dL_isPlain_262 : decode cL_isPlain 262 = .ok (.lload 19, 2) := by decide +kernel
theorem dL_isPlain_264 : decode cL_isPlain 264 = .ok (.ldc2_w 9, 3) := by decide +kernel
theorem dL_isPlain_267 : decode cL_isPlain 267 = .ok (.land, 1) := by decide +kernel
theorem dL_isPlain_268 : decode cL_isPlain 268 = .ok (.l2i, 1) := by decide +kernel
theorem dL_isPlain_269 : decode cL_isPlain 269 = .ok (.goto 5, 3) := by decide +kernel
theorem dL_isPlain_272 : decode cL_isPlain 272 = .ok (.iload 15, 2) := by decide +kernel
theorem dL_isPlain_274 : decode cL_isPlain 274 = .ok (.istore 15, 2) := by decide +kernel
theorem dL_isPlain_276 : decode cL_isPlain 276 = .ok (.iload 22, 2) := by decide +kernel
theorem dL_isPlain_278 : decode cL_isPlain 278 = .ok (.ifCond .le 20, 3) := by decide +kernel
theorem dL_isPlain_281 : decode cL_isPlain 281 = .ok (.iload 14, 2) := by decide +kernel
theorem dL_isPlain_283 : decode cL_isPlain 283 = .ok (.ifCond .lt 10, 3) := by decide +kernel
theorem dL_isPlain_286 : decode cL_isPlain 286 = .ok (.iload 23, 2) := by decide +kernel
theorem dL_isPlain_288 : decode cL_isPlain 288 = .ok (.iload 14, 2) := by decide +kernel
theorem dL_isPlain_290 : decode cL_isPlain 290 = .ok (.if_icmp .ge 8, 3) := by decide +kernel
theorem dL_isPlain_293 : decode cL_isPlain 293 = .ok (.iload 23, 2) := by decide +kernel
theorem dL_isPlain_295 : decode cL_isPlain 295 = .ok (.goto 5, 3) := by decide +kernel
theorem dL_isPlain_298 : decode cL_isPlain 298 = .ok (.iload 14, 2) := by decide +kernel
theorem dL_isPlain_300 : decode cL_isPlain 300 = .ok (.istore 14, 2) := by decide +kernel
theorem dL_isPlain_302 : decode cL_isPlain 302 = .ok (.iinc 18 1, 3) := by decide +kernel
theorem dL_isPlain_305 : decode cL_isPlain 305 = .ok (.goto (-221), 3) := by decide +kernel
theorem dL_isPlain_308 : decode cL_isPlain 308 = .ok (.iinc 16 1, 3) := by decide +kernel
theorem dL_isPlain_311 : decode cL_isPlain 311 = .ok (.goto (-248), 3) := by decide +kernel
theorem dL_isPlain_314 : decode cL_isPlain 314 = .ok (.aload_n 0, 1) := by decide +kernel
theorem dL_isPlain_315 : decode cL_isPlain 315 = .ok (.aload 4, 2) := by decide +kernel
theorem dL_isPlain_317 : decode cL_isPlain 317 = .ok (.iconst 0, 1) := by decide +kernel
theorem dL_isPlain_318 : decode cL_isPlain 318 = .ok (.iaload, 1) := by decide +kernel
theorem dL_isPlain_319 : decode cL_isPlain 319 = .ok (.iconst 1, 1) := by decide +kernel
theorem dL_isPlain_320 : decode cL_isPlain 320 = .ok (.isub, 1) := by decide +kernel
theorem dL_isPlain_321 : decode cL_isPlain 321 = .ok (.invokevirtual 176, 3) := by decide +kernel
theorem dL_isPlain_324 : decode cL_isPlain 324 = .ok (.iload 10, 2) := by decide +kernel
theorem dL_isPlain_326 : decode cL_isPlain 326 = .ok (.if_icmp .ne 86, 3) := by decide +kernel
theorem dL_isPlain_329 : decode cL_isPlain 329 = .ok (.aload_n 0, 1) := by decide +kernel
theorem dL_isPlain_330 : decode cL_isPlain 330 = .ok (.aload 4, 2) := by decide +kernel
theorem dL_isPlain_332 : decode cL_isPlain 332 = .ok (.iconst 0, 1) := by decide +kernel
theorem dL_isPlain_333 : decode cL_isPlain 333 = .ok (.iaload, 1) := by decide +kernel
theorem dL_isPlain_334 : decode cL_isPlain 334 = .ok (.iconst 1, 1) := by decide +kernel
theorem dL_isPlain_335 : decode cL_isPlain 335 = .ok (.isub, 1) := by decide +kernel
theorem dL_isPlain_336 : decode cL_isPlain 336 = .ok (.iload 7, 2) := by decide +kernel
theorem dL_isPlain_338 : decode cL_isPlain 338 = .ok (.invokevirtual 179, 3) := by decide +kernel
theorem dL_isPlain_341 : decode cL_isPlain 341 = .ok (.iload 11, 2) := by decide +kernel
theorem dL_isPlain_343 : decode cL_isPlain 343 = .ok (.if_icmp .ne 69, 3) := by decide +kernel
theorem dL_isPlain_346 : decode cL_isPlain 346 = .ok (.iload 5, 2) := by decide +kernel
theorem dL_isPlain_348 : decode cL_isPlain 348 = .ok (.iconst 4, 1) := by decide +kernel
theorem dL_isPlain_349 : decode cL_isPlain 349 = .ok (.irem, 1) := by decide +kernel
theorem dL_isPlain_350 : decode cL_isPlain 350 = .ok (.ifCond .gt 20, 3) := by decide +kernel
theorem dL_isPlain_353 : decode cL_isPlain 353 = .ok (.aload_n 0, 1) := by decide +kernel
theorem dL_isPlain_354 : decode cL_isPlain 354 = .ok (.aload 4, 2) := by decide +kernel
theorem dL_isPlain_356 : decode cL_isPlain 356 = .ok (.iconst 0, 1) := by decide +kernel
theorem dL_isPlain_357 : decode cL_isPlain 357 = .ok (.iaload, 1) := by decide +kernel
theorem dL_isPlain_358 : decode cL_isPlain 358 = .ok (.iconst 1, 1) := by decide +kernel
theorem dL_isPlain_359 : decode cL_isPlain 359 = .ok (.isub, 1) := by decide +kernel
theorem dL_isPlain_360 : decode cL_isPlain 360 = .ok (.iload 7, 2) := by decide +kernel
theorem dL_isPlain_362 : decode cL_isPlain 362 = .ok (.invokevirtual 182, 3) := by decide +kernel
theorem dL_isPlain_365 : decode cL_isPlain 365 = .ok (.iload 11, 2) := by decide +kernel
theorem dL_isPlain_367 : decode cL_isPlain 367 = .ok (.if_icmp .ne 45, 3) := by decide +kernel
theorem dL_isPlain_370 : decode cL_isPlain 370 = .ok (.aload_n 0, 1) := by decide +kernel
theorem dL_isPlain_371 : decode cL_isPlain 371 = .ok (.aload 4, 2) := by decide +kernel
theorem dL_isPlain_373 : decode cL_isPlain 373 = .ok (.iconst 0, 1) := by decide +kernel
theorem dL_isPlain_374 : decode cL_isPlain 374 = .ok (.iaload, 1) := by decide +kernel
theorem dL_isPlain_375 : decode cL_isPlain 375 = .ok (.iconst 1, 1) := by decide +kernel
theorem dL_isPlain_376 : decode cL_isPlain 376 = .ok (.isub, 1) := by decide +kernel
theorem dL_isPlain_377 : decode cL_isPlain 377 = .ok (.iload 7, 2) := by decide +kernel
theorem dL_isPlain_379 : decode cL_isPlain 379 = .ok (.iload 9, 2) := by decide +kernel
theorem dL_isPlain_381 : decode cL_isPlain 381 = .ok (.invokevirtual 185, 3) := by decide +kernel
theorem dL_isPlain_384 : decode cL_isPlain 384 = .ok (.iload 12, 2) := by decide +kernel
theorem dL_isPlain_386 : decode cL_isPlain 386 = .ok (.if_icmp .ne 26, 3) := by decide +kernel
theorem dL_isPlain_389 : decode cL_isPlain 389 = .ok (.aload_n 0, 1) := by decide +kernel
theorem dL_isPlain_390 : decode cL_isPlain 390 = .ok (.aload 4, 2) := by decide +kernel
theorem dL_isPlain_392 : decode cL_isPlain 392 = .ok (.iconst 0, 1) := by decide +kernel
theorem dL_isPlain_393 : decode cL_isPlain 393 = .ok (.iaload, 1) := by decide +kernel
theorem dL_isPlain_394 : decode cL_isPlain 394 = .ok (.iconst 1, 1) := by decide +kernel
theorem dL_isPlain_395 : decode cL_isPlain 395 = .ok (.isub, 1) := by decide +kernel
theorem dL_isPlain_396 : decode cL_isPlain 396 = .ok (.iload 7, 2) := by decide +kernel
theorem dL_isPlain_398 : decode cL_isPlain 398 = .ok (.iload 8, 2) := by decide +kernel
theorem dL_isPlain_400 : decode cL_isPlain 400 = .ok (.invokevirtual 188, 3) := by decide +kernel
theorem dL_isPlain_403 : decode cL_isPlain 403 = .ok (.iload 13, 2) := by decide +kernel
theorem dL_isPlain_405 : decode cL_isPlain 405 = .ok (.if_icmp .ne 7, 3) := by decide +kernel
theorem dL_isPlain_408 : decode cL_isPlain 408 = .ok (.iconst 1, 1) := by decide +kernel
theorem dL_isPlain_409 : decode cL_isPlain 409 = .ok (.goto 4, 3) := by decide +kernel
theorem dL_isPlain_412 : decode cL_isPlain 412 = .ok (.iconst 0, 1) := by decide +kernel
theorem dL_isPlain_413 : decode cL_isPlain 413 = .ok (.istore 16, 2) := by decide +kernel
theorem dL_isPlain_415 : decode cL_isPlain 415 = .ok (.iload 16, 2) := by decide +kernel
theorem dL_isPlain_417 : decode cL_isPlain 417 = .ok (.ifCond .eq 73, 3) := by decide +kernel
theorem dL_isPlain_420 : decode cL_isPlain 420 = .ok (.iload 11, 2) := by decide +kernel
theorem dL_isPlain_422 : decode cL_isPlain 422 = .ok (.ifCond .eq 22, 3) := by decide +kernel
theorem dL_isPlain_425 : decode cL_isPlain 425 = .ok (.aload_n 0, 1) := by decide +kernel
theorem dL_isPlain_426 : decode cL_isPlain 426 = .ok (.aload 4, 2) := by decide +kernel
theorem dL_isPlain_428 : decode cL_isPlain 428 = .ok (.iconst 0, 1) := by decide +kernel
theorem dL_isPlain_429 : decode cL_isPlain 429 = .ok (.iaload, 1) := by decide +kernel
theorem dL_isPlain_430 : decode cL_isPlain 430 = .ok (.iconst 1, 1) := by decide +kernel
theorem dL_isPlain_431 : decode cL_isPlain 431 = .ok (.isub, 1) := by decide +kernel
theorem dL_isPlain_432 : decode cL_isPlain 432 = .ok (.iload 7, 2) := by decide +kernel
theorem dL_isPlain_434 : decode cL_isPlain 434 = .ok (.iconst 0, 1) := by decide +kernel
theorem dL_isPlain_435 : decode cL_isPlain 435 = .ok (.iconst 0, 1) := by decide +kernel
