theorem dL_isReady_214 : decode cL_isReady 214 = .ok (.if_icmp .ne 121, 3) := by decide +kernel
theorem dL_isReady_217 : decode cL_isReady 217 = .ok (.aload_n 0, 1) := by decide +kernel
theorem dL_isReady_218 : decode cL_isReady 218 = .ok (.invokevirtual 131, 3) := by decide +kernel
theorem dL_isReady_221 : decode cL_isReady 221 = .ok (.iconst 4, 1) := by decide +kernel
theorem dL_isReady_222 : decode cL_isReady 222 = .ok (.if_icmp .ne 113, 3) := by decide +kernel
theorem dL_isReady_225 : decode cL_isReady 225 = .ok (.aload_n 0, 1) := by decide +kernel
theorem dL_isReady_226 : decode cL_isReady 226 = .ok (.bipush 63, 2) := by decide +kernel
theorem dL_isReady_228 : decode cL_isReady 228 = .ok (.invokevirtual 114, 3) := by decide +kernel
theorem dL_isReady_231 : decode cL_isReady 231 = .ok (.iconst 1, 1) := by decide +kernel
theorem dL_isReady_232 : decode cL_isReady 232 = .ok (.if_icmp .ne 103, 3) := by decide +kernel
theorem dL_isReady_235 : decode cL_isReady 235 = .ok (.aload_n 0, 1) := by decide +kernel
theorem dL_isReady_236 : decode cL_isReady 236 = .ok (.bipush 111, 2) := by decide +kernel
theorem dL_isReady_238 : decode cL_isReady 238 = .ok (.invokevirtual 114, 3) := by decide +kernel
theorem dL_isReady_241 : decode cL_isReady 241 = .ok (.iconst 2, 1) := by decide +kernel
theorem dL_isReady_242 : decode cL_isReady 242 = .ok (.if_icmp .ne 93, 3) := by decide +kernel
theorem dL_isReady_245 : decode cL_isReady 245 = .ok (.aload_n 0, 1) := by decide +kernel
theorem dL_isReady_246 : decode cL_isReady 246 = .ok (.bipush 42, 2) := by decide +kernel
theorem dL_isReady_248 : decode cL_isReady 248 = .ok (.invokevirtual 114, 3) := by decide +kernel
theorem dL_isReady_251 : decode cL_isReady 251 = .ok (.iconst 3, 1) := by decide +kernel
theorem dL_isReady_252 : decode cL_isReady 252 = .ok (.if_icmp .ne 83, 3) := by decide +kernel
theorem dL_isReady_255 : decode cL_isReady 255 = .ok (.aload_n 0, 1) := by decide +kernel
theorem dL_isReady_256 : decode cL_isReady 256 = .ok (.bipush 115, 2) := by decide +kernel
theorem dL_isReady_258 : decode cL_isReady 258 = .ok (.invokevirtual 114, 3) := by decide +kernel
theorem dL_isReady_261 : decode cL_isReady 261 = .ok (.iconst 4, 1) := by decide +kernel
theorem dL_isReady_262 : decode cL_isReady 262 = .ok (.if_icmp .ne 73, 3) := by decide +kernel
theorem dL_isReady_265 : decode cL_isReady 265 = .ok (.aload_n 0, 1) := by decide +kernel
theorem dL_isReady_266 : decode cL_isReady 266 = .ok (.iconst 1, 1) := by decide +kernel
theorem dL_isReady_267 : decode cL_isReady 267 = .ok (.invokevirtual 145, 3) := by decide +kernel
theorem dL_isReady_270 : decode cL_isReady 270 = .ok (.iconst 1, 1) := by decide +kernel
theorem dL_isReady_271 : decode cL_isReady 271 = .ok (.if_icmp .ne 64, 3) := by decide +kernel
theorem dL_isReady_274 : decode cL_isReady 274 = .ok (.aload_n 0, 1) := by decide +kernel
theorem dL_isReady_275 : decode cL_isReady 275 = .ok (.invokevirtual 131, 3) := by decide +kernel
theorem dL_isReady_278 : decode cL_isReady 278 = .ok (.iconst 5, 1) := by decide +kernel
theorem dL_isReady_279 : decode cL_isReady 279 = .ok (.if_icmp .ne 56, 3) := by decide +kernel
theorem dL_isReady_282 : decode cL_isReady 282 = .ok (.aload_n 0, 1) := by decide +kernel
theorem dL_isReady_283 : decode cL_isReady 283 = .ok (.bipush 99, 2) := by decide +kernel
theorem dL_isReady_285 : decode cL_isReady 285 = .ok (.invokevirtual 114, 3) := by decide +kernel
theorem dL_isReady_288 : decode cL_isReady 288 = .ok (.iconst 1, 1) := by decide +kernel
theorem dL_isReady_289 : decode cL_isReady 289 = .ok (.if_icmp .ne 46, 3) := by decide +kernel
theorem dL_isReady_292 : decode cL_isReady 292 = .ok (.aload_n 0, 1) := by decide +kernel
theorem dL_isReady_293 : decode cL_isReady 293 = .ok (.bipush 111, 2) := by decide +kernel
theorem dL_isReady_295 : decode cL_isReady 295 = .ok (.invokevirtual 114, 3) := by decide +kernel
theorem dL_isReady_298 : decode cL_isReady 298 = .ok (.iconst 2, 1) := by decide +kernel
theorem dL_isReady_299 : decode cL_isReady 299 = .ok (.if_icmp .ne 36, 3) := by decide +kernel
theorem dL_isReady_302 : decode cL_isReady 302 = .ok (.aload_n 0, 1) := by decide +kernel
theorem dL_isReady_303 : decode cL_isReady 303 = .ok (.bipush 116, 2) := by decide +kernel
theorem dL_isReady_305 : decode cL_isReady 305 = .ok (.invokevirtual 114, 3) := by decide +kernel
theorem dL_isReady_308 : decode cL_isReady 308 = .ok (.iconst 3, 1) := by decide +kernel
theorem dL_isReady_309 : decode cL_isReady 309 = .ok (.if_icmp .ne 26, 3) := by decide +kernel
theorem dL_isReady_312 : decode cL_isReady 312 = .ok (.aload_n 0, 1) := by decide +kernel
theorem dL_isReady_313 : decode cL_isReady 313 = .ok (.iconst 0, 1) := by decide +kernel
theorem dL_isReady_314 : decode cL_isReady 314 = .ok (.iconst 1, 1) := by decide +kernel
theorem dL_isReady_315 : decode cL_isReady 315 = .ok (.invokevirtual 148, 3) := by decide +kernel
theorem dL_isReady_318 : decode cL_isReady 318 = .ok (.iconst 1, 1) := by decide +kernel
theorem dL_isReady_319 : decode cL_isReady 319 = .ok (.if_icmp .ne 16, 3) := by decide +kernel
theorem dL_isReady_322 : decode cL_isReady 322 = .ok (.aload_n 0, 1) := by decide +kernel
theorem dL_isReady_323 : decode cL_isReady 323 = .ok (.invokevirtual 131, 3) := by decide +kernel
theorem dL_isReady_326 : decode cL_isReady 326 = .ok (.bipush 6, 2) := by decide +kernel
theorem dL_isReady_328 : decode cL_isReady 328 = .ok (.if_icmp .ne 7, 3) := by decide +kernel
theorem dL_isReady_331 : decode cL_isReady 331 = .ok (.iconst 1, 1) := by decide +kernel
theorem dL_isReady_332 : decode cL_isReady 332 = .ok (.goto 4, 3) := by decide +kernel
theorem dL_isReady_335 : decode cL_isReady 335 = .ok (.iconst 0, 1) := by decide +kernel
theorem dL_isReady_336 : decode cL_isReady 336 = .ok (.istore_n 1, 1) := by decide +kernel
theorem dL_isReady_337 : decode cL_isReady 337 = .ok (.aload_n 0, 1) := by decide +kernel
theorem dL_isReady_338 : decode cL_isReady 338 = .ok (.iconst 1, 1) := by decide +kernel
theorem dL_isReady_339 : decode cL_isReady 339 = .ok (.invokestatic 118, 3) := by decide +kernel
theorem dL_isReady_342 : decode cL_isReady 342 = .ok (.iload_n 1, 1) := by decide +kernel
theorem dL_isReady_343 : decode cL_isReady 343 = .ok (.ifCond .eq 16, 3) := by decide +kernel
theorem dL_isReady_346 : decode cL_isReady 346 = .ok (.aload_n 0, 1) := by decide +kernel
theorem dL_isReady_347 : decode cL_isReady 347 = .ok (.iconst 0, 1) := by decide +kernel
theorem dL_isReady_348 : decode cL_isReady 348 = .ok (.invokevirtual 128, 3) := by decide +kernel
theorem dL_isReady_351 : decode cL_isReady 351 = .ok (.iconst 1, 1) := by decide +kernel
theorem dL_isReady_352 : decode cL_isReady 352 = .ok (.if_icmp .ne 7, 3) := by decide +kernel
theorem dL_isReady_355 : decode cL_isReady 355 = .ok (.iconst 1, 1) := by decide +kernel
theorem dL_isReady_356 : decode cL_isReady 356 = .ok (.goto 4, 3) := by decide +kernel
theorem dL_isReady_359 : decode cL_isReady 359 = .ok (.iconst 0, 1) := by decide +kernel
theorem dL_isReady_360 : decode cL_isReady 360 = .ok (.istore_n 1, 1) := by decide +kernel
theorem dL_isReady_361 : decode cL_isReady 361 = .ok (.aload_n 0, 1) := by decide +kernel
theorem dL_isReady_362 : decode cL_isReady 362 = .ok (.iconst 4, 1) := by decide +kernel
theorem dL_isReady_363 : decode cL_isReady 363 = .ok (.invokestatic 118, 3) := by decide +kernel
theorem dL_isReady_366 : decode cL_isReady 366 = .ok (.iload_n 1, 1) := by decide +kernel
theorem dL_isReady_367 : decode cL_isReady 367 = .ok (.ifCond .eq 16, 3) := by decide +kernel
theorem dL_isReady_370 : decode cL_isReady 370 = .ok (.aload_n 0, 1) := by decide +kernel
theorem dL_isReady_371 : decode cL_isReady 371 = .ok (.iconst 1, 1) := by decide +kernel
theorem dL_isReady_372 : decode cL_isReady 372 = .ok (.invokevirtual 128, 3) := by decide +kernel
theorem dL_isReady_375 : decode cL_isReady 375 = .ok (.iconst 2, 1) := by decide +kernel
theorem dL_isReady_376 : decode cL_isReady 376 = .ok (.if_icmp .ne 7, 3) := by decide +kernel
theorem dL_isReady_379 : decode cL_isReady 379 = .ok (.iconst 1, 1) := by decide +kernel
theorem dL_isReady_380 : decode cL_isReady 380 = .ok (.goto 4, 3) := by decide +kernel
theorem dL_isReady_383 : decode cL_isReady 383 = .ok (.iconst 0, 1) := by decide +kernel
theorem dL_isReady_384 : decode cL_isReady 384 = .ok (.istore_n 1, 1) := by decide +kernel
theorem dL_isReady_385 : decode cL_isReady 385 = .ok (.aload_n 0, 1) := by decide +kernel
theorem dL_isReady_386 : decode cL_isReady 386 = .ok (.iconst 5, 1) := by decide +kernel
theorem dL_isReady_387 : decode cL_isReady 387 = .ok (.invokestatic 118, 3) := by decide +kernel
theorem dL_isReady_390 : decode cL_isReady 390 = .ok (.iload_n 1, 1) := by decide +kernel
theorem dL_isReady_391 : decode cL_isReady 391 = .ok (.ifCond .eq 35, 3) := by decide +kernel
theorem dL_isReady_394 : decode cL_isReady 394 = .ok (.aload_n 0, 1) := by decide +kernel
theorem dL_isReady_395 : decode cL_isReady 395 = .ok (.iconst 0, 1) := by decide +kernel
theorem dL_isReady_396 : decode cL_isReady 396 = .ok (.invokevirtual 128, 3) := by decide +kernel
theorem dL_isReady_399 : decode cL_isReady 399 = .ok (.iconst 3, 1) := by decide +kernel
theorem dL_isReady_400 : decode cL_isReady 400 = .ok (.if_icmp .ne 26, 3) := by decide +kernel
theorem dL_isReady_403 : decode cL_isReady 403 = .ok (.aload_n 0, 1) := by decide +kernel
theorem dL_isReady_404 : decode cL_isReady 404 = .ok (.iconst 3, 1) := by decide +kernel
theorem dL_isReady_405 : decode cL_isReady 405 = .ok (.iconst 1, 1) := by decide +kernel
theorem dL_isReady_406 : decode cL_isReady 406 = .ok (.invokevirtual 151, 3) := by decide +kernel
theorem dL_isReady_409 : decode cL_isReady 409 = .ok (.iconst 1, 1) := by decide +kernel
theorem dL_isReady_410 : decode cL_isReady 410 = .ok (.if_icmp .ne 16, 3) := by decide +kernel
theorem dL_isReady_413 : decode cL_isReady 413 = .ok (.aload_n 0, 1) := by decide +kernel
theorem dL_isReady_414 : decode cL_isReady 414 = .ok (.invokevirtual 131, 3) := by decide +kernel
theorem dL_isReady_417 : decode cL_isReady 417 = .ok (.bipush 7, 2) := by decide +kernel
theorem dL_isReady_419 : decode cL_isReady 419 = .ok (.if_icmp .ne 7, 3) := by decide +kernel
theorem dL_isReady_422 : decode cL_isReady 422 = .ok (.iconst 1, 1) := by decide +kernel
theorem dL_isReady_423 : decode cL_isReady 423 = .ok (.goto 4, 3) := by decide +kernel
theorem dL_isReady_426 : decode cL_isReady 426 = .ok (.iconst 0, 1) := by decide +kernel
theorem dL_isReady_427 : decode cL_isReady 427 = .ok (.istore_n 1, 1) := by decide +kernel
theorem dL_isReady_428 : decode cL_isReady 428 = .ok (.aload_n 0, 1) := by decide +kernel
theorem dL_isReady_429 : decode cL_isReady 429 = .ok (.iconst 1, 1) := by decide +kernel
theorem dL_isReady_430 : decode cL_isReady 430 = .ok (.invokestatic 118, 3) := by decide +kernel
theorem dL_isReady_433 : decode cL_isReady 433 = .ok (.iload_n 1, 1) := by decide +kernel
theorem dL_isReady_434 : decode cL_isReady 434 = .ok (.ifCond .eq 16, 3) := by decide +kernel
